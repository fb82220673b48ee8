/-! least -/
theorem mod2 {n : Nat} (hn : n < 1000) : nI n - nI n / 2 * 2 = nI (n % 2) := by
  have en := nI_toInt (n := n) (by omega)
  have e := ti_rem (a := nI n) (b := 2) (by omega) (by decide)
  rw [ti_eq, e, en, d2, nI_toInt (by omega)]
  omega
theorem pred_n {n : Nat} (h0 : 0 < n) (hn : n < 1000) : nI n - 1 = nI (n - 1) := by
  have en := nI_toInt (n := n) (by omega)
  rw [ti_eq, ti_sub (by rw [en, d1]; omega) (by rw [en, d1]; omega), en, d1, nI_toInt (by omega)]
  omega
/-- the two rows that turn about -/
theorem p_turn {s : Sg} {ρ : Nat → Int32} {n : Nat} {kk : Int32} {K : Sg → Prop} (hr : okR ρ) (hF : Look s ρ) (h0 : 0 < n) (hn : n ≤ 60) (hk : kk.toInt = 1 ∨ kk.toInt = 2)
    (ha : ∀ p : Int × Int, onS ρ p.1 p.2 = true → -1 ≤ cv s (88 + (n - 1) % 2) (rI ρ 0) p ∧ cv s (88 + (n - 1) % 2) (rI ρ 0) p ≤ 1000)
    (h : ∀ u, stepP ρ (rI ρ 2 + (n - 1 : Nat)) kk.toInt (cv s (88 + (n - 1) % 2) (rI ρ 0)) (cv u (88 + n % 2) (rI ρ 0)) (fun _ _ => True) → (∀ c, c ≠ 88 + n % 2 → u c = s c) → K u) :
    (vp_in ((nI n - 1) - (nI n - 1) / 2 * 2) 2 ∧ (vp_in (nI n - nI n / 2 * 2) 2 ∧ m_X0_sailHour (88 + ((nI n - 1) - (nI n - 1) / 2 * 2).toNatClampNeg) (88 + (nI n - nI n / 2 * 2).toNatClampNeg) (nI n - 1) kk s K)) := by
  rw [pred_n h0 (by omega), mod2 (by omega), mod2 (by omega), nI_clamp (by omega), nI_clamp (by omega)]
  exact ⟨nI_in (by omega) (by decide), nI_in (by omega) (by decide), p_sailHour hr hF (U_0 _ (by omega)).2.2 (U_0 _ (by omega)).2.2 (by omega) (by omega) (by omega) hk ha h⟩
/-- the least that it costs to meet in less than n hours -/
def ls (ρ : Nat → Int32) (p : Int × Int) (n : Nat) (r : Int) : Prop := (r = -1 ∧ ∀ x, x < n → ∀ k, ¬ way ρ x (rI ρ 2) p (dAt ρ x) k) ∨ (0 ≤ r ∧ (∃ x, x < n ∧ way ρ x (rI ρ 2) p (dAt ρ x) r) ∧ ∀ x, x < n → ∀ k, way ρ x (rI ρ 2) p (dAt ρ x) k → r ≤ k)
theorem ls_one {ρ : Nat → Int32} {p : Int × Int} {n : Nat} {r r' : Int} (a : ls ρ p n r) (b : ls ρ p n r') : r = r' := by
  rcases a with ⟨a1, a2⟩ | ⟨a1, ⟨x, x1, x2⟩, a3⟩
  · rcases b with ⟨b1, -⟩ | ⟨b1, ⟨y, y1, y2⟩, b3⟩
    · omega
    · exact absurd y2 (a2 y y1 _)
  · rcases b with ⟨b1, b2⟩ | ⟨b1, ⟨y, y1, y2⟩, b3⟩
    · exact absurd x2 (b2 x x1 _)
    · have := a3 y y1 _ y2
      have := b3 x x1 _ x2
      omega
theorem ob_least : obl_least Rel := by
  intro σc σm v p1 p2 hR
  have hq := hR.1.1
  have hr := hq.1
  have hw := hR.1.2
  have h2h := hr.2.2.1
  have dB : (60 : Int32).toInt = 60 := by decide
  by_cases h1 : 0 ≤ p1.toInt ∧ p1.toInt < rI (σm 350) 3
  · obtain ⟨i, i3, hi, e0, e1, e2, e3⟩ := hix hr h1
    refine p_helpY hw h1 (p_X4_isIn ?_)
    rw [d0, dB]
    by_cases h2 : 0 ≤ p2.toInt ∧ p2.toInt ≤ 60
    · rw [if_pos h2]
      subst e0
      obtain ⟨⟨hW1, hW2⟩, hf0, hf1⟩ := hq.2.2.2.1 i hi
      refine p_need1 (p_refresh hR fun s hRs s9 hF sk => ?_)
      obtain ⟨n, hn⟩ : ∃ n : Nat, p2.toInt = n := ⟨p2.toInt.toNat, by omega⟩
      have e2n : p2 = nI n := of_ti (by omega) hn
      subst e2n
      have dF : (1048576 : Int32).toInt = 1048576 := by decide
      have ref : ∀ (t : Sg) (u : Int32), Rel t σm → ls (σm 350) (hAt (σm 350) i) (n + 1) u.toInt → K_least Rel (nI i) (nI n) σm 0 t u.toInt64 := by
        intro t u hRt a1 a ha
        have e350 : a 350 = σm 350 := by rw [ha]; exact st2_row (by decide)
        obtain ⟨h0, h⟩ := start hRt a ha
        have fin : ∀ (r : Int32) (w : Sg), costsM w (σm 350) i → (∀ c, (c < 361 ∨ 425 ≤ c) → w c = a c) → ∃ n9, m_X5_least_l67 (nI i) (nI n) (fun bb s1 => m_X5_thrown s1 (fun th s2 => th = 0 ∧ ((0 : Int32) = 0 → u.toInt64 = bb.toInt64) ∧ Rel t s2)) n9 1048576 0 w := by
          intro r w wM wc
          have w0 : w 347 0 = 0 := by rw [wc 347 (by decide)]; exact h0
          have key : ∀ m x : Nat, x + m = n + 1 → ∀ l : Int32, ((l.toInt = 1048576 ∧ ls (σm 350) (hAt (σm 350) i) x (-1)) ∨ (0 ≤ l.toInt ∧ l.toInt ≤ 1000 ∧ ls (σm 350) (hAt (σm 350) i) x l.toInt)) → m_X5_least_l67 (nI i) (nI n) (fun bb s1 => m_X5_thrown s1 (fun th s2 => th = 0 ∧ ((0 : Int32) = 0 → u.toInt64 = bb.toInt64) ∧ Rel t s2)) (m + 1) l (nI x) w := by
            intro m
            induction m with
            | zero =>
              intro x hx l hl
              have : x = n + 1 := by omega
              subst this
              refine ⟨fun _ => ⟨fun z => ⟨w0, fun _ => ?_, h.cost wc⟩, fun z => ⟨w0, fun _ => ?_, h.cost wc⟩⟩, fun z => ?_⟩
              · rcases hl with ⟨l1, -⟩ | ⟨-, -, l3⟩
                · exact absurd (by rw [ti_eq, l1, dF]) z
                · congr 1
                  rw [ti_eq]
                  exact ls_one a1 l3
              · rcases hl with ⟨-, l2⟩ | ⟨-, l2, -⟩
                · congr 1
                  rw [ti_eq, dm1]
                  exact ls_one a1 l2
                · rw [z, dF] at l2
                  omega
              · rw [ti_lt, nI_toInt (by omega), nI_toInt (by omega)] at z
                omega
            | succ m ih =>
              intro x hx l hl
              have ex := nI_toInt (n := x) (by omega)
              have hP : isP (dAt (σm 350) x) := onS_P hr (dAt_wat hq x).1
              have eP := cl20_i hP
              have hP' := hP
              unfold isP at hP'
              refine ⟨fun z => ?_, fun _ => ⟨nI_in (by omega) (by decide), nI_in (by omega) (by decide), ?_, p_X5_less ?_⟩⟩
              · rw [ti_lt, ex, nI_toInt (by omega)] at z
                omega
              · rw [nI_clamp (by omega), (wM.1 x (by omega)).1, ti_in, eP]
                omega
              · rw [nI_clamp (by omega), (wM.1 x (by omega)).1, ti_c, eP, show 363 + 1 + x = 364 + x by omega, ← nI_succ]
                have g := wM.2 x (by omega) _ hP
                have gb := g.b hr (by omega) (by omega)
                unfold c20 at g gb
                refine ih (x + 1) (by omega) _ ?_
                have last : ∀ y, y < x + 1 → ¬ y = x → y < x := fun y hy e => by omega
                rcases gb with g1 | ⟨g1, g2, g3⟩
                · have no : ∀ k, ¬ way (σm 350) x (rI (σm 350) 2) (hAt (σm 350) i) (dAt (σm 350) x) k := fun k hk => by
                    have := g.lst hk
                    have := way_b hr _ _ _ _ (by omega) (by omega) this.1
                    omega
                  have gen : ∀ r, ls (σm 350) (hAt (σm 350) i) x r → ls (σm 350) (hAt (σm 350) i) (x + 1) r := by
                    intro r hr'
                    rcases hr' with ⟨b1, b2⟩ | ⟨b1, ⟨y, y1, y2⟩, b3⟩
                    · refine Or.inl ⟨b1, fun y hy k hk => ?_⟩
                      by_cases e : y = x
                      · subst e
                        exact no k hk
                      · exact b2 y (by omega) k hk
                    · refine Or.inr ⟨b1, ⟨y, by omega, y2⟩, fun y hy k hk => ?_⟩
                      by_cases e : y = x
                      · subst e
                        exact absurd hk (no k)
                      · exact b3 y (by omega) k hk
                  rcases hl with ⟨l1, l2⟩ | ⟨l1, l2, l3⟩
                  · rw [if_pos (by omega)]
                    exact Or.inl ⟨g1, gen _ l2⟩
                  · rw [if_neg (by omega)]
                    exact Or.inr ⟨l1, l2, gen _ l3⟩
                · right
                  rcases hl with ⟨l1, l2⟩ | ⟨l1, l2, l3⟩
                  · rw [if_pos (by omega)]
                    refine ⟨g1, by omega, Or.inr ⟨g1, ⟨x, by omega, g3.1⟩, fun y hy k hk => ?_⟩⟩
                    by_cases e : y = x
                    · subst e
                      exact g3.2 k hk
                    · rcases l2 with ⟨-, b2⟩ | ⟨b1, -⟩
                      · exact absurd hk (b2 y (by omega) k)
                      · omega
                  · rcases l3 with ⟨b1, -⟩ | ⟨-, ⟨y, y1, y2⟩, b3⟩
                    · omega
                    · split
                      · next z =>
                        refine ⟨g1, by omega, Or.inr ⟨g1, ⟨x, by omega, g3.1⟩, fun y hy k hk => ?_⟩⟩
                        by_cases e : y = x
                        · subst e
                          exact g3.2 k hk
                        · have := b3 y (by omega) k hk
                          omega
                      · next z =>
                        refine ⟨l1, l2, Or.inr ⟨l1, ⟨y, by omega, y2⟩, fun y hy k hk => ?_⟩⟩
                        by_cases e : y = x
                        · subst e
                          have := g3.2 k hk
                          omega
                        · exact b3 y (by omega) k hk
          exact ⟨n + 2, key (n + 1) 0 (by omega) _ (Or.inl ⟨dF, Or.inl ⟨rfl, fun x hx => absurd hx (Nat.not_lt_zero _)⟩⟩)⟩
        refine p_X5_isHelper h.1.1.1 ?_
        rw [e350, if_pos h1]
        refine ⟨fun _ => p_bad0 h0 ⟨fun z => absurd rfl z, fun _ => p_X5_in ?_⟩, fun z => absurd z one0⟩
        rw [d0, dB, if_pos h2]
        refine ⟨fun _ => p_bad0 h0 ⟨fun _ => p_earliest (i := i) (by rw [e350]; exact hq) (by rw [e350]; exact hi) e1 e2 e3 ?_ ?_, fun z => absurd rfl z⟩, fun z => absurd z one0⟩
        all_goals rw [e350]
        · exact fun w n' wM wc _ _ => fin (-1) w wM wc
        · exact fun w wM wc _ => fin (-1) w wM wc
      have d1000 : (1000 : Int32).toInt = 1000 := by decide
      have d60 : (60 : Int32).toInt = 60 := by decide
      have ei := nI_toInt (n := i) (by omega)
      -- the class's rows
      have tell : ∀ u : Sg, Fresh u (σm 350) → (∀ c, c ≠ 88 → c ≠ 89 → u c = s c) → Rel u σm := fun u uF uc => hRs.look (fun k hk => uc k (by omega) (by omega)) (by rw [uc 19 (by decide) (by decide)]; exact s9) uF
      have fresh : ∀ u : Sg, (∀ c, c ≠ 88 → c ≠ 89 → u c = s c) → Fresh u (σm 350) := fun u uc => hF.lit fun k _ _ h3 => uc k (by omega) (by omega)
      have key : ∀ m x : Nat, x + m = n + 1 → ∀ (u : Sg) (l : Int32), (∀ c, c ≠ 88 → c ≠ 89 → u c = s c) → l.toInt ≤ 1000 → ls (σm 350) (hAt (σm 350) i) x l.toInt → (x = 0 → ∀ q : Int × Int, onS (σm 350) q.1 q.2 = true → isMo (σm 350) 1 0 (rI (σm 350) 2) (hAt (σm 350) i) q 1000 (cv u 88 (rI (σm 350) 0) q)) → (0 < x → ∀ q : Int × Int, onS (σm 350) q.1 q.2 = true → isMo (σm 350) 1 (x - 1) (rI (σm 350) 2) (hAt (σm 350) i) q 1000 (cv u (88 + (x - 1) % 2) (rI (σm 350) 0) q)) → m_X0_leastOf_l28 (nI i) (nI n) (fun r29 s29 => K_least Rel (nI i) (nI n) σm 0 s29 r29.toInt64) (m + 1) l (nI x) u := by
        intro m
        induction m with
        | zero =>
          intro x hx u l uc lb hl _ _
          have : x = n + 1 := by omega
          subst this
          refine ⟨fun _ => ref u l (tell u (fresh u uc) uc) hl, fun z => ?_⟩
          rw [ti_lt, nI_toInt (by omega), nI_toInt (by omega)] at z
          omega
        | succ m ih =>
          intro x hx u l uc lb hl hz hp
          have ex := nI_toInt (n := x) (by omega)
          have uF := fresh u uc
          refine ⟨fun z => ?_, fun _ => ⟨fun z => ?_, fun _ => ⟨fun z => ref u l (tell u uF uc) ?_, fun z => ?_⟩⟩⟩
          · rw [ti_lt, ex, nI_toInt (by omega)] at z
            omega
          · rw [ti_lt, d60, ex] at z
            omega
          · rw [z, d0] at hl ⊢
            rcases hl with ⟨b1, -⟩ | ⟨-, ⟨y, y1, y2⟩, b3⟩
            · omega
            · exact Or.inr ⟨Int.le_refl _, ⟨y, by omega, y2⟩, fun y hy k hk => (way_b hr _ _ _ _ (by omega) (by omega) hk).1⟩
          · have j79 : ∀ w : Sg, (∀ c, c ≠ 88 → c ≠ 89 → w c = s c) → (∀ q : Int × Int, onS (σm 350) q.1 q.2 = true → isMo (σm 350) 1 x (rI (σm 350) 2) (hAt (σm 350) i) q 1000 (cv w (88 + x % 2) (rI (σm 350) 0) q)) → m_X0_leastOf_j79 (nI i) (nI n) (fun r29 s29 => K_least Rel (nI i) (nI n) σm 0 s29 r29.toInt64) (fun l3 l4 σ => m_X0_leastOf_l28 (nI i) (nI n) (fun r29 s29 => K_least Rel (nI i) (nI n) σm 0 s29 r29.toInt64) (m + 1) l3 l4 σ) l (nI x) w := by
              intro w wc wM
              have ho := (dAt_wat hq x).1
              have oc := onS_cell hr ho
              have ec := clW_i hr ho
              have g := wM _ ho
              have gb := g.b hr (Or.inl rfl) (by omega) (by omega) (by omega)
              unfold m_X0_leastOf_j79
              rw [mod2 (by omega), nI_clamp (by omega), nI_clamp (by omega), wc 20 (by decide) (by decide), hF.2.1 x (by omega)]
              refine ⟨nI_in (by omega) (by decide), nI_in (by omega) (by decide), p_X4_read (U_0 _ (by omega)).2.2 (by decide) (by omega) (by omega) ?_⟩
              rw [ec]
              generalize hvv : w (88 + x % 2) (rI (σm 350) 0 * (dAt (σm 350) x).2 + (dAt (σm 350) x).1).toNat = vv
              unfold cv at g gb
              rw [hvv] at g gb
              have hp' : 0 < x + 1 → ∀ q : Int × Int, onS (σm 350) q.1 q.2 = true → isMo (σm 350) 1 (x + 1 - 1) (rI (σm 350) 2) (hAt (σm 350) i) q 1000 (cv w (88 + (x + 1 - 1) % 2) (rI (σm 350) 0) q) := fun _ => wM
              have e1 : (1000 - vv).toInt = 1000 - vv.toInt := by rw [ti_sub (by rw [d1000]; omega) (by rw [d1000]; omega), d1000]
              have wy : ¬ vv = -1 → way (σm 350) x (rI (σm 350) 2) (hAt (σm 350) i) (dAt (σm 350) x) (1000 - vv.toInt) ∧ 0 ≤ vv.toInt ∧ ∀ k, way (σm 350) x (rI (σm 350) 2) (hAt (σm 350) i) (dAt (σm 350) x) k → 1000 - vv.toInt ≤ k := by
                intro y
                rcases g with ⟨g1, -⟩ | ⟨g1, j, g2, g3⟩
                · exact absurd (by rw [ti_eq, g1, dm1]) y
                · rw [show 1000 - vv.toInt = j by omega]
                  exact ⟨g2.1, g1, g2.2⟩
              have new : ¬ vv = -1 → (l = -1 ∨ ¬ l ≤ 1000 - vv) → ls (σm 350) (hAt (σm 350) i) (x + 1) (1000 - vv).toInt := by
                intro y y2
                obtain ⟨k1, k2, k3⟩ := wy y
                rw [e1]
                refine Or.inr ⟨by omega, ⟨x, by omega, k1⟩, fun y' hy k hk => ?_⟩
                by_cases e : y' = x
                · subst e
                  exact k3 k hk
                · rcases hl with ⟨b1, b2⟩ | ⟨b0, -, b3⟩
                  · exact absurd hk (b2 y' (by omega) k)
                  · have := b3 y' (by omega) k hk
                    rcases y2 with y2 | y2
                    · rw [y2, dm1] at b0
                      omega
                    · rw [ti_le, e1] at y2
                      omega
              refine ⟨fun y => ?_, fun y => ⟨fun y2 l' hl' => ?_, fun y2 => ⟨fun y3 => ?_, fun y3 l' hl' => ?_⟩⟩⟩
              · rw [← nI_succ]
                refine ih (x + 1) (by omega) w l wc lb ?_ (fun e => absurd e (by omega)) hp'
                have no : ∀ k, ¬ way (σm 350) x (rI (σm 350) 2) (hAt (σm 350) i) (dAt (σm 350) x) k := fun k hk => by
                  have hb := way_b hr _ _ _ _ (by omega) (by omega) hk
                  rcases g with ⟨-, g2⟩ | ⟨g1, -⟩
                  · have := g2 k hk
                    omega
                  · rw [y, dm1] at g1
                    omega
                rcases hl with ⟨b1, b2⟩ | ⟨b1, ⟨y', y1, y2⟩, b3⟩
                · refine Or.inl ⟨b1, fun y' hy k hk => ?_⟩
                  by_cases e : y' = x
                  · subst e
                    exact no k hk
                  · exact b2 y' (by omega) k hk
                · refine Or.inr ⟨b1, ⟨y', by omega, y2⟩, fun y' hy k hk => ?_⟩
                  by_cases e : y' = x
                  · subst e
                    exact absurd hk (no k)
                  · exact b3 y' (by omega) k hk
              · rw [hl', ← nI_succ]
                exact ih (x + 1) (by omega) w _ wc (by have := wy y; omega) (new y (Or.inl y2)) (fun e => absurd e (by omega)) hp'
              · rw [← nI_succ]
                refine ih (x + 1) (by omega) w l wc lb ?_ (fun e => absurd e (by omega)) hp'
                rw [ti_le, e1] at y3
                obtain ⟨k1, k2, k3⟩ := wy y
                rcases hl with ⟨b1, b2⟩ | ⟨b1, ⟨y', y1, y2⟩, b3⟩
                · exact absurd (by rw [ti_eq, b1, dm1]) y2
                · refine Or.inr ⟨b1, ⟨y', by omega, y2⟩, fun y' hy k hk => ?_⟩
                  by_cases e : y' = x
                  · subst e
                    have := k3 k hk
                    omega
                  · exact b3 y' (by omega) k hk
              · rw [hl', ← nI_succ]
                exact ih (x + 1) (by omega) w _ wc (by have := wy y; omega) (new y (Or.inr y3)) (fun e => absurd e (by omega)) hp'
            refine ⟨fun y => ?_, fun y => ?_⟩
            · rw [ti_le, d0, ex] at y
              have x0 : x = 0 := by omega
              subst x0
              exact j79 u uc (hz rfl)
            · rw [ti_le, d0, ex] at y
              refine p_turn hr uF.look (by omega) (by omega) (Or.inl d1) (fun q ho => ?_) fun w w1 w2 => j79 w (fun c c1 c2 => by rw [w2 c (by omega)]; exact uc c c1 c2) fun q ho => ?_
              · exact (hp (by omega) q ho).b hr (Or.inl rfl) (by omega) (by omega) (by omega)
              · rw [d1] at w1
                have := isMo.step hr (Or.inl rfl) (m := x - 1) (t := rI (σm 350) 2) (by omega) (by omega) ⟨hW1, hW2⟩ (hp (by omega)) w1 q ho
                rw [show x - 1 + 1 = x by omega] at this
                exact this
      refine ⟨by rw [ti_in]; decide, p_X4_read (W_L1 W_2) (by decide) (by omega) (by omega) ?_⟩
      rw [ei, show ((i : Int)).toNat = i by omega, (hRs.1.2.2.2.2.1 i hi).1, show (0 : Int32).toNatClampNeg = 0 by decide]
      refine p_begin (p := (rI (σm 350) (1089 + 3 * i), rI (σm 350) (1090 + 3 * i))) hr (U_0 0 (by decide)).2.2 hW1 fun u u1 u2 => ⟨n + 2, ?_⟩
      refine key (n + 1) 0 (by omega) u (-1) (fun c c1 _ => u2 c c1) (by rw [dm1]; omega) (Or.inl ⟨dm1, fun x hx => absurd hx (Nat.not_lt_zero _)⟩) (fun _ q ho => ?_) (fun e => absurd e (by omega))
      rw [u1 q ho, d1000]
      exact isMo_0 (by omega)
    · rw [if_neg h2]
      refine p_need0 (Or.inr ⟨rfl, ?_⟩)
      intro s hs
      have e350 : s 350 = σm 350 := by rw [hs]; exact st2_row (by decide)
      obtain ⟨h0, h⟩ := start hR s hs
      refine p_X5_isHelper h.1.1.1 ?_
      rw [e350, if_pos h1]
      refine ⟨fun _ => p_bad0 h0 ⟨fun z => absurd rfl z, fun _ => p_X5_in ?_⟩, fun z => absurd z one0⟩
      rw [d0, dB, if_neg h2]
      exact ⟨fun z => absurd rfl z, fun _ => leafR h h0 1 (by decide) (by decide)⟩
  · refine p_helpN hw h1 (Or.inl ⟨rfl, ?_⟩)
    intro s hs
    have e350 : s 350 = σm 350 := by rw [hs]; exact st2_row (by decide)
    obtain ⟨h0, h⟩ := start hR s hs
    refine p_X5_isHelper h.1.1.1 ?_
    rw [e350, if_neg h1]
    exact ⟨fun z => absurd rfl z, fun _ => leafL h h0 0 (by decide) (by decide)⟩
