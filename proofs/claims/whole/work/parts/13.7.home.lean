/-! home -/
/-- no way home yet at the hours from m to n -/
def noHome (ρ : Nat → Int32) (m n : Nat) (v : Int) : Prop := ∀ y, m ≤ y → y < n → ∀ k, way ρ (y - m) (rI ρ 2 + m) (dAt ρ m) (pAt ρ y) k → v < 2 * k
def isHome (ρ : Nat → Int32) (m n : Nat) (v x : Int) : Prop := m ≤ n ∧ n ≤ 60 ∧ noHome ρ m n v ∧ 0 ≤ x ∧ ∃ j, lst ρ (n - m) (rI ρ 2 + m) (dAt ρ m) (pAt ρ n) j ∧ x = v - 2 * j
theorem isHome_one {ρ : Nat → Int32} {m n n' : Nat} {v x x' : Int} (a : isHome ρ m n v x) (b : isHome ρ m n' v x') : n = n' ∧ x = x' := by
  obtain ⟨a1, a2, a3, a4, j, a5, a6⟩ := a
  obtain ⟨b1, b2, b3, b4, k, b5, b6⟩ := b
  rcases Nat.lt_trichotomy n n' with z | z | z
  · have := b3 n a1 z j a5.1
    omega
  · subst z
    have := lst_one a5 b5
    exact ⟨rfl, by omega⟩
  · have := a3 n' b1 z k b5.1
    omega
theorem isHome_no {ρ : Nat → Int32} {m n : Nat} {v x : Int} (a : isHome ρ m n v x) (b : noHome ρ m 61 v) : False := by
  obtain ⟨a1, a2, a3, a4, j, a5, a6⟩ := a
  have := b n a1 (by omega) j a5.1
  omega
theorem ob_home : obl_home Rel := by
  intro σc σm v p1 p2 hR
  have hq := hR.1.1
  have hr := hq.1
  have hw := hR.1.2
  have h2h := hr.2.2.1
  have dB : (1 : Int32).toInt = 1 := by decide
  by_cases h1 : 0 ≤ p1.toInt ∧ p1.toInt < rI (σm 350) 3
  · obtain ⟨i, i3, hi, e0, e1, e2, e3⟩ := hix hr h1
    refine p_helpY hw h1 (p_X4_isIn ?_)
    rw [d0, dB]
    by_cases h2 : 0 ≤ p2.toInt ∧ p2.toInt ≤ 1
    · rw [if_pos h2]
      subst e0
      obtain ⟨⟨hW1, hW2⟩, hf0, hf1⟩ := hq.2.2.2.1 i hi
      refine p_need1 (p_refresh hR fun s hRs s9 hF sk => ?_)
      have ref : ∀ (t : Sg) (u : Int32), Rel t σm → (noFirst (σm 350) i → u = -1) → (∀ (m : Nat) (x : Int), m ≤ 60 → isFirst (σm 350) i m → 0 ≤ x → lst (σm 350) m (rI (σm 350) 2) (hAt (σm 350) i) (dAt (σm 350) m) (fAt (σm 350) i - x) → (noHome (σm 350) m 61 x → u = -1) ∧ (∀ (n : Nat) (y : Int), isHome (σm 350) m n x y → (p2 = 0 → u = nI n) ∧ (¬ p2 = 0 → u.toInt = y))) → K_home Rel (nI i) p2 σm 0 t u.toInt64 := by
        intro t u hRt a1 a2 a ha
        have e350 : a 350 = σm 350 := by rw [ha]; exact st2_row (by decide)
        obtain ⟨h0, h⟩ := start hRt a ha
        refine p_X5_isHelper h.1.1.1 ?_
        rw [e350, if_pos h1]
        refine ⟨fun _ => p_bad0 h0 ⟨fun z => absurd rfl z, fun _ => p_X5_in ?_⟩, fun z => absurd z one0⟩
        rw [d0, dB, if_pos h2]
        refine ⟨fun _ => p_bad0 h0 ⟨fun _ => p_earliest (i := i) (by rw [e350]; exact hq) (by rw [e350]; exact hi) e1 e2 e3 ?_ ?_, fun z => absurd rfl z⟩, fun z => absurd z one0⟩
        all_goals rw [e350]
        · intro w m wM wc hm hf
          have w0 : w 347 0 = 0 := by rw [wc 347 (by decide)]; exact h0
          have w350 : w 350 = σm 350 := (wc 350 (by decide)).trans e350
          have em := nI_toInt (n := m) (by omega)
          refine ⟨fun _ => p_X5_fuelOf (by rw [w350]; exact hq) i (by rw [w350]; exact hi) e3 ?_, fun z => ?_⟩
          · have hP : isP (dAt (σm 350) m) := onS_P hr (dAt_wat hq m).1
            have eP := cl20_i hP
            have hP' := hP
            unfold isP at hP'
            obtain ⟨j, j1, j2⟩ := hf.1
            have g := (wM.2 m hm _ hP).lst j2
            have gb := way_b hr _ _ _ _ (by omega) (by omega) g.1
            have gl := g.2 j j2
            rw [nI_clamp (by omega), (wM.1 m hm).1, ti_c, eP, w350, show 363 + 1 + m = 364 + m by omega]
            refine ⟨nI_in (by omega) (by decide), nI_in (by omega) (by decide), by rw [ti_in, eP]; omega, fun l hl => ⟨nI_in (by omega) (by decide), ?_⟩⟩
            have ef : (σm 350 (1091 + 3 * i)).toInt = fAt (σm 350) i := rfl
            unfold c20 at g gb gl
            have el : l.toInt = fAt (σm 350) i - (w (364 + m) (20 * (dAt (σm 350) m).2 + (dAt (σm 350) m).1).toNat).toInt := by
              rw [hl, ti_sub (by omega) (by omega), ef]
            obtain ⟨c1, c2⟩ := a2 m l.toInt hm hf (by omega) (by rw [show fAt (σm 350) i - l.toInt = (w (364 + m) (20 * (dAt (σm 350) m).2 + (dAt (σm 350) m).1).toNat).toInt by omega]; exact g)
            refine p_spreads (m0 := m) (by rw [w350]; exact hr) (Or.inr (Or.inl rfl)) hm (by rw [w350]; exact dAt_wat hq m) fun x x1 x2 => ⟨62 - m, ?_⟩
            rw [w350] at x1
            have x0 : x 347 0 = 0 := by rw [x2 347 (by decide)]; exact w0
            have hRx : Rel t x := (h.cost wc).side fun k hk => x2 k (by omega)
            have xp : ∀ n, n ≤ 60 → x 362 n = cl20 (pAt (σm 350) n) := fun n hn => by rw [x2 362 (by decide)]; exact (wM.1 n hn).2
            have d60 : (60 : Int32).toInt = 60 := by decide
            have key : ∀ d n : Nat, n + d = 61 → m ≤ n → noHome (σm 350) m n l.toInt → m_X5_home_l104 (nI i) p2 (fun bb s1 => m_X5_thrown s1 (fun th s2 => th = 0 ∧ ((0 : Int32) = 0 → u.toInt64 = bb.toInt64) ∧ Rel t s2)) (d + 1) l (nI n) x := by
              intro d
              induction d with
              | zero =>
                intro n hn hmn hno
                have : n = 61 := by omega
                subst this
                exact ⟨fun _ => ⟨x0, fun _ => by rw [c1 hno], hRx⟩, fun z => absurd (by decide) z⟩
              | succ d ih =>
                intro n hn hmn hno
                have en := nI_toInt (n := n) (by omega)
                have hQ : isP (pAt (σm 350) n) := onS_P hr (pAt_wat hq n).1
                have eQ := cl20_i hQ
                have hQ' := hQ
                unfold isP at hQ'
                have gC := x1 n hmn (by omega) _ hQ
                have gB := gC.b hr (by omega) (by omega)
                have vq : vp_in (x 362 (nI n).toNatClampNeg) 240 := by
                  rw [nI_clamp (by omega), xp n (by omega), ti_in, eQ]
                  omega
                have e2 : (2 * x (425 + 1 + (nI n).toNatClampNeg) (x 362 (nI n).toNatClampNeg).toNatClampNeg).toInt = 2 * c20 x (425 + 1 + n) (pAt (σm 350) n) := by
                  rw [nI_clamp (by omega), xp n (by omega), ti_c, eQ]
                  unfold c20 at gB ⊢
                  rw [ti_mul (by rw [d2]; omega) (by rw [d2]; omega), d2]
                have v61 : vp_in (nI n) 61 := nI_in (by omega) (by decide)
                refine ⟨fun z => ?_, fun _ => ⟨v61, v61, vq, fun z => ?_, fun z => ?_⟩⟩
                · rw [ti_lt, d60, en] at z
                  omega
                · rw [ti_lt, e2] at z
                  rw [← nI_succ]
                  refine ih (n + 1) (by omega) (by omega) fun y y1 y2 k hk => ?_
                  by_cases e : y = n
                  · subst e
                    rcases gB with b1 | ⟨b1, b2, b3⟩
                    · exact absurd hk ((show ∀ k, ¬ way (σm 350) (y - m) (rI (σm 350) 2 + m) (dAt (σm 350) m) (pAt (σm 350) y) k from fun k hk => by
                        have := gC.lst hk
                        have := way_b hr _ _ _ _ (by omega) (by omega) this.1
                        omega) k)
                    · have := b3.2 k hk
                      omega
                  · exact hno y y1 (by omega) k hk
                · rw [ti_lt, e2] at z
                  rcases gB with b1 | ⟨b1, b2, b3⟩
                  · unfold c20 at b1 z
                    omega
                  · have hH : isHome (σm 350) m n l.toInt (l.toInt - 2 * c20 x (425 + 1 + n) (pAt (σm 350) n)) := ⟨hmn, by omega, hno, by omega, _, b3, rfl⟩
                    obtain ⟨f1, f2⟩ := c2 n _ hH
                    refine ⟨fun y => ⟨v61, v61, vq, x0, fun _ => ?_, hRx⟩, fun y => ⟨x0, fun _ => by rw [f1 y], hRx⟩⟩
                    congr 1
                    rw [ti_eq, f2 y, ti_sub (by rw [e2]; omega) (by rw [e2]; omega), e2]
            rw [show 62 - m = 61 - m + 1 by omega]
            exact key (61 - m) m (by omega) (Nat.le_refl _) fun y y1 y2 => absurd y2 (by omega)
          · rw [ti_eq, em, dm1] at z
            omega
        · intro w wM wc hn
          have w0 : w 347 0 = 0 := by rw [wc 347 (by decide)]; exact h0
          exact ⟨fun z => absurd rfl z, fun _ => ⟨w0, fun _ => by rw [a1 hn], h.cost wc⟩⟩
      have d60 : (60 : Int32).toInt = 60 := by decide
      refine p_earliestOf hq hRs.1.2 hF i3 hi (fun u m hm hf uF uw uk => ⟨fun _ => ?_, fun z => ?_⟩) (fun u hn uF uw => ⟨fun z => absurd z (by decide), fun _ => ?_⟩)
      · have em := nI_toInt (n := m) (by omega)
        have hRu := hRs.wid s9 uF uw
        have ho := (dAt_wat hq m).1
        rw [mod2 (by omega)]
        refine ⟨nI_in (by omega) (by decide), p_X4_read (n := 61) rfl (by decide) (by omega) (by omega) ?_⟩
        rw [em, show ((m : Int)).toNat = m by omega, uF.2.1 m hm]
        refine p_mostMeeting hq hRu.1.2 uF i3 hi hm hf fun w x wF ww x0 xl => ?_
        have hRw : Rel w σm := hRu.wid (by rw [uw.1 19 (by omega)]; exact s9) wF ww
        have w9 : w 19 9 = 1 := by rw [ww.1 19 (by omega), uw.1 19 (by omega)]; exact s9
        have xb : x.toInt ≤ 999 := by
          have := way_b hr _ _ _ _ (by omega) (by omega) xl.1
          omega
        rw [nI_clamp (by omega)]
        refine p_begin hr (U_0 _ (by omega)).2.2 ho fun a a1 a2 => ⟨62 - m, ?_⟩
        have tell : ∀ b : Sg, (∀ c, c ≠ 88 → c ≠ 89 → b c = w c) → Fresh b (σm 350) ∧ Rel b σm := fun b bc => by
          have bF : Fresh b (σm 350) := wF.lit fun k _ _ h3 => bc k (by omega) (by omega)
          exact ⟨bF, hRw.look (fun k hk => bc k (by omega) (by omega)) (by rw [bc 19 (by decide) (by decide)]; exact w9) bF⟩
        have only : ∀ (n' : Nat) (y' : Int), isFirst (σm 350) i n' → lst (σm 350) n' (rI (σm 350) 2) (hAt (σm 350) i) (dAt (σm 350) n') (fAt (σm 350) i - y') → n' = m ∧ y' = x.toInt := by
          intro n' y' h1 h2
          have e := isFirst_one h1 hf
          subst e
          have := lst_one h2 xl
          exact ⟨rfl, by omega⟩
        have key : ∀ d n : Nat, n + d = 61 → m ≤ n → ∀ b : Sg, (∀ c, c ≠ 88 → c ≠ 89 → b c = w c) → noHome (σm 350) m n x.toInt → (n = m → ∀ q : Int × Int, onS (σm 350) q.1 q.2 = true → isMo (σm 350) 2 0 (rI (σm 350) 2 + m) (dAt (σm 350) m) q x.toInt (cv b (88 + m % 2) (rI (σm 350) 0) q)) → (m < n → ∀ q : Int × Int, onS (σm 350) q.1 q.2 = true → isMo (σm 350) 2 (n - 1 - m) (rI (σm 350) 2 + m) (dAt (σm 350) m) q x.toInt (cv b (88 + (n - 1) % 2) (rI (σm 350) 0) q)) → m_X0_homeOf_l37 (nI i) p2 (fun r28 s28 => K_home Rel (nI i) p2 σm 0 s28 r28.toInt64) (d + 1) (nI m) (nI n) b := by
          intro d
          induction d with
          | zero =>
            intro n hn hmn b bc hno _ _
            have : n = 61 := by omega
            subst this
            refine ⟨fun _ => ref b (-1) (tell b bc).2 (fun _ => rfl) fun m' x' hm' hf' x0' xl' => ?_, fun z => absurd (by decide) z⟩
            obtain ⟨e1, e2⟩ := only m' x' hf' xl'
            subst e1
            subst e2
            exact ⟨fun _ => rfl, fun n' y' hh => absurd hno (fun q => isHome_no hh q)⟩
          | succ d ih =>
            intro n hn hmn b bc hno hz hp
            have en := nI_toInt (n := n) (by omega)
            have bF := (tell b bc).1
            have j80 : ∀ g : Sg, (∀ c, c ≠ 88 → c ≠ 89 → g c = w c) → (∀ q : Int × Int, onS (σm 350) q.1 q.2 = true → isMo (σm 350) 2 (n - m) (rI (σm 350) 2 + m) (dAt (σm 350) m) q x.toInt (cv g (88 + n % 2) (rI (σm 350) 0) q)) → m_X0_homeOf_j79 (nI i) p2 (fun r28 s28 => K_home Rel (nI i) p2 σm 0 s28 r28.toInt64) (fun l3 l4 σ => m_X0_homeOf_l37 (nI i) p2 (fun r28 s28 => K_home Rel (nI i) p2 σm 0 s28 r28.toInt64) (d + 1) l3 l4 σ) (nI m) (nI n) g := by
              intro g gc gM
              obtain ⟨gF, gR⟩ := tell g gc
              have hoP := (pAt_wat hq n).1
              have oc := onS_cell hr hoP
              have ec := clW_i hr hoP
              have g1 := gM _ hoP
              unfold m_X0_homeOf_j79
              rw [mod2 (by omega), nI_clamp (by omega)]
              refine ⟨nI_in (by omega) (by decide), p_X4_read (n := 61) rfl (by decide) (by omega) (by omega) ?_⟩
              rw [en, show ((n : Int)).toNat = n by omega, gF.2.2.1 n (by omega)]
              refine p_X4_read (U_0 _ (by omega)).2.2 (by decide) (by omega) (by omega) ?_
              rw [ec]
              unfold cv at g1
              have fin : ¬ g (88 + n % 2) (rI (σm 350) 0 * (pAt (σm 350) n).2 + (pAt (σm 350) n).1).toNat = -1 → ∀ u : Int32, (p2 = 0 → u = nI n) → (¬ p2 = 0 → u = g (88 + n % 2) (rI (σm 350) 0 * (pAt (σm 350) n).2 + (pAt (σm 350) n).1).toNat) → K_home Rel (nI i) p2 σm 0 g u.toInt64 := by
                intro y u u1 u2
                rcases g1 with ⟨g2, -⟩ | ⟨g2, j, g3, g4⟩
                · exact absurd (by rw [ti_eq, g2, dm1]) y
                · have hH : isHome (σm 350) m n x.toInt _ := ⟨hmn, by omega, hno, g2, j, g3, g4⟩
                  refine ref g u gR (fun q => absurd hf (noFirst_no q hm)) fun m' x' hm' hf' x0' xl' => ?_
                  obtain ⟨f1, f2⟩ := only m' x' hf' xl'
                  subst f1
                  subst f2
                  refine ⟨fun q => absurd q (fun q => isHome_no hH q), fun n' y' hh => ?_⟩
                  obtain ⟨e1, e2⟩ := isHome_one hh hH
                  rw [e1, e2]
                  exact ⟨u1, fun q => by rw [u2 q]⟩
              refine ⟨fun y => ?_, fun y => ⟨fun y2 => fin y _ (fun q => absurd q y2) (fun _ => rfl), fun y2 => fin y _ (fun _ => rfl) (fun q => absurd y2 q)⟩⟩
              rw [← nI_succ]
              refine ih (n + 1) (by omega) (by omega) g gc (fun z z1 z2 k hk => ?_) (fun e => absurd e (by omega)) (fun _ q hq2 => ?_)
              · by_cases e : z = n
                · subst e
                  rcases g1 with ⟨-, g2⟩ | ⟨g2, -⟩
                  · exact g2 k hk
                  · rw [y, dm1] at g2
                    omega
                · exact hno z z1 (by omega) k hk
              · rw [show n + 1 - 1 = n by omega]
                exact gM q hq2
            refine ⟨fun z => ?_, fun _ => ⟨fun y => ?_, fun y => ?_⟩⟩
            · rw [ti_lt, d60, en] at z
              omega
            · rw [ti_le, em, en] at y
              have e : n = m := by omega
              subst e
              refine j80 b bc ?_
              rw [show n - n = 0 by omega]
              exact hz rfl
            · rw [ti_le, em, en] at y
              refine p_turn hr bF.look (by omega) (by omega) (Or.inr d2) (fun q ho => ?_) fun g g1 g2 => j80 g (fun c c1 c2 => by rw [g2 c (by omega)]; exact bc c c1 c2) fun q ho => ?_
              · have := (hp (by omega) q ho).b hr (Or.inr rfl) (by omega) (by omega) (by omega)
                omega
              · rw [d2] at g1
                have := isMo.step hr (Or.inr rfl) (m := n - 1 - m) (t := rI (σm 350) 2 + m) (by omega) (by omega) (dAt_wat hq m) (hp (by omega)) (by rw [show rI (σm 350) 2 + (m : Int) + ((n - 1 - m : Nat) : Int) = rI (σm 350) 2 + ((n - 1 : Nat) : Int) by omega]; exact g1) q ho
                rw [show n - 1 - m + 1 = n - m by omega] at this
                exact this
        rw [show 62 - m = 61 - m + 1 by omega]
        refine key (61 - m) m (by omega) (Nat.le_refl _) a (fun c c1 c2 => a2 c (by omega)) (fun y y1 y2 => absurd y2 (by omega)) (fun _ q ho => ?_) (fun e => absurd e (by omega))
        rw [a1 q ho]
        exact isMo_0 x0
      · rw [ti_le, d0, nI_toInt (by omega)] at z
        exfalso
        omega
      · exact ref u (-1) (hRs.wid s9 uF uw) (fun _ => rfl) fun m x hm hf _ _ => absurd hf (noFirst_no hn hm)
    · rw [if_neg h2]
      refine p_need0 (Or.inr ⟨rfl, ?_⟩)
      intro s hs
      have e350 : s 350 = σm 350 := by rw [hs]; exact st2_row (by decide)
      obtain ⟨h0, h⟩ := start hR s hs
      refine p_X5_isHelper h.1.1.1 ?_
      rw [e350, if_pos h1]
      refine ⟨fun _ => p_bad0 h0 ⟨fun z => absurd rfl z, fun _ => p_X5_in ?_⟩, fun z => absurd z one0⟩
      rw [d0, dB, if_neg h2]
      exact ⟨fun z => absurd rfl z, fun _ => leafR h h0 1 (by decide) (by decide)⟩
  · refine p_helpN hw h1 (Or.inl ⟨rfl, ?_⟩)
    intro s hs
    have e350 : s 350 = σm 350 := by rw [hs]; exact st2_row (by decide)
    obtain ⟨h0, h⟩ := start hR s hs
    refine p_X5_isHelper h.1.1.1 ?_
    rw [e350, if_neg h1]
    exact ⟨fun z => absurd rfl z, fun _ => leafL h h0 0 (by decide) (by decide)⟩
