/-! route -/
theorem Fresh.routed {s u : Sg} {ρ : Nat → Int32} {h : Nat} (hF : Fresh s ρ) (h3 : h < 3) (e : ∀ k, 19 ≤ k → k ≤ 281 → (k < 26 ∨ 90 ≤ k) → k ≠ 90 + 64 * h → k ≠ 90 + 64 * h + 63 → u k = s k) (e2 : u (90 + 64 * h) 2 = s (90 + 64 * h) 2) (e3 : u (90 + 64 * h) 3 = 1)
    (hR : ∃ n, n ≤ 60 ∧ isFirst ρ h n ∧ isRoute ρ (hAt ρ h) (dAt ρ n) n (fun i => u (90 + 64 * h + 63) i)) : Fresh u ρ := by
  obtain ⟨a1, a2, a3, a4, a5, a6, a7⟩ := hF
  refine ⟨by rw [e 19 (by omega) (by omega) (by omega) (by omega) (by omega)]; exact a1, fun n hn => by rw [e 20 (by omega) (by omega) (by omega) (by omega) (by omega)]; exact a2 n hn, fun n hn => by rw [e 21 (by omega) (by omega) (by omega) (by omega) (by omega)]; exact a3 n hn, fun p c hp hc => by rw [e 22 (by omega) (by omega) (by omega) (by omega) (by omega)]; exact a4 p c hp hc, fun n c hn hc => by rw [e 23 (by omega) (by omega) (by omega) (by omega) (by omega)]; exact a5 n c hn hc, fun x hx => ?_, fun x hx hm => ?_⟩
  · by_cases z : x = h
    · subst z
      obtain ⟨b1, b2, -⟩ := a6 x hx
      rw [e2, e3]
      exact ⟨b1, b2, Or.inr rfl⟩
    · rw [e (90 + 64 * x) (by omega) (by omega) (by omega) (by omega) (by omega)]
      exact a6 x hx
  · obtain ⟨b1, b2⟩ := a7 x hx hm
    have hk6 := a6 x hx
    by_cases z : x = h
    · subst z
      rw [e2]
      refine ⟨fun n hn q ho => ?_, fun _ => hR⟩
      rw [e (90 + 64 * x + 2 + n) (by omega) (by omega) (by omega) (by omega) (by omega)]
      exact b1 n hn q ho
    · rw [e (90 + 64 * x) (by omega) (by omega) (by omega) (by omega) (by omega), e (90 + 64 * x + 63) (by omega) (by omega) (by omega) (by omega) (by omega)]
      refine ⟨fun n hn q ho => ?_, b2⟩
      rw [e (90 + 64 * x + 2 + n) (by omega) (by omega) (by omega) (by omega) (by omega)]
      exact b1 n hn q ho
/-- the reference walks the route -/
theorem p_routeM {x : Sg} {ρ : Nat → Int32} {m kk : Nat} {p d : Int × Int} {f : Nat → Int32} {v1 : Int32} {K : Int32 → Sg → Prop} (hr : okR ρ) (hx : x 350 = ρ) (hm : m ≤ 60) (hk : kk < m) (hp : wat ρ p) (hL : leadsM x ρ m d 0) (hf : routeTo ρ p d m f m) (h : K (f kk) x) : ∃ n9, m_X5_route_l77 v1 (nI kk) K n9 (cl20 p) 0 0 x := by
  have hh := hr.2.2.1
  have hh' := hh
  unfold rI at hh'
  have ek := nI_toInt (n := kk) (by omega)
  have step : ∀ (KO : Int32 → Int32 → Int32 → Sg → Prop) (n : Nat), n < m → KO (cl20 (pos ρ p f (n + 1))) (f n) (nI n + 1) x → ∃ n9, m_X5_route_l104 v1 (nI kk) K KO n9 (cl20 (pos ρ p f n)) 0 (nI n) (wnd ρ (rI ρ 2 + n)) x := by
    intro KO n hn hKO
    have en := nI_toInt (n := n) (by omega)
    have hw := pos_wat (f := f) hp n
    have hP := onS_P hr hw.1
    have eP := cl20_i hP
    have hP' := hP
    unfold isP at hP'
    have hwD := wnd_D hr (t := rI ρ 2 + n) (by omega) (by omega)
    obtain ⟨k, k1, k2, k3, k4⟩ := hf n hn
    have kb := way_b hr _ _ _ _ (by omega) (by omega) k1.1
    have eL : c20 x (488 + n) (pos ρ p f n) = k := lst_one ((hL n (Nat.zero_le _) (by omega) _ hw).lst k1.1) k1
    have hfD := k2.1
    unfold isD at hfD
    obtain ⟨F, hF⟩ : ∃ F : Nat, (f n).toInt = F := ⟨(f n).toInt.toNat, by omega⟩
    have fF : f n = nI F := of_ti (by omega) hF
    have j123 : ∀ (KO104 : Int32 → Int32 → Int32 → Int32 → Sg → Prop) (c : Int32), okc ρ (pos ρ p f n) c → (c = f n ∨ (c.toInt < F ∧ KO104 (cl20 (pos ρ p f n)) (c + 1) (nI n) (wnd ρ (rI ρ 2 + n)) x)) → m_X5_route_j123 v1 (nI kk) K KO KO104 (cl20 (pos ρ p f n)) c (nI n) (wnd ρ (rI ρ 2 + n)) x := by
      intro KO104 c hc hcs
      have hqw := crr_wat hw c
      have hq := onS_P hr hqw.1
      have eq := cl20_i hq
      have hq' := hq
      unfold isP at hq'
      have cb := cst_b hc.1 hwD
      have gC := hL (n + 1) (Nat.zero_le _) (by omega) _ hqw
      rw [show m - (n + 1) = m - n - 1 by omega, show rI ρ 2 + ((n + 1 : Nat) : Int) = rI ρ 2 + n + 1 by omega] at gC
      have gB := gC.b hr (by omega) (by omega)
      have ec : (Int32.ofInt (cst c (wnd ρ (rI ρ 2 + n)))).toInt = cst c (wnd ρ (rI ρ 2 + n)) := ti_of (by omega) (by omega)
      have es : (Int32.ofInt (cst c (wnd ρ (rI ρ 2 + n))) + x (488 + (n + 1)) (20 * (crr ρ (pos ρ p f n) c).2 + (crr ρ (pos ρ p f n) c).1).toNat).toInt = cst c (wnd ρ (rI ρ 2 + n)) + c20 x (488 + (n + 1)) (crr ρ (pos ρ p f n) c) := by
        unfold c20 at gB ⊢
        rw [ti_add (by rw [ec]; omega) (by rw [ec]; omega), ec]
      refine p_X5_costBy hc.1 hwD ⟨by rw [← nI_succ]; exact nI_in (by omega) (by decide), p_X5_carried rfl (by rw [hx]; exact hr) hP hc.1 ?_⟩
      rw [hx]
      refine ⟨by rw [ti_in, eq]; omega, nI_in (by omega) (by decide), by rw [ti_in, eP]; omega, ?_⟩
      have ec2 : (x (488 + n) (20 * (pos ρ p f n).2 + (pos ρ p f n).1).toNat).toInt = k := eL
      have e4 : 487 + 1 + (nI n + 1).toNatClampNeg = 488 + (n + 1) := by rw [← nI_succ, nI_clamp (by omega)]
      have e5 : 487 + 1 + (nI n).toNatClampNeg = 488 + n := by rw [nI_clamp (by omega)]
      rw [e4, e5, ti_c, ti_c, eq, eP, ti_eq, es, ec2]
      have iff1 : cst c (wnd ρ (rI ρ 2 + n)) + c20 x (488 + (n + 1)) (crr ρ (pos ρ p f n) c) = k ↔ way ρ (m - n - 1) (rI ρ 2 + n + 1) (crr ρ (pos ρ p f n) c) d (k - cst c (wnd ρ (rI ρ 2 + n))) := by
        refine ⟨fun z => ?_, fun z => ?_⟩
        · rcases gB with b1 | ⟨b1, b2, b3⟩
          · omega
          · rw [show k - cst c (wnd ρ (rI ρ 2 + n)) = c20 x (488 + (n + 1)) (crr ρ (pos ρ p f n) c) by omega]
            exact b3.1
        · have g := gC.lst z
          have a := g.2 _ z
          have k1' := k1.2
          rw [show m - n = m - n - 1 + 1 by omega] at k1'
          have b := k1' _ ⟨c, _, hc, g.1, rfl⟩
          omega
      refine ⟨fun z => ?_, fun z => ?_⟩
      · have y := iff1.mp z
        rcases hcs with e | ⟨e, -⟩
        · refine p_X5_carried rfl (by rw [hx]; exact hr) hP hc.1 ?_
          rw [hx, e]
          exact hKO
        · exact absurd y (k4 c hc (by omega))
      · rcases hcs with e | ⟨-, e⟩
        · rw [e] at z iff1
          exact absurd (iff1.mpr k3) z
        · exact e
    have key : ∀ a j : Nat, j + a = F → m_X5_route_l104 v1 (nI kk) K KO (a + 1) (cl20 (pos ρ p f n)) (nI j) (nI n) (wnd ρ (rI ρ 2 + n)) x := by
      intro a
      induction a with
      | zero =>
        intro j hj
        have ej := nI_toInt (n := j) (by omega)
        have e : nI j = f n := by rw [fF, show j = F by omega]
        have hok : okc ρ (pos ρ p f n) (nI j) := by rw [e]; exact k2
        refine ⟨fun z => j123 _ _ hok (Or.inl e), fun z => p_X5_goes rfl (by rw [hx]; exact hr) hP hok.1 ?_⟩
        rw [ti_le, d0, ej] at z
        rw [hx]
        rcases hok.2 with y | y
        · rw [ti_eq, d0, ej] at y
          omega
        · rw [if_pos y]
          exact ⟨fun y => absurd y one0, fun _ => j123 _ _ hok (Or.inl e)⟩
      | succ a ih =>
        intro j hj
        have ej := nI_toInt (n := j) (by omega)
        have hjD : isD (nI j) := ⟨by rw [ej]; omega, by rw [ej]; omega⟩
        have nx := ih (j + 1) (by omega)
        rw [nI_succ] at nx
        refine ⟨fun z => j123 _ _ ⟨hjD, Or.inl ?_⟩ (Or.inr ⟨by omega, nx⟩), fun z => p_X5_goes rfl (by rw [hx]; exact hr) hP hjD ?_⟩
        · rw [ti_le, d0, ej] at z
          rw [ti_eq, d0, ej]
          omega
        · rw [hx]
          by_cases y : okS ρ (pos ρ p f n).1 (pos ρ p f n).2 (nI j) = true
          · rw [if_pos y]
            exact ⟨fun y => absurd y one0, fun _ => j123 _ _ ⟨hjD, Or.inr y⟩ (Or.inr ⟨by omega, nx⟩)⟩
          · rw [if_neg y]
            exact ⟨fun _ => nx, fun y => absurd rfl y⟩
    exact ⟨F + 1, key F 0 (by omega)⟩
  have key : ∀ a n : Nat, n + a = kk + 1 → ∀ c : Int32, (∀ i, n = i + 1 → c = f i) → m_X5_route_l77 v1 (nI kk) K (a + 1) (cl20 (pos ρ p f n)) c (nI n) x := by
    intro a
    induction a with
    | zero =>
      intro n hn c hc
      have en := nI_toInt (n := n) (by omega)
      refine ⟨fun _ => ?_, fun z => ?_⟩
      · rw [hc kk (by omega)]
        exact h
      · rw [ti_lt, ek, en] at z
        omega
    | succ a ih =>
      intro n hn c hc
      have en := nI_toInt (n := n) (by omega)
      have et : (x 350 2 + nI n).toInt = rI ρ 2 + n := by
        rw [hx, ti_add (by rw [en]; omega) (by rw [en]; omega), en]
        rfl
      refine ⟨fun z => ?_, fun _ => ⟨by rw [ti_in]; decide, ?_⟩⟩
      · rw [ti_lt, ek, en] at z
        omega
      · rw [show (2 : Int32).toNatClampNeg = 2 by decide]
        refine p_X5_windOf rfl (by rw [hx]; exact hr) (by rw [et]; omega) (by rw [et]; omega) ?_
        rw [et, hx]
        refine step _ n (by omega) ?_
        rw [← nI_succ]
        exact ih (n + 1) (by omega) (f n) fun i hi => by rw [show i = n by omega]
  exact ⟨kk + 2, key (kk + 1) 0 (by omega) 0 fun i hi => absurd hi (by omega)⟩
theorem ob_route : obl_route Rel := by
  intro σc σm v p1 p2 hR
  have hq := hR.1.1
  have hr := hq.1
  have hw := hR.1.2
  have h2h := hr.2.2.1
  by_cases h1 : 0 ≤ p1.toInt ∧ p1.toInt < rI (σm 350) 3
  · obtain ⟨i, i3, hi, e0, e1, e2, e3⟩ := hix hr h1
    subst e0
    obtain ⟨⟨hW1, hW2⟩, hf0, hf1⟩ := hq.2.2.2.1 i hi
    have ref : ∀ (t : Sg) (u : Int32), Rel t σm → (noFirst (σm 350) i → u = -1) → (∀ m, m ≤ 60 → isFirst (σm 350) i m → (¬ (0 ≤ p2.toInt ∧ p2.toInt < m) → u = -1) ∧ (0 ≤ p2.toInt ∧ p2.toInt < m → ∃ f, routeTo (σm 350) (hAt (σm 350) i) (dAt (σm 350) m) m f m ∧ u = f p2.toInt.toNat)) → K_route Rel (nI i) p2 σm 0 t u.toInt64 := by
      intro t u hRt a1 a2 a ha
      have e350 : a 350 = σm 350 := by rw [ha]; exact st2_row (by decide)
      obtain ⟨h0, h⟩ := start hRt a ha
      refine p_X5_isHelper h.1.1.1 ?_
      rw [e350, if_pos h1]
      refine ⟨fun _ => p_bad0 h0 ⟨fun _ => p_earliest (i := i) (by rw [e350]; exact hq) (by rw [e350]; exact hi) e1 e2 e3 ?_ ?_, fun z => absurd rfl z⟩, fun z => absurd z one0⟩
      all_goals rw [e350]
      · intro w m wM wc hm hf
        have w0 : w 347 0 = 0 := by rw [wc 347 (by decide)]; exact h0
        have w350 : w 350 = σm 350 := (wc 350 (by decide)).trans e350
        have em := nI_toInt (n := m) (by omega)
        obtain ⟨c1, c2⟩ := a2 m hm hf
        refine ⟨fun z => ?_, fun _ => p_X5_in ?_⟩
        · rw [ti_eq, em, dm1] at z
          omega
        · have em1 : (nI m - 1).toInt = (m : Int) - 1 := by rw [ti_sub (by rw [em, d1]; omega) (by rw [em, d1]; omega), em, d1]
          rw [d0, em1]
          by_cases hk : 0 ≤ p2.toInt ∧ p2.toInt < m
          · rw [if_pos (by omega)]
            obtain ⟨f, f1, f2⟩ := c2 hk
            refine ⟨fun _ => ⟨nI_in (by omega) (by decide), ?_⟩, fun z => absurd z one0⟩
            rw [nI_clamp (by omega), (wM.1 m hm).1]
            refine p_leads (by rw [w350]; exact hr) hm (by rw [w350]; exact dAt_wat hq m) fun x x1 x2 => ?_
            rw [w350] at x1
            have x350 : x 350 = σm 350 := (x2 350 (by decide)).trans w350
            have x0 : x 347 0 = 0 := by rw [x2 347 (by decide)]; exact w0
            refine p_X5_helperCell (by rw [x350]; exact hq) i (by rw [x350]; exact hi) e1 e2 ?_
            rw [x350]
            have e2k : p2 = nI p2.toInt.toNat := of_ti (by omega) (by omega)
            have g := p_routeM (v1 := nI i) (K := fun bb s1 => m_X5_thrown s1 (fun th s2 => th = 0 ∧ ((0 : Int32) = 0 → u.toInt64 = bb.toInt64) ∧ Rel t s2)) hr x350 hm (kk := p2.toInt.toNat) (by omega) ⟨hW1, hW2⟩ x1 f1 ⟨x0, fun _ => by rw [f2], (h.cost wc).side fun k hk => x2 k (by omega)⟩
            rw [← e2k] at g
            exact g
          · rw [if_neg (by omega)]
            exact ⟨fun z => absurd rfl z, fun _ => ⟨w0, fun _ => by rw [c1 hk], h.cost wc⟩⟩
      · intro w wM wc hn
        have w0 : w 347 0 = 0 := by rw [wc 347 (by decide)]; exact h0
        exact ⟨fun _ => ⟨w0, fun _ => by rw [a1 hn], h.cost wc⟩, fun z => absurd rfl z⟩
    refine p_helpY hw h1 (p_refresh hR fun s hRs s9 hF sk => ?_)
    refine p_earliestOf hq hRs.1.2 hF i3 hi (fun u m hm hf uF uw uk => ?_) (fun u hn uF uw => ?_)
    · have em := nI_toInt (n := m) (by omega)
      have hRu := hRs.wid s9 uF uw
      have u9 : u 19 9 = 1 := by rw [uw.1 19 (by omega)]; exact s9
      have only : ∀ n, isFirst (σm 350) i n → n = m := fun n hn => isFirst_one hn hf
      have bad : ¬ (0 ≤ p2.toInt ∧ p2.toInt < m) → K_route Rel (nI i) p2 σm 0 u (-1 : Int32).toInt64 := fun z => ref u (-1) hRu (fun _ => rfl) fun n hn hf' => by
        rw [only n hf']
        exact ⟨fun _ => rfl, fun y => absurd y z⟩
      refine ⟨fun z => bad ?_, fun z => ⟨fun y => p_sailingOf i3 ?_, fun y => bad ?_⟩⟩
      · rw [ti_lt, d0] at z
        omega
      · rw [ti_lt, d0] at z
        rw [ti_lt, em] at y
        have lc := S_cL (v := 90 + 64 * i) ⟨i, i3, rfl⟩
        refine ⟨fun x => ?_, fun x => ?_⟩
        · have r1 : u (90 + 64 * i) 3 = 1 := (uF.2.2.2.2.2.1 i i3).2.2.resolve_left x
          obtain ⟨n, hn, hf', hrt⟩ := (uF.2.2.2.2.2.2 i i3 hi).2 r1
          have en := only n hf'
          subst en
          refine p_X4_read lc (by decide) (by omega) (by omega) (ref u _ hRu (fun q => absurd hf (noFirst_no q hm)) fun n' hn' hf'' => ?_)
          rw [only n' hf'']
          exact ⟨fun q => absurd ⟨by omega, by omega⟩ q, fun _ => ⟨_, hrt, rfl⟩⟩
        · refine p_lookAtNeeds hq uF hm fun w wN wc => ?_
          have hRw2 : Rw w 2 (σm 350) := hRu.1.2.to fun a ha j => by rw [wc (2 + a) (by omega)]
          have ei := nI_toInt (n := i) (by omega)
          refine p_X4_read (W_L1 W_2) (by decide) (by omega) (by omega) ?_
          rw [ei, show ((i : Int)).toNat = i by omega, (hRw2.2.2.2.1 i hi).1]
          obtain ⟨k0, -, k1⟩ := hf.1
          refine p_walk (p := (rI (σm 350) (1089 + 3 * i), rI (σm 350) (1090 + 3 * i))) hr (uF.look.to (wc 19 (by omega)) (wc 22 (by omega)) (wc 23 (by omega))) hm lc (by omega) hW1 wN ⟨k0, k1⟩ fun g g1 g2 => ?_
          intro b hb
          have b63 : b (90 + 64 * i + 63) = g (90 + 64 * i + 63) := by rw [hb]; exact st2_row (by omega)
          have bk : ∀ c, (c < 26 ∨ 87 ≤ c) → c ≠ 90 + 64 * i → c ≠ 90 + 64 * i + 63 → b c = u c := fun c c1 c2 c3 => by rw [hb, st2_row c2, g2 c c3, wc c c1]
          have bF : Fresh b (σm 350) := uF.routed i3 (fun k k1 k2 k3 k4 k5 => bk k (by omega) k4 k5) (by rw [hb, st2_j (by decide), g2 _ (by omega), wc _ (by omega)]) (by rw [hb, st2_same]) ⟨m, hm, hf, by rw [b63]; exact g1⟩
          have hRb : Rel b σm := hRu.look (fun k hk => bk k (by omega) (by omega) (by omega)) (by rw [bk 19 (by omega) (by omega) (by omega)]; exact u9) bF
          refine p_X4_read lc (by decide) (by omega) (by omega) (ref b _ hRb (fun q => absurd hf (noFirst_no q hm)) fun n' hn' hf'' => ?_)
          rw [only n' hf'']
          exact ⟨fun q => absurd ⟨by omega, by omega⟩ q, fun _ => ⟨_, g1, by rw [b63]⟩⟩
      · rw [ti_lt, em] at y
        omega
    · have hRu := hRs.wid s9 uF uw
      have bad : K_route Rel (nI i) p2 σm 0 u (-1 : Int32).toInt64 := ref u (-1) hRu (fun _ => rfl) fun n hn' hf' => absurd hf' (noFirst_no hn hn')
      refine ⟨fun _ => bad, fun z => ⟨fun y => ?_, fun _ => bad⟩⟩
      rw [ti_lt, dm1] at y
      rw [ti_lt, d0] at z
      omega
  · refine p_helpN hw h1 ⟨rfl, ?_⟩
    intro s hs
    have e350 : s 350 = σm 350 := by rw [hs]; exact st2_row (by decide)
    obtain ⟨h0, h⟩ := start hR s hs
    refine p_X5_isHelper h.1.1.1 ?_
    rw [e350, if_neg h1]
    exact ⟨fun z => absurd rfl z, fun _ => leafR h h0 0 (by decide) (by decide)⟩
