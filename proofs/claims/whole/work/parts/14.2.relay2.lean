/-! relay, the reference's half -/
def hitR (ρ : Nat → Int32) (a b u n : Nat) (p : Int × Int) : Prop := ∃ e k, gv ρ a b n p e ∧ way ρ (u - n) (rI ρ 2 + n) p (dAt ρ u) k ∧ k ≤ e
theorem canR_C {ρ : Nat → Int32} (hq : okQ ρ) {a b u n : Nat} (ha : (a : Int) < rI ρ 3) (hb : (b : Int) < rI ρ 3) (hu : u ≤ 60) (hn : n ≤ u) {p : Int × Int} {ca cb l : Int} (hA : isC ρ n (rI ρ 2) (hAt ρ a) p ca) (hB : isC ρ n (rI ρ 2) (hAt ρ b) p cb) (hL : wat ρ p → isC ρ (u - n) (rI ρ 2 + n) p (dAt ρ u) l) :
    hitR ρ a b u n p ↔ ca ≤ fAt ρ a ∧ cb ≤ fAt ρ b ∧ l ≤ (if rI ρ 4 < fAt ρ a - ca + (fAt ρ b - cb) then rI ρ 4 else fAt ρ a - ca + (fAt ρ b - cb)) := by
  have fa := (hq.2.2.2.1 a ha).2
  have fb := (hq.2.2.2.1 b hb).2
  have hh := hq.1.2.2.1
  have ht := hq.1.2.2.2.2.1
  have bA := hA.b hq.1 (by omega) (by omega)
  have bB := hB.b hq.1 (by omega) (by omega)
  refine ⟨fun ⟨e, k, ⟨x, y, h1, h2, h3, h4, h5⟩, h6, h7⟩ => ?_, fun ⟨h1, h2, h3⟩ => ?_⟩
  · have gA := most_C h1 hA (by omega)
    have gB := most_C h3 hB (by omega)
    have za : ¬ fAt ρ a < ca := fun z => by have := gA.1 z; omega
    have zb : ¬ fAt ρ b < cb := fun z => by have := gB.1 z; omega
    have ea := gA.2 za
    have eb := gB.2 zb
    have hp : wat ρ p := by
      rcases h1 with ⟨z, -⟩ | ⟨-, z⟩
      · omega
      · exact way_wat _ _ _ _ (hq.2.2.2.1 a ha).1 z.1
    have := ((hL hp).lst h6).2 k h6
    rw [← ea.1, ← eb.1, ← h5]
    exact ⟨by omega, by omega, by omega⟩
  · rcases bA with bA | ⟨a1, a2, a3⟩
    · omega
    · rcases bB with bB | ⟨b1, b2, b3⟩
      · omega
      · have hp : wat ρ p := way_wat _ _ _ _ (hq.2.2.2.1 a ha).1 a3.1
        have g : gv ρ a b n p (if rI ρ 4 < fAt ρ a - ca + (fAt ρ b - cb) then rI ρ 4 else fAt ρ a - ca + (fAt ρ b - cb)) := by
          refine ⟨fAt ρ a - ca, fAt ρ b - cb, Or.inr ⟨by omega, ?_⟩, by omega, Or.inr ⟨by omega, ?_⟩, by omega, rfl⟩
          · rw [show fAt ρ a - (fAt ρ a - ca) = ca by omega]
            exact a3
          · rw [show fAt ρ b - (fAt ρ b - cb) = cb by omega]
            exact b3
        have gb := (g.wat hq ha).2
        rcases (hL hp).b hq.1 (by omega) (by omega) with z | ⟨z1, z2, z3⟩
        · omega
        · exact ⟨_, l, g, z3.1, h3⟩
theorem p_relayM {w : Sg} {ρ : Nat → Int32} {a b : Nat} {v1 v2 : Int32} {K : Int32 → Sg → Prop} (hq : okQ ρ) (h350 : w 350 = ρ) (ha : (a : Int) < rI ρ 3) (hb : (b : Int) < rI ρ 3) (e3 : (1089 + 3 * v1 + 2).toInt = 1091 + 3 * a) (f3 : (1089 + 3 * v2 + 2).toInt = 1091 + 3 * b)
    (hD : ∀ n, n ≤ 60 → w 361 n = cl20 (dAt ρ n)) (hA : ∀ n, n ≤ 60 → ∀ q, isP q → isC ρ n (rI ρ 2) (hAt ρ a) q (c20 w (364 + n) q)) (hB : ∀ n, n ≤ 60 → ∀ q, isP q → isC ρ n (rI ρ 2) (hAt ρ b) q (c20 w (426 + n) q))
    (k1 : ∀ (u : Nat) x, u ≤ 60 → canR ρ a b u → (∀ y, y < u → ¬ canR ρ a b y) → (∀ c, (c < 488 ∨ 549 ≤ c) → x c = w c) → K (nI u) x) (k2 : ∀ x, (∀ y, y ≤ 60 → ¬ canR ρ a b y) → (∀ c, (c < 488 ∨ 549 ≤ c) → x c = w c) → K (-1) x) : ∃ n9, m_X5_relay_l90 v1 v2 K n9 0 w := by
  have hr := hq.1
  have hh := hr.2.2.1
  have ht := hr.2.2.2.2.1
  have fa := (hq.2.2.2.1 a ha).2
  have fb := (hq.2.2.2.1 b hb).2
  have d60 : (60 : Int32).toInt = 60 := by decide
  have d240 : (240 : Int32).toInt = 240 := by decide
  -- one cell
  have cells : ∀ (KO90 : Int32 → Sg → Prop) (KO110 : Int32 → Int32 → Sg → Prop) (u n : Nat), u ≤ 60 → n ≤ u → ∀ x : Sg, (∀ c, (c < 488 ∨ 549 ≤ c) → x c = w c) → leadsM x ρ u (dAt ρ u) 0 → ((∃ p e k, gv ρ a b n p e ∧ way ρ (u - n) (rI ρ 2 + n) p (dAt ρ u) k ∧ k ≤ e) → K (nI u) x) → ((∀ p e k, gv ρ a b n p e → way ρ (u - n) (rI ρ 2 + n) p (dAt ρ u) k → ¬ k ≤ e) → KO110 (nI u) (nI n + 1) x) → ∀ m i : Nat, i + m = 240 → (∀ p : Int × Int, isP p → 20 * p.2 + p.1 < i → ∀ e k, gv ρ a b n p e → way ρ (u - n) (rI ρ 2 + n) p (dAt ρ u) k → ¬ k ≤ e) → m_X5_relay_l119 v1 v2 K KO90 KO110 (m + 1) (nI u) (nI n) (nI i) x := by
    intro KO90 KO110 u n hu hn x xw xL hK hN m
    induction m with
    | zero =>
      intro i hi h1
      have : i = 240 := by omega
      subst this
      refine ⟨fun _ => hN fun p e k hg hw2 => h1 p ?_ ?_ e k hg hw2, fun z => absurd (by decide) z⟩
      · exact onS_P hr (hg.wat hq ha).1.1
      · have := onS_P hr (hg.wat hq ha).1.1
        unfold isP at this
        omega
    | succ m ih =>
      intro i hi h1
      have ei := nI_toInt (n := i) (by omega)
      have x350 : x 350 = ρ := (xw 350 (by decide)).trans h350
      obtain ⟨p, hP, ep, e20⟩ := p20 (i := i) (by omega)
      have cA := hA n (by omega) p hP
      have cB := hB n (by omega) p hP
      have bA := cA.b hr (by omega) (by omega)
      have bB := cB.b hr (by omega) (by omega)
      have iff := canR_C hq ha hb hu hn cA cB (fun hp => xL n (Nat.zero_le _) hn p hp)
      have vA : (x (364 + n) i).toInt = c20 w (364 + n) p := by
        rw [xw _ (by omega)]
        unfold c20
        rw [← ep]
        rfl
      have vB : (x (426 + n) i).toInt = c20 w (426 + n) p := by
        rw [xw _ (by omega)]
        unfold c20
        rw [← ep]
        rfl
      have vL : (x (488 + n) i).toInt = c20 x (488 + n) p := by
        unfold c20
        rw [← ep]
        rfl
      have v61 : vp_in (nI n) 61 := nI_in (by omega) (by decide)
      have v240 : vp_in (nI i) 240 := nI_in (by omega) (by decide)
      have fua : ∀ K', K' (ρ (1091 + 3 * a)) x → m_X5_fuelOf v1 x K' := fun K' hk => p_X5_fuelOf (by rw [x350]; exact hq) a (by rw [x350]; exact ha) e3 (by rw [x350]; exact hk)
      have fub : ∀ K', K' (ρ (1091 + 3 * b)) x → m_X5_fuelOf v2 x K' := fun K' hk => p_X5_fuelOf (by rw [x350]; exact hq) b (by rw [x350]; exact hb) f3 (by rw [x350]; exact hk)
      have efa : (ρ (1091 + 3 * a)).toInt = fAt ρ a := rfl
      have efb : (ρ (1091 + 3 * b)).toInt = fAt ρ b := rfl
      have e1 : 363 + 1 + (nI n).toNatClampNeg = 364 + n := by rw [nI_clamp (by omega)]
      have e2 : 425 + 1 + (nI n).toNatClampNeg = 426 + n := by rw [nI_clamp (by omega)]
      have e4 : 487 + 1 + (nI n).toNatClampNeg = 488 + n := by rw [nI_clamp (by omega)]
      have next : ¬ hitR ρ a b u n p → m_X5_relay_l119 v1 v2 K KO90 KO110 (m + 1) (nI u) (nI n) (nI i + 1) x := by
        intro hno
        rw [← nI_succ]
        refine ih (i + 1) (by omega) fun q hqP hqi e k hg hw2 hke => ?_
        by_cases z : 20 * q.2 + q.1 = i
        · have eq : q = p := p20_inj hqP hP (by omega)
          rw [eq] at hg hw2
          exact hno ⟨e, k, hg, hw2, hke⟩
        · exact h1 q hqP (by omega) e k hg hw2 hke
      unfold m_X5_relay_l119
      rw [e1, e2, e4, nI_clamp (show i < 2147483648 by omega)]
      refine ⟨fun z => ?_, fun _ => ⟨v61, v240, fua _ ⟨fun z => next fun y => ?_, fun z => ⟨v61, v240, fub _ ⟨fun y => ⟨v61, v240, by rw [ti_in]; decide, fua _ ⟨v61, v240, fub _ ⟨v61, v240, p_X5_less ?_⟩⟩⟩, fun y => next fun q => ?_⟩⟩⟩⟩⟩
      · rw [ti_le, d240, ei] at z
        omega
      · rw [ti_lt, vA, efa] at z
        have := iff.mp y
        omega
      · rw [ti_lt, vA, efa] at z
        rw [ti_le, vB, efb] at y
        have s1 : (ρ (1091 + 3 * a) - x (364 + n) i).toInt = fAt ρ a - c20 w (364 + n) p := by rw [ti_sub (by rw [efa, vA]; omega) (by rw [efa, vA]; omega), efa, vA]
        have s2 : (ρ (1091 + 3 * a) - x (364 + n) i + ρ (1091 + 3 * b)).toInt = fAt ρ a - c20 w (364 + n) p + fAt ρ b := by rw [ti_add (by rw [s1, efb]; omega) (by rw [s1, efb]; omega), s1, efb]
        have s3 : (ρ (1091 + 3 * a) - x (364 + n) i + ρ (1091 + 3 * b) - x (426 + n) i).toInt = fAt ρ a - c20 w (364 + n) p + (fAt ρ b - c20 w (426 + n) p) := by
          rw [ti_sub (by rw [s2, vB]; omega) (by rw [s2, vB]; omega), s2, vB]
          omega
        have et : (x 350 (4 : Int32).toNatClampNeg).toInt = rI ρ 4 := by rw [x350]; rfl
        have em : (if (ρ (1091 + 3 * a) - x (364 + n) i + ρ (1091 + 3 * b) - x (426 + n) i).toInt ≤ (x 350 (4 : Int32).toNatClampNeg).toInt then ρ (1091 + 3 * a) - x (364 + n) i + ρ (1091 + 3 * b) - x (426 + n) i else x 350 (4 : Int32).toNatClampNeg).toInt = (if rI ρ 4 < fAt ρ a - c20 w (364 + n) p + (fAt ρ b - c20 w (426 + n) p) then rI ρ 4 else fAt ρ a - c20 w (364 + n) p + (fAt ρ b - c20 w (426 + n) p)) := by
          rw [s3, et]
          split
          · rw [if_neg (by omega), s3]
          · rw [if_pos (by omega), et]
        refine ⟨fun g => next fun q => ?_, fun g => hK ?_⟩
        · rw [ti_lt, vL, em] at g
          have := iff.mp q
          omega
        · rw [ti_lt, vL, em] at g
          obtain ⟨e, k, hh1⟩ := iff.mpr ⟨by omega, y, by omega⟩
          exact ⟨p, e, k, hh1⟩
      · rw [ti_le, vB, efb] at y
        have := iff.mp q
        omega
  -- all hours of giving
  have gives : ∀ (KO90 : Int32 → Sg → Prop) (u : Nat), u ≤ 60 → ∀ x : Sg, (∀ c, (c < 488 ∨ 549 ≤ c) → x c = w c) → leadsM x ρ u (dAt ρ u) 0 → (canR ρ a b u → K (nI u) x) → (¬ canR ρ a b u → KO90 (nI u + 1) x) → ∀ m n : Nat, n + m = u + 1 → (∀ i, i < n → ∀ p e k, gv ρ a b i p e → way ρ (u - i) (rI ρ 2 + i) p (dAt ρ u) k → ¬ k ≤ e) → m_X5_relay_l110 v1 v2 K KO90 (m + 1) (nI u) (nI n) x := by
    intro KO90 u hu x xw xL hK hN m
    have eu := nI_toInt (n := u) (by omega)
    induction m with
    | zero =>
      intro n hn h1
      have en := nI_toInt (n := n) (by omega)
      refine ⟨fun _ => hN fun ⟨i, p, e, k, g1, g2, g3, g4⟩ => h1 i (by omega) p e k g2 g3 g4, fun z => ?_⟩
      rw [ti_lt, eu, en] at z
      omega
    | succ m ih =>
      intro n hn h1
      have en := nI_toInt (n := n) (by omega)
      refine ⟨fun z => ?_, fun _ => ⟨241, cells KO90 _ u n hu (by omega) x xw xL (fun ⟨p, e, k, g1, g2, g3⟩ => hK ⟨n, p, e, k, by omega, g1, g2, g3⟩) (fun hno => ?_) 240 0 (by omega) fun p hP hpi => ?_⟩⟩
      · rw [ti_lt, eu, en] at z
        omega
      · rw [← nI_succ]
        refine ih (n + 1) (by omega) fun i hi p e k => ?_
        by_cases z : i = n
        · subst z
          exact hno p e k
        · exact h1 i (by omega) p e k
      · unfold isP at hP
        omega
  have hours : ∀ m u : Nat, u + m = 61 → ∀ x : Sg, (∀ c, (c < 488 ∨ 549 ≤ c) → x c = w c) → (∀ y, y < u → ¬ canR ρ a b y) → m_X5_relay_l90 v1 v2 K (m + 1) (nI u) x := by
    intro m
    induction m with
    | zero =>
      intro u hu x xw h1
      have : u = 61 := by omega
      subst this
      exact ⟨fun _ => k2 x (fun y hy => h1 y (by omega)) xw, fun z => absurd (by decide) z⟩
    | succ m ih =>
      intro u hu x xw h1
      have eu := nI_toInt (n := u) (by omega)
      have x350 : x 350 = ρ := (xw 350 (by decide)).trans h350
      refine ⟨fun z => ?_, fun _ => ⟨nI_in (by omega) (by decide), ?_⟩⟩
      · rw [ti_lt, d60, eu] at z
        omega
      · rw [nI_clamp (by omega), xw 361 (by decide), hD u (by omega)]
        refine p_leads (by rw [x350]; exact hr) (by omega) (by rw [x350]; exact dAt_wat hq u) fun y y1 y2 => ⟨u + 2, ?_⟩
        rw [x350] at y1
        have yw : ∀ c, (c < 488 ∨ 549 ≤ c) → y c = w c := fun c hc => (y2 c hc).trans (xw c hc)
        refine gives _ u (by omega) y yw y1 (fun hc => k1 u y (by omega) hc h1 yw) (fun hc => ?_) (u + 1) 0 (by omega) fun i hi => absurd hi (Nat.not_lt_zero _)
        rw [← nI_succ]
        refine ih (u + 1) (by omega) y yw fun z hz => ?_
        by_cases e : z = u
        · subst e
          exact hc
        · exact h1 z (by omega)
  exact ⟨62, hours 61 0 (by decide) w (fun _ _ => rfl) fun y hy => absurd hy (Nat.not_lt_zero _)⟩
theorem ob_relay : obl_relay Rel := by
  intro σc σm v p1 p2 hR
  have hq := hR.1.1
  have hr := hq.1
  have hw := hR.1.2
  have hh := hr.2.2.1
  have d60 : (60 : Int32).toInt = 60 := by decide
  by_cases h1 : 0 ≤ p1.toInt ∧ p1.toInt < rI (σm 350) 3
  · refine p_helpY hw h1 ?_
    by_cases h2 : 0 ≤ p2.toInt ∧ p2.toInt < rI (σm 350) 3
    · refine p_helpY hw h2 ?_
      obtain ⟨a, a3, ha, a0, e1, e2, e3⟩ := hix hr h1
      obtain ⟨b, b3, hb, b0, f1, f2, f3⟩ := hix hr h2
      subst a0
      subst b0
      refine ⟨fun z => p_need0 (Or.inr ⟨rfl, ?_⟩), fun z => p_need1 (p_refresh hR fun s hRs s9 hF sk => ?_)⟩
      · intro s hs
        have e350 : s 350 = σm 350 := by rw [hs]; exact st2_row (by decide)
        obtain ⟨h0, h⟩ := start hR s hs
        refine p_X5_isHelper h.1.1.1 ?_
        rw [e350, if_pos h1]
        refine ⟨fun z => absurd z one0, fun _ => p_X5_isHelper h.1.1.1 ?_⟩
        rw [e350, if_pos h2]
        refine ⟨fun _ => p_bad0 h0 ⟨fun z => absurd rfl z, fun _ => ⟨fun y => absurd z y, fun _ => leafR h h0 1 (by decide) (by decide)⟩⟩, fun z => absurd z one0⟩
      · have ref : ∀ (t : Sg) (u : Int32), Rel t σm → ((∀ y, y ≤ 60 → ¬ canR (σm 350) a b y) → u = -1) → (∀ n, n ≤ 60 → canR (σm 350) a b n → (∀ y, y < n → ¬ canR (σm 350) a b y) → u = nI n) → K_relay Rel (nI a) (nI b) σm 0 t u.toInt64 := by
          intro t u hRt c1 c2 s hs
          have e350 : s 350 = σm 350 := by rw [hs]; exact st2_row (by decide)
          obtain ⟨h0, h⟩ := start hRt s hs
          refine p_X5_isHelper h.1.1.1 ?_
          rw [e350, if_pos h1]
          refine ⟨fun z => absurd z one0, fun _ => p_X5_isHelper h.1.1.1 ?_⟩
          rw [e350, if_pos h2]
          refine ⟨fun _ => p_bad0 h0 ⟨fun z => absurd rfl z, fun _ => ⟨fun _ => p_bad0 h0 ⟨fun _ => p_looksAhead h.1.1 fun g ⟨g1, g2⟩ => ?_, fun z => absurd rfl z⟩, fun y => absurd y z⟩⟩, fun z => absurd z one0⟩
          rw [e350] at g1
          have g350 : g 350 = σm 350 := (g2 350 (by decide) (by decide)).trans e350
          refine p_X5_helperCell (by rw [g350]; exact hq) a (by rw [g350]; exact ha) e1 e2 ?_
          rw [g350]
          refine p_spreads (m0 := 0) (by rw [g350]; exact hr) (Or.inl rfl) (by decide) (by rw [g350]; exact (hq.2.2.2.1 a ha).1) fun k k1 k2 => ?_
          rw [g350] at k1
          have k350 : k 350 = σm 350 := (k2 350 (by decide)).trans g350
          refine p_X5_helperCell (by rw [k350]; exact hq) b (by rw [k350]; exact hb) f1 f2 ?_
          rw [k350]
          refine p_spreads (m0 := 0) (by rw [k350]; exact hr) (Or.inr (Or.inl rfl)) (by decide) (by rw [k350]; exact (hq.2.2.2.1 b hb).1) fun l l1 l2 => ?_
          rw [k350] at l1
          have l350 : l 350 = σm 350 := (l2 350 (by decide)).trans k350
          have lc : ∀ c, (c < 361 ∨ 549 ≤ c) → l c = s c := fun c hc => (l2 c (by omega)).trans ((k2 c (by omega)).trans (g2 c (by omega) (by omega)))
          have fin : ∀ x : Sg, (∀ c, (c < 488 ∨ 549 ≤ c) → x c = l c) → x 347 0 = 0 ∧ Rel t x := fun x hx => by
            have xc : ∀ c, (c < 361 ∨ 549 ≤ c) → x c = s c := fun c hc => (hx c (by omega)).trans (lc c hc)
            exact ⟨by rw [xc 347 (by decide)]; exact h0, h.side fun k hk => xc k (by omega)⟩
          refine p_relayM (a := a) (b := b) hq l350 ha hb e3 f3 (fun n hn => ?_) (fun n hn q hqP => ?_) (fun n hn q hqP => ?_) (fun n x hn hc hno hx => ?_) (fun x hno hx => ?_)
          · rw [l2 361 (by decide), k2 361 (by decide)]
            exact (g1 n hn).1
          · have g := k1 n (Nat.zero_le _) hn q hqP
            rw [show n - 0 = n from rfl, show rI (σm 350) 2 + ((0 : Nat) : Int) = rI (σm 350) 2 by omega, show 363 + 1 + n = 364 + n by omega] at g
            unfold c20 at g ⊢
            rw [l2 _ (by omega)]
            exact g
          · have g := l1 n (Nat.zero_le _) hn q hqP
            rw [show n - 0 = n from rfl, show rI (σm 350) 2 + ((0 : Nat) : Int) = rI (σm 350) 2 by omega, show 425 + 1 + n = 426 + n by omega] at g
            exact g
          · obtain ⟨x0, xR⟩ := fin x hx
            exact ⟨x0, fun _ => by rw [c2 n hn hc hno], xR⟩
          · obtain ⟨x0, xR⟩ := fin x hx
            exact ⟨x0, fun _ => by rw [c1 hno], xR⟩
        -- the class
        have tell : ∀ u : Sg, Fresh u (σm 350) → (∀ c, (c < 88 ∨ 282 ≤ c) → u c = s c) → Rel u σm := fun u uF uc => hRs.look (fun k hk => uc k (by omega)) (by rw [uc 19 (by decide)]; exact s9) uF
        have key : ∀ m n : Nat, n + m = 61 → ∀ u : Sg, Fresh u (σm 350) → (∀ c, (c < 88 ∨ 282 ≤ c) → u c = s c) → (∀ y, y < n → ¬ canR (σm 350) a b y) → (n = 0 → ∀ q : Int × Int, onS (σm 350) q.1 q.2 = true → rl (σm 350) a b 0 0 q (cv u 88 (rI (σm 350) 0) q)) → (0 < n → ∀ q : Int × Int, onS (σm 350) q.1 q.2 = true → rl (σm 350) a b (n - 1) n q (cv u (88 + (n - 1) % 2) (rI (σm 350) 0) q)) → m_X0_relayOf_l12 (nI a) (nI b) (fun r37 s37 => K_relay Rel (nI a) (nI b) σm 0 s37 r37.toInt64) (m + 1) (nI n) u := by
          intro m
          induction m with
          | zero =>
            intro n hn u uF uc hno _ _
            have : n = 61 := by omega
            subst this
            exact ⟨fun _ => ref u (-1) (tell u uF uc) (fun _ => rfl) fun n' hn' hc' _ => absurd hc' (hno n' (by omega)), fun z => absurd (by decide) z⟩
          | succ m ih =>
            intro n hn u uF uc hno hz hp
            have en := nI_toInt (n := n) (by omega)
            have j52 : ∀ x : Sg, Fresh x (σm 350) → (∀ c, (c < 88 ∨ 282 ≤ c) → x c = s c) → (∀ q : Int × Int, onS (σm 350) q.1 q.2 = true → rl (σm 350) a b n n q (cv x (88 + n % 2) (rI (σm 350) 0) q)) → m_X0_relayOf_j52 (nI a) (nI b) (fun r37 s37 => K_relay Rel (nI a) (nI b) σm 0 s37 r37.toInt64) (fun l3 σ => m_X0_relayOf_l12 (nI a) (nI b) (fun r37 s37 => K_relay Rel (nI a) (nI b) σm 0 s37 r37.toInt64) (m + 1) l3 σ) (nI n) (88 + n % 2) x := by
              intro x xF xc xM
              refine p_mostsOf hq (tell x xF xc).1.2 xF a3 ha (by omega) fun y yF yw yn => ?_
              have yc : ∀ c, (c < 88 ∨ 282 ≤ c) → y c = s c := fun c hc => (yw.1 c (by omega)).trans (xc c hc)
              refine p_mostsOf hq (tell y yF yc).1.2 yF b3 hb (by omega) fun g gF gw gn => ?_
              have gc : ∀ c, (c < 88 ∨ 282 ≤ c) → g c = s c := fun c hc => (gw.1 c (by omega)).trans (yc c hc)
              have gA := (gF.2.2.2.2.2.2 a a3 ha).1 n (by have := gw.2 a a3; omega)
              have gB := (gF.2.2.2.2.2.2 b b3 hb).1 n gn
              refine p_giveFuel hq (tell g gF gc).1.2 gF.1 (S_m0 a a3 n (by omega)).2.2 (S_m0 b b3 n (by omega)).2.2 (U_0 _ (by omega)).2.2 (by omega) (by omega) (by omega) ha hb (by omega) gA gB (fun q ho => ?_) fun k k1 k2 => ⟨nI_in (by omega) (by decide), ?_⟩
              · have e := xM q ho
                unfold cv at e ⊢
                rw [gw.1 _ (by omega), yw.1 _ (by omega)]
                exact e
              · have kF : Fresh k (σm 350) := gF.lit fun i _ _ h3 => k2 i (by omega)
                have kc : ∀ c, (c < 88 ∨ 282 ≤ c) → k c = s c := fun c hc => (k2 c (by omega)).trans (gc c hc)
                have ho := (dAt_wat hq n).1
                have oc := onS_cell hr ho
                have ec := clW_i hr ho
                have hcan := (k1 _ ho).can
                unfold cv at hcan
                rw [nI_clamp (by omega), kF.2.1 n (by omega)]
                refine p_X4_read (U_0 _ (by omega)).2.2 (by decide) (by omega) (by omega) ?_
                rw [ec]
                refine ⟨fun z => ?_, fun z => ?_⟩
                · rw [← nI_succ]
                  refine ih (n + 1) (by omega) k kF kc (fun y' hy' => ?_) (fun e => absurd e (by omega)) (fun _ q hoq => ?_)
                  · by_cases e : y' = n
                    · subst e
                      exact fun q => hcan.mpr q (by rw [z, dm1])
                    · exact hno y' (by omega)
                  · rw [show n + 1 - 1 = n by omega]
                    exact k1 q hoq
                · have hc := hcan.mp fun e => z (by rw [ti_eq, e, dm1])
                  refine ref k (nI n) (tell k kF kc) (fun q => absurd hc (q n (by omega))) fun n' hn' hc' hno' => ?_
                  rcases Nat.lt_trichotomy n n' with q | q | q
                  · exact absurd hc (hno' n q)
                  · rw [q]
                  · exact absurd hc' (hno n' q)
            refine ⟨fun z => ?_, fun _ => ?_⟩
            · rw [ti_lt, d60, en] at z
              omega
            · refine ⟨by rw [mod2 (by omega)]; exact nI_in (by omega) (by decide), fun y => ?_, fun y => ?_⟩
              · rw [ti_le, d0, en] at y
                have n0 : n = 0 := by omega
                subst n0
                exact j52 u uF uc (hz rfl)
              · rw [ti_le, d0, en] at y
                have g := p_turn (s := u) (kk := 1) (n := n) (K := fun s49 => m_X0_relayOf_j52 (nI a) (nI b) (fun r37 s37 => K_relay Rel (nI a) (nI b) σm 0 s37 r37.toInt64) (fun l3 σ => m_X0_relayOf_l12 (nI a) (nI b) (fun r37 s37 => K_relay Rel (nI a) (nI b) σm 0 s37 r37.toInt64) (m + 1) l3 σ) (nI n) (88 + n % 2) s49) hr uF.look (by omega) (by omega) (Or.inl d1) (fun q ho => ?_) fun x x1 x2 => ?_
                · rw [mod2 (n := n) (by omega), nI_clamp (n := n % 2) (by omega)] at g ⊢
                  exact ⟨g.1, g.2.2⟩
                · have := (hp (by omega) q ho).1
                  omega
                · refine j52 x (uF.lit fun k _ _ h3 => x2 k (by omega)) (fun c hc => (x2 c (by omega)).trans (uc c hc)) fun q ho => ?_
                  rw [d1] at x1
                  have := rl.step hq ha (n := n - 1) (by omega) (F := cv u (88 + (n - 1) % 2) (rI (σm 350) 0)) (fun q' ho' => by
                    rw [show n - 1 + 1 = n by omega]
                    exact hp (by omega) q' ho') x1 q ho
                  rw [show n - 1 + 1 = n by omega] at this
                  exact this
        refine ⟨by rw [ti_in]; decide, p_fill (U_0 0 (by decide)).2.2 (by decide) fun u u1 u2 => ⟨62, ?_⟩⟩
        refine key 61 0 (by decide) u (hF.lit fun k _ _ h3 => u2 k (by rw [show (0 : Int32).toNatClampNeg = 0 by decide]; omega)) (fun c hc => u2 c (by rw [show (0 : Int32).toNatClampNeg = 0 by decide]; omega)) (fun y hy => absurd hy (Nat.not_lt_zero _)) (fun _ q ho => ?_) (fun e => absurd e (by omega))
        have oc := onS_cell hr ho
        have e : cv u 88 (rI (σm 350) 0) q = -1 := by
          unfold cv
          have := u1 (rI (σm 350) 0 * q.2 + q.1).toNat (by omega)
          rw [show 88 + (0 : Int32).toNatClampNeg = 88 by decide] at this
          rw [this, dm1]
        rw [e]
        exact ⟨by omega, fun i g e k hi => absurd hi (Nat.not_lt_zero _), Or.inl rfl⟩
    · refine p_helpN hw h2 (Or.inl ⟨rfl, ?_⟩)
      intro s hs
      have e350 : s 350 = σm 350 := by rw [hs]; exact st2_row (by decide)
      obtain ⟨h0, h⟩ := start hR s hs
      refine p_X5_isHelper h.1.1.1 ?_
      rw [e350, if_pos h1]
      refine ⟨fun z => absurd z one0, fun _ => p_X5_isHelper h.1.1.1 ?_⟩
      rw [e350, if_neg h2]
      exact ⟨fun z => absurd rfl z, fun _ => leafL h h0 0 (by decide) (by decide)⟩
  · refine p_helpN hw h1 (Or.inl ⟨rfl, ?_⟩)
    intro s hs
    have e350 : s 350 = σm 350 := by rw [hs]; exact st2_row (by decide)
    obtain ⟨h0, h⟩ := start hR s hs
    refine p_X5_isHelper h.1.1.1 ?_
    rw [e350, if_neg h1]
    exact ⟨fun _ => leafL h h0 0 (by decide) (by decide), fun z => absurd rfl z⟩
