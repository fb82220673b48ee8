/-! the most fuel, the earliest hour: the class -/
/-- v is the most fuel left of f, each course costing so many times as much; -1 if none can be -/
def isMo (ρ : Nat → Int32) (kk : Int) (m : Nat) (t : Int) (p q : Int × Int) (f v : Int) : Prop := (v = -1 ∧ ∀ k, way ρ m t p q k → f < kk * k) ∨ (0 ≤ v ∧ ∃ j, lst ρ m t p q j ∧ v = f - kk * j)
theorem isMo_1 {ρ : Nat → Int32} {m : Nat} {t : Int} {p q : Int × Int} {f v : Int} : isMo ρ 1 m t p q f v ↔ isMost ρ m t p q f v := by
  refine ⟨fun h => ?_, fun h => ?_⟩
  · rcases h with ⟨h1, h2⟩ | ⟨h1, j, h2, h3⟩
    · exact Or.inl ⟨h1, fun k hk => by have := h2 k hk; omega⟩
    · refine Or.inr ⟨h1, ?_⟩
      rw [show f - v = j by omega]
      exact h2
  · rcases h with ⟨h1, h2⟩ | ⟨h1, h2⟩
    · exact Or.inl ⟨h1, fun k hk => by have := h2 k hk; omega⟩
    · exact Or.inr ⟨h1, f - v, h2, by omega⟩
theorem isMo.b {ρ : Nat → Int32} (hr : okR ρ) {kk : Int} (hk : kk = 1 ∨ kk = 2) {m : Nat} {t : Int} (h0 : 0 ≤ t) (h1 : t + m ≤ 561) {p q : Int × Int} {f v : Int} (hf : 0 ≤ f) (h : isMo ρ kk m t p q f v) : -1 ≤ v ∧ v ≤ f := by
  rcases h with ⟨a, -⟩ | ⟨a, j, b, c⟩
  · omega
  · have := way_b hr m t p j h0 h1 b.1
    rcases hk with rfl | rfl <;> omega
theorem isMo_0 {ρ : Nat → Int32} {kk : Int} {t : Int} {p q : Int × Int} {f : Int} (hf : 0 ≤ f) : isMo ρ kk 0 t p q f (if q = p then f else -1) := by
  by_cases e : q = p
  · rw [if_pos e, e]
    exact Or.inr ⟨hf, 0, ⟨⟨rfl, rfl⟩, fun j hj => by rw [hj.2]; exact Int.le_refl _⟩, by omega⟩
  · rw [if_neg e]
    exact Or.inl ⟨rfl, fun k hk => absurd hk.1.symm e⟩
theorem isMo.step {ρ : Nat → Int32} (hr : okR ρ) {kk : Int} (hk : kk = 1 ∨ kk = 2) {m : Nat} {t : Int} (h0 : 0 ≤ t) (h1 : t + m ≤ 560) {p : Int × Int} {f : Int} (hp : wat ρ p) {F G : Int × Int → Int} (hF : ∀ q, onS ρ q.1 q.2 = true → isMo ρ kk m t p q f (F q)) (hS : stepP ρ (t + m) kk F G (fun _ _ => True)) (q : Int × Int) (hq : onS ρ q.1 q.2 = true) : isMo ρ kk (m + 1) t p q f (G q) := by
  obtain ⟨a1, a2, a3⟩ := hS q hq
  have low : ∀ k, way ρ (m + 1) t p q k → f - kk * k ≤ G q ∨ f < kk * k := by
    intro k hw
    obtain ⟨r, c, j, w1, w2, w3, w4⟩ := way_last.mp hw
    have ro := (way_wat m t p j hp w1).1
    have cb := cst_b w2.1 (wnd_D hr (t := t + m) (by omega) (by omega))
    rcases hF r ro with ⟨f1, f2⟩ | ⟨f1, j0, f2, f3⟩
    · have := f2 j w1
      right
      rcases hk with rfl | rfl <;> omega
    · have g := a2 r c ro w2 w3 (by omega) trivial
      have l := f2.2 j w1
      left
      rcases hk with rfl | rfl <;> omega
  have none : G q = -1 → isMo ρ kk (m + 1) t p q f (G q) := fun e => Or.inl ⟨e, fun k hw => by have := low k hw; omega⟩
  rcases a3 with a3 | ⟨p', c, b1, b2, b3, b4, b5⟩
  · exact none a3
  · by_cases z : 0 ≤ G q
    · rcases hF p' b1 with ⟨f1, -⟩ | ⟨f1, j0, f2, f3⟩
      · omega
      · refine Or.inr ⟨z, j0 + cst c (wnd ρ (t + m)), ⟨way_last.mpr ⟨p', c, j0, f2.1, b2, b3, rfl⟩, fun k hw => ?_⟩, ?_⟩
        · have l := low k hw
          rcases hk with rfl | rfl <;> omega
        · rcases hk with rfl | rfl <;> omega
    · exact none (by omega)
theorem Rel.look {σc σm s : Sg} (h : Rel σc σm) (e : ∀ k, (k < 19 ∨ 282 ≤ k) → s k = σc k) (h9 : s 19 9 = 1) (hF : Fresh s (σm 350)) : Rel s σm := by
  obtain ⟨a1, a2, a3, a4, -, a6⟩ := h
  refine ⟨a1.c fun k h1 h2 => e k (by omega), a2.c (by rw [e 0 (by omega)]) (by rw [e 0 (by omega)]) (fun k h1 h2 => e k (by omega)), ?_, ?_, Or.inr ⟨h9, hF⟩, a6⟩
  · unfold R3
    rw [e 0 (by omega), e 1 (by omega)]
    exact a3
  · unfold R4
    rw [e 0 (by omega)]
    exact a4
theorem Fresh.more {s u : Sg} {ρ : Nat → Int32} {h i : Nat} (hF : Fresh s ρ) (h3 : h < 3) (hi : i ≤ 60) (hk : (s (90 + 64 * h) 2).toInt = i) (e : ∀ k, k ≠ 90 + 64 * h → k ≠ 90 + 64 * h + 2 + i → u k = s k) (e2 : (u (90 + 64 * h) 2).toInt = i + 1) (e3 : ∀ j, j ≠ 2 → u (90 + 64 * h) j = s (90 + 64 * h) j)
    (hM : ∀ q : Int × Int, onS ρ q.1 q.2 = true → isMost ρ i (rI ρ 2) (hAt ρ h) q (fAt ρ h) (cv u (90 + 64 * h + 2 + i) (rI ρ 0) q)) : Fresh u ρ := by
  obtain ⟨a1, a2, a3, a4, a5, a6, a7⟩ := hF
  refine ⟨by rw [e 19 (by omega) (by omega)]; exact a1, fun n hn => by rw [e 20 (by omega) (by omega)]; exact a2 n hn, fun n hn => by rw [e 21 (by omega) (by omega)]; exact a3 n hn, fun p c hp hc => by rw [e 22 (by omega) (by omega)]; exact a4 p c hp hc, fun n c hn hc => by rw [e 23 (by omega) (by omega)]; exact a5 n c hn hc, fun x hx => ?_, fun x hx hm => ?_⟩
  · by_cases z : x = h
    · subst z
      obtain ⟨b1, b2, b3⟩ := a6 x hx
      rw [e2, e3 3 (by decide)]
      exact ⟨by omega, by omega, b3⟩
    · rw [e (90 + 64 * x) (by omega) (by omega)]
      exact a6 x hx
  · obtain ⟨b1, b2⟩ := a7 x hx hm
    by_cases z : x = h
    · subst z
      refine ⟨fun n hn q ho => ?_, fun y => ?_⟩
      · by_cases w : n = i
        · subst w
          exact hM q ho
        · rw [e (90 + 64 * x + 2 + n) (by omega) (by omega)]
          exact b1 n (by omega) q ho
      · rw [e3 3 (by decide)] at y
        rw [e (90 + 64 * x + 63) (by omega) (by omega)]
        exact b2 y
    · have hk6 := a6 x hx
      refine ⟨fun n hn q ho => ?_, fun y => ?_⟩
      · rw [e (90 + 64 * x) (by omega) (by omega)] at hn
        rw [e (90 + 64 * x + 2 + n) (by omega) (by omega)]
        exact b1 n hn q ho
      · rw [e (90 + 64 * x) (by omega) (by omega)] at y
        rw [e (90 + 64 * x + 63) (by omega) (by omega)]
        exact b2 y
theorem Fresh.lit {s u : Sg} {ρ : Nat → Int32} (hF : Fresh s ρ) (e : ∀ k, 19 ≤ k → k ≤ 281 → (k < 26 ∨ 90 ≤ k) → u k = s k) : Fresh u ρ := by
  obtain ⟨a1, a2, a3, a4, a5, a6, a7⟩ := hF
  refine ⟨by rw [e 19 (by omega) (by omega) (by omega)]; exact a1, fun n hn => by rw [e 20 (by omega) (by omega) (by omega)]; exact a2 n hn, fun n hn => by rw [e 21 (by omega) (by omega) (by omega)]; exact a3 n hn, fun p c hp hc => by rw [e 22 (by omega) (by omega) (by omega)]; exact a4 p c hp hc, fun n c hn hc => by rw [e 23 (by omega) (by omega) (by omega)]; exact a5 n c hn hc, fun x hx => ?_, fun x hx hm => ?_⟩
  · rw [e (90 + 64 * x) (by omega) (by omega) (by omega)]
    exact a6 x hx
  · obtain ⟨b1, b2⟩ := a7 x hx hm
    have hk6 := a6 x hx
    rw [e (90 + 64 * x) (by omega) (by omega) (by omega), e (90 + 64 * x + 63) (by omega) (by omega) (by omega)]
    refine ⟨fun n hn q ho => ?_, b2⟩
    rw [e (90 + 64 * x + 2 + n) (by omega) (by omega) (by omega)]
    exact b1 n hn q ho
theorem p_sailingOf {h : Nat} {s : Sg} {K : Nat → Sg → Prop} (h3 : h < 3) (k : K (90 + 64 * h) s) : m_X0_sailingOf (nI h) s K := by
  have eh := nI_toInt (n := h) (by omega)
  have e1 : ¬ ((Int32.ofNat 3) - 1) < nI h := by
    rw [ti_lt, eh, show ((Int32.ofNat 3) - 1).toInt = 2 by decide]
    omega
  have e2 : (if (0 : Int32) < nI h then nI h else 0) = nI h := by
    split
    · rfl
    · next z =>
      rw [ti_lt, d0, eh] at z
      rw [ti_eq, d0, eh]
      omega
  unfold m_X0_sailingOf
  rw [if_neg e1, e2]
  refine ⟨nI_in h3 (by decide), ?_⟩
  rw [nI_clamp (by omega)]
  exact k
def wider (u s : Sg) : Prop := (∀ c, (c < 90 ∨ 282 ≤ c) → u c = s c) ∧ ∀ x, x < 3 → (s (90 + 64 * x) 2).toInt ≤ (u (90 + 64 * x) 2).toInt
theorem wider.refl (s : Sg) : wider s s := ⟨fun _ _ => rfl, fun _ _ => Int.le_refl _⟩
theorem wider.trans {u v s : Sg} (a : wider u v) (b : wider v s) : wider u s := ⟨fun c hc => (a.1 c hc).trans (b.1 c hc), fun x hx => Int.le_trans (b.2 x hx) (a.2 x hx)⟩
theorem p_mostsOf {s : Sg} {ρ : Nat → Int32} {h n : Nat} {K : Nat → Sg → Prop} (hq : okQ ρ) (hw : Rw s 2 ρ) (hF : Fresh s ρ) (h3 : h < 3) (hh : (h : Int) < rI ρ 3) (hn : n ≤ 60)
    (k : ∀ u, Fresh u ρ → wider u s → (n : Int) < (u (90 + 64 * h) 2).toInt → K (90 + 64 * h + 2 + n) u) : m_X0_mostsOf (nI h) (nI n) s K := by
  have hr := hq.1
  have h2 := hr.2.2.1
  have en := nI_toInt (n := n) (by omega)
  have eh := nI_toInt (n := h) (by omega)
  have d60 : (60 : Int32).toInt = 60 := by decide
  obtain ⟨⟨hW1, hW2⟩, hf0, hf1⟩ := hq.2.2.2.1 h hh
  obtain ⟨r1, r2⟩ := hw.2.2.2.1 h hh
  have c1 : ¬ (60 : Int32) < nI n := by
    rw [ti_lt, d60, en]
    omega
  have c2 : (if (0 : Int32) < nI n then nI n else 0) = nI n := by
    split
    · rfl
    · next z =>
      rw [ti_lt, d0, en] at z
      rw [ti_eq, d0, en]
      omega
  have key : ∀ m i : Nat, n + 1 ≤ i + m → i ≤ 61 → ∀ u : Sg, Fresh u ρ → wider u s → (u (90 + 64 * h) 2).toInt = i → m_X0_mostsOf_l16 (nI h) (nI n) K (m + 1) (90 + 64 * h) (nI i) u := by
    intro m
    induction m with
    | zero =>
      intro i hi hi2 u uF uw u2
      have ei := nI_toInt (n := i) (by omega)
      unfold m_X0_mostsOf_l16
      rw [if_neg c1, c2]
      refine ⟨fun _ => ⟨nI_in (by omega) (by decide), ?_⟩, fun z => ?_⟩
      · rw [nI_clamp (by omega)]
        exact k u uF uw (by omega)
      · rw [ti_lt, ei, en] at z
        omega
    | succ m ih =>
      intro i hi hi2 u uF uw u2
      have ei := nI_toInt (n := i) (by omega)
      unfold m_X0_mostsOf_l16
      rw [if_neg c1, c2]
      refine ⟨fun z => ⟨nI_in (by omega) (by decide), ?_⟩, fun z => ⟨fun y => ?_, fun _ => ?_⟩⟩
      · rw [ti_lt, ei, en] at z
        rw [nI_clamp (by omega)]
        exact k u uF uw (by omega)
      · rw [ti_lt, d60, ei] at y
        rw [ti_lt, ei, en] at z
        omega
      · rw [ti_lt, ei, en] at z
        have fin : ∀ v : Sg, (∀ c, c ≠ 90 + 64 * h + 2 + i → v c = u c) → (∀ q : Int × Int, onS ρ q.1 q.2 = true → isMost ρ i (rI ρ 2) (hAt ρ h) q (fAt ρ h) (cv v (90 + 64 * h + 2 + i) (rI ρ 0) q)) → m_X0_mostsOf_j93 (nI h) (nI n) K (fun l3 l4 σ => m_X0_mostsOf_l16 (nI h) (nI n) K (m + 1) l3 l4 σ) (90 + 64 * h) (nI i) v := by
          intro v v1 v2 t ht
          have t2 : (t (90 + 64 * h) 2).toInt = i + 1 := by rw [ht, st2_same, ti_add (by rw [ei, d1]; omega) (by rw [ei, d1]; omega), ei, d1]
          have tc : ∀ c, c ≠ 90 + 64 * h → c ≠ 90 + 64 * h + 2 + i → t c = u c := fun c hc1 hc2 => by rw [ht, st2_row hc1, v1 c hc2]
          have tF : Fresh t ρ := uF.more h3 (by omega) u2 tc t2 (fun j hj => by rw [ht, st2_j hj, v1 _ (by omega)]) fun q ho => by
            unfold cv
            rw [ht, st2_k (by omega)]
            exact v2 q ho
          rw [← nI_succ]
          refine ih (i + 1) (by omega) (by omega) t tF ((show wider t u from ⟨fun c hc => tc c (by omega) (by omega), fun x hx => ?_⟩).trans uw) (by omega)
          by_cases e : x = h
          · subst e
            omega
          · rw [tc (90 + 64 * x) (by omega) (by omega)]
            exact Int.le_refl _
        have hw2 : Rw u 2 ρ := hw.to fun a ha j => by rw [uw.1 (2 + a) (by omega)]
        refine ⟨fun y => ?_, fun y => ?_⟩
        · have i0 : i ≠ 0 := fun e => y (by rw [e]; rfl)
          have e1 : (nI i - 1).toInt = ((i - 1 : Nat) : Int) := by
            rw [ti_sub (by rw [ei, d1]; omega) (by rw [ei, d1]; omega), ei, d1]
            omega
          have e2 : nI i - 1 = nI (i - 1) := of_ti (by omega) e1
          rw [e2, nI_clamp (by omega), nI_clamp (by omega)]
          refine ⟨nI_in (by omega) (by decide), nI_in (by omega) (by decide), ?_⟩
          have b7 := (uF.2.2.2.2.2.2 h h3 hh).1 (i - 1) (by omega)
          have la := (S_m0 h h3 (i - 1) (by omega)).2.2
          have lb := (S_m0 h h3 i (by omega)).2.2
          refine p_sailHour hr uF.look la lb (by omega) (by omega) (by omega) (Or.inl d1) (fun q ho => ?_) fun v v1 v2 => fin v v2 fun q ho => ?_
          · have := isMo.b hr (Or.inl rfl) (by omega) (by omega) hf0 (isMo_1.mpr (b7 q ho))
            unfold cv
            omega
          · rw [d1] at v1
            have := isMo.step hr (Or.inl rfl) (m := i - 1) (t := rI ρ 2) (by omega) (by omega) ⟨hW1, hW2⟩ (F := cv u (90 + 64 * h + 2 + (i - 1)) (rI ρ 0)) (fun q' ho' => isMo_1.mpr (b7 q' ho')) v1 q ho
            rw [show i - 1 + 1 = i by omega] at this
            exact isMo_1.mp this
        · have i0 : i = 0 := by
            rw [ti_eq, ei, d0] at y
            omega
          subst i0
          refine ⟨by rw [ti_in]; decide, p_X4_read (W_L1 W_2) (by decide) (by omega) (by omega) (p_X4_read (W_L2 W_2) (by decide) (by omega) (by omega) ?_)⟩
          obtain ⟨q1, q2⟩ := hw2.2.2.2.1 h hh
          rw [eh, show ((h : Int)).toNat = h by omega, q1, q2, show (0 : Int32).toNatClampNeg = 0 by decide]
          refine p_begin (p := (rI ρ (1089 + 3 * h), rI ρ (1090 + 3 * h))) hr (S_m0 h h3 0 (by omega)).2.2 hW1 fun v v1 v2 => fin v v2 fun q ho => ?_
          rw [v1 q ho]
          exact isMo_1.mp (isMo_0 hf0)
  refine p_sailingOf h3 fun a ha => ?_
  obtain ⟨k1, k2, -⟩ := hF.2.2.2.2.2.1 h h3
  obtain ⟨i, hi⟩ : ∃ i : Nat, (s (90 + 64 * h) 2).toInt = i := ⟨(s (90 + 64 * h) 2).toInt.toNat, by omega⟩
  have hc : (if (0 : Int32) < s (90 + 64 * h) 2 then s (90 + 64 * h) 2 else 0) = s (90 + 64 * h) 2 := by
    split
    · rfl
    · next z =>
      rw [ti_lt, d0] at z
      rw [ti_eq, d0]
      omega
  rw [ha, hc, of_ti (by omega) hi]
  exact ⟨n + 2, key (n + 1) i (by omega) (by omega) s hF (wider.refl s) hi⟩
/-- never -/
def noFirst (ρ : Nat → Int32) (h : Nat) : Prop := ∀ i, i ≤ 60 → ∀ k, way ρ i (rI ρ 2) (hAt ρ h) (dAt ρ i) k → fAt ρ h < k
theorem p_earliestOf {s : Sg} {ρ : Nat → Int32} {h : Nat} {K : Int32 → Sg → Prop} (hq : okQ ρ) (hw : Rw s 2 ρ) (hF : Fresh s ρ) (h3 : h < 3) (hh : (h : Int) < rI ρ 3)
    (k1 : ∀ u n, n ≤ 60 → isFirst ρ h n → Fresh u ρ → wider u s → (n : Int) < (u (90 + 64 * h) 2).toInt → K (nI n) u) (k2 : ∀ u, noFirst ρ h → Fresh u ρ → wider u s → K (-1) u) : m_X0_earliestOf (nI h) s K := by
  have hr := hq.1
  have d60 : (60 : Int32).toInt = 60 := by decide
  have key : ∀ m i : Nat, i + m = 61 → ∀ u : Sg, Fresh u ρ → wider u s → (∀ x, x < i → ∀ k, way ρ x (rI ρ 2) (hAt ρ h) (dAt ρ x) k → fAt ρ h < k) → m_X0_earliestOf_l2 (nI h) K (m + 1) (nI i) u := by
    intro m
    induction m with
    | zero =>
      intro i hi u uF uw un
      have : i = 61 := by omega
      subst this
      exact ⟨fun _ => k2 u (fun x hx => un x (by omega)) uF uw, fun z => absurd (by decide) z⟩
    | succ m ih =>
      intro i hi u uF uw un
      have ei := nI_toInt (n := i) (by omega)
      have hw2 : Rw u 2 ρ := hw.to fun a ha j => by rw [uw.1 (2 + a) (by omega)]
      refine ⟨fun z => ?_, fun _ => p_mostsOf hq hw2 uF h3 hh (by omega) fun v vF vw vn => ⟨nI_in (by omega) (by decide), ?_⟩⟩
      · rw [ti_lt, d60, ei] at z
        omega
      · have ho := (dAt_wat hq i).1
        have oc := onS_cell hr ho
        have ec := clW_i hr ho
        have g := (vF.2.2.2.2.2.2 h h3 hh).1 i vn (dAt ρ i) ho
        rw [nI_clamp (by omega), vF.2.1 i (by omega)]
        refine p_X4_read (S_m0 h h3 i (by omega)).2.2 (by decide) (by omega) (by omega) ⟨fun z => ?_, fun z => ?_⟩
        · rw [ec] at z
          rw [← nI_succ]
          refine ih (i + 1) (by omega) v vF (vw.trans uw) fun x hx => ?_
          by_cases e : x = i
          · subst e
            rw [z, dm1] at g
            rcases g with ⟨-, g⟩ | ⟨g, -⟩
            · exact g
            · omega
          · exact un x (by omega)
        · rw [ec] at z
          have hne : (v (90 + 64 * h + 2 + i) (rI ρ 0 * (dAt ρ i).2 + (dAt ρ i).1).toNat).toInt ≠ -1 := fun e => z (by rw [ti_eq, e, dm1])
          rcases g with ⟨g, -⟩ | ⟨g1, g2⟩
          · exact absurd g hne
          · exact k1 v i (by omega) ⟨⟨_, by omega, g2.1⟩, un⟩ vF (vw.trans uw) vn
  exact ⟨62, key 61 0 (by decide) s hF (wider.refl s) fun x hx => absurd hx (Nat.not_lt_zero _)⟩
theorem isFirst_one {ρ : Nat → Int32} {h m n : Nat} (a : isFirst ρ h m) (b : isFirst ρ h n) : m = n := by
  obtain ⟨⟨k, k1, k2⟩, a2⟩ := a
  obtain ⟨⟨j, j1, j2⟩, b2⟩ := b
  rcases Nat.lt_trichotomy m n with z | z | z
  · have := b2 m z k k2
    omega
  · exact z
  · have := a2 n z j j2
    omega
theorem noFirst_no {ρ : Nat → Int32} {h n : Nat} (a : noFirst ρ h) (hn : n ≤ 60) (b : isFirst ρ h n) : False := by
  obtain ⟨⟨k, k1, k2⟩, -⟩ := b
  have := a n hn k k2
  omega
