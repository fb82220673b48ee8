/-! the reference's costs -/
/-- v is the least that it costs; 1048576 if there is no way -/
def isC (ρ : Nat → Int32) (m : Nat) (t : Int) (p q : Int × Int) (v : Int) : Prop := (v = 1048576 ∧ ∀ k, ¬ way ρ m t p q k) ∨ lst ρ m t p q v
def c20 (σ : Sg) (a : Nat) (p : Int × Int) : Int := (σ a (20 * p.2 + p.1).toNat).toInt
/-- from the least costs at an hour to those an hour later, so far as D goes -/
def stepC (ρ : Nat → Int32) (T : Int) (F G : Int × Int → Int) (D : Int × Int → Int32 → Prop) : Prop :=
  ∀ q : Int × Int, isP q → G q ≤ 1048576 ∧ (∀ (p : Int × Int) (c : Int32), isP p → okc ρ p c → crr ρ p c = q → F p ≠ 1048576 → D p c → G q ≤ F p + cst c (wnd ρ T)) ∧
    (G q = 1048576 ∨ ∃ (p : Int × Int) (c : Int32), isP p ∧ okc ρ p c ∧ crr ρ p c = q ∧ F p ≠ 1048576 ∧ G q = F p + cst c (wnd ρ T))
theorem stepC.mono {ρ : Nat → Int32} {T : Int} {F G : Int × Int → Int} {D E : Int × Int → Int32 → Prop} (h : stepC ρ T F G D) (he : ∀ p c, isP p → okc ρ p c → F p ≠ 1048576 → E p c → D p c) : stepC ρ T F G E :=
  fun q hq => ⟨(h q hq).1, fun p c a b e z y => (h q hq).2.1 p c a b e z (he p c a b z y), (h q hq).2.2⟩
theorem stepC.put {ρ : Nat → Int32} {T : Int} {F G G' : Int × Int → Int} {D E : Int × Int → Int32 → Prop} {p : Int × Int} {c : Int32} (h : stepC ρ T F G D) (hp : isP p) (hc : okc ρ p c) (hf : F p ≠ 1048576)
    (he : ∀ p' c', isP p' → okc ρ p' c' → E p' c' → D p' c' ∨ (p' = p ∧ c' = c)) (g1 : ∀ q, isP q → q ≠ crr ρ p c → G' q = G q)
    (g2 : G' (crr ρ p c) = if F p + cst c (wnd ρ T) ≤ G (crr ρ p c) then F p + cst c (wnd ρ T) else G (crr ρ p c)) : stepC ρ T F G' E := by
  intro q hq
  obtain ⟨a1, a2, a3⟩ := h q hq
  by_cases e : q = crr ρ p c
  · subst e
    by_cases z : F p + cst c (wnd ρ T) ≤ G (crr ρ p c)
    · rw [if_pos z] at g2
      rw [g2]
      refine ⟨by omega, fun p' c' b1 b2 b3 b4 b5 => ?_, Or.inr ⟨p, c, hp, hc, rfl, hf, rfl⟩⟩
      rcases he p' c' b1 b2 b5 with y | ⟨y1, y2⟩
      · have := a2 p' c' b1 b2 b3 b4 y
        omega
      · rw [y1, y2]
        exact Int.le_refl _
    · rw [if_neg z] at g2
      rw [g2]
      refine ⟨a1, fun p' c' b1 b2 b3 b4 b5 => ?_, a3⟩
      rcases he p' c' b1 b2 b5 with y | ⟨y1, y2⟩
      · exact a2 p' c' b1 b2 b3 b4 y
      · rw [y1, y2]
        omega
  · rw [g1 q hq e]
    refine ⟨a1, fun p' c' b1 b2 b3 b4 b5 => ?_, a3⟩
    rcases he p' c' b1 b2 b5 with y | ⟨y1, y2⟩
    · exact a2 p' c' b1 b2 b3 b4 y
    · rw [y1, y2] at b3
      exact absurd b3.symm e
theorem isC.b {ρ : Nat → Int32} (hr : okR ρ) {m : Nat} {t : Int} (h0 : 0 ≤ t) (h1 : t + m ≤ 561) {p q : Int × Int} {v : Int} (h : isC ρ m t p q v) : v = 1048576 ∨ (0 ≤ v ∧ v ≤ 5 * m ∧ lst ρ m t p q v) := by
  rcases h with ⟨a, -⟩ | a
  · exact Or.inl a
  · have := way_b hr m t p v h0 h1 a.1
    exact Or.inr ⟨this.1, this.2, a⟩
theorem isC.step {ρ : Nat → Int32} (hr : okR ρ) {m : Nat} (hm : m ≤ 60) {t : Int} (h0 : 0 ≤ t) (h1 : t + m ≤ 560) {p : Int × Int} (hp : wat ρ p) {F G : Int × Int → Int} (hF : ∀ q, isP q → isC ρ m t p q (F q)) (hS : stepC ρ (t + m) F G (fun _ _ => True)) (q : Int × Int) (hq : isP q) : isC ρ (m + 1) t p q (G q) := by
  obtain ⟨a1, a2, a3⟩ := hS q hq
  have low : ∀ k, way ρ (m + 1) t p q k → G q ≤ k := by
    intro k hw
    obtain ⟨r, c, j, w1, w2, w3, w4⟩ := way_last.mp hw
    have ro := onS_P hr (way_wat m t p j hp w1).1
    have wb := way_b hr m t p j (by omega) (by omega) w1
    rcases hF r ro with ⟨-, f2⟩ | f2
    · exact absurd w1 (f2 j)
    · have l := f2.2 j w1
      have g := a2 r c ro w2 w3 (by omega) trivial
      omega
  rcases a3 with a3 | ⟨p', c, b1, b2, b3, b4, b5⟩
  · refine Or.inl ⟨a3, fun k hw => ?_⟩
    have := low k hw
    have := way_b hr (m + 1) t p k (by omega) (by omega) hw
    omega
  · rcases hF p' b1 with ⟨f1, -⟩ | f2
    · exact absurd f1 b4
    · refine Or.inr ⟨?_, low⟩
      rw [b5]
      exact way_last.mpr ⟨p', c, F p', f2.1, b2, b3, rfl⟩
theorem isC.lt {ρ : Nat → Int32} {m : Nat} {t : Int} {p q : Int × Int} {v f : Int} (h : isC ρ m t p q v) (hf : f < 1048576) : f < v ↔ ∀ k, way ρ m t p q k → f < k := by
  rcases h with ⟨a, b⟩ | ⟨a, b⟩
  · exact ⟨fun _ k hk => absurd hk (b k), fun _ => by omega⟩
  · exact ⟨fun z k hk => by have := b k hk; omega, fun z => z v a⟩
theorem p20 {i : Nat} (hi : i < 240) : ∃ p : Int × Int, isP p ∧ (i : Int) = 20 * p.2 + p.1 ∧ nI i = cl20 p := by
  refine ⟨((i : Int) % 20, (i : Int) / 20), ?_, ?_, ti_ext ?_⟩
  · unfold isP
    simp only
    omega
  · simp only
    omega
  · rw [nI_toInt (by omega)]
    simp only
    omega
theorem p20_inj {p q : Int × Int} (hp : isP p) (hq : isP q) (h : 20 * p.2 + p.1 = 20 * q.2 + q.1) : p = q := by
  unfold isP at hp hq
  exact Prod.ext (by omega) (by omega)
theorem crr_isP {ρ : Nat → Int32} (hr : okR ρ) {p : Int × Int} (hp : isP p) (c : Int32) : isP (crr ρ p c) := stp_isP hr (stp_isP hr hp _) _
theorem p_empties {a : Nat} {s : Sg} {K : Sg → Prop} (la : ln a = 240) (h : ∀ u : Sg, (∀ j, j < 240 → u a j = 1048576) → (∀ c, c ≠ a → u c = s c) → K u) : m_X5_empties a s K := by
  have d240 : (240 : Int32).toInt = 240 := by decide
  have key : ∀ m i : Nat, i + m = 240 → ∀ u : Sg, (∀ j, j < i → u a j = 1048576) → (∀ c, c ≠ a → u c = s c) → m_X5_empties_l2 a K (m + 1) (nI i) u := by
    intro m
    induction m with
    | zero =>
      intro i hi u u1 u2
      have : i = 240 := by omega
      subst this
      exact ⟨fun _ => h u u1 u2, fun z => absurd (by decide) z⟩
    | succ m ih =>
      intro i hi u u1 u2
      have ei := nI_toInt (n := i) (by omega)
      refine ⟨fun z => ?_, fun _ => ⟨by rw [ti_in, la, ei]; omega, fun t ht => ?_⟩⟩
      · rw [ti_le, d240, ei] at z
        omega
      · rw [nI_clamp (by omega)] at ht
        rw [← nI_succ]
        refine ih (i + 1) (by omega) t (fun j hj => ?_) (fun c hc => by rw [ht, st2_row hc]; exact u2 c hc)
        by_cases e : j = i
        · rw [ht, e, st2_same]
        · rw [ht, st2_j e]
          exact u1 j (by omega)
  exact ⟨241, key 240 0 (by decide) s (fun j hj => absurd hj (Nat.not_lt_zero _)) (fun _ _ => rfl)⟩
/-- one hour of the reference's spreading -/
theorem p_spreadHour {s : Sg} {ρ : Nat → Int32} {g n : Nat} {v2 v3 : Int32} {K : Sg → Prop} {KO : Int32 → Sg → Prop} (hr : okR ρ) (hs : s 350 = ρ) (hg : IsG g) (hn : n < 60) (hF : ∀ p, isP p → c20 s (g + 1 + n) p = 1048576 ∨ (0 ≤ c20 s (g + 1 + n) p ∧ c20 s (g + 1 + n) p ≤ 1000)) (hE : ∀ j, j < 240 → s (g + 1 + (n + 1)) j = 1048576)
    (h : ∀ u, stepC ρ (rI ρ 2 + n) (c20 s (g + 1 + n)) (c20 u (g + 1 + (n + 1))) (fun _ _ => True) → (∀ c, c ≠ g + 1 + (n + 1) → u c = s c) → KO (nI (n + 1)) u) : m_X5_spreads_l61 g v2 v3 K KO 241 (nI n) (wnd ρ (rI ρ 2 + n)) (nI 0) s := by
  have hh := hr.2.2.1
  have g350 : 350 ≠ g + 1 + (n + 1) := by rcases hg with rfl | rfl | rfl <;> omega
  have gl : ln (g + 1 + (n + 1)) = 240 := (G_1 hg (show n + 1 < 61 by omega)).2.2.2
  have d9 : (9 : Int32).toInt = 9 := by decide
  have d240 : (240 : Int32).toInt = 240 := by decide
  have dF : (1048576 : Int32).toInt = 1048576 := by decide
  have en := nI_toInt (n := n) (by omega)
  have hwD := wnd_D hr (t := rI ρ 2 + n) (by omega) (by omega)
  have inner : ∀ (KO61 : Int32 → Int32 → Int32 → Sg → Prop) (p : Int × Int) (i : Nat), isP p → (i : Int) = 20 * p.2 + p.1 → c20 s (g + 1 + n) p ≠ 1048576 → ∀ m j : Nat, j + m = 9 → ∀ u : Sg, (∀ c, c ≠ g + 1 + (n + 1) → u c = s c) → stepC ρ (rI ρ 2 + n) (c20 s (g + 1 + n)) (c20 u (g + 1 + (n + 1))) (fun q c => 20 * q.2 + q.1 < i ∨ (q = p ∧ c.toInt < j)) →
      (∀ t, (∀ c, c ≠ g + 1 + (n + 1) → t c = s c) → stepC ρ (rI ρ 2 + n) (c20 s (g + 1 + n)) (c20 t (g + 1 + (n + 1))) (fun q _ => 20 * q.2 + q.1 < i + 1) → KO61 (nI n) (wnd ρ (rI ρ 2 + n)) (cl20 p + 1) t) → m_X5_spreads_l88 g v2 v3 K KO KO61 (m + 1) (nI n) (wnd ρ (rI ρ 2 + n)) (cl20 p) (nI j) u := by
    intro KO61 p i hp hi hpF m
    have ep := cl20_i hp
    have hp' := hp
    unfold isP at hp'
    induction m with
    | zero =>
      intro j hj u hu hS hK
      have : j = 9 := by omega
      subst this
      refine ⟨fun _ => hK u hu (hS.mono fun q c hq hc _ z => ?_), fun z => absurd (by decide) z⟩
      by_cases e : 20 * q.2 + q.1 = i
      · refine Or.inr ⟨p20_inj hq hp (by omega), ?_⟩
        have := hc.1.2
        omega
      · exact Or.inl (by omega)
    | succ m ih =>
      intro j hj u hu hS hK
      have ej := nI_toInt (n := j) (by omega)
      have hD : isD (nI j) := ⟨by rw [ej]; omega, by rw [ej]; omega⟩
      have u350 : u 350 = ρ := (hu 350 g350).trans hs
      have cb := cst_b hD hwD
      have j117 : okc ρ p (nI j) → m_X5_spreads_j117 g v2 v3 K KO KO61 (fun l4 l5 l6 l7 σ => m_X5_spreads_l88 g v2 v3 K KO KO61 (m + 1) l4 l5 l6 l7 σ) (nI n) (wnd ρ (rI ρ 2 + n)) (cl20 p) (nI j) u := by
        intro hok
        refine p_X5_carried rfl (by rw [u350]; exact hr) hp hD ?_
        rw [u350]
        have hq := crr_isP hr hp (nI j)
        have eq := cl20_i hq
        have hq' := hq
        unfold isP at hq'
        have vn : vp_in (nI n + 1) 61 := by
          rw [← nI_succ]
          exact nI_in (by omega) (by decide)
        have vq : vp_in (cl20 (crr ρ p (nI j))) 240 := by
          rw [ti_in, eq]
          omega
        refine ⟨vn, vn, vq, nI_in (by omega) (by decide), by rw [ti_in, ep]; omega, p_X5_costBy hD hwD (p_X5_less ⟨vq, fun t ht => ?_⟩)⟩
        rw [← nI_succ n, nI_clamp (by omega), nI_clamp (by omega), ti_c, ti_c, eq, ep] at ht
        have eF : c20 s (g + 1 + n) p = (u (g + 1 + n) (20 * p.2 + p.1).toNat).toInt := by
          unfold c20
          rw [hu _ (by omega)]
        have hpb := hF p hp
        have ec : (Int32.ofInt (cst (nI j) (wnd ρ (rI ρ 2 + n)))).toInt = cst (nI j) (wnd ρ (rI ρ 2 + n)) := ti_of (by omega) (by omega)
        have es : (u (g + 1 + n) (20 * p.2 + p.1).toNat + Int32.ofInt (cst (nI j) (wnd ρ (rI ρ 2 + n)))).toInt = c20 s (g + 1 + n) p + cst (nI j) (wnd ρ (rI ρ 2 + n)) := by
          rw [ti_add (by rw [ec]; omega) (by rw [ec]; omega), ec, eF]
        rw [← nI_succ j]
        refine ih (j + 1) (by omega) t (fun c hc => by rw [ht, st2_row hc]; exact hu c hc) (hS.put hp hok hpF (fun p' c' _ hc' z => ?_) (fun q hq2 hne => ?_) ?_) hK
        · rcases z with z | ⟨z1, z2⟩
          · exact Or.inl (Or.inl z)
          · by_cases e : c'.toInt = j
            · exact Or.inr ⟨z1, by rw [ti_eq, e, ej]⟩
            · exact Or.inl (Or.inr ⟨z1, by omega⟩)
        · unfold c20
          rw [ht, st2_j ?_]
          intro e
          have hq3 := hq2
          unfold isP at hq3
          exact hne (p20_inj hq2 hq (by omega))
        · show (t (g + 1 + (n + 1)) (20 * (crr ρ p (nI j)).2 + (crr ρ p (nI j)).1).toNat).toInt = _
          rw [ht, st2_same, es]
          by_cases z : c20 s (g + 1 + n) p + cst (nI j) (wnd ρ (rI ρ 2 + n)) ≤ c20 u (g + 1 + (n + 1)) (crr ρ p (nI j))
          · exact (congrArg Int32.toInt (if_pos z)).trans (es.trans (if_pos z).symm)
          · exact (congrArg Int32.toInt (if_neg z)).trans (if_neg z).symm
      have next : ¬ okc ρ p (nI j) → m_X5_spreads_l88 g v2 v3 K KO KO61 (m + 1) (nI n) (wnd ρ (rI ρ 2 + n)) (cl20 p) (nI j + 1) u := by
        intro hno
        rw [← nI_succ j]
        refine ih (j + 1) (by omega) u hu (hS.mono fun q c hq hc _ z => ?_) hK
        rcases z with z | ⟨z1, z2⟩
        · exact Or.inl z
        · refine Or.inr ⟨z1, ?_⟩
          by_cases e : c.toInt = j
          · have ec : c = nI j := by rw [ti_eq, e, ej]
            rw [z1, ec] at hc
            exact absurd hc hno
          · omega
      refine ⟨fun z => ?_, fun _ => ⟨fun z => j117 ⟨hD, Or.inl ?_⟩, fun z => p_X5_goes rfl (by rw [u350]; exact hr) hp hD ?_⟩⟩
      · rw [ti_le, d9, ej] at z
        omega
      · rw [ti_le, d0, ej] at z
        rw [ti_eq, d0, ej]
        omega
      · rw [ti_le, d0, ej] at z
        rw [u350]
        by_cases ho : okS ρ p.1 p.2 (nI j) = true
        · rw [if_pos ho]
          exact ⟨fun _ => j117 ⟨hD, Or.inr ho⟩, fun y => absurd y one0⟩
        · rw [if_neg ho]
          refine ⟨fun y => absurd rfl y, fun _ => next fun y => ?_⟩
          rcases y.2 with y | y
          · rw [ti_eq, d0, ej] at y
            omega
          · exact ho y
  have outer : ∀ m i : Nat, i + m = 240 → ∀ u : Sg, (∀ c, c ≠ g + 1 + (n + 1) → u c = s c) → stepC ρ (rI ρ 2 + n) (c20 s (g + 1 + n)) (c20 u (g + 1 + (n + 1))) (fun q _ => 20 * q.2 + q.1 < i) → m_X5_spreads_l61 g v2 v3 K KO (m + 1) (nI n) (wnd ρ (rI ρ 2 + n)) (nI i) u := by
    intro m
    induction m with
    | zero =>
      intro i hi u hu hS
      have : i = 240 := by omega
      subst this
      refine ⟨fun _ => ?_, fun z => absurd (by decide) z⟩
      rw [← nI_succ]
      refine h u (hS.mono fun q c hq _ _ _ => ?_) hu
      unfold isP at hq
      omega
    | succ m ih =>
      intro i hi u hu hS
      have ei := nI_toInt (n := i) (by omega)
      obtain ⟨p, hp, ep, e20⟩ := p20 (i := i) (by omega)
      have ev : c20 s (g + 1 + n) p = (u (g + 1 + (nI n).toNatClampNeg) (nI i).toNatClampNeg).toInt := by
        unfold c20
        rw [nI_clamp (by omega), nI_clamp (by omega), hu _ (by omega), ← ep]
        rfl
      refine ⟨fun z => ?_, fun _ => ⟨nI_in (by omega) (by decide), nI_in (by omega) (by decide), fun z => ⟨10, ?_⟩, fun z => ?_⟩⟩
      · rw [ti_le, d240, ei] at z
        omega
      · have hne : c20 s (g + 1 + n) p ≠ 1048576 := fun e => z (by rw [ti_eq, ← ev, e, dF])
        rw [e20]
        refine inner _ p i hp ep hne 9 0 (by decide) u hu (hS.mono fun q c _ hc _ y => ?_) fun t t1 t2 => ?_
        · rcases y with y | ⟨_, y⟩
          · exact y
          · have := hc.1.1
            omega
        · rw [← e20, ← nI_succ]
          exact ih (i + 1) (by omega) t t1 (t2.mono fun q c _ _ _ y => by omega)
      · rw [← nI_succ]
        refine ih (i + 1) (by omega) u hu (hS.mono fun q c hq hc hf y => ?_)
        by_cases e : 20 * q.2 + q.1 = i
        · have eq : q = p := p20_inj hq hp (by omega)
          rw [eq, ev, z, dF] at hf
          exact absurd rfl hf
        · omega
  refine outer 240 0 (by decide) s (fun _ _ => rfl) fun q hq => ?_
  have hq' := hq
  unfold isP at hq'
  have e : c20 s (g + 1 + (n + 1)) q = 1048576 := by
    unfold c20
    rw [hE _ (by omega), dF]
  exact ⟨by omega, fun p c hp _ _ _ z => by unfold isP at hp; omega, Or.inl e⟩
theorem p_spreads {s : Sg} {g m0 : Nat} {p : Int × Int} {K : Sg → Prop} (hr : okR (s 350)) (hg : IsG g) (hm : m0 ≤ 60) (hp : wat (s 350) p) (h : ∀ u : Sg, (∀ n, m0 ≤ n → n ≤ 60 → ∀ q, isP q → isC (s 350) (n - m0) (rI (s 350) 2 + m0) p q (c20 u (g + 1 + n) q)) → (∀ c, (c < g + 1 ∨ g + 62 ≤ c) → u c = s c) → K u) : m_X5_spreads g (nI m0) (cl20 p) s K := by
  have hh := hr.2.2.1
  have hh' := hh
  unfold rI at hh'
  have d60 : (60 : Int32).toInt = 60 := by decide
  have dF : (1048576 : Int32).toInt = 1048576 := by decide
  have hP := onS_P hr hp.1
  have eP := cl20_i hP
  have hP' := hP
  unfold isP at hP'
  have g350 : 350 < g + 1 := by rcases hg with rfl | rfl | rfl <;> omega
  have second : ∀ m n : Nat, n + m = 60 → m0 ≤ n → ∀ u : Sg, (∀ x, m0 ≤ x → x ≤ n → ∀ q, isP q → isC (s 350) (x - m0) (rI (s 350) 2 + m0) p q (c20 u (g + 1 + x) q)) → (∀ x, n < x → x ≤ 60 → ∀ j, j < 240 → u (g + 1 + x) j = 1048576) → (∀ c, (c < g + 1 ∨ g + 62 ≤ c) → u c = s c) → m_X5_spreads_l33 g (nI m0) (cl20 p) K (m + 1) (nI n) u := by
    intro m
    induction m with
    | zero =>
      intro n hn hmn u u1 u2 u3
      have : n = 60 := by omega
      subst this
      exact ⟨fun _ => h u u1 u3, fun z => absurd (by decide) z⟩
    | succ m ih =>
      intro n hn hmn u u1 u2 u3
      have en := nI_toInt (n := n) (by omega)
      have u350 : u 350 = s 350 := u3 350 (Or.inl g350)
      have et : (u 350 2 + nI n).toInt = rI (s 350) 2 + n := by
        rw [u350, ti_add (by rw [en]; omega) (by rw [en]; omega), en]
        rfl
      refine ⟨fun z => ?_, fun _ => ⟨by rw [ti_in]; decide, ?_⟩⟩
      · rw [ti_le, d60, en] at z
        omega
      · rw [show (2 : Int32).toNatClampNeg = 2 by decide]
        refine p_X5_windOf rfl (by rw [u350]; exact hr) (by rw [et]; omega) (by rw [et]; omega) ⟨241, ?_⟩
        rw [et, u350]
        refine p_spreadHour hr u350 hg (by omega) (fun q hq => ?_) (u2 (n + 1) (by omega) (by omega)) fun t t1 t2 => ?_
        · have := (u1 n hmn (Nat.le_refl _) q hq).b hr (by omega) (by omega)
          rcases this with y | ⟨y1, y2, -⟩
          · exact Or.inl y
          · exact Or.inr ⟨y1, by omega⟩
        · refine ih (n + 1) (by omega) (by omega) t (fun x hx1 hx2 q hq => ?_) (fun x hx1 hx2 j hj => ?_) (fun c hc => ?_)
          · by_cases e : x = n + 1
            · subst e
              have := isC.step hr (m := n - m0) (t := rI (s 350) 2 + m0) (by omega) (by omega) (by omega) hp (F := c20 u (g + 1 + n)) (u1 n hmn (Nat.le_refl _)) (by rw [show rI (s 350) 2 + (m0 : Int) + ((n - m0 : Nat) : Int) = rI (s 350) 2 + n by omega]; exact t1) q hq
              rw [show n - m0 + 1 = n + 1 - m0 by omega] at this
              exact this
            · unfold c20
              rw [t2 _ (by omega)]
              exact u1 x hx1 (by omega) q hq
          · rw [t2 _ (by omega)]
            exact u2 x (by omega) hx2 j hj
          · rw [t2 c (by omega)]
            exact u3 c hc
  have first : ∀ m n : Nat, n + m = 61 → ∀ u : Sg, (∀ x, x < n → ∀ j, j < 240 → u (g + 1 + x) j = 1048576) → (∀ c, (c < g + 1 ∨ g + 62 ≤ c) → u c = s c) → m_X5_spreads_l3 g (nI m0) (cl20 p) K (m + 1) (nI n) u := by
    intro m
    induction m with
    | zero =>
      intro n hn u u1 u2
      have : n = 61 := by omega
      subst this
      refine ⟨fun _ => ⟨nI_in (by omega) (by decide), by rw [ti_in, eP]; omega, fun t ht => ⟨61 - m0, ?_⟩⟩, fun z => absurd (by decide) z⟩
      rw [nI_clamp (by omega), ti_c, eP] at ht
      rw [show 61 - m0 = 60 - m0 + 1 by omega]
      refine second (60 - m0) m0 (by omega) (Nat.le_refl _) t (fun x x1 x2 q hq => ?_) (fun x x1 x2 j hj => by rw [ht, st2_row (by omega)]; exact u1 x (by omega) j hj) (fun c hc => by rw [ht, st2_row (by omega)]; exact u2 c hc)
      have ex : x = m0 := by omega
      subst ex
      rw [show x - x = 0 by omega]
      unfold c20
      have hq' := hq
      unfold isP at hq'
      by_cases e : q = p
      · rw [e, ht, st2_same, d0]
        exact Or.inr ⟨⟨rfl, rfl⟩, fun j hj => by rw [hj.2]; exact Int.le_refl _⟩
      · rw [ht, st2_j (fun y => e (p20_inj hq hP (by omega))), u1 x (by omega) _ (by omega), dF]
        exact Or.inl ⟨rfl, fun k hk => e hk.1.symm⟩
    | succ m ih =>
      intro n hn u u1 u2
      have en := nI_toInt (n := n) (by omega)
      refine ⟨fun z => ?_, fun _ => ⟨nI_in (by omega) (by decide), ?_⟩⟩
      · rw [ti_lt, d60, en] at z
        omega
      · rw [nI_clamp (by omega)]
        refine p_empties (G_1 hg (show n < 61 by omega)).2.2.2 fun t t1 t2 => ?_
        rw [← nI_succ]
        refine ih (n + 1) (by omega) t (fun x hx j hj => ?_) (fun c hc => by rw [t2 c (by omega)]; exact u2 c hc)
        by_cases e : x = n
        · subst e
          exact t1 j hj
        · rw [t2 _ (by omega)]
          exact u1 x (by omega) j hj
  exact ⟨62, first 61 0 (by decide) s (fun x hx => absurd hx (Nat.not_lt_zero _)) (fun _ _ => rfl)⟩
/-- the reference's costs of a helper lie there -/
def costsM (u : Sg) (ρ : Nat → Int32) (i : Nat) : Prop := (∀ n, n ≤ 60 → u 361 n = cl20 (dAt ρ n) ∧ u 362 n = cl20 (pAt ρ n)) ∧ ∀ n, n ≤ 60 → ∀ q, isP q → isC ρ n (rI ρ 2) (hAt ρ i) q (c20 u (364 + n) q)
theorem p_earliest {σ : Sg} {h : Int32} {i : Nat} {K : Int32 → Sg → Prop} (hq : okQ (σ 350)) (hi : (i : Int) < rI (σ 350) 3) (e1 : (1089 + 3 * h).toInt = 1089 + 3 * i) (e2 : (1089 + 3 * h + 1).toInt = 1090 + 3 * i) (e3 : (1089 + 3 * h + 2).toInt = 1091 + 3 * i)
    (k1 : ∀ u n, costsM u (σ 350) i → (∀ c, (c < 361 ∨ 425 ≤ c) → u c = σ c) → n ≤ 60 → isFirst (σ 350) i n → K (nI n) u) (k2 : ∀ u, costsM u (σ 350) i → (∀ c, (c < 361 ∨ 425 ≤ c) → u c = σ c) → noFirst (σ 350) i → K (-1) u) : m_X5_earliest h σ K := by
  have hr := hq.1
  have d60 : (60 : Int32).toInt = 60 := by decide
  obtain ⟨hW, hf0, hf1⟩ := hq.2.2.2.1 i hi
  refine p_looksAhead hq fun s ⟨s1, s2⟩ => ?_
  have s350 : s 350 = σ 350 := s2 350 (by decide) (by decide)
  refine p_X5_helperCell (by rw [s350]; exact hq) i (by rw [s350]; exact hi) e1 e2 ?_
  rw [s350]
  refine p_spreads (m0 := 0) (by rw [s350]; exact hr) (Or.inl rfl) (by decide) (by rw [s350]; exact hW) fun u u1 u2 => ⟨62, ?_⟩
  rw [s350] at u1
  have uc : ∀ c, (c < 361 ∨ 425 ≤ c) → u c = σ c := fun c hc => (u2 c (by omega)).trans (s2 c (by omega) (by omega))
  have u350 : u 350 = σ 350 := uc 350 (by decide)
  have uM : costsM u (σ 350) i := by
    refine ⟨fun n hn => by rw [u2 361 (by omega), u2 362 (by omega)]; exact s1 n hn, fun n hn q hq2 => ?_⟩
    have g := u1 n (Nat.zero_le _) hn q hq2
    rw [show n - 0 = n from rfl, show rI (σ 350) 2 + ((0 : Nat) : Int) = rI (σ 350) 2 by omega, show 363 + 1 + n = 364 + n by omega] at g
    exact g
  have key : ∀ m n : Nat, n + m = 61 → (∀ x, x < n → ∀ k, way (σ 350) x (rI (σ 350) 2) (hAt (σ 350) i) (dAt (σ 350) x) k → fAt (σ 350) i < k) → m_X5_earliest_l20 h K (m + 1) (nI n) u := by
    intro m
    induction m with
    | zero =>
      intro n hn un
      have : n = 61 := by omega
      subst this
      exact ⟨fun _ => k2 u uM uc (fun x hx => un x (by omega)), fun z => absurd (by decide) z⟩
    | succ m ih =>
      intro n hn un
      have en := nI_toInt (n := n) (by omega)
      have hP : isP (dAt (σ 350) n) := onS_P hr (dAt_wat hq n).1
      have eP := cl20_i hP
      have g := (uM.2 n (by omega) _ hP).lt (f := fAt (σ 350) i) (by omega)
      have hP' := hP
      unfold isP at hP'
      refine ⟨fun z => ?_, fun _ => ⟨nI_in (by omega) (by decide), nI_in (by omega) (by decide), ?_, p_X5_fuelOf (by rw [u350]; exact hq) i (by rw [u350]; exact hi) e3 ?_⟩⟩
      · rw [ti_lt, d60, en] at z
        omega
      · rw [nI_clamp (by omega), (uM.1 n (by omega)).1, ti_in, eP]
        omega
      · rw [nI_clamp (by omega), (uM.1 n (by omega)).1, u350, ti_c, eP, show 363 + 1 + n = 364 + n by omega]
        refine ⟨fun z => ?_, fun z => ?_⟩
        · rw [ti_lt] at z
          rw [← nI_succ]
          refine ih (n + 1) (by omega) fun x hx => ?_
          by_cases e : x = n
          · subst e
            exact g.mp z
          · exact un x (by omega)
        · rw [ti_lt] at z
          refine k1 u n uM uc (by omega) ⟨?_, un⟩
          have hb := (uM.2 n (by omega) _ hP).b hr (by have := hr.2.2.1; omega) (by have := hr.2.2.1; omega)
          unfold c20 at hb
          rcases hb with y | ⟨y1, y2, y3⟩
          · unfold fAt rI at hf1
            omega
          · exact ⟨_, Int.not_lt.mp z, y3.1⟩
  exact key 61 0 (by decide) fun x hx => absurd hx (Nat.not_lt_zero _)
