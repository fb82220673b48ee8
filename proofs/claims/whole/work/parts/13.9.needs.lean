/-! the class's way back: needs, walk -/
def isN (ρ : Nat → Int32) (m : Nat) (t : Int) (p q : Int × Int) (v : Int) : Prop := (v = -1 ∧ ∀ k, ¬ way ρ m t p q k) ∨ (0 ≤ v ∧ lst ρ m t p q v)
theorem isN.b {ρ : Nat → Int32} (hr : okR ρ) {m : Nat} {t : Int} (h0 : 0 ≤ t) (h1 : t + m ≤ 561) {p q : Int × Int} {v : Int} (h : isN ρ m t p q v) : -1 ≤ v ∧ v ≤ 5 * m := by
  rcases h with ⟨a, -⟩ | ⟨a, b⟩
  · omega
  · have := way_b hr m t p v h0 h1 b.1
    omega
theorem isN.lst {ρ : Nat → Int32} {m : Nat} {t : Int} {p q : Int × Int} {v k : Int} (h : isN ρ m t p q v) (hk : way ρ m t p q k) : 0 ≤ v ∧ lst ρ m t p q v := h.resolve_left fun z => z.2 k hk
def needsC (w : Sg) (ρ : Nat → Int32) (u : Nat) (d : Int × Int) (a : Nat) : Prop := ∀ n, a ≤ n → n ≤ u → ∀ q : Int × Int, onS ρ q.1 q.2 = true → isN ρ (u - n) (rI ρ 2 + n) q d (cv w (26 + n) (rI ρ 0) q)
theorem p_needBy {w : Sg} {ρ : Nat → Int32} {u n : Nat} {d p : Int × Int} {c : Int32} {K : Int32 → Sg → Prop} (hr : okR ρ) (hF : Look w ρ) (hu : u ≤ 60) (hn : n < u) (hp : onS ρ p.1 p.2 = true) (hc : isD c)
    (hN : ∀ q : Int × Int, onS ρ q.1 q.2 = true → isN ρ (u - (n + 1)) (rI ρ 2 + n + 1) q d (cv w (26 + (n + 1)) (rI ρ 0) q))
    (k1 : ∀ r : Int32, okc ρ p c → 0 ≤ cv w (26 + (n + 1)) (rI ρ 0) (crr ρ p c) → r.toInt = cst c (wnd ρ (rI ρ 2 + n)) + cv w (26 + (n + 1)) (rI ρ 0) (crr ρ p c) → K r w) (k2 : (okc ρ p c → ∀ k, ¬ way ρ (u - (n + 1)) (rI ρ 2 + n + 1) (crr ρ p c) d k) → K (-1) w) : m_X0_needBy (clW (rI ρ 0) p) c (nI n) w K := by
  obtain ⟨-, h22, h23⟩ := hF
  have hh := hr.2.2.1
  have oc := onS_cell hr hp
  have ec := clW_i hr hp
  have en := nI_toInt (n := n) (by omega)
  have d9 : (9 : Int32).toInt = 9 := by decide
  have d60 : (60 : Int32).toInt = 60 := by decide
  have hc' := hc
  unfold isD at hc'
  have e6 : (clW (rI ρ 0) p * 9).toInt = (rI ρ 0 * p.2 + p.1) * 9 := by rw [ti_mul (by rw [ec, d9]; omega) (by rw [ec, d9]; omega), ec, d9]
  have e6c : (clW (rI ρ 0) p * 9 + c).toInt = (rI ρ 0 * p.2 + p.1) * 9 + c.toInt := by rw [ti_add (by rw [e6]; omega) (by rw [e6]; omega), e6]
  have e7 : (nI n * 9).toInt = 9 * n := by
    rw [ti_mul (by rw [en, d9]; omega) (by rw [en, d9]; omega), en, d9]
    omega
  have e7c : (nI n * 9 + c).toInt = 9 * n + c.toInt := by rw [ti_add (by rw [e7]; omega) (by rw [e7]; omega), e7]
  obtain ⟨g1, g2⟩ := h22 p c hp hc
  have g3 := h23 n c (by omega) hc
  have lr := (N_0 (n + 1) (by omega)).2.2
  refine ⟨fun z => ?_, fun _ => ⟨fun _ => ⟨?_, p_X4_read (n := 2160) rfl (by decide) (by rw [e6c]; omega) (by rw [e6c]; omega) ?_⟩, fun z => ?_⟩⟩
  · rw [ti_lt, d0, en] at z
    omega
  · rw [← nI_succ]
    exact nI_in (by omega) (by decide)
  · rw [e6c, ← nI_succ, nI_clamp (by omega)]
    by_cases hok : okc ρ p c
    · have hq := crr_on hp c
      have oq := onS_cell hr hq
      have eq := clW_i hr hq
      have gN := hN _ hq
      have gb := gN.b hr (by omega) (by omega)
      rw [g1 hok]
      refine p_X4_read lr (by decide) (by rw [eq]; omega) (by rw [eq]; omega) ?_
      rw [eq]
      unfold cv at k1 gN gb
      refine ⟨fun z => p_X4_read (n := 540) rfl (by decide) (by rw [e7c]; omega) (by rw [e7c]; omega) ?_, fun z => k2 fun _ k hk => ?_⟩
      · rw [e7c, show (9 * (n : Int) + c.toInt).toNat = 9 * n + c.toInt.toNat by omega]
        have cb := cst_b hc (wnd_D hr (t := rI ρ 2 + n) (by omega) (by omega))
        refine k1 _ hok ?_ ?_
        · rcases gN with ⟨y, -⟩ | ⟨y, -⟩
          · exact absurd (by rw [ti_eq, y, dm1]) z
          · exact y
        · rw [ti_add (by rw [g3]; omega) (by rw [g3]; omega), g3]
          omega
      · have := (gN.lst hk).1
        rw [z, dm1] at this
        omega
    · rw [g2 hok]
      refine p_X4_readN lr (by decide) (Or.inl (by rw [dm1]; omega)) ⟨fun z => absurd rfl z, fun _ => k2 fun y => absurd y hok⟩
  · rw [ti_lt, d60, en] at z
    omega
theorem p_needFrom {w : Sg} {ρ : Nat → Int32} {u n : Nat} {d p : Int × Int} {K : Int32 → Sg → Prop} (hr : okR ρ) (hF : Look w ρ) (hu : u ≤ 60) (hn : n < u) (hp : onS ρ p.1 p.2 = true)
    (hN : ∀ q : Int × Int, onS ρ q.1 q.2 = true → isN ρ (u - (n + 1)) (rI ρ 2 + n + 1) q d (cv w (26 + (n + 1)) (rI ρ 0) q)) (k : ∀ r : Int32, isN ρ (u - n) (rI ρ 2 + n) p d r.toInt → K r w) : m_X0_needFrom (clW (rI ρ 0) p) (nI n) w K := by
  have hh := hr.2.2.1
  have d9 : (9 : Int32).toInt = 9 := by decide
  have key : ∀ m j : Nat, j + m = 9 → ∀ l : Int32, ((l = -1 ∧ ∀ c, okc ρ p c → c.toInt < j → ∀ k, ¬ way ρ (u - (n + 1)) (rI ρ 2 + n + 1) (crr ρ p c) d k) ∨ (0 ≤ l.toInt ∧ way ρ (u - n) (rI ρ 2 + n) p d l.toInt ∧ ∀ c, okc ρ p c → c.toInt < j → ∀ k, way ρ (u - (n + 1)) (rI ρ 2 + n + 1) (crr ρ p c) d k → l.toInt ≤ cst c (wnd ρ (rI ρ 2 + n)) + k)) → m_X0_needFrom_l5 (clW (rI ρ 0) p) (nI n) K (m + 1) l (nI j) w := by
    intro m
    induction m with
    | zero =>
      intro j hj l hl
      have : j = 9 := by omega
      subst this
      refine ⟨fun _ => k l ?_, fun z => absurd (by decide) z⟩
      rw [show u - n = u - (n + 1) + 1 by omega] at hl ⊢
      rcases hl with ⟨l1, l2⟩ | ⟨l1, l2, l3⟩
      · rw [l1, dm1]
        refine Or.inl ⟨rfl, fun k ⟨c, i, w1, w2, w3⟩ => l2 c w1 (by have := w1.1.2; omega) i w2⟩
      · refine Or.inr ⟨l1, l2, fun k ⟨c, i, w1, w2, w3⟩ => ?_⟩
        rw [w3]
        exact l3 c w1 (by have := w1.1.2; omega) i w2
    | succ m ih =>
      intro j hj l hl
      have ej := nI_toInt (n := j) (by omega)
      have hjD : isD (nI j) := ⟨by rw [ej]; omega, by rw [ej]; omega⟩
      have nj : ∀ c : Int32, c.toInt < ((j + 1 : Nat) : Int) → c.toInt < j ∨ c = nI j := fun c hc => by
        by_cases e : c.toInt = j
        · exact Or.inr (by rw [ti_eq, e, ej])
        · exact Or.inl (by omega)
      refine ⟨fun z => ?_, fun _ => p_needBy hr hF hu hn hp hjD hN (fun r hok h0 hr' => ?_) (fun hno => ⟨fun _ => ?_, fun z => absurd rfl z⟩)⟩
      · rw [ti_le, d9, ej] at z
        omega
      · have gN := hN _ (crr_on hp (nI j))
        have gl := gN.resolve_left fun z => by have := z.1; omega
        have cb := cst_b hjD (wnd_D hr (t := rI ρ 2 + n) (by omega) (by omega))
        have rne : ¬ r = -1 := fun e => by
          rw [e, dm1] at hr'
          omega
        have rway : way ρ (u - n) (rI ρ 2 + n) p d r.toInt := by
          rw [show u - n = u - (n + 1) + 1 by omega]
          exact ⟨nI j, _, hok, gl.2.1, hr'⟩
        rw [← nI_succ]
        refine ⟨fun z => absurd z rne, fun _ => ⟨fun z => ih (j + 1) (by omega) r (Or.inr ⟨by omega, rway, fun c hc hcj k hk => ?_⟩), fun z => ⟨fun y => ih (j + 1) (by omega) l ?_, fun y => ih (j + 1) (by omega) r (Or.inr ⟨by omega, rway, fun c hc hcj k hk => ?_⟩)⟩⟩⟩
        · rcases nj c hcj with e | e
          · rcases hl with ⟨l1, l2⟩ | ⟨l1, -⟩
            · exact absurd hk (l2 c hc e k)
            · rw [z, dm1] at l1
              omega
          · rw [e] at hk ⊢
            have := gl.2.2 k hk
            omega
        · rcases hl with ⟨l1, l2⟩ | ⟨l1, l2, l3⟩
          · exact absurd l1 z
          · rw [ti_le] at y
            refine Or.inr ⟨l1, l2, fun c hc hcj k hk => ?_⟩
            rcases nj c hcj with e | e
            · exact l3 c hc e k hk
            · rw [e] at hk ⊢
              have := gl.2.2 k hk
              omega
        · rcases hl with ⟨l1, l2⟩ | ⟨l1, l2, l3⟩
          · exact absurd l1 z
          · rw [ti_le] at y
            rcases nj c hcj with e | e
            · have := l3 c hc e k hk
              omega
            · rw [e] at hk ⊢
              have := gl.2.2 k hk
              omega
      · rw [← nI_succ]
        refine ih (j + 1) (by omega) l ?_
        rcases hl with ⟨l1, l2⟩ | ⟨l1, l2, l3⟩
        · refine Or.inl ⟨l1, fun c hc hcj => ?_⟩
          rcases nj c hcj with e | e
          · exact l2 c hc e
          · rw [e] at hc ⊢
            exact hno hc
        · refine Or.inr ⟨l1, l2, fun c hc hcj k hk => ?_⟩
          rcases nj c hcj with e | e
          · exact l3 c hc e k hk
          · rw [e] at hc hk
            exact absurd hk (hno hc k)
  exact ⟨10, key 9 0 (by decide) (-1) (Or.inl ⟨rfl, fun c hc hcj => by have := hc.1.1; omega⟩)⟩
theorem p_lookAtNeeds {s : Sg} {ρ : Nat → Int32} {u : Nat} {K : Sg → Prop} (hq : okQ ρ) (hF : Fresh s ρ) (hu : u ≤ 60) (h : ∀ w : Sg, needsC w ρ u (dAt ρ u) 0 → (∀ c, (c < 26 ∨ 87 ≤ c) → w c = s c) → K w) : m_X0_lookAtNeeds (nI u) s K := by
  have hr := hq.1
  have hh := hr.2.2.1
  have hW := hr.1
  have hH := hr.2.1
  have hwh := wh_hi (W := rI ρ 0) (H := rI ρ 1) (by omega) hW.2 (by omega) hH.2
  obtain ⟨N, hN⟩ : ∃ N : Nat, rI ρ 0 * rI ρ 1 = N := ⟨(rI ρ 0 * rI ρ 1).toNat, by omega⟩
  have eu := nI_toInt (n := u) (by omega)
  have d60 : (60 : Int32).toInt = 60 := by decide
  have v61 : vp_in (nI u) 61 := nI_in (by omega) (by decide)
  have row : ∀ (KO : Int32 → Sg → Prop) (n : Nat), n < u → ∀ w : Sg, (∀ c, (c < 26 ∨ 87 ≤ c) → w c = s c) → needsC w ρ u (dAt ρ u) (n + 1) → (∀ x : Sg, needsC x ρ u (dAt ρ u) n → (∀ c, (c < 26 ∨ 87 ≤ c) → x c = s c) → KO (nI n + (-1)) x) → ∀ m i : Nat, i + m = N → ∀ x : Sg, (∀ c, c ≠ 26 + n → x c = w c) → (∀ q : Int × Int, onS ρ q.1 q.2 = true → rI ρ 0 * q.2 + q.1 < i → isN ρ (u - n) (rI ρ 2 + n) q (dAt ρ u) (cv x (26 + n) (rI ρ 0) q)) → m_X0_lookAtNeeds_l37 (nI u) K KO (m + 1) (nI n) (nI i) x := by
    intro KO n hn w wc wN hK m
    have en := nI_toInt (n := n) (by omega)
    induction m with
    | zero =>
      intro i hi x xw x1
      have ei := nI_toInt (n := i) (by omega)
      have : i = N := by omega
      subst this
      refine ⟨fun _ => hK x (fun k k1 k2 q ho => ?_) (fun c hc => by rw [xw c (by omega)]; exact wc c hc), fun z => ?_⟩
      · by_cases e : k = n
        · subst e
          exact x1 q ho (by have := onS_cell hr ho; omega)
        · unfold cv
          rw [xw _ (by omega)]
          exact wN k (by omega) k2 q ho
      · rw [xw 19 (by omega), wc 19 (by omega), ti_le, hF.1, ei] at z
        exfalso
        omega
    | succ m ih =>
      intro i hi x xw x1
      have ei := nI_toInt (n := i) (by omega)
      obtain ⟨p, hp, ep⟩ := cell_of hr (i := i) (by omega)
      have ecl : nI i = clW (rI ρ 0) p := ti_ext (by rw [ei, ep])
      have e19 : x 19 = s 19 := (xw 19 (by omega)).trans (wc 19 (by omega))
      have xF : Look x ρ := hF.look.to e19 ((xw 22 (by omega)).trans (wc 22 (by omega))) ((xw 23 (by omega)).trans (wc 23 (by omega)))
      refine ⟨fun z => ?_, fun _ => ⟨fun y => ?_, fun _ => ⟨nI_in (by omega) (by decide), ?_⟩⟩⟩
      · rw [e19, ti_le, hF.1, ei] at z
        exfalso
        omega
      · rw [ti_le, show (240 : Int32).toInt = 240 by decide, ei] at y
        exfalso
        omega
      · have g : m_X0_needFrom (clW (rI ρ 0) p) (nI n) x (fun r55 s55 => (vp_in (nI i) 240 ∧ ∀ s58, s58 = st2 s55 (26 + (nI n).toNatClampNeg) (nI i).toNatClampNeg r55 → m_X0_lookAtNeeds_l37 (nI u) K KO (m + 1) (nI n) (nI i + 1) s58)) := by
          refine p_needFrom (u := u) (d := dAt ρ u) hr xF hu hn hp (fun q ho => ?_) fun r hr' => ⟨nI_in (by omega) (by decide), fun y hy => ?_⟩
          · have g := wN (n + 1) (Nat.le_refl _) (by omega) q ho
            rw [show rI ρ 2 + ((n + 1 : Nat) : Int) = rI ρ 2 + n + 1 by omega] at g
            unfold cv at g ⊢
            rw [xw _ (by omega)]
            exact g
          · rw [nI_clamp (by omega), nI_clamp (by omega)] at hy
            rw [← nI_succ]
            refine ih (i + 1) (by omega) y (fun c hc => by rw [hy, st2_row hc]; exact xw c hc) fun q ho hqi => ?_
            unfold cv
            by_cases e : rI ρ 0 * q.2 + q.1 = i
            · rw [hy, show (rI ρ 0 * q.2 + q.1).toNat = i by omega, st2_same, on_inj ho hp (by omega)]
              exact hr'
            · have oq := onS_cell hr ho
              rw [hy, st2_j (by omega)]
              exact x1 q ho (by omega)
        rw [← ecl] at g
        exact g
  have rows : ∀ n, n ≤ u → ∀ w : Sg, needsC w ρ u (dAt ρ u) n → (∀ c, (c < 26 ∨ 87 ≤ c) → w c = s c) → m_X0_lookAtNeeds_l31 (nI u) K (n + 1) (nI n - 1) w := by
    intro n
    induction n with
    | zero =>
      intro hn w wM wc
      exact ⟨fun _ => h w wM wc, fun z => absurd (by decide) z⟩
    | succ n ih =>
      intro hn w wM wc
      have en := nI_toInt (n := n) (by omega)
      rw [pred_n (by omega) (by omega), show n + 1 - 1 = n by omega]
      refine ⟨fun z => ?_, fun _ => ⟨N + 1, row _ n (by omega) w wc wM (fun x x1 x2 => ?_) N 0 (by omega) w (fun _ _ => rfl) (fun q ho hqi => by have := onS_cell hr ho; omega)⟩⟩
      · rw [ti_lt, d0, en] at z
        omega
      · rw [show nI n + (-1) = nI n - 1 from (Int32.sub_eq_add_neg (nI n) 1).symm]
        exact ih (by omega) x x1 x2
  refine ⟨fun z => ?_, fun _ => ⟨fun _ => ⟨v61, v61, ?_⟩, fun z => ?_⟩⟩
  · rw [ti_lt, d0, eu] at z
    omega
  · rw [nI_clamp (by omega), hF.2.1 u hu]
    refine p_begin hr (N_0 u (by omega)).2.2 (dAt_wat hq u).1 fun a a1 a2 l hl => ⟨u + 1, ?_⟩
    rw [hl]
    refine rows u (Nat.le_refl _) a (fun k k1 k2 q ho => ?_) (fun c hc => a2 c (by omega))
    have ek : k = u := by omega
    subst ek
    rw [show k - k = 0 by omega, a1 q ho]
    by_cases e : q = dAt ρ k
    · rw [if_pos e, d0, e]
      exact Or.inr ⟨Int.le_refl _, ⟨rfl, rfl⟩, fun j hj => by rw [hj.2]; exact Int.le_refl _⟩
    · rw [if_neg e]
      exact Or.inl ⟨rfl, fun k hk => e hk.1⟩
  · rw [ti_le, d60, eu] at z
    omega
theorem pos_congr {ρ : Nat → Int32} {p : Int × Int} {f g : Nat → Int32} : ∀ i, (∀ j, j < i → f j = g j) → pos ρ p f i = pos ρ p g i
  | 0, _ => rfl
  | i + 1, h => by
    show crr ρ (pos ρ p f i) (f i) = crr ρ (pos ρ p g i) (g i)
    rw [pos_congr i (fun j hj => h j (by omega)), h i (by omega)]
/-- the part of a route that is walked -/
def routeTo (ρ : Nat → Int32) (p q : Int × Int) (hours : Nat) (f : Nat → Int32) (n : Nat) : Prop :=
  ∀ i, i < n → ∃ k, lst ρ (hours - i) (rI ρ 2 + i) (pos ρ p f i) q k ∧ okc ρ (pos ρ p f i) (f i) ∧ way ρ (hours - i - 1) (rI ρ 2 + i + 1) (crr ρ (pos ρ p f i) (f i)) q (k - cst (f i) (wnd ρ (rI ρ 2 + i))) ∧
    ∀ c, okc ρ (pos ρ p f i) c → c.toInt < (f i).toInt → ¬ way ρ (hours - i - 1) (rI ρ 2 + i + 1) (crr ρ (pos ρ p f i) c) q (k - cst c (wnd ρ (rI ρ 2 + i)))
theorem routeTo.congr {ρ : Nat → Int32} {p q : Int × Int} {hours : Nat} {f g : Nat → Int32} {n : Nat} (h : routeTo ρ p q hours f n) (e : ∀ j, j < n → f j = g j) : routeTo ρ p q hours g n := by
  intro i hi
  rw [← pos_congr (f := f) (g := g) i (fun j hj => e j (by omega)), ← e i hi]
  exact h i hi
theorem pos_on {ρ : Nat → Int32} {p : Int × Int} {f : Nat → Int32} (hp : onS ρ p.1 p.2 = true) : ∀ i, onS ρ (pos ρ p f i).1 (pos ρ p f i).2 = true
  | 0 => hp
  | i + 1 => crr_on (pos_on hp i) _
theorem pos_wat {ρ : Nat → Int32} {p : Int × Int} {f : Nat → Int32} (hp : wat ρ p) : ∀ i, wat ρ (pos ρ p f i)
  | 0 => hp
  | i + 1 => crr_wat (pos_wat hp i) _
theorem p_firstNeeding {w : Sg} {ρ : Nat → Int32} {u n : Nat} {d p : Int × Int} {v : Int32} {K : Int32 → Sg → Prop} (hr : okR ρ) (hF : Look w ρ) (hu : u ≤ 60) (hn : n < u) (hp : onS ρ p.1 p.2 = true)
    (hN : ∀ q : Int × Int, onS ρ q.1 q.2 = true → isN ρ (u - (n + 1)) (rI ρ 2 + n + 1) q d (cv w (26 + (n + 1)) (rI ρ 0) q)) (hv : 0 ≤ v.toInt) (hl : lst ρ (u - n) (rI ρ 2 + n) p d v.toInt)
    (k : ∀ c : Int32, okc ρ p c → way ρ (u - n - 1) (rI ρ 2 + n + 1) (crr ρ p c) d (v.toInt - cst c (wnd ρ (rI ρ 2 + n))) → (∀ c', okc ρ p c' → c'.toInt < c.toInt → ¬ way ρ (u - n - 1) (rI ρ 2 + n + 1) (crr ρ p c') d (v.toInt - cst c' (wnd ρ (rI ρ 2 + n)))) → K c w) : m_X0_firstNeeding v (clW (rI ρ 0) p) (nI n) w K := by
  have hh := hr.2.2.1
  have d9 : (9 : Int32).toInt = 9 := by decide
  rw [show u - n - 1 = u - (n + 1) by omega] at k
  have hl1 := hl.1
  have hl2 := hl.2
  rw [show u - n = u - (n + 1) + 1 by omega] at hl1 hl2
  have key : ∀ m j : Nat, j + m = 9 → (∀ c, okc ρ p c → c.toInt < j → ¬ way ρ (u - (n + 1)) (rI ρ 2 + n + 1) (crr ρ p c) d (v.toInt - cst c (wnd ρ (rI ρ 2 + n)))) → m_X0_firstNeeding_l3 v (clW (rI ρ 0) p) (nI n) K (m + 1) (nI j) w := by
    intro m
    induction m with
    | zero =>
      intro j hj h1
      have : j = 9 := by omega
      subst this
      obtain ⟨c, i, w1, w2, w3⟩ := hl1
      exact absurd (show way ρ (u - (n + 1)) (rI ρ 2 + n + 1) (crr ρ p c) d (v.toInt - cst c (wnd ρ (rI ρ 2 + n))) by rw [show v.toInt - cst c (wnd ρ (rI ρ 2 + n)) = i by omega]; exact w2) (h1 c w1 (by have := w1.1.2; omega))
    | succ m ih =>
      intro j hj h1
      have ej := nI_toInt (n := j) (by omega)
      have hjD : isD (nI j) := ⟨by rw [ej]; omega, by rw [ej]; omega⟩
      have nj : ∀ c : Int32, c.toInt < ((j + 1 : Nat) : Int) → c.toInt < j ∨ c = nI j := fun c hc => by
        by_cases e : c.toInt = j
        · exact Or.inr (by rw [ti_eq, e, ej])
        · exact Or.inl (by omega)
      refine ⟨fun z => ?_, fun _ => p_needBy hr hF hu hn hp hjD hN (fun r hok h0 hr' => ?_) (fun hno => ⟨fun _ => ?_, fun z => ?_⟩)⟩
      · rw [ti_le, d9, ej] at z
        omega
      · have gN := hN _ (crr_on hp (nI j))
        have gl := gN.resolve_left fun z => by have := z.1; omega
        refine ⟨fun z => ?_, fun z => k _ hok ?_ fun c' hc' hcj => h1 c' hc' (by omega)⟩
        · rw [← nI_succ]
          refine ih (j + 1) (by omega) fun c hc hcj => ?_
          rcases nj c hcj with e | e
          · exact h1 c hc e
          · rw [e]
            intro hk
            have a := gl.2.2 _ hk
            have b := hl2 _ ⟨nI j, _, hok, gl.2.1, rfl⟩
            exact z (by rw [ti_eq]; omega)
        · rw [← z, hr', show cst (nI j) (wnd ρ (rI ρ 2 + n)) + cv w (26 + (n + 1)) (rI ρ 0) (crr ρ p (nI j)) - cst (nI j) (wnd ρ (rI ρ 2 + n)) = cv w (26 + (n + 1)) (rI ρ 0) (crr ρ p (nI j)) by omega]
          exact gl.2.1
      · rw [← nI_succ]
        refine ih (j + 1) (by omega) fun c hc hcj => ?_
        rcases nj c hcj with e | e
        · exact h1 c hc e
        · rw [e] at hc ⊢
          exact hno hc _
      · rw [← z, dm1] at hv
        omega
  exact ⟨10, key 9 0 (by decide) fun c hc hcj => by have := hc.1.1; omega⟩
theorem p_walk {s : Sg} {ρ : Nat → Int32} {a u : Nat} {d p : Int × Int} {K : Sg → Prop} (hr : okR ρ) (hF : Look s ρ) (hu : u ≤ 60) (la : ln a = 60) (ha : 90 ≤ a) (hp : onS ρ p.1 p.2 = true) (hN : needsC s ρ u d 0) (hw : ∃ k, way ρ u (rI ρ 2) p d k)
    (h : ∀ x : Sg, routeTo ρ p d u (fun i => x a i) u → (∀ c, c ≠ a → x c = s c) → K x) : m_X0_walk a (clW (rI ρ 0) p) (nI u) s K := by
  have hh := hr.2.2.1
  have eu := nI_toInt (n := u) (by omega)
  have d9 : (9 : Int32).toInt = 9 := by decide
  have key : ∀ m n : Nat, n + m = u → ∀ x : Sg, routeTo ρ p d u (fun i => x a i) n → (∀ c, c ≠ a → x c = s c) → (∃ k, way ρ (u - n) (rI ρ 2 + n) (pos ρ p (fun i => x a i) n) d k) → m_X0_walk_l6 a (clW (rI ρ 0) p) (nI u) K (m + 1) (clW (rI ρ 0) (pos ρ p (fun i => x a i) n)) (nI n) x := by
    intro m
    induction m with
    | zero =>
      intro n hn x x1 x2 _
      have : n = u := by omega
      subst this
      refine ⟨fun _ => h x x1 x2, fun z => ?_⟩
      rw [ti_le] at z
      omega
    | succ m ih =>
      intro n hn x x1 x2 ⟨k0, x3⟩
      have en := nI_toInt (n := n) (by omega)
      have ho := pos_on (f := fun i => x a i) hp n
      have oc := onS_cell hr ho
      have ec := clW_i hr ho
      have xs : ∀ n, n ≤ 60 → x (26 + n) = s (26 + n) := fun n hn => x2 _ (by omega)
      have xF : Look x ρ := hF.to (x2 19 (by omega)) (x2 22 (by omega)) (x2 23 (by omega))
      have v61 : vp_in (nI n) 61 := nI_in (by omega) (by decide)
      have vla : vp_in (nI n) (ln a) := by
        rw [la]
        exact nI_in (by omega) (by decide)
      refine ⟨fun z => ?_, fun _ => ⟨fun z => ?_, fun _ => ⟨v61, ?_⟩⟩⟩
      · rw [ti_le, eu, en] at z
        omega
      · rw [ti_le, la, ti_cn (by decide), en] at z
        omega
      · rw [nI_clamp (by omega)]
        refine p_X4_read (N_0 n (by omega)).2.2 (by decide) (by omega) (by omega) ?_
        rw [ec, xs n (by omega)]
        have gN := hN n (Nat.zero_le _) (by omega) _ ho
        unfold cv at gN
        obtain ⟨g1, g2⟩ := gN.lst x3
        refine p_firstNeeding hr xF hu (by omega) ho (fun q hoq => ?_) g1 g2 fun c hok hway hmin => ⟨vla, fun y hy => ⟨vla, ?_⟩⟩
        · have g := hN (n + 1) (Nat.zero_le _) (by omega) q hoq
          rw [show rI ρ 2 + ((n + 1 : Nat) : Int) = rI ρ 2 + n + 1 by omega] at g
          unfold cv at g ⊢
          rw [xs (n + 1) (by omega)]
          exact g
        · have yn : y a n = c := by rw [hy, st2_same]
          have yo : ∀ j, j < n → x a j = y a j := fun j hj => by rw [hy, st2_j (by omega)]
          have yk : ∀ b, b ≠ a → y b = s b := fun b hb => by rw [hy, st2_row hb, x2 b hb]
          have ep : pos ρ p (fun i => y a i) n = pos ρ p (fun i => x a i) n := pos_congr n fun j hj => (yo j hj).symm
          have ep1 : pos ρ p (fun i => y a i) (n + 1) = crr ρ (pos ρ p (fun i => x a i) n) c := by
            show crr ρ (pos ρ p (fun i => y a i) n) (y a n) = _
            rw [ep, yn]
          have hc' := hok.1
          unfold isD at hc'
          have e6 : (clW (rI ρ 0) (pos ρ p (fun i => x a i) n) * 9).toInt = (rI ρ 0 * (pos ρ p (fun i => x a i) n).2 + (pos ρ p (fun i => x a i) n).1) * 9 := by rw [ti_mul (by rw [ec, d9]; omega) (by rw [ec, d9]; omega), ec, d9]
          have e6c : (clW (rI ρ 0) (pos ρ p (fun i => x a i) n) * 9 + c).toInt = (rI ρ 0 * (pos ρ p (fun i => x a i) n).2 + (pos ρ p (fun i => x a i) n).1) * 9 + c.toInt := by rw [ti_add (by rw [e6]; omega) (by rw [e6]; omega), e6]
          rw [yn]
          refine p_X4_read (n := 2160) rfl (by decide) (by rw [e6c]; omega) (by rw [e6c]; omega) ?_
          rw [e6c, yk 22 (by omega), (hF.2.1 _ c ho hok.1).1 hok, ← ep1, ← nI_succ]
          refine ih (n + 1) (by omega) y (fun i hi => ?_) yk ⟨_, by
            rw [ep1, show u - (n + 1) = u - n - 1 by omega, show rI ρ 2 + ((n + 1 : Nat) : Int) = rI ρ 2 + n + 1 by omega]
            exact hway⟩
          by_cases e : i = n
          · subst e
            rw [ep, show (fun i => y a i) i = c from yn]
            exact ⟨_, g2, hok, hway, hmin⟩
          · exact (x1.congr (g := fun i => y a i) yo) i (by omega)
  refine ⟨u + 1, ?_⟩
  have := key u 0 (by omega) s (fun i hi => absurd hi (Nat.not_lt_zero _)) (fun _ _ => rfl) (by
    rw [show u - 0 = u from rfl, show rI ρ 2 + ((0 : Nat) : Int) = rI ρ 2 by omega]
    exact hw)
  exact this
