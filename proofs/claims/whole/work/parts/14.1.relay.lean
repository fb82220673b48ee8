/-! relay -/
theorem most_one {ρ : Nat → Int32} {m : Nat} {t : Int} {p q : Int × Int} {f x y : Int} (a : isMost ρ m t p q f x) (b : isMost ρ m t p q f y) : x = y := by
  rcases a with ⟨a1, a2⟩ | ⟨a1, a2⟩
  · rcases b with ⟨b1, b2⟩ | ⟨b1, b2⟩
    · omega
    · have := a2 _ b2.1
      omega
  · rcases b with ⟨b1, b2⟩ | ⟨b1, b2⟩
    · have := b2 _ a2.1
      omega
    · have := lst_one a2 b2
      omega
/-- b gives a, in cell g at hour i: a has e then -/
def gv (ρ : Nat → Int32) (a b i : Nat) (g : Int × Int) (e : Int) : Prop := ∃ x y : Int, isMost ρ i (rI ρ 2) (hAt ρ a) g (fAt ρ a) x ∧ 0 ≤ x ∧ isMost ρ i (rI ρ 2) (hAt ρ b) g (fAt ρ b) y ∧ 0 ≤ y ∧ e = (if rI ρ 4 < x + y then rI ρ 4 else x + y)
theorem gv.wat {ρ : Nat → Int32} (hq : okQ ρ) {a b i : Nat} (ha : (a : Int) < rI ρ 3) {g : Int × Int} {e : Int} (h : gv ρ a b i g e) : wat ρ g ∧ 0 ≤ e ∧ e ≤ 999 := by
  obtain ⟨x, y, h1, h2, h3, h4, h5⟩ := h
  have ht := hq.1.2.2.2.2.1
  refine ⟨?_, ?_⟩
  · rcases h1 with ⟨z, -⟩ | ⟨-, z⟩
    · omega
    · exact way_wat _ _ _ _ (hq.2.2.2.1 a ha).1 z.1
  · rw [h5]
    split <;> omega
/-- v is the most that a can have in q at hour n, given at hours before m; -1 if none -/
def rl (ρ : Nat → Int32) (a b n m : Nat) (q : Int × Int) (v : Int) : Prop :=
  (-1 ≤ v ∧ v ≤ 999) ∧ (∀ i g e k, i < m → gv ρ a b i g e → way ρ (n - i) (rI ρ 2 + i) g q k → e - k ≤ v) ∧ (v = -1 ∨ (0 ≤ v ∧ ∃ (i : Nat) (g : Int × Int) (e k : Int), i < m ∧ gv ρ a b i g e ∧ way ρ (n - i) (rI ρ 2 + i) g q k ∧ v = e - k))
def canR (ρ : Nat → Int32) (a b n : Nat) : Prop := ∃ (i : Nat) (g : Int × Int) (e k : Int), i < n + 1 ∧ gv ρ a b i g e ∧ way ρ (n - i) (rI ρ 2 + i) g (dAt ρ n) k ∧ k ≤ e
theorem rl.step {ρ : Nat → Int32} (hq : okQ ρ) {a b n : Nat} (ha : (a : Int) < rI ρ 3) (hn : n < 60) {F G : Int × Int → Int} (hF : ∀ q : Int × Int, onS ρ q.1 q.2 = true → rl ρ a b n (n + 1) q (F q)) (hS : stepP ρ (rI ρ 2 + n) 1 F G (fun _ _ => True)) (q : Int × Int) (ho : onS ρ q.1 q.2 = true) : rl ρ a b (n + 1) (n + 1) q (G q) := by
  have hr := hq.1
  have hh := hr.2.2.1
  obtain ⟨a1, a2, a3⟩ := hS q ho
  refine ⟨⟨a1, ?_⟩, fun i g e k hi hg hw => ?_, ?_⟩
  · rcases a3 with a3 | ⟨p, c, b1, b2, b3, b4, b5⟩
    · omega
    · have := (hF p b1).1
      have := cst_b b2.1 (wnd_D hr (t := rI ρ 2 + n) (by omega) (by omega))
      omega
  · rw [show n + 1 - i = n - i + 1 by omega] at hw
    obtain ⟨r, c, j, w1, w2, w3, w4⟩ := way_last.mp hw
    rw [show rI ρ 2 + (i : Int) + ((n - i : Nat) : Int) = rI ρ 2 + n by omega] at w4
    have ro := (way_wat _ _ _ _ (hg.wat hq ha).1 w1).1
    have f := (hF r ro).2.1 i g e j hi hg w1
    have cb := cst_b w2.1 (wnd_D hr (t := rI ρ 2 + n) (by omega) (by omega))
    by_cases z : 0 ≤ F r
    · have := a2 r c ro w2 w3 z trivial
      omega
    · omega
  · rcases a3 with a3 | ⟨p, c, b1, b2, b3, b4, b5⟩
    · exact Or.inl a3
    · rcases (hF p b1).2.2 with y | ⟨y1, i, g, e, k, y2, y3, y4, y5⟩
      · omega
      · by_cases z : G q = -1
        · exact Or.inl z
        · refine Or.inr ⟨by omega, i, g, e, k + cst c (wnd ρ (rI ρ 2 + n)), y2, y3, ?_, by omega⟩
          rw [show n + 1 - i = n - i + 1 by omega]
          exact way_last.mpr ⟨p, c, k, y4, b2, b3, by rw [show rI ρ 2 + (i : Int) + ((n - i : Nat) : Int) = rI ρ 2 + n by omega]⟩
theorem rl.give {ρ : Nat → Int32} (hq : okQ ρ) {a b n : Nat} (ha : (a : Int) < rI ρ 3) {q : Int × Int} {v x y v' : Int} (h : rl ρ a b n n q v) (hx : isMost ρ n (rI ρ 2) (hAt ρ a) q (fAt ρ a) x) (hy : isMost ρ n (rI ρ 2) (hAt ρ b) q (fAt ρ b) y)
    (e1 : (x = -1 ∨ y = -1) → v' = v) (e2 : x ≠ -1 → y ≠ -1 → v' = (if v < (if rI ρ 4 < x + y then rI ρ 4 else x + y) then (if rI ρ 4 < x + y then rI ρ 4 else x + y) else v)) : rl ρ a b n (n + 1) q v' := by
  have ht := hq.1.2.2.2.2.1
  have x0 : x = -1 ∨ 0 ≤ x := by
    rcases hx with ⟨z, -⟩ | ⟨z, -⟩
    · exact Or.inl z
    · exact Or.inr z
  have y0 : y = -1 ∨ 0 ≤ y := by
    rcases hy with ⟨z, -⟩ | ⟨z, -⟩
    · exact Or.inl z
    · exact Or.inr z
  obtain ⟨h1, h2, h3⟩ := h
  have gvn : ∀ e, gv ρ a b n q e → x ≠ -1 ∧ y ≠ -1 ∧ e = (if rI ρ 4 < x + y then rI ρ 4 else x + y) := fun e ⟨x', y', g1, g2, g3, g4, g5⟩ => by
    have a1 := most_one g1 hx
    have a2 := most_one g3 hy
    subst a1
    subst a2
    exact ⟨by omega, by omega, g5⟩
  have up : ∀ w, v ≤ w → (∀ e, gv ρ a b n q e → e ≤ w) → ∀ i g e k, i < n + 1 → gv ρ a b i g e → way ρ (n - i) (rI ρ 2 + i) g q k → e - k ≤ w := by
    intro w w1 w2 i g e k hi hg hw
    by_cases z : i = n
    · subst z
      rw [show i - i = 0 by omega] at hw
      have := w2 e (by rw [← hw.1]; exact hg)
      have := hw.2
      omega
    · have := h2 i g e k (by omega) hg hw
      omega
  have old : (v = -1 ∨ (0 ≤ v ∧ ∃ (i : Nat) (g : Int × Int) (e k : Int), i < n + 1 ∧ gv ρ a b i g e ∧ way ρ (n - i) (rI ρ 2 + i) g q k ∧ v = e - k)) := by
    rcases h3 with z | ⟨z, i, g, e, k, z1, z2, z3, z4⟩
    · exact Or.inl z
    · exact Or.inr ⟨z, i, g, e, k, by omega, z2, z3, z4⟩
  by_cases z : x = -1 ∨ y = -1
  · rw [e1 z]
    refine ⟨h1, up v (Int.le_refl _) (fun e he => ?_), old⟩
    have := gvn e he
    omega
  · have zx : x ≠ -1 := fun e => z (Or.inl e)
    have zy : y ≠ -1 := fun e => z (Or.inr e)
    have new : gv ρ a b n q (if rI ρ 4 < x + y then rI ρ 4 else x + y) := ⟨x, y, hx, x0.resolve_left zx, hy, y0.resolve_left zy, rfl⟩
    have nb := (new.wat hq ha).2
    rw [e2 zx zy]
    generalize hE : (if rI ρ 4 < x + y then rI ρ 4 else x + y) = E at new nb gvn
    by_cases w : v < E
    · rw [if_pos w]
      refine ⟨by omega, up E (by omega) (fun e he => by have := (gvn e he).2.2; omega), Or.inr ⟨nb.1, n, q, E, 0, by omega, new, ?_, by omega⟩⟩
      rw [show n - n = 0 by omega]
      exact ⟨rfl, rfl⟩
    · rw [if_neg w]
      exact ⟨h1, up v (Int.le_refl _) (fun e he => by have := (gvn e he).2.2; omega), old⟩
theorem rl.can {ρ : Nat → Int32} {a b n : Nat} {v : Int} (h : rl ρ a b n (n + 1) (dAt ρ n) v) : v ≠ -1 ↔ canR ρ a b n := by
  refine ⟨fun z => ?_, fun ⟨i, g, e, k, h1, h2, h3, h4⟩ => ?_⟩
  · rcases h.2.2 with y | ⟨y, i, g, e, k, y1, y2, y3, y4⟩
    · exact absurd y z
    · exact ⟨i, g, e, k, y1, y2, y3, by omega⟩
  · have := h.2.1 i g e k h1 h2 h3
    omega
/-- the class gives -/
theorem p_giveFuel {s : Sg} {ρ : Nat → Int32} {ra rb c a b n : Nat} {K : Sg → Prop} (hq : okQ ρ) (hw : Rw s 2 ρ) (h8 : (s 19 8).toInt = rI ρ 0 * rI ρ 1) (la : ln ra = 240) (lb : ln rb = 240) (lc : ln c = 240) (hca : c ≠ ra) (hcb : c ≠ rb) (hc : 9 < c ∧ c ≠ 19) (ha : (a : Int) < rI ρ 3) (hb : (b : Int) < rI ρ 3) (hn : n ≤ 60)
    (hA : ∀ q : Int × Int, onS ρ q.1 q.2 = true → isMost ρ n (rI ρ 2) (hAt ρ a) q (fAt ρ a) (cv s ra (rI ρ 0) q)) (hB : ∀ q : Int × Int, onS ρ q.1 q.2 = true → isMost ρ n (rI ρ 2) (hAt ρ b) q (fAt ρ b) (cv s rb (rI ρ 0) q)) (hC : ∀ q : Int × Int, onS ρ q.1 q.2 = true → rl ρ a b n n q (cv s c (rI ρ 0) q))
    (h : ∀ u : Sg, (∀ q : Int × Int, onS ρ q.1 q.2 = true → rl ρ a b n (n + 1) q (cv u c (rI ρ 0) q)) → (∀ k, k ≠ c → u k = s k) → K u) : m_X0_giveFuel ra rb c s K := by
  have hr := hq.1
  have hh := hr.2.2.1
  have hW := hr.1
  have hH := hr.2.1
  have ht := hr.2.2.2.2.1
  have hwh := wh_hi (W := rI ρ 0) (H := rI ρ 1) (by omega) hW.2 (by omega) hH.2
  obtain ⟨N, hN⟩ : ∃ N : Nat, rI ρ 0 * rI ρ 1 = N := ⟨(rI ρ 0 * rI ρ 1).toNat, by omega⟩
  have fa := (hq.2.2.2.1 a ha).2
  have fb := (hq.2.2.2.1 b hb).2
  have key : ∀ m i : Nat, i + m = N → ∀ u : Sg, (∀ k, k ≠ c → u k = s k) → (∀ q : Int × Int, onS ρ q.1 q.2 = true → rI ρ 0 * q.2 + q.1 < i → rl ρ a b n (n + 1) q (cv u c (rI ρ 0) q)) → (∀ q : Int × Int, onS ρ q.1 q.2 = true → i ≤ rI ρ 0 * q.2 + q.1 → cv u c (rI ρ 0) q = cv s c (rI ρ 0) q) → m_X0_giveFuel_l3 ra rb c K (m + 1) (nI i) u := by
    intro m
    induction m with
    | zero =>
      intro i hi u uk u1 u2
      have ei := nI_toInt (n := i) (by omega)
      refine ⟨fun _ => h u (fun q ho => u1 q ho (by have := onS_cell hr ho; omega)) uk, fun z => ?_⟩
      rw [uk 19 (Ne.symm hc.2), ti_le, h8, ei] at z
      omega
    | succ m ih =>
      intro i hi u uk u1 u2
      have ei := nI_toInt (n := i) (by omega)
      obtain ⟨p, hp, ep⟩ := cell_of hr (i := i) (by omega)
      have gA := hA p hp
      have gB := hB p hp
      have gC := hC p hp
      have bA := isMo.b hr (Or.inl rfl) (by omega) (by omega) fa.1 (isMo_1.mpr gA)
      have bB := isMo.b hr (Or.inl rfl) (by omega) (by omega) fb.1 (isMo_1.mpr gB)
      have bC := gC.1
      have eA : cv s ra (rI ρ 0) p = (u ra i).toInt := by
        unfold cv
        rw [uk ra (Ne.symm hca), ← ep]
        rfl
      have eB : cv s rb (rI ρ 0) p = (u rb i).toInt := by
        unfold cv
        rw [uk rb (Ne.symm hcb), ← ep]
        rfl
      have eC : cv s c (rI ρ 0) p = (u c i).toInt := by
        rw [← u2 p hp (by omega)]
        unfold cv
        rw [← ep]
        rfl
      have next : rl ρ a b n (n + 1) p (u c i).toInt → m_X0_giveFuel_l3 ra rb c K (m + 1) (nI i + 1) u := by
        intro hp1
        rw [← nI_succ]
        refine ih (i + 1) (by omega) u uk (fun q ho hqi => ?_) (fun q ho hqi => u2 q ho (by omega))
        by_cases e : rI ρ 0 * q.2 + q.1 = i
        · have eq : q = p := on_inj ho hp (by omega)
          rw [eq]
          unfold cv
          rw [← ep]
          exact hp1
        · exact u1 q ho (by omega)
      refine ⟨fun z => ?_, fun _ => p_X4_read la (by decide) (by omega) (by omega) (p_X4_read lb (by decide) (by omega) (by omega) ?_)⟩
      · rw [uk 19 (Ne.symm hc.2), ti_le, h8, ei] at z
        omega
      · rw [ei, show ((i : Int)).toNat = i by omega]
        have hu2 : u 2 = s 2 := uk 2 (by omega)
        refine ⟨fun z => next ?_, fun z => ⟨fun y => next ?_, fun y l hl => p_X4_read lc (by decide) (by omega) (by omega) (p_X4_write lc (by decide) (by omega) (by omega) ?_)⟩⟩
        · rw [← eC]
          exact gC.give hq ha gA gB (fun _ => rfl) fun w => absurd (by rw [eA, z, dm1]) w
        · rw [← eC]
          exact gC.give hq ha gA gB (fun _ => rfl) fun _ w => absurd (by rw [eB, y, dm1]) w
        · rw [ei, show ((i : Int)).toNat = i by omega]
          have hx : (u ra i).toInt ≠ -1 := fun e => z (by rw [ti_eq, e, dm1])
          have hy : (u rb i).toInt ≠ -1 := fun e => y (by rw [ti_eq, e, dm1])
          have es : (u ra i + u rb i).toInt = (u ra i).toInt + (u rb i).toInt := ti_add (by omega) (by omega)
          have el : l.toInt = if rI ρ 4 < (u ra i).toInt + (u rb i).toInt then rI ρ 4 else (u ra i).toInt + (u rb i).toInt := by
            rw [hl, hu2, hw.1.2.2.2.1]
            by_cases g : rI ρ 4 < (u ra i).toInt + (u rb i).toInt
            · rw [if_pos g, if_pos (by rw [ti_lt, es]; exact g)]
              rfl
            · rw [if_neg g, if_neg (by rw [ti_lt, es]; exact g), es]
          have ev : (if u c i < l then l else u c i).toInt = if (u c i).toInt < l.toInt then l.toInt else (u c i).toInt := by
            by_cases g : (u c i).toInt < l.toInt
            · rw [if_pos g, if_pos (ti_lt.mpr g)]
            · rw [if_neg g, if_neg (fun q => g (ti_lt.mp q))]
          rw [← nI_succ]
          refine ih (i + 1) (by omega) _ (fun k hk => by rw [st2_row hk]; exact uk k hk) (fun q ho hqi => ?_) (fun q ho hqi => ?_)
          · by_cases e : rI ρ 0 * q.2 + q.1 = i
            · have eq : q = p := on_inj ho hp (by omega)
              rw [eq]
              unfold cv
              rw [← ep, show ((i : Int)).toNat = i by omega, st2_same]
              refine gC.give hq ha gA gB (fun w => ?_) fun _ _ => ?_
              · rw [eA, eB] at w
                omega
              · rw [ev, el, eA, eB, eC]
            · have oq := onS_cell hr ho
              have g := u1 q ho (by omega)
              unfold cv at g ⊢
              rw [st2_j (by omega)]
              exact g
          · have oq := onS_cell hr ho
            rw [← u2 q ho (by omega)]
            unfold cv
            rw [st2_j (by omega)]
  exact ⟨N + 1, key N 0 (by omega) s (fun _ _ => rfl) (fun q ho hqi => by have := onS_cell hr ho; omega) (fun _ _ _ => rfl)⟩
