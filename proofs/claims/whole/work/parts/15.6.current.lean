/-! a text: currents -/
def rC (ρ : Nat → Int32) (x0 y0 x1 y1 : Nat) (D : Int32) : Nat → Int32 := fun j => if (849 ≤ j ∧ j < 1089) ∧ (x0 ≤ (j - 849) % 20 ∧ (j - 849) % 20 ≤ x1) ∧ (y0 ≤ (j - 849) / 20 ∧ (j - 849) / 20 ≤ y1) then D else ρ j
section
variable {κ : Type} {S : κ → Prop} {F : Sg → Prop} {Kc : Int32 → Sg → Prop} {s0 t0 s : Sg} {B : Nat → Int32} {e a a2 : Nat} {w d p k : Bool} {ρ : Nat → Int32}
theorem b_pair {Kr : κ → Int32 → Int32 → Sg → Prop} (hC : CT s B e a) (ha : rn isBl B e a2 = rn isBl B e a) (hr : okR ρ) (h0 : s 10 0 = ρ 0) (h1 : s 10 1 = ρ 1) (hF : ∀ x, F x → RT x B e a2 ∧ x 351 = ρ) (H : ∀ KR, (∀ x, F x → m_X5_number 0 (x 351 0 - 1) x (fun r20 s20 => (vp_in 1 1098 ∧ m_X5_number 0 (s20 351 1 - 1) s20 (fun r34 s34 => Kr KR r20 r34 s34)))) → S KR)
    (ok : ∀ (u : Sg) (b v v2 : Nat), a < b → onS ρ (v : Int) (v2 : Int) = true → CT u B e b → u 18 6 = clW (rI ρ 0) ((v : Int), (v2 : Int)) → clP u s → (∀ KR, (∀ y x, F x → RT y B e b → rfO y x → Kr KR (nI v) (nI v2) y) → S KR) → Kc 1 u)
    (bad : ∀ (u : Sg) (f : Int32) (pl : Nat), ¬ f = 0 → u 18 9 = f → u 18 10 = nI pl → (∀ c, c ≠ 18 → u c = s c) → (∀ KR, (∀ y x r r', F x → FT y B e f pl → rfF y x → Kr KR r r' y) → S KR) → Kc 0 u) : m_X2_readCell s Kc := by
  have hW := hr.1
  have hH := hr.2.1
  have eW : (ρ 0 - 1).toInt = rI ρ 0 - 1 := by
    unfold rI at hW ⊢
    rw [ti_sub (by rw [d1]; omega) (by rw [d1]; omega), d1]
  have eH : (ρ 1 - 1).toInt = rI ρ 1 - 1 := by
    unfold rI at hH ⊢
    rw [ti_sub (by rw [d1]; omega) (by rw [d1]; omega), d1]
  have v1 : vp_in 1 1098 := by rw [ti_in]; decide
  unfold m_X2_readCell
  rw [h0]
  refine b_num (a2 := a2) (F := F) (Kr := fun KR r20 s20 => (vp_in 1 1098 ∧ m_X5_number 0 (s20 351 1 - 1) s20 (fun r34 s34 => Kr KR r20 r34 s34))) (fun _ => 0) (fun x => x 351 0 - 1) hC ha (fun y hy => ⟨(hF y hy).1, rfl, by show y 351 0 - 1 = _; rw [(hF y hy).2]⟩) (by rw [eW]; omega) H ?_ ?_
  · intro u b v hab hlo hhi uC u4 u5 uf HK
    rw [eW] at hhi
    refine ⟨fun _ l1 hl1 w hw => ?_, fun z => absurd z one0⟩
    have wf : ∀ c, c ≠ 18 → w c = s c := fun c hc => by rw [hw, st2_row hc, uf.1 c hc]
    have wC : CT w B e b := uC.mv (fun c hc => by rw [hw, st2_row hc]) (by rw [hw, st2_j (by decide)]) (by rw [hw, st2_j (by decide)]; exact uC.2.1) uC.2.2.1
    rw [wf 10 (by decide), h1]
    refine b_num (a2 := b) (F := fun z => ∃ x, F x ∧ RT z B e b ∧ rfO z x) (Kr := fun KR r34 s34 => Kr KR (nI v) r34 s34) (fun _ => 0) (fun x => x 351 1 - 1) wC rfl (fun y ⟨x, hx, yT, yf⟩ => ⟨yT, rfl, by show y 351 1 - 1 = _; rw [yf.1 351 (by decide), (hF x hx).2]⟩) (by rw [eH]; omega) (fun KR h => HK KR fun y x hx yT yf => ⟨v1, h y ⟨x, hx, yT, yf⟩⟩) ?_ ?_
    · intro g b2 v2 hab2 hlo2 hhi2 gC g4 g5 gf HK2
      rw [eH] at hhi2
      have ev : (nI v).toInt = v := nI_toInt (by omega)
      have ev2 : (nI v2).toInt = v2 := nI_toInt (by omega)
      have ho : onS ρ (v : Int) (v2 : Int) = true := onS_iff.mpr ⟨by omega, by omega, by omega, by omega⟩
      refine ⟨fun _ => ?_, fun z => absurd z one0⟩
      unfold m_X3_cellAt
      intro k hk
      have g10 : g 10 = s 10 := by rw [gf.1 10 (by decide), wf 10 (by decide)]
      have kf : ∀ c, c ≠ 18 → k c = s c := fun c hc => by rw [hk, st2_row hc, gf.1 c hc, wf c hc]
      have ek : g 10 0 * g 18 5 + l1 = clW (rI ρ 0) ((v : Int), (v2 : Int)) := by
        rw [g10, h0, g5, hl1, u5]
        have := numW (ρ := ρ) hr (a := nI v) (b := nI v2) (by rw [ev, ev2]; exact ho)
        rw [ev, ev2] at this
        exact this
      refine ok k b2 v v2 (by omega) ho (gC.mv (fun c hc => by rw [hk, st2_row hc]) (by rw [hk, st2_j (by decide)]) (by rw [hk, st2_j (by decide)]; exact gC.2.1) gC.2.2.1) (by rw [hk, st2_same, ek]) ⟨kf, fun j hj => ?_⟩ fun KR hK => HK2 KR fun z y ⟨x, hx, yT, yf⟩ zT zf => hK z x hx zT (zf.trans yf)
      rw [hk, st2_j (by omega), gf.2 j (by omega) (by omega) (by omega), hw, st2_j (by omega), uf.2 j (by omega) (by omega) (by omega)]
    · intro g f pl fne g9 g10 gf HK2
      exact ⟨fun z => absurd rfl z, fun _ => bad g f pl fne g9 g10 (fun c hc => by rw [gf c hc, wf c hc]) fun KR hK => HK2 KR fun z y r ⟨x, hx, yT, yf⟩ zF zf => hK z x _ r hx zF (zf.trans yf.F)⟩
  · intro u f pl fne u9 u10 uf HK
    exact ⟨fun z => absurd rfl z, fun _ => bad u f pl fne u9 u10 uf fun KR hK => HK KR fun z x r hx zF zf => ⟨v1, p_numberD zF (hK z x r 0 hx zF zf)⟩⟩
theorem p_mW {r : Nat} {v u : Int32} {σ : Sg} {K : Int32 → Sg → Prop} (k : K (σ r 0 * u + v) σ) : m_X3_cellAt r v u σ K := k
/-- the class's box -/
theorem p_box {x0 y0 x1 y1 b : Nat} {D : Int32} {K : Int32 → Sg → Prop} (hr : okR ρ) (h0 : s 10 0 = ρ 0) (h1 : x0 ≤ x1) (h2 : (x1 : Int) < rI ρ 0) (h3 : y0 ≤ y1) (h4 : (y1 : Int) < rI ρ 1) (h5 : s 18 5 = D) (hC : CT s B e b)
    (k : ∀ u : Sg, (∀ c, c ≠ 14 → u c = s c) → (∀ x y : Nat, (x : Int) < rI ρ 0 → (y : Int) < rI ρ 1 → u 14 (rI ρ 0 * (y : Int) + (x : Int)).toNat = if (x0 ≤ x ∧ x ≤ x1) ∧ y0 ≤ y ∧ y ≤ y1 then D else s 14 (rI ρ 0 * (y : Int) + (x : Int)).toNat) → m_X2_readEnd u (fun r155 s155 => K r155 s155)) : ∃ n9, m_X2_readCurrent_l101 K n9 (nI x0) (nI x1) (nI y1) (nI y0) s := by
  have hW := hr.1
  have hH := hr.2.1
  have e1 := nI_toInt (n := x1) (by omega)
  have f1 := nI_toInt (n := y1) (by omega)
  -- what is done ahead of (x, y)
  have inner : ∀ (KO : Int32 → Int32 → Int32 → Int32 → Sg → Prop) (y : Nat), y0 ≤ y → y ≤ y1 → ∀ m x : Nat, x + m = x1 + 1 → x0 ≤ x → ∀ u : Sg, (∀ c, c ≠ 14 → u c = s c) → (∀ i j : Nat, (i : Int) < rI ρ 0 → (j : Int) < rI ρ 1 → u 14 (rI ρ 0 * (j : Int) + (i : Int)).toNat = if (x0 ≤ i ∧ i ≤ x1) ∧ y0 ≤ j ∧ (j < y ∨ (j = y ∧ i < x)) then D else s 14 (rI ρ 0 * (j : Int) + (i : Int)).toNat) → (∀ v : Sg, (∀ c, c ≠ 14 → v c = s c) → (∀ i j : Nat, (i : Int) < rI ρ 0 → (j : Int) < rI ρ 1 → v 14 (rI ρ 0 * (j : Int) + (i : Int)).toNat = if (x0 ≤ i ∧ i ≤ x1) ∧ y0 ≤ j ∧ j < y + 1 then D else s 14 (rI ρ 0 * (j : Int) + (i : Int)).toNat) → KO (nI x0) (nI x1) (nI y1) (nI y + 1) v) → m_X2_readCurrent_l111 K KO (m + 1) (nI x0) (nI x1) (nI y1) (nI y) (nI x) u := by
    intro KO y hy0 hy1 m
    have ey := nI_toInt (n := y) (by omega)
    induction m with
    | zero =>
      intro x hx hx0 u uk u14 hK
      have ex := nI_toInt (n := x) (by omega)
      refine ⟨fun _ => hK u uk fun i j hi hj => ?_, fun z => ?_⟩
      · rw [u14 i j hi hj]
        by_cases g : (x0 ≤ i ∧ i ≤ x1) ∧ y0 ≤ j ∧ j < y + 1
        · rw [if_pos g, if_pos (by omega)]
        · rw [if_neg g, if_neg (by omega)]
      · rw [ti_lt, e1, ex] at z
        omega
    | succ m ih =>
      intro x hx hx0 u uk u14 hK
      have ex := nI_toInt (n := x) (by omega)
      have ho : onS ρ (x : Int) (y : Int) = true := onS_iff.mpr (by omega)
      have oc := onS_cell (p := ((x : Int), (y : Int))) hr ho
      have ec := clW_i (p := ((x : Int), (y : Int))) hr ho
      simp only at oc ec
      refine ⟨fun z => ?_, fun _ => ?_⟩
      · rw [ti_lt, e1, ex] at z
        omega
      · refine p_mW ?_
        have en : u 10 0 * nI y + nI x = clW (rI ρ 0) ((x : Int), (y : Int)) := by
          rw [uk 10 (by decide), h0]
          have := numW (ρ := ρ) hr (a := nI x) (b := nI y) (by rw [ex, ey]; exact ho)
          rw [ex, ey] at this
          exact this
        rw [en, uk 18 (by decide), h5]
        refine p_X4_write (W_L4 (Or.inr (Or.inl rfl))) (by decide) (by omega) (by omega) ?_
        rw [ec, ← nI_succ]
        refine ih (x + 1) (by omega) (by omega) _ (fun c hc => by rw [st2_row (show c ≠ 10 + 4 from hc)]; exact uk c hc) (fun i j hi hj => ?_) hK
        by_cases g : i = x ∧ j = y
        · obtain ⟨g1, g2⟩ := g
          subst g1
          subst g2
          rw [if_pos (by omega)]
          exact st2_same _ _ _ _
        · have hoij : onS ρ (i : Int) (j : Int) = true := onS_iff.mpr (by omega)
          have ocij := onS_cell (p := ((i : Int), (j : Int))) hr hoij
          simp only at ocij
          rw [show st2 u (10 + 4) (rI ρ 0 * (y : Int) + (x : Int)).toNat D 14 (rI ρ 0 * (j : Int) + (i : Int)).toNat = u 14 (rI ρ 0 * (j : Int) + (i : Int)).toNat from st2_j (fun w => g ?_), u14 i j hi hj]
          · by_cases q : (x0 ≤ i ∧ i ≤ x1) ∧ y0 ≤ j ∧ (j < y ∨ (j = y ∧ i < x))
            · rw [if_pos q, if_pos (by omega)]
            · rw [if_neg q, if_neg (by omega)]
          · have := cell_inj (W := rI ρ 0) (x := (i : Int)) (y := (j : Int)) (x' := (x : Int)) (y' := (y : Int)) (by omega) (by omega) (by omega) (by omega) (by omega)
            omega
  have outer : ∀ m y : Nat, y + m = y1 + 1 → y0 ≤ y → ∀ u : Sg, (∀ c, c ≠ 14 → u c = s c) → (∀ i j : Nat, (i : Int) < rI ρ 0 → (j : Int) < rI ρ 1 → u 14 (rI ρ 0 * (j : Int) + (i : Int)).toNat = if (x0 ≤ i ∧ i ≤ x1) ∧ y0 ≤ j ∧ j < y then D else s 14 (rI ρ 0 * (j : Int) + (i : Int)).toNat) → m_X2_readCurrent_l101 K (m + 1) (nI x0) (nI x1) (nI y1) (nI y) u := by
    intro m
    induction m with
    | zero =>
      intro y hy hy0 u uk u14
      have ey := nI_toInt (n := y) (by omega)
      refine ⟨fun _ => k u uk fun i j hi hj => ?_, fun z => ?_⟩
      · rw [u14 i j hi hj]
        by_cases g : (x0 ≤ i ∧ i ≤ x1) ∧ y0 ≤ j ∧ j ≤ y1
        · rw [if_pos g, if_pos (by omega)]
        · rw [if_neg g, if_neg (by omega)]
      · rw [ti_lt, f1, ey] at z
        omega
    | succ m ih =>
      intro y hy hy0 u uk u14
      have ey := nI_toInt (n := y) (by omega)
      refine ⟨fun z => ?_, fun _ => ⟨x1 + 1 - x0 + 1, inner _ y hy0 (by omega) (x1 + 1 - x0) x0 (by omega) (Nat.le_refl _) u uk (fun i j hi hj => ?_) fun v vk v14 => ?_⟩⟩
      · rw [ti_lt, f1, ey] at z
        omega
      · rw [u14 i j hi hj]
        by_cases g : (x0 ≤ i ∧ i ≤ x1) ∧ y0 ≤ j ∧ j < y
        · rw [if_pos g, if_pos (by omega)]
        · rw [if_neg g, if_neg (by omega)]
      · rw [← nI_succ]
        exact ih (y + 1) (by omega) (by omega) v vk v14
  refine ⟨y1 + 1 - y0 + 1, outer (y1 + 1 - y0) y0 (by omega) (Nat.le_refl _) s (fun _ _ => rfl) fun i j hi hj => ?_⟩
  rw [if_neg (by omega)]
/-- the reference's box -/
theorem p_boxM {x : Sg} {x0 y0 x1 y1 b : Nat} {D : Int32} {K : Sg → Prop} (hT : RT x B e b) (hx : x 351 = ρ) (h1 : x0 ≤ x1) (h2 : x1 < 20) (h3 : y0 ≤ y1) (h4 : y1 < 12) (k : ∀ y : Sg, (∀ c, c ≠ 351 → y c = x c) → y 351 = rC ρ x0 y0 x1 y1 D → K y) : ∃ n9, m_X5_readsCurrent_l66 K n9 (nI y0) (nI x1) (nI y1) D (nI x0) x := by
  have e1 := nI_toInt (n := x1) (by omega)
  have f1 := nI_toInt (n := y1) (by omega)
  have d849 : (849 : Int32).toInt = 849 := by decide
  have inner : ∀ (KO : Int32 → Int32 → Int32 → Int32 → Int32 → Sg → Prop) (i : Nat), x0 ≤ i → i ≤ x1 → ∀ m j : Nat, j + m = y1 + 1 → y0 ≤ j → ∀ u : Sg, (∀ c, c ≠ 351 → u c = x c) → (∀ n, u 351 n = if (849 ≤ n ∧ n < 1089) ∧ (x0 ≤ (n - 849) % 20 ∧ (n - 849) % 20 ≤ x1) ∧ (y0 ≤ (n - 849) / 20 ∧ (n - 849) / 20 ≤ y1) ∧ ((n - 849) % 20 < i ∨ ((n - 849) % 20 = i ∧ (n - 849) / 20 < j)) then D else ρ n) → (∀ v : Sg, (∀ c, c ≠ 351 → v c = x c) → (∀ n, v 351 n = if (849 ≤ n ∧ n < 1089) ∧ (x0 ≤ (n - 849) % 20 ∧ (n - 849) % 20 ≤ x1) ∧ (y0 ≤ (n - 849) / 20 ∧ (n - 849) / 20 ≤ y1) ∧ (n - 849) % 20 < i + 1 then D else ρ n) → KO (nI y0) (nI x1) (nI y1) D (nI i + 1) v) → m_X5_readsCurrent_l82 K KO (m + 1) (nI y0) (nI x1) (nI y1) D (nI i) (nI j) u := by
    intro KO i hi0 hi1 m
    have ei := nI_toInt (n := i) (by omega)
    induction m with
    | zero =>
      intro j hj hj0 u uk u351 hK
      have ej := nI_toInt (n := j) (by omega)
      refine ⟨fun _ => hK u uk fun n => ?_, fun z => ?_⟩
      · rw [u351 n]
        by_cases g : (849 ≤ n ∧ n < 1089) ∧ (x0 ≤ (n - 849) % 20 ∧ (n - 849) % 20 ≤ x1) ∧ (y0 ≤ (n - 849) / 20 ∧ (n - 849) / 20 ≤ y1) ∧ (n - 849) % 20 < i + 1
        · rw [if_pos g, if_pos (by omega)]
        · rw [if_neg g, if_neg (by omega)]
      · rw [ti_lt, f1, ej] at z
        omega
    | succ m ih =>
      intro j hj hj0 u uk u351 hK
      have ej := nI_toInt (n := j) (by omega)
      have hP : isP ((nI i).toInt, (nI j).toInt) := by
        unfold isP
        simp only
        omega
      have e20 := num20 (a := nI i) (b := nI j) hP
      have ec := cl20_i hP
      simp only at ec
      have e9 : (849 + cl20 ((nI i).toInt, (nI j).toInt)).toInt = 849 + (20 * (j : Int) + i) := by rw [ti_add (by rw [ec, d849]; omega) (by rw [ec, d849]; omega), ec, d849]; omega
      refine ⟨fun z => ?_, fun _ => p_m20 ?_⟩
      · rw [ti_lt, f1, ej] at z
        omega
      · rw [e20]
        refine ⟨by rw [ti_in, e9]; omega, fun v hv => ?_⟩
        rw [ti_c, e9, show (849 + (20 * (j : Int) + i)).toNat = 849 + (20 * j + i) by omega] at hv
        rw [← nI_succ]
        refine ih (j + 1) (by omega) (by omega) v (fun c hc => by rw [hv, st2_row hc]; exact uk c hc) (fun n => ?_) hK
        by_cases g : n = 849 + (20 * j + i)
        · rw [hv, g, st2_same, if_pos (by omega)]
        · rw [hv, st2_j g, u351 n]
          by_cases q : (849 ≤ n ∧ n < 1089) ∧ (x0 ≤ (n - 849) % 20 ∧ (n - 849) % 20 ≤ x1) ∧ (y0 ≤ (n - 849) / 20 ∧ (n - 849) / 20 ≤ y1) ∧ ((n - 849) % 20 < i ∨ ((n - 849) % 20 = i ∧ (n - 849) / 20 < j))
          · rw [if_pos q, if_pos (by omega)]
          · rw [if_neg q, if_neg (by omega)]
  have outer : ∀ m i : Nat, i + m = x1 + 1 → x0 ≤ i → ∀ u : Sg, (∀ c, c ≠ 351 → u c = x c) → (∀ n, u 351 n = if (849 ≤ n ∧ n < 1089) ∧ (x0 ≤ (n - 849) % 20 ∧ (n - 849) % 20 ≤ x1) ∧ (y0 ≤ (n - 849) / 20 ∧ (n - 849) / 20 ≤ y1) ∧ (n - 849) % 20 < i then D else ρ n) → m_X5_readsCurrent_l66 K (m + 1) (nI y0) (nI x1) (nI y1) D (nI i) u := by
    intro m
    induction m with
    | zero =>
      intro i hi hi0 u uk u351
      have ei := nI_toInt (n := i) (by omega)
      refine ⟨fun _ => k u uk (funext fun n => ?_), fun z => ?_⟩
      · rw [u351 n]
        unfold rC
        by_cases g : (849 ≤ n ∧ n < 1089) ∧ (x0 ≤ (n - 849) % 20 ∧ (n - 849) % 20 ≤ x1) ∧ (y0 ≤ (n - 849) / 20 ∧ (n - 849) / 20 ≤ y1)
        · rw [if_pos g, if_pos (by omega)]
        · rw [if_neg g, if_neg (by omega)]
      · rw [ti_lt, e1, ei] at z
        omega
    | succ m ih =>
      intro i hi hi0 u uk u351
      have ei := nI_toInt (n := i) (by omega)
      have uT : RT u B e b := hT.row uk
      refine ⟨fun z => ?_, fun _ => p_fine1 uT.2.1 ⟨fun z => absurd z one0, fun _ => ⟨y1 + 1 - y0 + 1, inner _ i hi0 (by omega) (y1 + 1 - y0) y0 (by omega) (Nat.le_refl _) u uk (fun n => ?_) fun v vk v351 => ?_⟩⟩⟩
      · rw [ti_lt, e1, ei] at z
        omega
      · rw [u351 n]
        by_cases g : (849 ≤ n ∧ n < 1089) ∧ (x0 ≤ (n - 849) % 20 ∧ (n - 849) % 20 ≤ x1) ∧ (y0 ≤ (n - 849) / 20 ∧ (n - 849) / 20 ≤ y1) ∧ (n - 849) % 20 < i
        · rw [if_pos g, if_pos (by omega)]
        · rw [if_neg g, if_neg (by omega)]
      · rw [← nI_succ]
        exact ih (i + 1) (by omega) (by omega) v vk v351
  refine ⟨x1 + 1 - x0 + 1, outer (x1 + 1 - x0) x0 (by omega) (Nat.le_refl _) x (fun _ _ => rfl) fun n => ?_⟩
  rw [hx, if_neg (by omega)]
theorem b_current {Kr : κ → Sg → Prop} (hI : CI s0 s B e a w d p k ρ) (ha : rn isBl B e a2 = rn isBl B e a) (hF : ∀ x, F x → RI t0 x B e a2 w d p k ρ) (H : ∀ KR, (∀ x, F x → m_X5_readsCurrent x (fun s36 => m_X5_must 59 s36 (fun s => Kr KR s))) → S KR) (ok : OkH S Kr Kc s0 t0 B e a) (bad : BadH S Kr Kc s0 t0 B e) : m_X2_readCurrent s Kc := by
  have hI' := hI
  obtain ⟨hC, h9, hfl, hD, hs0⟩ := hI
  have hr := hD.1
  have hw := hD.2.1
  have hW := hr.1
  have hH := hr.2.1
  have eW : (ρ 0 - 1).toInt = rI ρ 0 - 1 := by
    unfold rI at hW ⊢
    rw [ti_sub (by rw [d1]; omega) (by rw [d1]; omega), d1]
  have eH : (ρ 1 - 1).toInt = rI ρ 1 - 1 := by
    unfold rI at hH ⊢
    rw [ti_sub (by rw [d1]; omega) (by rw [d1]; omega), d1]
  have v0 : vp_in 0 1098 := by rw [ti_in]; decide
  have v1 : vp_in 1 1098 := by rw [ti_in]; decide
  -- a fault stands
  have deadL : ∀ (KR : κ) (y : Sg) (f : Int32) (pl : Nat), FT y B e f pl → (∀ z, FT z B e f pl → rfS z t0 → Kr KR z) → rfS y t0 → ∀ l2 l3 l4 l5 l6 : Int32, ∃ n9, m_X5_readsCurrent_l66 (fun s36 => m_X5_must 59 s36 (fun s => Kr KR s)) n9 l2 l3 l4 l5 l6 y := fun KR y f pl yF hK yf l2 l3 l4 l5 l6 => ⟨1, fun _ => p_mustD yF (hK y yF yf), fun _ => p_fine0 yF.no ⟨fun _ => p_mustD yF (hK y yF yf), fun z => absurd rfl z⟩⟩
  refine b_pair (a2 := a2) (F := F) (Kr := fun KR r10 r24 s24 => (vp_in 0 1098 ∧ m_X5_number r10 ((s24 351 (0 : Int32).toNatClampNeg) - 1) s24 (fun r38 s38 => (vp_in 1 1098 ∧ m_X5_number r24 ((s38 351 (1 : Int32).toNatClampNeg) - 1) s38 (fun r52 s52 => m_X5_direction s52 (fun r58 s58 => ∃ n9, m_X5_readsCurrent_l66 (fun s36 => m_X5_must 59 s36 (fun s => Kr KR s)) n9 r24 r38 r52 r58 r10 s58)))))) hC ha hr hw.1.1 hw.1.2.1 (fun y hy => ⟨(hF y hy).1, (hF y hy).2.2.1⟩) (fun KR h => H KR fun x hx => ⟨v0, h x hx⟩) ?_ ?_
  · intro u b x0 y0 hab ho uC u6 uf HK
    have uI : CI s0 u B e b w d p k ρ := hI'.P uC uf
    have huw : Rw u 10 ρ := uI.2.2.2.1.2.1
    obtain ⟨o1, o2, o3, o4⟩ := onS_iff.mp ho
    refine ⟨fun _ => ?_, fun z => absurd z one0⟩
    rw [u6]
    refine p_X3_xOf huw hr ho ?_
    rw [u6]
    refine p_X3_yOf huw hr ho ?_
    rw [show Int32.ofInt ((x0 : Int), (y0 : Int)).1 = nI x0 from rfl, show Int32.ofInt ((x0 : Int), (y0 : Int)).2 = nI y0 from rfl, huw.1.1]
    have ex0 := nI_toInt (n := x0) (by omega)
    have ey0 := nI_toInt (n := y0) (by omega)
    refine b_num (a2 := b) (F := fun z => RI t0 z B e b w d p k ρ) (Kr := fun KR r38 s38 => (vp_in 1 1098 ∧ m_X5_number (nI y0) ((s38 351 (1 : Int32).toNatClampNeg) - 1) s38 (fun r52 s52 => m_X5_direction s52 (fun r58 s58 => ∃ n9, m_X5_readsCurrent_l66 (fun s36 => m_X5_must 59 s36 (fun s => Kr KR s)) n9 (nI y0) r38 r52 r58 (nI x0) s58)))) (fun _ => nI x0) (fun x => x 351 0 - 1) uC rfl (fun y hy => ⟨hy.1, rfl, by show y 351 0 - 1 = _; rw [hy.2.2.1]⟩) (by rw [eW]; omega) (fun KR h => HK KR fun y x hx yT yf => ⟨v0, h y ((hF x hx).P yT yf.P)⟩) ?_ ?_
    · intro g b2 x1 hab2 hlo hhi gC g4 g5 gf HK2
      rw [eW] at hhi
      rw [ex0] at hlo
      refine ⟨fun _ l3 hl3 => ?_, fun z => absurd z one0⟩
      have gI : CI s0 g B e b2 w d p k ρ := uI.P gC gf.P
      rw [gI.2.2.2.1.2.1.1.2.1]
      refine b_num (a2 := b2) (F := fun z => RI t0 z B e b2 w d p k ρ) (Kr := fun KR r52 s52 => m_X5_direction s52 (fun r58 s58 => ∃ n9, m_X5_readsCurrent_l66 (fun s36 => m_X5_must 59 s36 (fun s => Kr KR s)) n9 (nI y0) (nI x1) r52 r58 (nI x0) s58)) (fun _ => nI y0) (fun x => x 351 1 - 1) gC rfl (fun y hy => ⟨hy.1, rfl, by show y 351 1 - 1 = _; rw [hy.2.2.1]⟩) (by rw [eH]; omega) (fun KR h => HK2 KR fun y x hx yT yf => ⟨v1, h y (hx.P yT yf.P)⟩) ?_ ?_
      · intro q b3 y1 hab3 hlo3 hhi3 qC q4 q5 qf HK3
        rw [eH] at hhi3
        rw [ey0] at hlo3
        refine ⟨fun _ l4 hl4 => ?_, fun z => absurd z one0⟩
        have qI : CI s0 q B e b3 w d p k ρ := gI.P qC qf.P
        refine b_dir (a2 := b3) (F := fun z => RI t0 z B e b3 w d p k ρ) (Kr := fun KR r58 s58 => ∃ n9, m_X5_readsCurrent_l66 (fun s36 => m_X5_must 59 s36 (fun s => Kr KR s)) n9 (nI y0) (nI x1) (nI y1) r58 (nI x0) s58) qC rfl (fun y hy => hy.1) (fun KR h => HK3 KR fun y x hx yT yf => h y (hx.P yT yf.P)) ?_ ?_
        · intro v b4 dd hab4 hd9 _ vC v5 vf HK4
          have vI : CI s0 v B e b4 w d p k ρ := qI.P vC vf.P
          refine ⟨fun _ => ?_, fun z => absurd z one0⟩
          rw [hl3, hl4, g5, q5]
          refine p_box hr vI.2.2.2.1.2.1.1.1 (by omega) (by omega) (by omega) (by omega) v5 vC fun r rk r14 => ?_
          have hdD : isD (nI dd) := ⟨by rw [nI_toInt (by omega)]; omega, by rw [nI_toInt (by omega)]; omega⟩
          have rD : DR r (rC ρ x0 y0 x1 y1 (nI dd)) d p k := by
            refine vI.2.2.2.1.curr (fun j hj => if_neg (by omega)) (fun i hi => ?_) (fun c c1 c2 => rk c c1) fun x y hxy => ?_
            · unfold rC
              split
              · exact hdD
              · exact hr.2.2.2.2.2.2.2.2.2.2.2.2 i hi
            · obtain ⟨q1, q2, q3, q4⟩ := onS_iff.mp hxy
              have g := r14 x.toNat y.toNat (by omega) (by omega)
              rw [show ((x.toNat : Nat) : Int) = x by omega, show ((y.toNat : Nat) : Int) = y by omega] at g
              rw [g]
              unfold rC
              have eI : (849 + (20 * y + x).toNat - 849) % 20 = x.toNat ∧ (849 + (20 * y + x).toNat - 849) / 20 = y.toNat := by omega
              rw [eI.1, eI.2]
              by_cases z : (x0 ≤ x.toNat ∧ x.toNat ≤ x1) ∧ y0 ≤ y.toNat ∧ y.toNat ≤ y1
              · rw [if_pos z, if_pos (by omega)]
              · rw [if_neg z, if_neg (by omega)]
                exact (vI.2.2.2.1.2.1.2.2.2.2.1 x y hxy).2
          refine b_fin (F := fun z => ∃ y, RI t0 y B e b4 w d p k ρ ∧ (∀ c, c ≠ 351 → z c = y c) ∧ z 351 = rC ρ x0 y0 x1 y1 (nI dd)) (ρ := rC ρ x0 y0 x1 y1 (nI dd)) (a := b4) (a0 := a) ⟨vC.other (fun c hc _ => rk c (by omega)), by rw [rk 18 (by decide)]; exact vI.2.1, by rw [rk 18 (by decide)]; exact vI.2.2.1, rD, fun c hc => by rw [rk c (by omega)]; exact vI.2.2.2.2 c hc⟩ (by omega) (fun z ⟨y, yI, zk, z351⟩ => ⟨yI.1.row zk, by rw [zk 347 (by decide)]; exact yI.2.1, z351, yI.2.2.2.row zk fun j hj => by rw [z351]; exact rD.2.2.2.2.2.2.2.2 j hj⟩) (fun KR hK => HK4 KR fun y x hx yT yf => ?_) ok bad
          have yI : RI t0 y B e b4 w d p k ρ := hx.P yT yf.P
          exact p_boxM yT yI.2.2.1 (by omega) (by omega) (by omega) (by omega) fun z zk z351 => hK z ⟨y, yI, zk, z351⟩
        · intro v v9 v10 vf HK4
          have B1 := bad v 1 _ (by decide) v9 v10 (fun c hc => by rw [vf c (by omega)]; exact qI.2.2.2.2 c hc) fun KR hK => HK4 KR fun y x hx yF yf => deadL KR y 1 _ yF hK (yf.B.S hx.2.2.2) _ _ _ _ _
          exact ⟨B1, fun z => absurd rfl z, fun _ => B1⟩
      · intro q f pl f0 q9 q10 qf HK3
        exact ⟨fun z => absurd rfl z, fun _ => bad q f pl f0 q9 q10 (fun c hc => by rw [qf c (by omega)]; exact gI.2.2.2.2 c hc) fun KR hK => HK3 KR fun y x r hx yF yf => p_directionD yF (deadL KR y f pl yF hK (yf.B.S hx.2.2.2) _ _ _ _ _)⟩
    · intro q f pl f0 q9 q10 qf HK2
      exact ⟨fun z => absurd rfl z, fun _ => bad q f pl f0 q9 q10 (fun c hc => by rw [qf c (by omega)]; exact uI.2.2.2.2 c hc) fun KR hK => HK2 KR fun y x r hx yF yf => ⟨v1, p_numberD yF (p_directionD yF (deadL KR y f pl yF hK (yf.B.S hx.2.2.2) _ _ _ _ _))⟩⟩
  · intro u f pl f0 u9 u10 uf HK
    exact ⟨fun z => absurd rfl z, fun _ => bad u f pl f0 u9 u10 (fun c hc => by rw [uf c (by omega)]; exact hs0 c hc) fun KR hK => HK KR fun y x r r' hx yF yf => ⟨v0, p_numberD yF ⟨v1, p_numberD yF (p_directionD yF (deadL KR y f pl yF hK (yf.B.S (hF x hx).2.2.2) _ _ _ _ _))⟩⟩⟩
end
