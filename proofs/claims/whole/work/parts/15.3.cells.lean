/-! a text: cells -/
def clP (u s : Sg) : Prop := (∀ c, c ≠ 18 → u c = s c) ∧ ∀ j, (j < 3 ∨ 7 < j) → u 18 j = s 18 j
theorem clO.P {u s : Sg} (h : clO u s) : clP u s := ⟨h.1, fun j hj => h.2 j (by omega) (by omega) (by omega)⟩
theorem clP.trans {u v s : Sg} (a : clP u v) (b : clP v s) : clP u s := ⟨fun c hc => (a.1 c hc).trans (b.1 c hc), fun j hj => (a.2 j hj).trans (b.2 j hj)⟩
def rfP (u t : Sg) : Prop := (∀ c, c ≠ 347 → u c = t c) ∧ ∀ j, j ≠ 4 → j ≠ 13 → u 347 j = t 347 j
def rfB (u t : Sg) : Prop := (∀ c, c ≠ 347 → u c = t c) ∧ ∀ j, j ≠ 4 → j ≠ 6 → j ≠ 7 → j ≠ 13 → u 347 j = t 347 j
theorem rfO.P {u t : Sg} (h : rfO u t) : rfP u t := ⟨h.1, fun j j1 _ => h.2 j j1⟩
theorem rfF.B {u t : Sg} (h : rfF u t) : rfB u t := ⟨h.1, fun j j1 j2 j3 _ => h.2 j j1 j2 j3⟩
theorem rfP.B {u t : Sg} (h : rfP u t) : rfB u t := ⟨h.1, fun j j1 _ _ j2 => h.2 j j1 j2⟩
theorem rfB.trans {u v t : Sg} (a : rfB u v) (b : rfB v t) : rfB u t := ⟨fun c hc => (a.1 c hc).trans (b.1 c hc), fun j j1 j2 j3 j4 => (a.2 j j1 j2 j3 j4).trans (b.2 j j1 j2 j3 j4)⟩
theorem rfP.trans {u v t : Sg} (a : rfP u v) (b : rfP v t) : rfP u t := ⟨fun c hc => (a.1 c hc).trans (b.1 c hc), fun j j1 j2 => (a.2 j j1 j2).trans (b.2 j j1 j2)⟩
theorem FT.set {t u : Sg} {B : Nat → Int32} {e pl j : Nat} {f v : Int32} (h : FT t B e f pl) (hu : u = st2 t 347 j v) (hj : 8 ≤ j) : FT u B e f pl := by
  obtain ⟨⟨a, hb⟩, h6, h0, h7⟩ := h
  exact ⟨⟨a, hb.mv (fun c hc => by rw [hu, st2_row hc]) (by rw [hu, st2_j (by omega)]) (by rw [hu, st2_j (by omega)]; exact hb.2.1) hb.2.2.1⟩, by rw [hu, st2_j (by omega)]; exact h6, h0, by rw [hu, st2_j (by omega)]; exact h7⟩
theorem FT.row {t u : Sg} {B : Nat → Int32} {e pl : Nat} {f : Int32} (h : FT t B e f pl) (hu : ∀ c, c ≠ 351 → u c = t c) : FT u B e f pl := by
  obtain ⟨⟨a, hb⟩, h6, h0, h7⟩ := h
  have e347 := hu 347 (by decide)
  obtain ⟨b1, b2, b3, b4, b5, b6⟩ := hb
  exact ⟨⟨a, by rw [e347]; exact b1, by rw [e347]; exact b2, b3, b4, fun j hj => by rw [hu 349 (by decide)]; exact b5 j hj, b6⟩, by rw [e347]; exact h6, h0, by rw [e347]; exact h7⟩
theorem RT.row {t u : Sg} {B : Nat → Int32} {e a : Nat} (h : RT t B e a) (hu : ∀ c, c ≠ 351 → u c = t c) : RT u B e a := by
  obtain ⟨⟨b1, b2, b3, b4, b5, b6⟩, h6, h7⟩ := h
  have e347 := hu 347 (by decide)
  exact ⟨⟨by rw [e347]; exact b1, by rw [e347]; exact b2, b3, b4, fun j hj => by rw [hu 349 (by decide)]; exact b5 j hj, b6⟩, by rw [e347]; exact h6, by rw [e347]; exact h7⟩
theorem RT.set {t u : Sg} {B : Nat → Int32} {e a j : Nat} {v : Int32} (h : RT t B e a) (hu : u = st2 t 347 j v) (hj : 8 ≤ j) : RT u B e a := by
  obtain ⟨hb, h6, h7⟩ := h
  exact ⟨hb.mv (fun c hc => by rw [hu, st2_row hc]) (by rw [hu, st2_j (by omega)]) (by rw [hu, st2_j (by omega)]; exact hb.2.1) hb.2.2.1, by rw [hu, st2_j (by omega)]; exact h6, by rw [hu, st2_j (by omega)]; exact h7⟩
section
variable {κ : Type} {S : κ → Prop} {F : Sg → Prop} {s : Sg} {B : Nat → Int32} {e a a2 : Nat} {ρ : Nat → Int32}
theorem b_cell {Kr : κ → Sg → Prop} {Kc : Int32 → Sg → Prop} {fl : Int32} (hC : CT s B e a) (ha : rn isBl B e a2 = rn isBl B e a) (hr : okR ρ) (h0 : s 10 0 = ρ 0) (h1 : s 10 1 = ρ 1) (hF : ∀ x, F x → RT x B e a2 ∧ x 351 = ρ) (H : ∀ KR, (∀ x, F x → m_X5_readsCell fl x (Kr KR)) → S KR)
    (ok : ∀ (u : Sg) (b : Nat) (q : Int × Int), a < b → onS ρ q.1 q.2 = true → CT u B e b → u 18 6 = clW (rI ρ 0) q → u 18 7 = nI (rn isBl B e a) → clP u s → (∀ KR, (∀ y x, F x → RT y B e b → rfO y x → m_X5_readsCell_j57 fl (Kr KR) (nI (rn isBl B e a)) (cl20 q) y) → S KR) → Kc 1 u)
    (bad : ∀ (u : Sg) (f : Int32) (pl : Nat), ¬ f = 0 → u 18 9 = f → u 18 10 = nI pl → (∀ c, c ≠ 18 → u c = s c) → (∀ KR, (∀ y x, F x → FT y B e f pl → rfB y x → Kr KR y) → S KR) → Kc 0 u) : m_X2_readCell s Kc := by
  have hW := hr.1
  have hH := hr.2.1
  have eW : (ρ 0 - 1).toInt = rI ρ 0 - 1 := by
    unfold rI at hW ⊢
    rw [ti_sub (by rw [d1]; omega) (by rw [d1]; omega), d1]
  have eH : (ρ 1 - 1).toInt = rI ρ 1 - 1 := by
    unfold rI at hH ⊢
    rw [ti_sub (by rw [d1]; omega) (by rw [d1]; omega), d1]
  have v0 : vp_in 0 1098 := by rw [ti_in]; decide
  have v1 : vp_in 1 1098 := by rw [ti_in]; decide
  -- a fault stands: the rest of the cell
  have dead : ∀ (l : Int32) (f : Int32) (pl : Nat) (KR : κ) (y z : Sg), FT y B e f pl → (∀ w, FT w B e f pl → rfB w y → Kr KR w) → m_X5_fine y (fun r41 s41 => ((r41 = 0 → m_X5_readsCell_j57 fl (Kr KR) l 0 s41) ∧ (¬ (r41 = 0) → m_X5_cellAt 0 0 s41 (fun r50 s50 => m_X5_readsCell_j57 fl (Kr KR) l r50 s50)))) := by
    intro l f pl KR y z yF hK
    refine p_fine0 yF.no ⟨fun _ w hw => ?_, fun y => absurd rfl y⟩
    have wF := yF.set hw (by decide)
    exact p_fine0 wF.no ⟨fun _ => hK w wF ⟨fun c hc => by rw [hw, st2_row hc], fun j _ _ _ j4 => by rw [hw, st2_j j4]⟩, fun g => absurd rfl g⟩
  unfold m_X2_readCell
  rw [h0]
  refine b_num (a2 := rn isBl B e a2) (F := fun y => ∃ x, F x ∧ RT y B e (rn isBl B e a2) ∧ rfO y x) (Kr := fun KR r20 s20 => (vp_in 1 1098 ∧ m_X5_number 0 ((s20 351 (1 : Int32).toNatClampNeg) - 1) s20 (fun r34 s34 => m_X5_fine s34 (fun r41 s41 => ((r41 = 0 → m_X5_readsCell_j57 fl (Kr KR) (nI (rn isBl B e a)) 0 s41) ∧ (¬ (r41 = 0) → m_X5_cellAt r20 r34 s41 (fun r50 s50 => m_X5_readsCell_j57 fl (Kr KR) (nI (rn isBl B e a)) r50 s50))))))) (fun _ => 0) (fun x => x 351 0 - 1) hC (by rw [rn_idem]; exact ha) (fun y ⟨x, hx, yT, yf⟩ => ⟨yT, rfl, by show y 351 0 - 1 = _; rw [yf.1 351 (by decide), (hF x hx).2]⟩) (by rw [eW]; omega) (fun KR h => H KR fun x hx => p_hereT (hF x hx).1 fun y yT yf l hl => ?_) ?_ ?_
  · rw [yT.1.2.1, ha] at hl
    rw [hl]
    exact ⟨v0, h y ⟨x, hx, yT, yf⟩⟩
  · intro u b v hab hlo hhi uC u4 u5 uf HK
    rw [eW] at hhi
    refine ⟨fun _ l1 hl1 w hw => ?_, fun z => absurd z one0⟩
    have wf : ∀ c, c ≠ 18 → w c = s c := fun c hc => by rw [hw, st2_row hc, uf.1 c hc]
    have wC : CT w B e b := uC.mv (fun c hc => by rw [hw, st2_row hc]) (by rw [hw, st2_j (by decide)]) (by rw [hw, st2_j (by decide)]; exact uC.2.1) uC.2.2.1
    rw [wf 10 (by decide), h1]
    refine b_num (a2 := b) (F := fun z => ∃ x, F x ∧ RT z B e b ∧ rfO z x) (Kr := fun KR r34 s34 => m_X5_fine s34 (fun r41 s41 => ((r41 = 0 → m_X5_readsCell_j57 fl (Kr KR) (nI (rn isBl B e a)) 0 s41) ∧ (¬ (r41 = 0) → m_X5_cellAt (nI v) r34 s41 (fun r50 s50 => m_X5_readsCell_j57 fl (Kr KR) (nI (rn isBl B e a)) r50 s50))))) (fun _ => 0) (fun x => x 351 1 - 1) wC rfl (fun y ⟨x, hx, yT, yf⟩ => ⟨yT, rfl, by show y 351 1 - 1 = _; rw [yf.1 351 (by decide), (hF x hx).2]⟩) (by rw [eH]; omega) (fun KR h => HK KR fun y x ⟨x0, hx0, xT, xf⟩ yT yf => ⟨v1, h y ⟨x0, hx0, yT, yf.trans xf⟩⟩) ?_ ?_
    · intro g b2 v2 hab2 hlo2 hhi2 gC g4 g5 gf HK2
      rw [eH] at hhi2
      have ev : (nI v).toInt = v := nI_toInt (by omega)
      have ev2 : (nI v2).toInt = v2 := nI_toInt (by omega)
      have ho : onS ρ ((v : Int), (v2 : Int)).1 ((v : Int), (v2 : Int)).2 = true := onS_iff.mpr ⟨by omega, by show (v : Int) < _; omega, by omega, by show (v2 : Int) < _; omega⟩
      have hP := onS_P hr ho
      refine ⟨fun _ => ?_, fun z => absurd z one0⟩
      unfold m_X3_cellAt
      intro k hk
      have g10 : g 10 = s 10 := by rw [gf.1 10 (by decide), wf 10 (by decide)]
      have kf : ∀ c, c ≠ 18 → k c = s c := fun c hc => by rw [hk, st2_row hc, gf.1 c hc, wf c hc]
      have ek : g 10 0 * g 18 5 + l1 = clW (rI ρ 0) ((v : Int), (v2 : Int)) := by
        rw [g10, h0, g5, hl1, u5]
        have := numW (ρ := ρ) hr (a := nI v) (b := nI v2) (by rw [ev, ev2]; exact ho)
        rw [ev, ev2] at this
        exact this
      refine ok k b2 ((v : Int), (v2 : Int)) (by omega) ho (gC.mv (fun c hc => by rw [hk, st2_row hc]) (by rw [hk, st2_j (by decide)]) (by rw [hk, st2_j (by decide)]; exact gC.2.1) gC.2.2.1) (by rw [hk, st2_same, ek]) ?_ ⟨kf, fun j hj => ?_⟩ fun KR hK => HK2 KR fun z y ⟨x, hx, yT, yf⟩ zT zf => ?_
      · rw [hk, st2_j (by decide), gf.2 7 (by decide) (by decide) (by decide), hw, st2_same, u4]
      · rw [hk, st2_j (by omega), gf.2 j (by omega) (by omega) (by omega), hw, st2_j (by omega), uf.2 j (by omega) (by omega) (by omega)]
      · refine p_fine1 zT.2.1 ⟨fun w => absurd w one0, fun _ => ?_⟩
        unfold m_X5_cellAt
        have e20 : 20 * nI v2 + nI v = cl20 ((v : Int), (v2 : Int)) := by
          have := num20 (a := nI v) (b := nI v2) (by rw [ev, ev2]; exact hP)
          rw [ev, ev2] at this
          exact this
        rw [e20]
        exact hK z x hx zT (zf.trans yf)
    · intro g f pl fne g9 g10 gf HK2
      refine ⟨fun z => absurd rfl z, fun _ => bad g f pl fne g9 g10 (fun c hc => by rw [gf c hc, wf c hc]) fun KR hK => HK2 KR fun z y r ⟨x, hx, yT, yf⟩ zF zf => ?_⟩
      refine p_fine0 zF.no ⟨fun _ w hw => ?_, fun y => absurd rfl y⟩
      have wF := zF.set hw (by decide)
      exact p_fine0 wF.no ⟨fun _ => hK w x hx wF ((show rfB w z from ⟨fun c hc => by rw [hw, st2_row hc], fun j _ _ _ j4 => by rw [hw, st2_j j4]⟩).trans (zf.B.trans yf.P.B)), fun g => absurd rfl g⟩
  · intro u f pl fne u9 u10 uf HK
    refine ⟨fun z => absurd rfl z, fun _ => bad u f pl fne u9 u10 uf fun KR hK => HK KR fun z y r ⟨x, hx, yT, yf⟩ zF zf => ⟨v1, p_numberD zF (p_fine0 zF.no ⟨fun _ w hw => ?_, fun y => absurd rfl y⟩)⟩⟩
    have wF := zF.set hw (by decide)
    exact p_fine0 wF.no ⟨fun _ => hK w x hx wF ((show rfB w z from ⟨fun c hc => by rw [hw, st2_row hc], fun j _ _ _ j4 => by rw [hw, st2_j j4]⟩).trans (zf.B.trans yf.P.B)), fun g => absurd rfl g⟩
/-- a cell that may be land -/
theorem b_cell1 {Kr : κ → Sg → Prop} {Kc : Int32 → Sg → Prop} (hC : CT s B e a) (ha : rn isBl B e a2 = rn isBl B e a) (hr : okR ρ) (h0 : s 10 0 = ρ 0) (h1 : s 10 1 = ρ 1) (hF : ∀ x, F x → RT x B e a2 ∧ x 351 = ρ) (H : ∀ KR, (∀ x, F x → m_X5_readsCell 1 x (Kr KR)) → S KR)
    (ok : ∀ (u : Sg) (b : Nat) (q : Int × Int), a < b → onS ρ q.1 q.2 = true → CT u B e b → u 18 6 = clW (rI ρ 0) q → u 18 7 = nI (rn isBl B e a) → clP u s → (∀ KR, (∀ y x, F x → RT y B e b → y 347 13 = cl20 q → rfP y x → Kr KR y) → S KR) → Kc 1 u)
    (bad : ∀ (u : Sg) (f : Int32) (pl : Nat), ¬ f = 0 → u 18 9 = f → u 18 10 = nI pl → (∀ c, c ≠ 18 → u c = s c) → (∀ KR, (∀ y x, F x → FT y B e f pl → rfB y x → Kr KR y) → S KR) → Kc 0 u) : m_X2_readCell s Kc := by
  refine b_cell hC ha hr h0 h1 hF H (fun u b q h2 h3 h4 h5 h6 h7 HK => ok u b q h2 h3 h4 h5 h6 h7 fun KR hK => HK KR fun y x hx yT yf w hw => ?_) bad
  have wT := yT.set hw (by decide)
  exact p_fine1 wT.2.1 ⟨fun g => absurd g one0, fun _ => ⟨fun _ => hK w x hx wT (by rw [hw, st2_same]) ((show rfP w y from ⟨fun c hc => by rw [hw, st2_row hc], fun j _ j2 => by rw [hw, st2_j j2]⟩).trans yf.P), fun g => absurd g one0⟩⟩
/-- a cell of water -/
theorem b_cell0 {Kr : κ → Sg → Prop} {K0 : Sg → Prop} {Kd : Int32 → Sg → Prop} (hC : CT s B e a) (ha : rn isBl B e a2 = rn isBl B e a) (hr : okR ρ) (hw : Rw s 10 ρ) (hF : ∀ x, F x → RT x B e a2 ∧ x 351 = ρ) (H : ∀ KR, (∀ x, F x → m_X5_readsCell 0 x (Kr KR)) → S KR)
    (ok : ∀ (u : Sg) (b : Nat) (q : Int × Int), a < b → wat ρ q → CT u B e b → u 18 6 = clW (rI ρ 0) q → clP u s → (∀ KR, (∀ y x, F x → RT y B e b → y 347 13 = cl20 q → rfP y x → Kr KR y) → S KR) → Kd 1 u)
    (bad : ∀ (u : Sg) (f : Int32) (pl : Nat), ¬ f = 0 → u 18 9 = f → u 18 10 = nI pl → (∀ c, c ≠ 18 → u c = s c) → (∀ KR, (∀ y x, F x → FT y B e f pl → rfB y x → Kr KR y) → S KR) → K0 u ∧ Kd 0 u) : m_X2_readCell s (fun r s1 => ((r = 0 → K0 s1) ∧ (¬ (r = 0) → m_X2_isWater s1 Kd))) := by
  have d609 : (609 : Int32).toInt = 609 := by decide
  refine b_cell hC ha hr hw.1.1 hw.1.2.1 hF H (fun u b q h2 h3 h4 h5 h6 h7 HK => ⟨fun z => absurd z one0, fun _ => ?_⟩) (fun u f pl g0 g1 g2 g3 g4 => ⟨fun _ => (bad u f pl g0 g1 g2 g3 g4).1, fun z => absurd rfl z⟩)
  have oc := onS_cell hr h3
  have ec := clW_i hr h3
  have hP := onS_P hr h3
  have eP := cl20_i hP
  have hP' := hP
  unfold isP at hP'
  have hl := (hw.2.2.2.2.1 q.1 q.2 h3).1
  unfold m_X2_isWater
  rw [h5]
  refine p_X4_read (W_L3 (Or.inr (Or.inl rfl))) (by decide) (by omega) (by omega) ?_
  rw [ec, h7.1 (10 + 3) (by decide), hl]
  have at609 : ∀ y : Sg, y 347 13 = cl20 q → (609 + y 347 13).toInt = 609 + (20 * q.2 + q.1) := fun y h13 => by rw [h13, ti_add (by rw [eP, d609]; omega) (by rw [eP, d609]; omega), eP, d609]
  have j57 : ∀ (KR : κ) (y x : Sg), F x → RT y B e b → rfO y x → (∀ w : Sg, RT w B e b → w 347 13 = cl20 q → rfP w x → vp_in (609 + w 347 13) 1098 ∧ (¬ ρ (609 + (20 * q.2 + q.1).toNat) = 1 → Kr KR w) ∧ (ρ (609 + (20 * q.2 + q.1).toNat) = 1 → m_X5_wrong 3 (nI (rn isBl B e a)) w (fun s91 => Kr KR s91))) → m_X5_readsCell_j57 0 (Kr KR) (nI (rn isBl B e a)) (cl20 q) y := by
    intro KR y x hx yT yf hK w hw2
    have wT := yT.set hw2 (by decide)
    have w13 : w 347 13 = cl20 q := by rw [hw2, st2_same]
    have wf : rfP w x := (show rfP w y from ⟨fun c hc => by rw [hw2, st2_row hc], fun j _ j2 => by rw [hw2, st2_j j2]⟩).trans yf.P
    refine p_fine1 wT.2.1 ⟨fun g => absurd g one0, fun _ => ⟨fun g => absurd rfl g, fun _ => ?_⟩⟩
    have := hK w wT w13 wf
    have e1 := at609 w w13
    have e2 : w 351 (609 + w 347 13).toNatClampNeg = ρ (609 + (20 * q.2 + q.1).toNat) := by
      rw [wf.1 351 (by decide), (hF x hx).2, ti_c, e1]
      congr 1
      omega
    rw [e2]
    exact this
  have vin : ∀ w : Sg, w 347 13 = cl20 q → vp_in (609 + w 347 13) 1098 := fun w w13 => by
    rw [ti_in, at609 w w13]
    omega
  refine ⟨fun z => ?_, fun z => ?_⟩
  · refine ok u b q h2 ⟨h3, z⟩ h4 h5 h7 fun KR hK => HK KR fun y x hx yT yf => j57 KR y x hx yT yf fun w wT w13 wf => ⟨vin w w13, fun _ => hK w x hx wT w13 wf, fun g => ?_⟩
    rw [z] at g
    exact absurd g (by decide)
  · have one := (hr.2.2.2.2.2.2.2.2.2.2.2.1 (20 * q.2 + q.1).toNat (by omega)).resolve_left z
    rw [h6]
    refine p_fail fun v v9 v10 vf _ => ⟨fun _ => (bad v 3 _ (by decide) v9 v10 (fun c hc => by rw [vf c hc, h7.1 c hc]) fun KR hK => HK KR fun y x hx yT yf => j57 KR y x hx yT yf fun w wT w13 wf => ⟨vin w w13, fun g => absurd one g, fun _ => p_wrong wT (by decide) fun b' bF bf => hK b' x hx bF (bf.B.trans wf.B)⟩).2, fun g => absurd rfl g⟩
end
