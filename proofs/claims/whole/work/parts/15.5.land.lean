/-! a text: between the sentences -/
def bi (b : Bool) : Int32 := if b = true then 1 else 0
def oc (w d p k : Bool) : Int32 := (if w = true then 1 else 0) + ((if d = true then 2 else 0) + ((if p = true then 4 else 0) + (if k = true then 8 else 0)))
theorem bi_0 {b : Bool} : bi b = 0 ↔ b = false := by cases b <;> decide
theorem oc_0 {w d p k : Bool} : ((oc w d p k >>> ((0 : Int32) &&& 31)) &&& 1) = 1 ↔ w = true := by cases w <;> cases d <;> cases p <;> cases k <;> decide
theorem oc_1 {w d p k : Bool} : ((oc w d p k >>> ((1 : Int32) &&& 31)) &&& 1) = 1 ↔ d = true := by cases w <;> cases d <;> cases p <;> cases k <;> decide
theorem oc_2 {w d p k : Bool} : ((oc w d p k >>> ((2 : Int32) &&& 31)) &&& 1) = 1 ↔ p = true := by cases w <;> cases d <;> cases p <;> cases k <;> decide
theorem oc_3 {w d p k : Bool} : ((oc w d p k >>> ((3 : Int32) &&& 31)) &&& 1) = 1 ↔ k = true := by cases w <;> cases d <;> cases p <;> cases k <;> decide
theorem oc_s0 {w d p k : Bool} : oc w d p k ||| (1 <<< ((0 : Int32) &&& 31)) = oc true d p k := by cases w <;> cases d <;> cases p <;> cases k <;> decide
theorem oc_s1 {w d p k : Bool} : oc w d p k ||| (1 <<< ((1 : Int32) &&& 31)) = oc w true p k := by cases w <;> cases d <;> cases p <;> cases k <;> decide
theorem oc_s2 {w d p k : Bool} : oc w d p k ||| (1 <<< ((2 : Int32) &&& 31)) = oc w d true k := by cases w <;> cases d <;> cases p <;> cases k <;> decide
theorem oc_s3 {w d p k : Bool} : oc w d p k ||| (1 <<< ((3 : Int32) &&& 31)) = oc w d p true := by cases w <;> cases d <;> cases p <;> cases k <;> decide
def CI (s0 s : Sg) (B : Nat → Int32) (e a : Nat) (w d p k : Bool) (ρ : Nat → Int32) : Prop :=
  CT s B e a ∧ (s 18 9 = 0 ∧ s 18 10 = -1) ∧ (s 18 11 = bi d ∧ s 18 12 = bi p ∧ s 18 13 = bi w ∧ s 18 14 = bi k) ∧ DR s ρ d p k ∧ ∀ c, (c < 10 ∨ 19 ≤ c) → s c = s0 c
def rfS (x t0 : Sg) : Prop := (∀ c, c ≠ 347 → c ≠ 351 → x c = t0 c) ∧ (∀ j, j ≠ 4 → j ≠ 6 → j ≠ 7 → j ≠ 13 → j ≠ 14 → x 347 j = t0 347 j) ∧ ∀ j, 1098 ≤ j → x 351 j = 0
def RI (t0 x : Sg) (B : Nat → Int32) (e a : Nat) (w d p k : Bool) (ρ : Nat → Int32) : Prop := RT x B e a ∧ x 347 14 = oc w d p k ∧ x 351 = ρ ∧ rfS x t0
def OkH {κ : Type} (S : κ → Prop) (Kr : κ → Sg → Prop) (Kc : Int32 → Sg → Prop) (s0 t0 : Sg) (B : Nat → Int32) (e a : Nat) : Prop :=
  ∀ (u : Sg) (b : Nat) (w d p k : Bool) (ρ : Nat → Int32), a < b → CI s0 u B e b w d p k ρ → (∀ KR, (∀ y, RI t0 y B e b w d p k ρ → Kr KR y) → S KR) → Kc 1 u
def BadH {κ : Type} (S : κ → Prop) (Kr : κ → Sg → Prop) (Kc : Int32 → Sg → Prop) (s0 t0 : Sg) (B : Nat → Int32) (e : Nat) : Prop :=
  ∀ (u : Sg) (f : Int32) (pl : Nat), ¬ f = 0 → u 18 9 = f → u 18 10 = nI pl → (∀ c, (c < 10 ∨ 19 ≤ c) → u c = s0 c) → (∀ KR, (∀ y, FT y B e f pl → rfS y t0 → Kr KR y) → S KR) → Kc 0 u
theorem rfB.S {y x t0 : Sg} (h : rfB y x) (hx : rfS x t0) : rfS y t0 := ⟨fun c c1 c2 => (h.1 c c1).trans (hx.1 c c1 c2), fun j j1 j2 j3 j4 j5 => (h.2 j j1 j2 j3 j4).trans (hx.2.1 j j1 j2 j3 j4 j5), fun j hj => by rw [h.1 351 (by decide)]; exact hx.2.2 j hj⟩
theorem rfS.row {y x t0 : Sg} (h : ∀ c, c ≠ 351 → y c = x c) (hx : rfS x t0) (hz : ∀ j, 1098 ≤ j → y 351 j = 0) : rfS y t0 := ⟨fun c c1 c2 => (h c c2).trans (hx.1 c c1 c2), fun j j1 j2 j3 j4 j5 => by rw [h 347 (by decide)]; exact hx.2.1 j j1 j2 j3 j4 j5, hz⟩
theorem rfS.set {y x t0 : Sg} {j : Nat} {v : Int32} (h : rfS x t0) (hy : y = st2 x 347 j v) (hj : j = 13 ∨ j = 14) : rfS y t0 := ⟨fun c c1 c2 => by rw [hy, st2_row c1]; exact h.1 c c1 c2, fun i j1 j2 j3 j4 j5 => by rw [hy, st2_j (by omega)]; exact h.2.1 i j1 j2 j3 j4 j5, fun i hi => by rw [hy, st2_row (by decide)]; exact h.2.2 i hi⟩
theorem RI.P {t0 y x : Sg} {B : Nat → Int32} {e a b : Nat} {w d p k : Bool} {ρ : Nat → Int32} (h : RI t0 x B e a w d p k ρ) (yT : RT y B e b) (yf : rfP y x) : RI t0 y B e b w d p k ρ := ⟨yT, by rw [yf.2 14 (by decide) (by decide)]; exact h.2.1, by rw [yf.1 351 (by decide)]; exact h.2.2.1, yf.B.S h.2.2.2⟩
theorem CI.P {s0 u s : Sg} {B : Nat → Int32} {e a b : Nat} {w d p k : Bool} {ρ : Nat → Int32} (h : CI s0 s B e a w d p k ρ) (uC : CT u B e b) (uf : clP u s) : CI s0 u B e b w d p k ρ := by
  obtain ⟨h1, ⟨h2, h3⟩, ⟨h4, h5, h6, h7⟩, h8, h9⟩ := h
  exact ⟨uC, ⟨by rw [uf.2 9 (by omega)]; exact h2, by rw [uf.2 10 (by omega)]; exact h3⟩, ⟨by rw [uf.2 11 (by omega)]; exact h4, by rw [uf.2 12 (by omega)]; exact h5, by rw [uf.2 13 (by omega)]; exact h6, by rw [uf.2 14 (by omega)]; exact h7⟩, h8.to fun c c1 c2 => uf.1 c (by omega), fun c hc => by rw [uf.1 c (by omega)]; exact h9 c hc⟩
theorem CT.other {s u : Sg} {B : Nat → Int32} {e a : Nat} (h : CT s B e a) (hu : ∀ c, (c = 1 ∨ c = 18) → True → u c = s c) : CT u B e a := by
  obtain ⟨h1, h2, h3, h4, h5, h6⟩ := h
  have e18 := hu 18 (Or.inr rfl) trivial
  have e1 := hu 1 (Or.inl rfl) trivial
  exact ⟨by rw [e18]; exact h1, by rw [e18]; exact h2, h3, h4, fun j hj => by rw [e1]; exact h5 j hj, h6⟩
section
variable {κ : Type} {S : κ → Prop} {F : Sg → Prop} {Kr : κ → Sg → Prop} {Kc : Int32 → Sg → Prop} {s0 t0 s : Sg} {B : Nat → Int32} {e a a2 : Nat} {w d p k : Bool} {ρ : Nat → Int32}
/-- a sentence's end -/
theorem b_fin {a0 : Nat} (hI : CI s0 s B e a w d p k ρ) (h0 : a0 ≤ a) (hF : ∀ x, F x → RI t0 x B e a w d p k ρ) (H : ∀ KR, (∀ x, F x → m_X5_must 59 x (fun s => Kr KR s)) → S KR) (ok : OkH S Kr Kc s0 t0 B e a0) (bad : BadH S Kr Kc s0 t0 B e) : m_X2_readEnd s Kc :=
  b_end (a2 := a) hI.1 rfl (fun x hx => (hF x hx).1) H (fun u b hab uC uf HK => ok u b w d p k ρ (by omega) (hI.P uC uf.P) fun KR hK => HK KR fun y x hx yT yf => hK y ((hF x hx).P yT yf.P)) fun u f pl f0 u9 u10 uf HK => bad u f pl f0 u9 u10 (fun c hc => by rw [uf c (by omega)]; exact hI.2.2.2.2 c hc) fun KR hK => HK KR fun y x hx yF yf => hK y yF (yf.B.S (hF x hx).2.2.2)
theorem p_m20 {v u : Int32} {σ : Sg} {K : Int32 → Sg → Prop} (k : K (20 * u + v) σ) : m_X5_cellAt v u σ K := k
theorem p_X5_isTold {v : Int32} {x : Sg} {K : Int32 → Sg → Prop} {b : Bool} (h : ((x 347 14 >>> (v &&& 31)) &&& 1) = 1 ↔ b = true) (k1 : b = true → K 1 x) (k0 : b = false → K 0 x) : m_X5_isTold v x K := by
  refine ⟨fun z => k0 ?_, fun z => k1 (h.mp z)⟩
  cases b with
  | false => rfl
  | true => exact absurd (h.mpr rfl) z
/-- whether a helper is there: the class -/
theorem p_isTaken {q : Int × Int} {K : Int32 → Sg → Prop} (hr : okR ρ) (hw : Rw s 10 ρ) (hh : ∀ i : Nat, (i : Int) < rI ρ 3 → wat ρ (hAt ρ i)) (ho : onS ρ q.1 q.2 = true) (k1 : (∃ i : Nat, (i : Int) < rI ρ 3 ∧ q = hAt ρ i) → K 1 s) (k0 : (∀ i : Nat, (i : Int) < rI ρ 3 → q ≠ hAt ρ i) → K 0 s) : m_X3_isTaken 10 (clW (rI ρ 0) q) s K := by
  have hm := hr.2.2.2.1
  obtain ⟨N, hN⟩ : ∃ N : Nat, rI ρ 3 = N := ⟨(rI ρ 3).toNat, by omega⟩
  have e7 : (s 10 7).toInt = rI ρ 3 := congrArg _ hw.2.2.1.1
  have key : ∀ m i : Nat, i + m = N → (∀ j : Nat, j < i → q ≠ hAt ρ j) → m_X3_isTaken_l2 10 (clW (rI ρ 0) q) K (m + 1) (nI i) s := by
    intro m
    induction m with
    | zero =>
      intro i hi h1
      have ei := nI_toInt (n := i) (by omega)
      refine ⟨fun _ => k0 fun j hj => h1 j (by omega), fun z => ?_⟩
      rw [ti_le, e7, ei] at z
      omega
    | succ m ih =>
      intro i hi h1
      have ei := nI_toInt (n := i) (by omega)
      have hi3 : (i : Int) < rI ρ 3 := by omega
      refine ⟨fun z => ?_, fun _ => p_X4_read (W_L1 (Or.inr (Or.inl rfl))) (by decide) (by omega) (by omega) ?_⟩
      · rw [ti_le, e7, ei] at z
        omega
      · rw [ei, show ((i : Int)).toNat = i by omega, (hw.2.2.2.1 i hi3).1]
        refine ⟨fun z => ?_, fun z => k1 ⟨i, hi3, (clW_inj hr (hh i hi3).1 ho z).symm⟩⟩
        rw [← nI_succ]
        refine ih (i + 1) (by omega) fun j hj => ?_
        by_cases g : j = i
        · rw [g]
          intro y
          exact z (by rw [y]; rfl)
        · exact h1 j (by omega)
  exact ⟨N + 1, key N 0 (by omega) fun j hj => absurd hj (Nat.not_lt_zero _)⟩
/-- whether a helper is there: the reference, and what it does then -/
theorem p_readsLand_l95 {x : Sg} {pl : Nat} {q : Int × Int} {K : Sg → Prop} (l : Int32) (hr : okR ρ) (hx : x 351 = ρ) (hT : RT x B e a) (h13 : x 347 13 = cl20 q) (hP : isP q) (hh : ∀ i : Nat, (i : Int) < rI ρ 3 → isP (hAt ρ i))
    (k1 : (¬ l = 0 ∨ ∃ i : Nat, (i : Int) < rI ρ 3 ∧ q = hAt ρ i) → ∀ y, FT y B e 3 pl → rfF y x → K y) (k0 : l = 0 → (∀ i : Nat, (i : Int) < rI ρ 3 → q ≠ hAt ρ i) → ∀ y, y = st2 x 351 (609 + (20 * q.2 + q.1).toNat) 1 → K y) : ∃ n9, m_X5_readsLand_l95 K n9 (nI pl) l 0 x := by
  have hm := hr.2.2.2.1
  obtain ⟨N, hN⟩ : ∃ N : Nat, rI ρ 3 = N := ⟨(rI ρ 3).toNat, by omega⟩
  have d609 : (609 : Int32).toInt = 609 := by decide
  have e3 : (x 351 (3 : Int32).toNatClampNeg).toInt = rI ρ 3 := by rw [hx]; rfl
  have v3 : vp_in 3 1098 := by rw [ti_in]; decide
  have eP := cl20_i hP
  have hP' := hP
  unfold isP at hP'
  have e609 : (609 + x 347 13).toInt = 609 + (20 * q.2 + q.1) := by rw [h13, ti_add (by rw [eP, d609]; omega) (by rw [eP, d609]; omega), eP, d609]
  have key : ∀ m i : Nat, i + m = N → ∀ l' : Int32, (l' = 0 → l = 0 ∧ ∀ j : Nat, j < i → q ≠ hAt ρ j) → (¬ l' = 0 → ¬ l = 0 ∨ ∃ i : Nat, (i : Int) < rI ρ 3 ∧ q = hAt ρ i) → m_X5_readsLand_l95 K (m + 1) (nI pl) l' (nI i) x := by
    intro m
    induction m with
    | zero =>
      intro i hi l' h0 h1
      have ei := nI_toInt (n := i) (by omega)
      refine ⟨v3, fun _ => ⟨fun z => ⟨by rw [ti_in, e609]; omega, fun y hy => k0 (h0 z).1 (fun j hj => (h0 z).2 j (by omega)) y ?_⟩, fun z => p_wrong hT (by decide) fun y yF yf => k1 (h1 z) y yF yf⟩, fun z => ?_⟩
      · rw [hy, ti_c, e609, show (609 + (20 * q.2 + q.1)).toNat = 609 + (20 * q.2 + q.1).toNat by omega]
      · rw [ti_le, e3, ei] at z
        omega
    | succ m ih =>
      intro i hi l' h0 h1
      have ei := nI_toInt (n := i) (by omega)
      refine ⟨v3, fun z => ?_, fun _ => ⟨fun z => ?_, fun z => ?_⟩⟩
      · rw [ti_le, e3, ei] at z
        omega
      · rw [← nI_succ]
        exact ih (i + 1) (by omega) 1 (fun w => absurd w one0) fun _ => h1 z
      · obtain ⟨j, j3, hj, f0, f1, f2, f3⟩ := hix (h := nI i) hr (by rw [ei]; omega)
        have eij : j = i := by
          have := congrArg Int32.toInt f0
          rw [ei, nI_toInt (by omega)] at this
          omega
        subst eij
        have hPj := hh j hj
        refine ⟨by rw [ti_in, f1]; omega, by rw [ti_in, f2]; omega, ?_⟩
        refine p_m20 ?_
        rw [ti_c, ti_c, f1, f2, hx, show (1089 + 3 * (j : Int)).toNat = 1089 + 3 * j by omega, show (1090 + 3 * (j : Int)).toNat = 1090 + 3 * j by omega, cl20_of (ρ := ρ) hPj, h13, ← nI_succ]
        refine ⟨fun y => ih (j + 1) (by omega) 0 (fun _ => ⟨(h0 z).1, fun i' hi' => ?_⟩) (fun w => absurd rfl w), fun y => ih (j + 1) (by omega) 1 (fun w => absurd w one0) fun _ => Or.inr ⟨j, hj, (cl20_inj hPj hP y).symm⟩⟩
        by_cases g : i' = j
        · rw [g]
          intro h
          exact y (by rw [h]; rfl)
        · exact (h0 z).2 i' (by omega)
  exact ⟨N + 1, key N 0 (by omega) l (fun z => ⟨z, fun j hj => absurd hj (Nat.not_lt_zero _)⟩) fun z => Or.inl z⟩
theorem b_land (hI : CI s0 s B e a w d p k ρ) (ha : rn isBl B e a2 = rn isBl B e a) (hF : ∀ x, F x → RI t0 x B e a2 w d p k ρ) (H : ∀ KR, (∀ x, F x → m_X5_readsLand x (fun s20 => m_X5_must 59 s20 (fun s => Kr KR s))) → S KR) (ok : OkH S Kr Kc s0 t0 B e a) (bad : BadH S Kr Kc s0 t0 B e) : m_X2_readLand s Kc := by
  have hI' := hI
  obtain ⟨hC, h9, hfl, hD, hs0⟩ := hI
  have hr := hD.1
  have hw := hD.2.1
  have hh : ∀ i : Nat, (i : Int) < rI ρ 3 → wat ρ (hAt ρ i) := fun i hi => (hD.2.2.2.2.2.1 i hi).1
  refine b_cell1 (a2 := rn isBl B e a2) (F := fun y => ∃ x, F x ∧ RT y B e (rn isBl B e a2) ∧ rfO y x) (Kr := fun KR s12 => m_X5_fine s12 (fun r16 s16 => ((¬ r16 = 0 → m_X5_isTold 1 s16 (fun r25 s25 => ((r25 = 0 → m_X5_readsLand_j55 (fun s20 => m_X5_must 59 s20 (fun s => Kr KR s)) (nI (rn isBl B e a)) s25) ∧ (¬ (r25 = 0) → (vp_in 6 1098 ∧ (vp_in 7 1098 ∧ m_X5_cellAt (s25 351 (6 : Int32).toNatClampNeg) (s25 351 (7 : Int32).toNatClampNeg) s25 (fun r45 s45 => ((r45 = (s45 347 13) → ∃ n9, m_X5_readsLand_l95 (fun s20 => m_X5_must 59 s20 (fun s => Kr KR s)) n9 (nI (rn isBl B e a)) 1 0 s45) ∧ (¬ (r45 = (s45 347 13)) → m_X5_readsLand_j55 (fun s20 => m_X5_must 59 s20 (fun s => Kr KR s)) (nI (rn isBl B e a)) s45))))))))) ∧ (r16 = 0 → m_X5_must 59 s16 (fun s => Kr KR s))))) hC (by rw [rn_idem]; exact ha) hr hw.1.1 hw.1.2.1 (fun y ⟨x, hx, yT, yf⟩ => ⟨yT, by rw [yf.1 351 (by decide)]; exact (hF x hx).2.2.1⟩) (fun KR h => H KR fun x hx => p_hereT (hF x hx).1 fun y yT yf l hl => ?_) ?_ ?_
  · rw [yT.1.2.1, ha] at hl
    rw [hl]
    exact h y ⟨x, hx, yT, yf⟩
  · intro u b q hab ho uC u6 u7 uf HK
    have uI : CI s0 u B e b w d p k ρ := hI'.P uC uf
    have hP := onS_P hr ho
    -- the reference's state behind the cell
    have HR : ∀ KR, (∀ y, RI t0 y B e b w d p k ρ → y 347 13 = cl20 q → ((d = true ∧ q = (rI ρ 6, rI ρ 7)) ∨ (p = true ∧ q = (rI ρ 8, rI ρ 9)) ∨ (∃ i : Nat, (i : Int) < rI ρ 3 ∧ q = hAt ρ i) → ∀ z, FT z B e 3 (rn isBl B e a) → rfF z y → m_X5_must 59 z (fun s => Kr KR s)) ∧ ((d = true → q ≠ (rI ρ 6, rI ρ 7)) → (p = true → q ≠ (rI ρ 8, rI ρ 9)) → (∀ i : Nat, (i : Int) < rI ρ 3 → q ≠ hAt ρ i) → ∀ z, z = st2 y 351 (609 + (20 * q.2 + q.1).toNat) 1 → m_X5_must 59 z (fun s => Kr KR s))) → S KR := by
      intro KR hK
      refine HK KR fun z y ⟨x, hx, yT, yf⟩ zT z13 zf => ?_
      have zI : RI t0 z B e b w d p k ρ := (hF x hx).P zT (zf.trans yf.P)
      obtain ⟨g1, g2⟩ := hK z zI z13
      have z351 := zI.2.2.1
      have hhP : ∀ i : Nat, (i : Int) < rI ρ 3 → isP (hAt ρ i) := fun i hi => onS_P hr (hh i hi).1
      have j55 : (d = true → q ≠ (rI ρ 6, rI ρ 7)) → m_X5_readsLand_j55 (fun s20 => m_X5_must 59 s20 (fun s => Kr KR s)) (nI (rn isBl B e a)) z := by
        intro nd
        refine p_X5_isTold (b := p) (by rw [zI.2.1]; exact oc_2) (fun hp => ⟨fun w => absurd w one0, fun _ => ⟨by rw [ti_in]; decide, by rw [ti_in]; decide, ?_⟩⟩) (fun hp => ⟨fun _ => ?_, fun w => absurd rfl w⟩)
        · have wp := hD.2.2.2.2.1 hp
          have pP : isP (rI ρ 8, rI ρ 9) := onS_P hr wp.1
          refine p_m20 ?_
          rw [show (8 : Int32).toNatClampNeg = 8 by decide, show (9 : Int32).toNatClampNeg = 9 by decide, z351, cl20_of (ρ := ρ) pP, z13]
          refine ⟨fun y => p_readsLand_l95 0 hr z351 zT z13 hP hhP (fun y' v vF vf => g1 (Or.inr (Or.inr (y'.resolve_left fun w => w rfl))) v vF vf) fun _ hn v hv => g2 nd (fun _ h => y (by rw [h])) hn v hv, fun y => p_readsLand_l95 1 hr z351 zT z13 hP hhP (fun _ v vF vf => g1 (Or.inr (Or.inl ⟨hp, (cl20_inj pP hP y).symm⟩)) v vF vf) fun w => absurd w one0⟩
        · exact p_readsLand_l95 0 hr z351 zT z13 hP hhP (fun y' v vF vf => g1 (Or.inr (Or.inr (y'.resolve_left fun w => w rfl))) v vF vf) fun _ hn v hv => g2 nd (fun w => absurd w (by rw [hp]; decide)) hn v hv
      refine p_fine1 zT.2.1 ⟨fun _ => p_X5_isTold (b := d) (by rw [zI.2.1]; exact oc_1) (fun hd => ⟨fun w => absurd w one0, fun _ => ⟨by rw [ti_in]; decide, by rw [ti_in]; decide, ?_⟩⟩) (fun hd => ⟨fun _ => j55 fun w => absurd w (by rw [hd]; decide), fun w => absurd rfl w⟩), fun w => absurd w one0⟩
      have wd' := hD.2.2.2.1 hd
      have dP : isP (rI ρ 6, rI ρ 7) := onS_P hr wd'.1
      refine p_m20 ?_
      rw [show (6 : Int32).toNatClampNeg = 6 by decide, show (7 : Int32).toNatClampNeg = 7 by decide, z351, cl20_of (ρ := ρ) dP, z13]
      exact ⟨fun y => p_readsLand_l95 1 hr z351 zT z13 hP hhP (fun _ v vF vf => g1 (Or.inl ⟨hd, (cl20_inj dP hP y).symm⟩) v vF vf) fun w => absurd w one0, fun y => j55 fun _ h => y (by rw [h])⟩
    -- a fault
    have leafB : (d = true ∧ q = (rI ρ 6, rI ρ 7)) ∨ (p = true ∧ q = (rI ρ 8, rI ρ 9)) ∨ (∃ i : Nat, (i : Int) < rI ρ 3 ∧ q = hAt ρ i) → m_X2_fail 3 (u 18 7) u (fun r91 s91 => Kc r91 s91) := by
      intro hb
      rw [u7]
      exact p_fail fun v v9 v10 vf _ => bad v 3 _ (by decide) v9 v10 (fun c hc => by rw [vf c (by omega)]; exact uI.2.2.2.2 c hc) fun KR hK => HR KR fun y yI _ => ⟨fun _ z zF zf => p_mustD zF (hK z zF (zf.B.S yI.2.2.2)), fun n1 n2 n3 => by
        rcases hb with ⟨g1, g2⟩ | ⟨g1, g2⟩ | ⟨i, g1, g2⟩
        · exact absurd g2 (n1 g1)
        · exact absurd g2 (n2 g1)
        · exact absurd g2 (n3 i g1)⟩
    have leafG : (d = true → q ≠ (rI ρ 6, rI ρ 7)) → (p = true → q ≠ (rI ρ 8, rI ρ 9)) → m_X3_isTaken 10 (u 18 6) u (fun r79 s79 => ((r79 = 0 → m_X4_write (10 + 3) (s79 18 6) 1 s79 (fun s107 => m_X2_readEnd s107 (fun r111 s111 => Kc r111 s111))) ∧ (¬ (r79 = 0) → m_X2_fail 3 (s79 18 7) s79 (fun r91 s91 => Kc r91 s91)))) := by
      intro nd np
      have huw : Rw u 10 ρ := uI.2.2.2.1.2.1
      have oc := onS_cell hr ho
      have ec := clW_i hr ho
      rw [u6]
      refine p_isTaken hr huw hh ho (fun y => ⟨fun w => absurd w one0, fun _ => leafB (Or.inr (Or.inr y))⟩) fun nh => ⟨fun _ => ?_, fun w => absurd rfl w⟩
      rw [u6]
      refine p_X4_write (W_L3 (Or.inr (Or.inl rfl))) (by decide) (by omega) (by omega) ?_
      rw [ec]
      have vD := uI.2.2.2.1.land ho rfl nd np nh
      refine b_fin (F := fun z => ∃ y, RI t0 y B e b w d p k ρ ∧ z = st2 y 351 (609 + (20 * q.2 + q.1).toNat) 1) (ρ := rL ρ q) (a := b) (a0 := a) ⟨uC.other (fun c c1 c2 => st2_row (by omega)), uI.2.1, uI.2.2.1, vD, fun c hc => ?_⟩ (by omega) (fun z ⟨y, yI, hz⟩ => ?_) (fun KR hK => HR KR fun y yI y13 => ⟨fun hb => ?_, fun _ _ _ z hz => hK z ⟨y, yI, hz⟩⟩) ok bad
      · rw [st2_row (by omega)]
        exact uI.2.2.2.2 c hc
      · have zk : ∀ c, c ≠ 351 → z c = y c := fun c hc => by rw [hz, st2_row hc]
        have z351 : z 351 = rL ρ q := funext fun j => by
          unfold rL
          rw [hz, ← yI.2.2.1]
          by_cases g : j = 609 + (20 * q.2 + q.1).toNat
          · rw [if_pos g, g, st2_same]
          · rw [if_neg g, st2_j g]
        refine ⟨yI.1.row zk, by rw [zk 347 (by decide)]; exact yI.2.1, z351, yI.2.2.2.row zk fun j hj => ?_⟩
        rw [z351]
        exact vD.2.2.2.2.2.2.2.2 j hj
      · rcases hb with ⟨g1, g2⟩ | ⟨g1, g2⟩ | ⟨i, g1, g2⟩
        · exact absurd g2 (nd g1)
        · exact absurd g2 (np g1)
        · exact absurd g2 (nh i g1)
    have u10 : u 10 = s 10 := uf.1 10 (by decide)
    have e5 : u 10 5 = clW (rI ρ 0) (rI ρ 6, rI ρ 7) := uI.2.2.2.1.2.1.2.1.1
    have e6 : u 10 6 = clW (rI ρ 0) (rI ρ 8, rI ρ 9) := uI.2.2.2.1.2.1.2.1.2
    obtain ⟨f11, f12, f13, f14⟩ := uI.2.2.1
    have j62 : ∀ l1 k0 : Int32, (¬ l1 = 0 → d = true ∧ q = (rI ρ 6, rI ρ 7)) → (¬ k0 = 0 → p = true ∧ q = (rI ρ 8, rI ρ 9)) → (l1 = 0 → d = true → q ≠ (rI ρ 6, rI ρ 7)) → (k0 = 0 → p = true → q ≠ (rI ρ 8, rI ρ 9)) → m_X2_readLand_j62 Kc l1 k0 u := fun l1 k0 g1 g2 g3 g4 => ⟨fun z => leafB (Or.inl (g1 z)), fun z => ⟨fun y => leafB (Or.inr (Or.inl (g2 y))), fun y => leafG (g3 z) (g4 y)⟩⟩
    have j35 : ∀ l1 : Int32, (¬ l1 = 0 → d = true ∧ q = (rI ρ 6, rI ρ 7)) → (l1 = 0 → d = true → q ≠ (rI ρ 6, rI ρ 7)) → m_X2_readLand_j35 Kc l1 u := by
      intro l1 g1 g3
      unfold m_X2_readLand_j35
      rw [f12, e6, u6]
      refine ⟨fun z => j62 l1 0 g1 (fun y => absurd rfl y) g3 fun _ hp => ?_, fun z => ?_⟩
      · rw [bi_0.mp z] at hp
        exact absurd hp (by decide)
      · have hp : p = true := by
          cases p with
          | true => rfl
          | false => exact absurd (bi_0.mpr rfl) z
        have wp := hD.2.2.2.2.1 hp
        exact ⟨fun y => j62 l1 0 g1 (fun y => absurd rfl y) g3 fun _ _ h => y (by rw [h]), fun y => j62 l1 1 g1 (fun _ => ⟨hp, (clW_inj hr wp.1 ho y).symm⟩) g3 fun w => absurd w one0⟩
    refine ⟨fun _ => ?_, fun z => absurd z one0⟩
    rw [f11, e5, u6]
    refine ⟨fun z => j35 0 (fun y => absurd rfl y) fun _ hd => ?_, fun z => ?_⟩
    · rw [bi_0.mp z] at hd
      exact absurd hd (by decide)
    · have hd : d = true := by
        cases d with
        | true => rfl
        | false => exact absurd (bi_0.mpr rfl) z
      have wd' := hD.2.2.2.1 hd
      exact ⟨fun y => j35 0 (fun y => absurd rfl y) fun _ _ h => y (by rw [h]), fun y => j35 1 (fun _ => ⟨hd, (clW_inj hr wd'.1 ho y).symm⟩) fun w => absurd w one0⟩
  · intro u f pl f0 u9 u10 uf HK
    refine ⟨fun z => absurd rfl z, fun _ => bad u f pl f0 u9 u10 (fun c hc => by rw [uf c (by omega)]; exact hs0 c hc) fun KR hK => HK KR fun z y ⟨x, hx, yT, yf⟩ zF zf => p_fine0 zF.no ⟨fun w => absurd rfl w, fun _ => p_mustD zF (hK z zF ((zf.trans yf.P.B).S (hF x hx).2.2.2))⟩⟩
end
