/-! a text: sentences -/
section
variable {κ : Type} {S : κ → Prop} {F : Sg → Prop} {Kr : κ → Sg → Prop} {Kc : Int32 → Sg → Prop} {s0 t0 s x : Sg} {B : Nat → Int32} {e a a2 i : Nat} {w d p k : Bool} {ρ : Nat → Int32}
theorem RI.O {y : Sg} {b : Nat} (h : RI t0 x B e a w d p k ρ) (yT : RT y B e b) (yf : rfO y x) : RI t0 y B e b w d p k ρ := h.P yT yf.P
theorem p_tk {v : Nat} {K : Int32 → Sg → Prop} (h : RI t0 x B e a w d p k ρ) (hi : rn isBl B e a = i) (hv : v < 37) (hv2 : 20 ≤ v) (k1 : wd B e v i → ∀ y, RI t0 y B e (i + sLen.getD v 0) w d p k ρ → K 1 y) (k0 : ¬ wd B e v i → ∀ y, RI t0 y B e i w d p k ρ → K 0 y) : m_X5_takes v x K := by
  subst hi
  exact p_takes h.1 hv hv2 (fun z y yT yf => k1 z y (h.O yT yf)) fun z y yT yf => k0 z y (h.O yT yf)
theorem p_once {v : Nat} {bI : Int32} {b w' d' p' k' : Bool} {K : Int32 → Sg → Prop} (h : RI t0 x B e a w d p k ρ) (hi : rn isBl B e a = i) (hai : a = i) (hv : v < 37) (hv2 : 20 ≤ v) (hb : ((oc w d p k >>> (bI &&& 31)) &&& 1) = 1 ↔ b = true) (hs : oc w d p k ||| (1 <<< (bI &&& 31)) = oc w' d' p' k')
    (k1 : wd B e v i → b = false → ∀ y, RI t0 y B e (i + sLen.getD v 0) w' d' p' k' ρ → K 1 y) (k0 : (wd B e v i → b = true) → ∀ y, RI t0 y B e i w d p k ρ → K 0 y) : m_X5_takesOnce v bI x K := by
  unfold m_X5_takesOnce
  rw [h.2.1]
  refine ⟨fun z => k0 (fun _ => hb.mp z) x (hai ▸ h), fun z => p_tk h hi hv hv2 (fun g y yI => ⟨fun _ q hq => ?_, fun g2 => absurd g2 one0⟩) fun g y yI => ⟨fun g2 => absurd rfl g2, fun _ => k0 (fun g2 => absurd g2 g) y yI⟩⟩
  have bF : b = false := by
    cases b with
    | false => rfl
    | true => exact absurd (hb.mpr rfl) z
  rw [yI.2.1, hs] at hq
  exact k1 g bF q ⟨yI.1.set hq (by decide), by rw [hq, st2_same], by rw [hq, st2_row (by decide)]; exact yI.2.2.1, yI.2.2.2.set hq (Or.inr rfl)⟩
theorem w_dif : ∀ v ∈ [2, 3, 13, 14, 15, 16, 17], ∀ v' ∈ [2, 3, 13, 14, 15, 16, 17], v ≠ v' → 0 < sLen.getD v 0 ∧ (sLen.getD v 0 ≠ sLen.getD v' 0 ∨ (sByt.getD v []).getD 0 0 ≠ (sByt.getD v' []).getD 0 0) := by decide
theorem wd_ex {v v' : Nat} (hv : v ∈ [2, 3, 13, 14, 15, 16, 17]) (hv' : v' ∈ [2, 3, 13, 14, 15, 16, 17]) (hne : v ≠ v') (h : wd B e v i) : ¬ wd B e v' i := by
  intro h'
  obtain ⟨l, c⟩ := w_dif v hv v' hv' hne
  have el : sLen.getD v 0 = sLen.getD v' 0 := by
    have a := h.1
    have b := h'.1
    omega
  rcases c with c | c
  · exact c el
  · exact c ((h.2 0 l).symm.trans (h'.2 0 (by omega)))
/-- the reference's sentence: which one -/
theorem p_line {K : Sg → Prop} (hx : RI t0 x B e a2 w d p k ρ) (hi : rn isBl B e a2 = i)
    (kL : wd B e 2 i → ∀ y, RI t0 y B e (rn isLt B e i) w d p k ρ → m_X5_readsLand y (fun s20 => m_X5_must 59 s20 (fun s => K s)))
    (kC : wd B e 3 i → ∀ y, RI t0 y B e (rn isLt B e i) w d p k ρ → m_X5_readsCurrent y (fun s36 => m_X5_must 59 s36 (fun s => K s)))
    (kW : wd B e 13 i → w = false → ∀ y, RI t0 y B e (rn isLt B e i) true d p k ρ → m_X5_directions 12 1 24 y (fun r64 s64 => (vp_in 10 1098 ∧ ∀ s67, s67 = st2 s64 351 (10 : Int32).toNatClampNeg r64 → m_X5_must 59 s67 (fun s => K s))))
    (kD : wd B e 14 i → d = false → ∀ y, RI t0 y B e (rn isLt B e i) w true p k ρ → m_X5_readsCell 0 y (fun s83 => (vp_in 6 1098 ∧ ∀ s99, s99 = st2 s83 351 (6 : Int32).toNatClampNeg ((s83 347 13) - (s83 347 13) / 20 * 20) → (vp_in 7 1098 ∧ ∀ s113, s113 = st2 s99 351 (7 : Int32).toNatClampNeg ((s99 347 13) / 20) → m_X5_number 0 9 s113 (fun r123 s123 => (vp_in 5 1098 ∧ ∀ s126, s126 = st2 s123 351 (5 : Int32).toNatClampNeg r123 → m_X5_must 59 s126 (fun s => K s)))))))
    (kP : wd B e 16 i → p = false → ∀ y, RI t0 y B e (rn isLt B e i) w d true k ρ → m_X5_readsCell 0 y (fun s142 => (vp_in 8 1098 ∧ ∀ s158, s158 = st2 s142 351 (8 : Int32).toNatClampNeg ((s142 347 13) - (s142 347 13) / 20 * 20) → (vp_in 9 1098 ∧ ∀ s172, s172 = st2 s158 351 (9 : Int32).toNatClampNeg ((s158 347 13) / 20) → m_X5_directions 36 0 12 s172 (fun r185 s185 => (vp_in 11 1098 ∧ ∀ s188, s188 = st2 s185 351 (11 : Int32).toNatClampNeg r185 → m_X5_must 59 s188 (fun s => K s)))))))
    (kT : wd B e 17 i → k = false → ∀ y, RI t0 y B e (rn isLt B e i) w d p true ρ → m_X5_number 1 999 y (fun r212 s212 => (vp_in 4 1098 ∧ ∀ s215, s215 = st2 s212 351 (4 : Int32).toNatClampNeg r212 → m_X5_must 59 s215 (fun s => K s))))
    (kH : wd B e 15 i → ∀ y, RI t0 y B e (rn isLt B e i) w d p k ρ → m_X5_readsHelper (nI i) y (fun s230 => m_X5_must 59 s230 (fun s => K s)))
    (kN : ¬ wd B e 2 i → ¬ wd B e 3 i → (wd B e 13 i → w = true) → (wd B e 14 i → d = true) → (wd B e 16 i → p = true) → (wd B e 17 i → k = true) → ¬ wd B e 15 i → ∀ y, RI t0 y B e i w d p k ρ → m_X5_wrong 1 (nI i) y (fun s239 => m_X5_must 59 s239 (fun s => K s))) : m_X5_readsLine x K := by
  have ii : rn isBl B e i = i := by rw [← hi, rn_idem]
  have s2 := wd_same (B := B) (e := e) (i := i) (v := 2) (v' := 21) (by decide) (by decide)
  have s3 := wd_same (B := B) (e := e) (i := i) (v := 3) (v' := 22) (by decide) (by decide)
  have s13 := wd_same (B := B) (e := e) (i := i) (v := 13) (v' := 32) (by decide) (by decide)
  have s14 := wd_same (B := B) (e := e) (i := i) (v := 14) (v' := 33) (by decide) (by decide)
  have s16 := wd_same (B := B) (e := e) (i := i) (v := 16) (v' := 34) (by decide) (by decide)
  have s17 := wd_same (B := B) (e := e) (i := i) (v := 17) (v' := 35) (by decide) (by decide)
  have s15 := wd_same (B := B) (e := e) (i := i) (v := 15) (v' := 36) (by decide) (by decide)
  refine p_hereT hx.1 fun y yT yf l hl => ?_
  have yI := hx.O yT yf
  rw [yT.1.2.1, hi] at hl
  rw [hi] at yI
  rw [hl]
  refine p_tk yI ii (by decide) (by decide) (fun z o oI => ⟨fun g => absurd g one0, fun _ => kL (s2.mpr z) o (z.1 ▸ oI)⟩) fun n1 y1 y1I => ⟨fun _ => ?_, fun g => absurd rfl g⟩
  refine p_tk y1I ii (by decide) (by decide) (fun z o oI => ⟨fun g => absurd g one0, fun _ => kC (s3.mpr z) o (z.1 ▸ oI)⟩) fun n2 y2 y2I => ⟨fun _ => ?_, fun g => absurd rfl g⟩
  refine p_once y2I ii rfl (by decide) (by decide) oc_0 oc_s0 (fun z hb o oI => ⟨fun g => absurd g one0, fun _ => kW (s13.mpr z) hb o (z.1 ▸ oI)⟩) fun n3 y3 y3I => ⟨fun _ => ?_, fun g => absurd rfl g⟩
  refine p_once y3I ii rfl (by decide) (by decide) oc_1 oc_s1 (fun z hb o oI => ⟨fun g => absurd g one0, fun _ => kD (s14.mpr z) hb o (z.1 ▸ oI)⟩) fun n4 y4 y4I => ⟨fun _ => ?_, fun g => absurd rfl g⟩
  refine p_once y4I ii rfl (by decide) (by decide) oc_2 oc_s2 (fun z hb o oI => ⟨fun g => absurd g one0, fun _ => kP (s16.mpr z) hb o (z.1 ▸ oI)⟩) fun n5 y5 y5I => ⟨fun _ => ?_, fun g => absurd rfl g⟩
  refine p_once y5I ii rfl (by decide) (by decide) oc_3 oc_s3 (fun z hb o oI => ⟨fun g => absurd g one0, fun _ => kT (s17.mpr z) hb o (z.1 ▸ oI)⟩) fun n6 y6 y6I => ⟨fun _ => ?_, fun g => absurd rfl g⟩
  refine p_tk y6I ii (by decide) (by decide) (fun z o oI => ⟨fun g => absurd g one0, fun _ => kH (s15.mpr z) o (z.1 ▸ oI)⟩) fun n7 y7 y7I => ⟨fun _ => ?_, fun g => absurd rfl g⟩
  exact kN (fun z => n1 (s2.mp z)) (fun z => n2 (s3.mp z)) (fun z => n3 (s13.mp z)) (fun z => n4 (s14.mp z)) (fun z => n5 (s16.mp z)) (fun z => n6 (s17.mp z)) (fun z => n7 (s15.mp z)) y7 y7I
theorem OkH.mono {b : Nat} (h : OkH S Kr Kc s0 t0 B e a) (hab : a ≤ b) : OkH S Kr Kc s0 t0 B e b := fun u c w d p k ρ hc => h u c w d p k ρ (by omega)
theorem b_sentence (hI : CI s0 s B e a w d p k ρ) (ha : rn isBl B e a2 = rn isBl B e a) (hF : ∀ x, F x → RI t0 x B e a2 w d p k ρ) (H : ∀ KR, (∀ x, F x → m_X5_readsLine x (fun s => Kr KR s)) → S KR) (ok : OkH S Kr Kc s0 t0 B e a) (bad : BadH S Kr Kc s0 t0 B e) : m_X2_readSentence s Kc := by
  have hge : a ≤ rn isBl B e a := rn_ge
  have hgj : rn isBl B e a ≤ rn isLt B e (rn isBl B e a) := rn_ge
  -- none of these
  have none : ∀ u : Sg, u 18 9 = 1 → u 18 10 = nI (rn isBl B e a) → (∀ c, (c < 10 ∨ 19 ≤ c) → u c = s0 c) → ¬ wd B e 2 (rn isBl B e a) → ¬ wd B e 3 (rn isBl B e a) → (wd B e 13 (rn isBl B e a) → w = true) → (wd B e 14 (rn isBl B e a) → d = true) → (wd B e 16 (rn isBl B e a) → p = true) → (wd B e 17 (rn isBl B e a) → k = true) → ¬ wd B e 15 (rn isBl B e a) → Kc 0 u := fun u u9 u10 u0 n1 n2 n3 n4 n5 n6 n7 => bad u 1 _ (by decide) u9 u10 u0 fun KR hK => H KR fun x hx => by
    have ff : ∀ {b : Bool}, b = true → b = false → False := fun h1 h2 => by rw [h1] at h2; exact absurd h2 (by decide)
    exact p_line (hF x hx) ha (fun z => absurd z n1) (fun z => absurd z n2) (fun z hb => (ff (n3 z) hb).elim) (fun z hb => (ff (n4 z) hb).elim) (fun z hb => (ff (n5 z) hb).elim) (fun z hb => (ff (n6 z) hb).elim) (fun z => absurd z n7) fun _ _ _ _ _ _ _ y yI => p_wrong yI.1 (by decide) fun o oF of => p_mustD oF (hK o oF (of.B.S yI.2.2.2))
  refine p_readWord hI.1 (fun hij u uC u4 f1 f2 => ?_) (fun hij u u9 u10 f1 => ?_)
  · have uI : CI s0 u B e (rn isLt B e (rn isBl B e a)) w d p k ρ := hI.P uC ⟨f1, fun j hj => f2 j (by omega) (by omega)⟩
    have u0 := uI.2.2.2.2
    have M : ∀ v, v ∈ [2, 3, 13, 14, 15, 16, 17] → v < 37 := by decide
    refine ⟨fun _ => ?_, fun z => absurd z one0⟩
    have ok' := ok.mono (show a ≤ rn isLt B e (rn isBl B e a) by omega)
    have mem2 : 2 ∈ [2, 3, 13, 14, 15, 16, 17] := by decide
    have mem3 : 3 ∈ [2, 3, 13, 14, 15, 16, 17] := by decide
    have mem13 : 13 ∈ [2, 3, 13, 14, 15, 16, 17] := by decide
    have mem14 : 14 ∈ [2, 3, 13, 14, 15, 16, 17] := by decide
    have mem15 : 15 ∈ [2, 3, 13, 14, 15, 16, 17] := by decide
    have mem16 : 16 ∈ [2, 3, 13, 14, 15, 16, 17] := by decide
    have mem17 : 17 ∈ [2, 3, 13, 14, 15, 16, 17] := by decide
    have fail1 : ∀ (_ : ¬ wd B e 2 (rn isBl B e a)) (_ : ¬ wd B e 3 (rn isBl B e a)) (_ : wd B e 13 (rn isBl B e a) → w = true) (_ : wd B e 14 (rn isBl B e a) → d = true) (_ : wd B e 16 (rn isBl B e a) → p = true) (_ : wd B e 17 (rn isBl B e a) → k = true) (_ : ¬ wd B e 15 (rn isBl B e a)), m_X2_fail 1 (u 18 4) u (fun r s => Kc r s) := fun n1 n2 n3 n4 n5 n6 n7 => by
      rw [u4]
      exact p_fail fun v v9 v10 vf _ => none v v9 v10 (fun c hc => by rw [vf c (by omega)]; exact u0 c hc) n1 n2 n3 n4 n5 n6 n7
    refine p_isWord uC u4 hgj rfl (by decide) (fun z => ⟨fun g => absurd g one0, fun _ => ?_⟩) fun n1 => ⟨fun _ => ?_, fun g => absurd rfl g⟩
    · exact b_land (F := fun y => RI t0 y B e (rn isLt B e (rn isBl B e a)) w d p k ρ) uI rfl (fun y hy => hy) (fun KR hK => H KR fun x hx => p_line (hF x hx) ha (fun _ y yI => hK y yI) (fun q => absurd q (wd_ex mem2 mem3 (by decide) z)) (fun q => absurd q (wd_ex mem2 mem13 (by decide) z)) (fun q => absurd q (wd_ex mem2 mem14 (by decide) z)) (fun q => absurd q (wd_ex mem2 mem16 (by decide) z)) (fun q => absurd q (wd_ex mem2 mem17 (by decide) z)) (fun q => absurd q (wd_ex mem2 mem15 (by decide) z)) fun q => absurd z q) ok' bad
    refine p_isWord uC u4 hgj rfl (by decide) (fun z => ⟨fun g => absurd g one0, fun _ => ?_⟩) fun n2 => ⟨fun _ => ?_, fun g => absurd rfl g⟩
    · exact b_current (F := fun y => RI t0 y B e (rn isLt B e (rn isBl B e a)) w d p k ρ) uI rfl (fun y hy => hy) (fun KR hK => H KR fun x hx => p_line (hF x hx) ha (fun q => absurd q n1) (fun _ y yI => hK y yI) (fun q => absurd q (wd_ex mem3 mem13 (by decide) z)) (fun q => absurd q (wd_ex mem3 mem14 (by decide) z)) (fun q => absurd q (wd_ex mem3 mem16 (by decide) z)) (fun q => absurd q (wd_ex mem3 mem17 (by decide) z)) (fun q => absurd q (wd_ex mem3 mem15 (by decide) z)) fun _ q => absurd z q) ok' bad
    refine p_isWord uC u4 hgj rfl (by decide) (fun z => ⟨fun g => absurd g one0, fun _ => ?_⟩) fun n3 => ⟨fun _ => ?_, fun g => absurd rfl g⟩
    · cases w with
      | true =>
        refine ⟨fun g => ?_, fun _ => fail1 n1 n2 (fun _ => rfl) (fun q => absurd q (wd_ex mem13 mem14 (by decide) z)) (fun q => absurd q (wd_ex mem13 mem16 (by decide) z)) (fun q => absurd q (wd_ex mem13 mem17 (by decide) z)) (wd_ex mem13 mem15 (by decide) z)⟩
        rw [uI.2.2.1.2.2.1] at g
        exact absurd (bi_0.mp g) (by decide)
      | false => exact b_wind (F := fun y => RI t0 y B e (rn isLt B e (rn isBl B e a)) true d p k ρ) uI rfl (fun y hy => hy) (fun KR hK => H KR fun x hx => p_line (hF x hx) ha (fun q => absurd q n1) (fun q => absurd q n2) (fun _ _ y yI => hK y yI) (fun q => absurd q (wd_ex mem13 mem14 (by decide) z)) (fun q => absurd q (wd_ex mem13 mem16 (by decide) z)) (fun q => absurd q (wd_ex mem13 mem17 (by decide) z)) (fun q => absurd q (wd_ex mem13 mem15 (by decide) z)) fun _ _ q => absurd (q z) (by decide)) ok' bad
    refine p_isWord uC u4 hgj rfl (by decide) (fun z => ⟨fun g => absurd g one0, fun _ => ?_⟩) fun n4 => ⟨fun _ => ?_, fun g => absurd rfl g⟩
    · cases d with
      | true =>
        refine ⟨fun g => ?_, fun _ => fail1 n1 n2 (fun q => absurd q n3) (fun _ => rfl) (fun q => absurd q (wd_ex mem14 mem16 (by decide) z)) (fun q => absurd q (wd_ex mem14 mem17 (by decide) z)) (wd_ex mem14 mem15 (by decide) z)⟩
        rw [uI.2.2.1.1] at g
        exact absurd (bi_0.mp g) (by decide)
      | false => exact b_drifter (F := fun y => RI t0 y B e (rn isLt B e (rn isBl B e a)) w true p k ρ) uI rfl (fun y hy => hy) (fun KR hK => H KR fun x hx => p_line (hF x hx) ha (fun q => absurd q n1) (fun q => absurd q n2) (fun q => absurd q n3) (fun _ _ y yI => hK y yI) (fun q => absurd q (wd_ex mem14 mem16 (by decide) z)) (fun q => absurd q (wd_ex mem14 mem17 (by decide) z)) (fun q => absurd q (wd_ex mem14 mem15 (by decide) z)) fun _ _ _ q => absurd (q z) (by decide)) ok' bad
    refine p_isWord uC u4 hgj rfl (by decide) (fun z => ⟨fun g => absurd g one0, fun _ => ?_⟩) fun n5 => ⟨fun _ => ?_, fun g => absurd rfl g⟩
    · exact b_helper (F := fun y => RI t0 y B e (rn isLt B e (rn isBl B e a)) w d p k ρ) uI rfl u4 (fun y hy => hy) (fun KR hK => H KR fun x hx => p_line (hF x hx) ha (fun q => absurd q n1) (fun q => absurd q n2) (fun q => absurd q n3) (fun q => absurd q n4) (fun q => absurd q (wd_ex mem15 mem16 (by decide) z)) (fun q => absurd q (wd_ex mem15 mem17 (by decide) z)) (fun _ y yI => hK y yI) fun _ _ _ _ _ _ q => absurd z q) ok' bad
    refine p_isWord uC u4 hgj rfl (by decide) (fun z => ⟨fun g => absurd g one0, fun _ => ?_⟩) fun n6 => ⟨fun _ => ?_, fun g => absurd rfl g⟩
    · cases p with
      | true =>
        refine ⟨fun g => ?_, fun _ => fail1 n1 n2 (fun q => absurd q n3) (fun q => absurd q n4) (fun _ => rfl) (fun q => absurd q (wd_ex mem16 mem17 (by decide) z)) n5⟩
        rw [uI.2.2.1.2.1] at g
        exact absurd (bi_0.mp g) (by decide)
      | false => exact b_port (F := fun y => RI t0 y B e (rn isLt B e (rn isBl B e a)) w d true k ρ) uI rfl (fun y hy => hy) (fun KR hK => H KR fun x hx => p_line (hF x hx) ha (fun q => absurd q n1) (fun q => absurd q n2) (fun q => absurd q n3) (fun q => absurd q n4) (fun _ _ y yI => hK y yI) (fun q => absurd q (wd_ex mem16 mem17 (by decide) z)) (fun q => absurd q n5) fun _ _ _ _ q => absurd (q z) (by decide)) ok' bad
    refine p_isWord uC u4 hgj rfl (by decide) (fun z => ⟨fun g => absurd g one0, fun _ => ?_⟩) fun n7 => ⟨fun _ => fail1 n1 n2 (fun q => absurd q n3) (fun q => absurd q n4) (fun q => absurd q n6) (fun q => absurd q n7) n5, fun g => absurd rfl g⟩
    cases k with
    | true =>
      refine ⟨fun g => ?_, fun _ => fail1 n1 n2 (fun q => absurd q n3) (fun q => absurd q n4) (fun q => absurd q n6) (fun _ => rfl) n5⟩
      rw [uI.2.2.1.2.2.2] at g
      exact absurd (bi_0.mp g) (by decide)
    | false => exact b_tank (F := fun y => RI t0 y B e (rn isLt B e (rn isBl B e a)) w d p true ρ) uI rfl (fun y hy => hy) (fun KR hK => H KR fun x hx => p_line (hF x hx) ha (fun q => absurd q n1) (fun q => absurd q n2) (fun q => absurd q n3) (fun q => absurd q n4) (fun q => absurd q n6) (fun _ _ y yI => hK y yI) (fun q => absurd q n5) fun _ _ _ _ _ q => absurd (q z) (by decide)) ok' bad
  · have no : ∀ v, v ∈ [2, 3, 13, 14, 15, 16, 17] → ¬ wd B e v (rn isBl B e a) := fun v hv h => by
      have l : 0 < sLen.getD v 0 := (show ∀ v ∈ [2, 3, 13, 14, 15, 16, 17], 0 < sLen.getD v 0 by decide) v hv
      have := h.1
      omega
    exact ⟨fun g => absurd rfl g, fun _ => none u u9 u10 (fun c hc => by rw [f1 c (by omega)]; exact hI.2.2.2.2 c hc) (no 2 (by decide)) (no 3 (by decide)) (fun q => absurd q (no 13 (by decide))) (fun q => absurd q (no 14 (by decide))) (fun q => absurd q (no 16 (by decide))) (fun q => absurd q (no 17 (by decide))) (no 15 (by decide))⟩
end
