/-! a text: the reference's bytes -/
def RB (t : Sg) (B : Nat → Int32) (e a : Nat) : Prop := t 347 3 = nI e ∧ t 347 4 = nI a ∧ a ≤ e ∧ e ≤ 400 ∧ (∀ j, j < 400 → t 349 j = B j) ∧ ∀ j, j < 400 → 0 ≤ (B j).toInt ∧ (B j).toInt ≤ 255
def RT (t : Sg) (B : Nat → Int32) (e a : Nat) : Prop := RB t B e a ∧ t 347 6 = 0 ∧ t 347 7 = -1
/-- a fault stands -/
def FT (t : Sg) (B : Nat → Int32) (e : Nat) (f : Int32) (pl : Nat) : Prop := (∃ a, RB t B e a) ∧ t 347 6 = f ∧ ¬ f = 0 ∧ t 347 7 = nI pl
/-- all else is as it was -/
def rfO (u t : Sg) : Prop := (∀ c, c ≠ 347 → u c = t c) ∧ ∀ j, j ≠ 4 → u 347 j = t 347 j
def rfF (u t : Sg) : Prop := (∀ c, c ≠ 347 → u c = t c) ∧ ∀ j, j ≠ 4 → j ≠ 6 → j ≠ 7 → u 347 j = t 347 j
theorem rfO.F {u t : Sg} (h : rfO u t) : rfF u t := ⟨h.1, fun j j1 _ _ => h.2 j j1⟩
theorem rfO.trans {u v t : Sg} (a : rfO u v) (b : rfO v t) : rfO u t := ⟨fun c hc => (a.1 c hc).trans (b.1 c hc), fun j hj => (a.2 j hj).trans (b.2 j hj)⟩
theorem rfF.trans {u v t : Sg} (a : rfF u v) (b : rfF v t) : rfF u t := ⟨fun c hc => (a.1 c hc).trans (b.1 c hc), fun j j1 j2 j3 => (a.2 j j1 j2 j3).trans (b.2 j j1 j2 j3)⟩
theorem rfO.refl (t : Sg) : rfO t t := ⟨fun _ _ => rfl, fun _ _ => rfl⟩
theorem rfF.refl (t : Sg) : rfF t t := ⟨fun _ _ => rfl, fun _ _ _ _ => rfl⟩
section
variable {t : Sg} {B : Nat → Int32} {e a : Nat}
theorem RB.mv {u : Sg} {b : Nat} (h : RB t B e a) (h1 : ∀ k, k ≠ 347 → u k = t k) (h2 : u 347 3 = t 347 3) (h3 : u 347 4 = nI b) (hb : b ≤ e) : RB u B e b := by
  obtain ⟨a1, a2, a3, a4, a5, a6⟩ := h
  exact ⟨h2.trans a1, h3, hb, a4, fun j hj => by rw [h1 349 (by decide)]; exact a5 j hj, a6⟩
theorem RT.mv {u : Sg} {b : Nat} (h : RT t B e a) (hf : rfO u t) (h3 : u 347 4 = nI b) (hb : b ≤ e) : RT u B e b := ⟨h.1.mv hf.1 (hf.2 3 (by decide)) h3 hb, by rw [hf.2 6 (by decide)]; exact h.2.1, by rw [hf.2 7 (by decide)]; exact h.2.2⟩
theorem p_X5_byteAt {i : Nat} {K : Int32 → Sg → Prop} (h : RB t B e a) (hi : i < 1000) (k : K (bat B e i) t) : m_X5_byteAt (nI i) t K := by
  obtain ⟨a1, a2, a3, a4, a5, a6⟩ := h
  have ei := nI_toInt (n := i) (by omega)
  have ee := nI_toInt (n := e) (by omega)
  unfold bat at k
  unfold m_X5_byteAt
  rw [a1]
  refine ⟨fun z => ?_, fun z => ?_⟩
  · rw [ti_lt, ei, ee] at z
    refine ⟨by rw [ti_in, ei]; omega, ?_⟩
    rw [nI_clamp (by omega), a5 i (by omega)]
    rwa [if_pos (by omega)] at k
  · rw [ti_lt, ei, ee] at z
    rwa [if_neg (by omega)] at k
theorem p_here {K : Int32 → Sg → Prop} (h : RB t B e a) (k : ∀ u, RB u B e (rn isBl B e a) → rfO u t → K (bat B e (rn isBl B e a)) u) : m_X5_here t K := by
  have key : ∀ m x : Nat, x + m = e → ∀ u : Sg, RB u B e x → rn isBl B e a = rn isBl B e x → rfO u t → m_X5_here_l0 K (m + 1) u := by
    intro m
    induction m with
    | zero =>
      intro x hx u uC ur uf
      have hx4 := uC.2.2.2.1
      have : x = e := by omega
      subst this
      rw [rn_stop (Or.inl (Nat.le_refl _))] at ur
      rw [ur] at k
      unfold m_X5_here_l0
      rw [uC.2.1]
      refine p_X5_byteAt uC (by omega) ⟨fun _ => ?_, fun z => ?_⟩
      · rw [uC.2.1]
        exact p_X5_byteAt uC (by omega) (k u uC uf)
      · unfold bat at z
        rw [if_neg (Nat.lt_irrefl _)] at z
        exact absurd z (by decide)
    | succ m ih =>
      intro x hx u uC ur uf
      have hx4 := uC.2.2.2.1
      have eb : bat B e x = B x := by
        unfold bat
        rw [if_pos (by omega)]
      unfold m_X5_here_l0
      rw [uC.2.1]
      refine p_X5_byteAt uC (by omega) ⟨fun z => ?_, fun z v hv => ?_⟩
      · rw [eb] at z
        rw [rn_stop (Or.inr (fun q => z (isBl_iff.mp q)))] at ur
        rw [ur] at k
        rw [uC.2.1]
        exact p_X5_byteAt uC (by omega) (k u uC uf)
      · rw [eb] at z
        rw [uC.2.1, ← nI_succ] at hv
        have vf : rfO v u := ⟨fun c hc => by rw [hv, st2_row hc], fun j hj => by rw [hv, st2_j hj]⟩
        exact ih (x + 1) (by omega) v (uC.mv vf.1 (vf.2 3 (by decide)) (by rw [hv, st2_same]) (by omega)) (ur.trans (rn_go (by omega) (isBl_iff.mpr z))) (vf.trans uf)
  have ha := h.2.2.1
  exact ⟨e - a + 1, key (e - a) a (by omega) t h rfl (rfO.refl t)⟩
theorem p_hereT {K : Int32 → Sg → Prop} (h : RT t B e a) (k : ∀ u, RT u B e (rn isBl B e a) → rfO u t → K (bat B e (rn isBl B e a)) u) : m_X5_here t K :=
  p_here h.1 fun u uC uf => k u (h.mv uf uC.2.1 uC.2.2.1) uf
theorem p_fine1 {K : Int32 → Sg → Prop} (h : t 347 6 = 0) (k : K 1 t) : m_X5_fine t K := ⟨fun z => absurd h z, fun _ => k⟩
theorem p_fine0 {K : Int32 → Sg → Prop} (h : ¬ t 347 6 = 0) (k : K 0 t) : m_X5_fine t K := ⟨fun _ => k, fun z => absurd z h⟩
theorem FT.no {f : Int32} {pl : Nat} (h : FT t B e f pl) : ¬ t 347 6 = 0 := by
  rw [h.2.1]
  exact h.2.2.1
theorem p_wrong {v : Int32} {pl : Nat} {K : Sg → Prop} (h : RT t B e a) (hv : ¬ v = 0) (k : ∀ u, FT u B e v pl → rfF u t → K u) : m_X5_wrong v (nI pl) t K := by
  refine ⟨fun z => absurd h.2.1 z, fun _ x hx y hy => k y ⟨⟨a, h.1.mv (fun c hc => by rw [hy, st2_row hc, hx, st2_row hc]) (by rw [hy, st2_j (by decide), hx, st2_j (by decide)]) (by rw [hy, st2_j (by decide), hx, st2_j (by decide)]; exact h.1.2.1) h.1.2.2.1⟩, by rw [hy, st2_j (by decide), hx, st2_same], hv, by rw [hy, st2_same]⟩ ⟨fun c hc => by rw [hy, st2_row hc, hx, st2_row hc], fun j j1 j2 j3 => by rw [hy, st2_j j3, hx, st2_j j2]⟩⟩
theorem p_wrongD {v w f : Int32} {pl : Nat} {K : Sg → Prop} (h : FT t B e f pl) (k : K t) : m_X5_wrong v w t K := ⟨fun _ => k, fun z => absurd z h.no⟩
theorem wdl : ∀ v, v < 37 → 20 ≤ v → ∀ x, x < sLen.getD v 0 → isLt ((sByt.getD v []).getD x 0) = true := by decide
theorem bat_lt {i : Nat} (h : isLt (bat B e i) = true) : i < e ∧ bat B e i = B i := by
  unfold bat at h ⊢
  by_cases z : i < e
  · rw [if_pos z]
    exact ⟨z, rfl⟩
  · rw [if_neg z] at h
    exact absurd h (by decide)
theorem p_X5_isWord {v : Nat} {K : Int32 → Sg → Prop} (h : RT t B e a) (hv : v < 37) (hv2 : 20 ≤ v) (k1 : wd B e v (rn isBl B e a) → ∀ u, RT u B e (rn isBl B e a) → rfO u t → K 1 u) (k0 : ¬ wd B e v (rn isBl B e a) → ∀ u, RT u B e (rn isBl B e a) → rfO u t → K 0 u) : m_X5_isWord v t K := by
  refine p_hereT h fun u uT uf => ?_
  generalize rn isBl B e a = i at k1 k0 uT
  have hl := sLen_b v hv
  have hw := wdl v hv hv2
  have hi := uT.1.2.2.1
  have he := uT.1.2.2.2.1
  have K1 := fun z => k1 z u uT uf
  have K0 := fun z => k0 z u uT uf
  clear k1 k0
  unfold wd at K1 K0
  generalize hL : sLen.getD v 0 = L at hl hw K1 K0
  have eL := ti_cn (n := L) (by omega)
  have ei := nI_toInt (n := i) (by omega)
  have j39 : ∀ x : Nat, x ≤ L → (∀ y, y < x → bat B e (i + y) = (sByt.getD v []).getD y 0) → (x < L → ¬ bat B e (i + x) = (sByt.getD v []).getD x 0) → m_X5_isWord_j39 v K (nI x) u := by
    intro x hx h1 h2
    have ex := nI_toInt (n := x) (by omega)
    have h3 : ∀ y, y < x → i + y < e ∧ B (i + y) = (sByt.getD v []).getD y 0 := fun y hy => by
      have b := h1 y hy
      have := bat_lt (B := B) (e := e) (i := i + y) (by rw [b]; exact hw y (by omega))
      exact ⟨this.1, by rw [← this.2]; exact b⟩
    unfold m_X5_isWord_j39
    rw [hL]
    refine ⟨fun z => K0 fun q => ?_, fun z => ?_⟩
    · have hxL : x < L := by
        have : x ≠ L := fun e => z (by rw [e]; rfl)
        omega
      have b := q.2 x hxL
      have r := rn_in (P := isLt) (B := B) (e := e) (i := i) (j := i + x) (by omega) (by omega)
      exact h2 hxL (by unfold bat; rw [if_pos r.2]; exact b)
    · rw [ti_eq, ex, eL] at z
      have hxL : x = L := by omega
      subst hxL
      have e1 : nI i + nI x = nI (i + x) := by
        rw [ti_eq, ti_add (by rw [ei, ex]; omega) (by rw [ei, ex]; omega), ei, ex, nI_toInt (by omega)]
        omega
      rw [uT.1.2.1, e1]
      have yes : ¬ isLt (bat B e (i + x)) = true → K 1 u := fun q => K1 ⟨rn_is x i (i + x) rfl (fun y hy1 hy2 => by
        have := h3 (y - i) (by omega)
        rw [show i + (y - i) = y by omega] at this
        exact ⟨this.1, by rw [this.2]; exact hw (y - i) (by omega)⟩) (by
        by_cases y : i + x < e
        · right
          unfold bat at q
          rw [if_pos y] at q
          exact q
        · left
          omega), fun y hy => (h3 y hy).2⟩
      refine p_X5_byteAt uT.1 (by omega) ⟨fun y => ⟨fun w => absurd rfl w, fun _ => yes ?_⟩, fun y => ⟨fun w => ⟨fun g => absurd rfl g, fun _ => yes ?_⟩, fun w => ⟨fun _ => K0 ?_, fun g => absurd g one0⟩⟩⟩
      · rw [ti_lt, d97] at y
        intro g
        have := isLt_iff.mp g
        omega
      · rw [ti_lt, d122] at w
        intro g
        have := isLt_iff.mp g
        omega
      · rw [ti_lt, d97] at y
        rw [ti_lt, d122] at w
        have g := bat_lt (B := B) (e := e) (i := i + x) (isLt_iff.mpr ⟨by omega, by omega⟩)
        intro q
        have r := rn_end (P := isLt) (B := B) (e := e) (i := i) (by omega)
        rw [q.1, ← g.2] at r
        exact r (isLt_iff.mpr ⟨by omega, by omega⟩)
  have key : ∀ m x : Nat, x + m = L → (∀ y, y < x → bat B e (i + y) = (sByt.getD v []).getD y 0) → m_X5_isWord_l7 v K (m + 1) (nI x) u := by
    intro m
    induction m with
    | zero =>
      intro x hx h1
      have ex := nI_toInt (n := x) (by omega)
      unfold m_X5_isWord_l7
      rw [hL]
      refine ⟨fun _ => j39 x (by omega) h1 (fun y => by omega), fun y => ?_⟩
      rw [ti_le, eL, ex] at y
      omega
    | succ m ih =>
      intro x hx h1
      have ex := nI_toInt (n := x) (by omega)
      have e1 : nI i + nI x = nI (i + x) := by
        rw [ti_eq, ti_add (by rw [ei, ex]; omega) (by rw [ei, ex]; omega), ei, ex, nI_toInt (by omega)]
        omega
      unfold m_X5_isWord_l7
      rw [hL, uT.1.2.1, e1]
      refine ⟨fun y => ?_, fun _ => p_X5_byteAt uT.1 (by omega) ⟨nI_in (by omega) (by omega), fun y => ?_, fun y => ?_⟩⟩
      · rw [ti_le, eL, ex] at y
        omega
      · rw [nI_clamp (by omega)] at y
        exact j39 x (by omega) h1 (fun _ => y)
      · rw [nI_clamp (by omega)] at y
        rw [← nI_succ]
        refine ih (x + 1) (by omega) fun y' hy' => ?_
        by_cases g : y' = x
        · rw [g]
          exact y
        · exact h1 y' (by omega)
  exact ⟨L + 1, key L 0 (by omega) fun y hy => absurd hy (Nat.not_lt_zero _)⟩
theorem p_takes {v : Nat} {K : Int32 → Sg → Prop} (h : RT t B e a) (hv : v < 37) (hv2 : 20 ≤ v) (k1 : wd B e v (rn isBl B e a) → ∀ u, RT u B e (rn isBl B e a + sLen.getD v 0) → rfO u t → K 1 u) (k0 : ¬ wd B e v (rn isBl B e a) → ∀ u, RT u B e (rn isBl B e a) → rfO u t → K 0 u) : m_X5_takes v t K := by
  have hl := sLen_b v hv
  refine p_fine1 h.2.1 ⟨fun z => absurd z one0, fun _ => p_X5_isWord h hv hv2 (fun z u uT uf => ⟨fun _ x hx => ?_, fun y => absurd y one0⟩) fun z u uT uf => ⟨fun y => absurd rfl y, fun _ => k0 z u uT uf⟩⟩
  have hi := uT.1.2.2.1
  have he := uT.1.2.2.2.1
  have hle : rn isBl B e a + sLen.getD v 0 ≤ e := by
    rw [← z.1]
    exact rn_le hi
  have xf : rfO x u := ⟨fun c hc => by rw [hx, st2_row hc], fun j hj => by rw [hx, st2_j hj]⟩
  have ei := nI_toInt (n := rn isBl B e a) (by omega)
  have eL := ti_cn (n := sLen.getD v 0) (by omega)
  refine k1 z x (uT.mv xf ?_ hle) (xf.trans uf)
  rw [hx, st2_same, uT.1.2.1, ti_eq, ti_add (by rw [ei, eL]; omega) (by rw [ei, eL]; omega), ei, eL, nI_toInt (by omega)]
  omega
theorem p_takesD {v : Nat} {f : Int32} {pl : Nat} {K : Int32 → Sg → Prop} (h : FT t B e f pl) (k : K 0 t) : m_X5_takes v t K := p_fine0 h.no ⟨fun _ => k, fun z => absurd rfl z⟩
/-- the reference's number, and what the digits say -/
def nr (x : Int32) (v : Nat) : Prop := (v ≤ 999 ∧ x.toInt = v) ∨ (v = 1000 ∧ 1000 ≤ x.toInt ∧ x.toInt ≤ 100000)
theorem p_number {lo hi : Int32} {K : Int32 → Sg → Prop} (h : RT t B e a) (hhi : hi.toInt ≤ 999)
    (k1 : rn isBl B e a < rn isDg B e (rn isBl B e a) → lo.toInt ≤ nv B (rn isBl B e a) (rn isDg B e (rn isBl B e a)) → (nv B (rn isBl B e a) (rn isDg B e (rn isBl B e a)) : Int) ≤ hi.toInt → ∀ u, RT u B e (rn isDg B e (rn isBl B e a)) → rfO u t → K (nI (nv B (rn isBl B e a) (rn isDg B e (rn isBl B e a)))) u)
    (k2 : rn isDg B e (rn isBl B e a) = rn isBl B e a → ∀ u, FT u B e 1 (rn isBl B e a) → rfF u t → K 0 u)
    (k3 : rn isBl B e a < rn isDg B e (rn isBl B e a) → ¬ (lo.toInt ≤ nv B (rn isBl B e a) (rn isDg B e (rn isBl B e a)) ∧ (nv B (rn isBl B e a) (rn isDg B e (rn isBl B e a)) : Int) ≤ hi.toInt) → ∀ (x : Int32) u, FT u B e 2 (rn isBl B e a) → rfF u t → K x u) : m_X5_number lo hi t K := by
  refine p_fine1 h.2.1 ⟨fun _ => p_hereT h fun w wT wf => ?_, fun z => absurd z one0⟩
  generalize hI : rn isBl B e a = i at k1 k2 k3 wT
  generalize hJ : rn isDg B e i = j at k1 k2 k3
  have hi' := wT.1.2.2.1
  have he := wT.1.2.2.2.1
  have hje : j ≤ e := by rw [← hJ]; exact rn_le hi'
  have hij : i ≤ j := by rw [← hJ]; exact rn_ge
  have d48 : (48 : Int32).toInt = 48 := by decide
  have d57 : (57 : Int32).toInt = 57 := by decide
  have isd : ∀ (b : Int32) (s : Sg) (Q : Int32 → Sg → Prop), (isDg b = true → Q 1 s) → (¬ isDg b = true → Q 0 s) → m_X5_isDigit b s Q := by
    intro b s Q q1 q0
    refine ⟨fun z => q0 fun y => ?_, fun z => ⟨fun y => q0 fun w => ?_, fun y => q1 (isDg_iff.mpr ?_)⟩⟩
    · rw [ti_lt, d48] at z
      have := isDg_iff.mp y
      omega
    · rw [ti_lt, d57] at y
      have := isDg_iff.mp w
      omega
    · rw [ti_lt, d48] at z
      rw [ti_lt, d57] at y
      omega
  have batd : ∀ x, x < j → i ≤ x → bat B e x = B x ∧ isDg (B x) = true := fun x hx hix => by
    have dg := rn_in (P := isDg) (B := B) (e := e) (i := i) (j := x) hix (by omega)
    unfold bat
    rw [if_pos dg.2]
    exact ⟨rfl, dg.1⟩
  have batn : ¬ isDg (bat B e j) = true := by
    unfold bat
    by_cases z : j < e
    · rw [if_pos z]
      have := rn_end (P := isDg) (B := B) (e := e) (i := i) (by omega)
      rw [hJ] at this
      exact this
    · rw [if_neg z]
      decide
  have d10 : (10 : Int32).toInt = 10 := by decide
  have d5 : (100000 : Int32).toInt = 100000 := by decide
  have key : ∀ m x : Nat, x + m = j → i ≤ x → ∀ (y : Int32) (q : Nat) (u : Sg), nr y q → nvf B (j - x) x q = nv B i j → RT u B e x → rfO u t → i < j → m_X5_number_l38 lo hi K (m + 1) (nI i) y u := by
    intro m
    induction m with
    | zero =>
      intro x hx hix y q u hy hq uT uf hne
      have hxj : x = j := by omega
      subst hxj
      rw [show x - x = 0 by omega] at hq
      have hq' : q = nv B i x := hq
      subst hq'
      unfold m_X5_number_l38
      rw [uT.1.2.1]
      refine p_X5_byteAt uT.1 (by omega) (isd _ _ _ (fun z => absurd z batn) fun _ => ⟨fun _ => p_X5_in ?_, fun z => absurd rfl z⟩)
      by_cases g : lo.toInt ≤ nv B i x ∧ (nv B i x : Int) ≤ hi.toInt
      · have ey : y = nI (nv B i x) := by
          rcases hy with ⟨y1, y2⟩ | ⟨y1, y2⟩
          · exact of_ti (by omega) y2
          · omega
        rw [ey, nI_toInt (by omega), if_pos g]
        exact ⟨fun _ => k1 hne g.1 g.2 u uT uf, fun z => absurd z one0⟩
      · rw [if_neg (fun z => g ?_)]
        · exact ⟨fun z => absurd rfl z, fun _ => p_wrong uT (by decide) fun b bF bf => k3 hne g y b bF (bf.trans uf.F)⟩
        · rcases hy with ⟨y1, y2⟩ | ⟨y1, y2⟩
          · omega
          · omega
    | succ m ih =>
      intro x hx hix y q u hy hq uT uf hne
      have ex := nI_toInt (n := x) (by omega)
      obtain ⟨eb, dg⟩ := batd x (by omega) hix
      have dgi := isDg_iff.mp dg
      unfold m_X5_number_l38
      rw [uT.1.2.1]
      refine p_X5_byteAt uT.1 (by omega) (isd _ _ _ (fun _ => ⟨fun z => absurd z one0, fun _ => ?_⟩) fun z => absurd (by rw [eb]; exact dg) z)
      rw [uT.1.2.1]
      refine p_X5_byteAt uT.1 (by omega) (p_X5_less fun b hb => ?_)
      rw [eb]
      rw [uT.1.2.1, ← nI_succ] at hb
      have yb : 0 ≤ y.toInt ∧ y.toInt ≤ 100000 := by
        rcases hy with ⟨y1, y2⟩ | ⟨y1, y2⟩ <;> omega
      have e1 : (10 * y).toInt = 10 * y.toInt := by rw [ti_mul (by rw [d10]; omega) (by rw [d10]; omega), d10]
      have e2 : (10 * y + B x).toInt = 10 * y.toInt + (B x).toInt := by rw [ti_add (by rw [e1]; omega) (by rw [e1]; omega), e1]
      have e3 : (10 * y + B x - 48).toInt = 10 * y.toInt + ((B x).toInt - 48) := by
        rw [ti_sub (by rw [e2, d48]; omega) (by rw [e2, d48]; omega), e2, d48]
        omega
      have bf : rfO b u := ⟨fun c hc => by rw [hb, st2_row hc], fun j hj => by rw [hb, st2_j hj]⟩
      rw [show j - x = (j - (x + 1)) + 1 by omega] at hq
      unfold nvf at hq
      refine ih (x + 1) (by omega) (by omega) _ _ b ?_ hq (uT.mv bf (by rw [hb, st2_same]) (by omega)) (bf.trans uf) hne
      rw [e3, d5]
      rcases hy with ⟨y1, y2⟩ | ⟨y1, y2⟩
      · by_cases g : 1000 < 10 * q + ((B x).toInt.toNat - 48)
        · rw [if_pos g, if_pos (by omega)]
          exact Or.inr ⟨rfl, by rw [e3]; omega, by rw [e3]; omega⟩
        · rw [if_neg g, if_pos (by omega)]
          by_cases g2 : 10 * q + ((B x).toInt.toNat - 48) = 1000
          · exact Or.inr ⟨g2, by rw [e3]; omega, by rw [e3]; omega⟩
          · exact Or.inl ⟨by omega, by rw [e3]; omega⟩
      · rw [show (if 1000 < 10 * q + ((B x).toInt.toNat - 48) then 1000 else 10 * q + ((B x).toInt.toNat - 48)) = 1000 from if_pos (by omega)]
        right
        refine ⟨rfl, ?_⟩
        by_cases g : 10 * y.toInt + ((B x).toInt - 48) ≤ 100000
        · rw [if_pos g, e3]
          omega
        · rw [if_neg g, d5]
          omega
  refine isd _ _ _ (fun z => ⟨fun _ l hl => ?_, fun y => absurd y one0⟩) fun z => ⟨fun y => absurd rfl y, fun _ => ?_⟩
  · rw [wT.1.2.1] at hl
    rw [hl]
    have hne : i < j := by
      by_cases y : i = j
      · rw [← y] at batn
        exact absurd z batn
      · omega
    exact ⟨j - i + 1, key (j - i) i (by omega) (Nat.le_refl _) 0 0 w (Or.inl ⟨by omega, d0⟩) rfl wT wf hne⟩
  · rw [wT.1.2.1]
    have hne : j = i := by
      by_cases y : i < j
      · obtain ⟨b1, b2⟩ := batd i y (Nat.le_refl _)
        rw [b1] at z
        exact absurd b2 z
      · omega
    exact p_wrong wT (by decide) fun b bF bf => k2 hne b bF (bf.trans wf.F)
theorem p_numberD {lo hi f : Int32} {pl : Nat} {K : Int32 → Sg → Prop} (h : FT t B e f pl) (k : K 0 t) : m_X5_number lo hi t K := p_fine0 h.no ⟨fun z => absurd rfl z, fun _ => k⟩
theorem p_must {K : Sg → Prop} (h : RT t B e a) (k1 : bat B e (rn isBl B e a) = 59 → ∀ u, RT u B e (rn isBl B e a + 1) → rfO u t → K u) (k0 : ¬ bat B e (rn isBl B e a) = 59 → ∀ u, FT u B e 1 (rn isBl B e a) → rfF u t → K u) : m_X5_must 59 t K := by
  refine p_fine1 h.2.1 ⟨fun _ => p_hereT h fun w wT wf => ⟨fun z => ?_, fun z x hx => ?_⟩, fun z => absurd z one0⟩
  · rw [wT.1.2.1]
    exact p_wrong wT (by decide) fun b bF bf => k0 z b bF (bf.trans wf.F)
  · rw [wT.1.2.1, ← nI_succ] at hx
    have hlt : rn isBl B e a < e := by
      unfold bat at z
      by_cases y : rn isBl B e a < e
      · exact y
      · rw [if_neg y] at z
        exact absurd z (by decide)
    have xf : rfO x w := ⟨fun c hc => by rw [hx, st2_row hc], fun j hj => by rw [hx, st2_j hj]⟩
    exact k1 z x (wT.mv xf (by rw [hx, st2_same]) (by omega)) (xf.trans wf)
theorem p_mustD {f : Int32} {pl : Nat} {K : Sg → Prop} (h : FT t B e f pl) (k : K t) : m_X5_must 59 t K := p_fine0 h.no ⟨fun z => absurd rfl z, fun _ => k⟩
end
