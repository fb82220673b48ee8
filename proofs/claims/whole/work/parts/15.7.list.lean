/-! a text: directions told in a row -/
def rD (ρ : Nat → Int32) (to n : Nat) (D : Nat → Int32) : Nat → Int32 := fun j => if to ≤ j ∧ j < to + n then D (j - to) else ρ j
def clR (u s : Sg) (r : Nat) : Prop := (∀ c, c ≠ 18 → c ≠ r → u c = s c) ∧ ∀ j, j ≠ 3 → j ≠ 4 → j ≠ 5 → j ≠ 8 → u 18 j = s 18 j
def rfL (y x : Sg) : Prop := (∀ c, c ≠ 347 → c ≠ 351 → y c = x c) ∧ ∀ j, j ≠ 4 → y 347 j = x 347 j
def rfLB (y x : Sg) : Prop := (∀ c, c ≠ 347 → c ≠ 351 → y c = x c) ∧ (∀ j, j ≠ 4 → j ≠ 6 → j ≠ 7 → y 347 j = x 347 j) ∧ ∀ j, 1098 ≤ j → y 351 j = x 351 j
section
variable {κ : Type} {S : κ → Prop} {F : Sg → Prop} {Kc : Int32 → Sg → Prop} {s : Sg} {B : Nat → Int32} {e a a2 : Nat}
theorem dir_or (i : Nat) : ∀ n, n ≤ 9 → (∃ d, d < n ∧ wd B e (wdC d) i ∧ ∀ x, x < d → ¬ wd B e (wdC x) i) ∨ ∀ x, x < n → ¬ wd B e (wdC x) i
  | 0, _ => Or.inr fun x hx => absurd hx (Nat.not_lt_zero _)
  | n + 1, hn => by
    rcases dir_or i n (by omega) with ⟨d, h1, h2, h3⟩ | h
    · exact Or.inl ⟨d, by omega, h2, h3⟩
    · by_cases z : wd B e (wdC n) i
      · exact Or.inl ⟨n, by omega, z, h⟩
      · refine Or.inr fun x hx => ?_
        by_cases y : x = n
        · rw [y]
          exact z
        · exact h x (by omega)
theorem p_directionA {t : Sg} {K : Int32 → Sg → Prop} (h : RT t B e a) (k1 : ∀ r u b, RT u B e b → rfO u t → K r u) (k0 : ∀ u, FT u B e 1 (rn isBl B e a) → rfF u t → K 0 u) : m_X5_direction t K := by
  rcases dir_or (B := B) (e := e) (rn isBl B e a) 9 (Nat.le_refl _) with ⟨d, h1, h2, h3⟩ | h1
  · exact p_direction h h1 h2 h3 fun u uT uf => k1 _ u _ uT uf
  · exact p_directionN h h1 k0
theorem p_isSmall {b : Int32} {t : Sg} {K : Int32 → Sg → Prop} (k1 : isLt b = true → K 1 t) (k0 : ¬ isLt b = true → K 0 t) : m_X5_isSmall b t K := by
  refine ⟨fun z => k0 fun y => ?_, fun z => ⟨fun y => k0 fun w => ?_, fun y => k1 (isLt_iff.mpr ?_)⟩⟩
  · rw [ti_lt, d97] at z
    have := isLt_iff.mp y
    omega
  · rw [ti_lt, d122] at y
    have := isLt_iff.mp w
    omega
  · rw [ti_lt, d97] at z
    rw [ti_lt, d122] at y
    omega
theorem b_dirs {Kr : κ → Sg → Prop} {r to most c : Nat} {lI toI mI cI : Int32} {least : Nat} (hC : CT s B e a) (ha : rn isBl B e a2 = rn isBl B e a) (hF : ∀ x, F x → RT x B e a2) (hr : r = 15 ∨ r = 16) (hln : ln r = most) (hm : 1 ≤ most ∧ most ≤ 24) (hto : to + most ≤ 1098) (eto : toI = nI to) (em : mI = nI most) (el : lI = nI least) (hl : least ≤ 1) (ec : cI = nI c) (hc : c < 12 ∧ c < to)
    (H : ∀ KR, (∀ x, F x → m_X5_directions toI lI mI x (fun n y => (vp_in cI 1098 ∧ ∀ z, z = st2 y 351 cI.toNatClampNeg n → m_X5_must 59 z (fun s => Kr KR s)))) → S KR)
    (ok : ∀ (u : Sg) (b n : Nat) (D : Nat → Int32), a < b → n ≤ most → (∀ x, x < n → isD (D x)) → CT u B e b → (∀ x, x < n → u r x = D x) → u 18 8 = nI n → clR u s r → (∀ KR, (∀ y x, F x → RT y B e b → rfL y x → (∀ j, y 351 j = if j = c then nI n else rD (x 351) to n D j) → Kr KR y) → S KR) → Kc 1 u)
    (bad : ∀ (u : Sg) (f : Int32) (pl : Nat), ¬ f = 0 → u 18 9 = f → u 18 10 = nI pl → (∀ c, c ≠ 18 → c ≠ r → u c = s c) → (∀ KR, (∀ y x, F x → FT y B e f pl → rfLB y x → Kr KR y) → S KR) → Kc 0 u) : m_X2_readDirections r lI s Kc := by
  have vc : vp_in cI 1098 := by
    rw [ec]
    exact nI_in (by omega) (by decide)
  have ecc : cI.toNatClampNeg = c := by
    rw [ec]
    exact nI_clamp (by omega)
  -- the reference leaves the loop, alive
  have out : ∀ (KR : κ) (y x : Sg) (b n : Nat) (D : Nat → Int32), F x → RT y B e b → rfL y x → y 351 = rD (x 351) to n D → n ≤ most → (bat B e (rn isBl B e b) = 59 → ∀ z, RT z B e (rn isBl B e b + 1) → rfL z x → (∀ j, z 351 j = if j = c then nI n else rD (x 351) to n D j) → Kr KR z) → (¬ bat B e (rn isBl B e b) = 59 → ∀ z, FT z B e 1 (rn isBl B e b) → rfLB z x → Kr KR z) → (vp_in cI 1098 ∧ ∀ z, z = st2 y 351 cI.toNatClampNeg (nI n) → m_X5_must 59 z (fun s => Kr KR s)) := by
    intro KR y x b n D hx yT yf y351 hn k1 k0
    refine ⟨vc, fun z hz => ?_⟩
    rw [ecc] at hz
    have zT : RT z B e b := yT.row fun c hc => by rw [hz, st2_row hc]
    have zc : ∀ i, i ≠ 347 → i ≠ 351 → z i = x i := fun i i1 i2 => by rw [hz, st2_row i2]; exact yf.1 i i1 i2
    have zj : ∀ j, j ≠ 4 → z 347 j = x 347 j := fun j hj => by rw [hz, st2_row (by decide)]; exact yf.2 j hj
    have z351 : ∀ j, z 351 j = if j = c then nI n else rD (x 351) to n D j := fun j => by
      by_cases g : j = c
      · rw [if_pos g, hz, g, st2_same]
      · rw [if_neg g, hz, st2_j g, y351]
    refine p_must zT (fun q v vT vf => k1 q v vT ⟨fun i i1 i2 => by rw [vf.1 i i1]; exact zc i i1 i2, fun j hj => by rw [vf.2 j hj]; exact zj j hj⟩ fun j => by rw [vf.1 351 (by decide)]; exact z351 j) fun q v vF vf => k0 q v vF ⟨fun i i1 i2 => by rw [vf.1 i i1]; exact zc i i1 i2, fun j j1 j2 j3 => by rw [vf.2 j j1 j2 j3]; exact zj j j1, fun j hj => ?_⟩
    rw [vf.1 351 (by decide), z351, if_neg (by omega)]
    unfold rD
    rw [if_neg (by omega)]
  -- the reference leaves the loop, a fault standing
  have outD : ∀ (KR : κ) (y x : Sg) (f : Int32) (pl b n : Nat) (D : Nat → Int32) (v : Int32), F x → FT y B e f pl → rfLB y x → (∀ z, FT z B e f pl → rfLB z x → Kr KR z) → (vp_in cI 1098 ∧ ∀ z, z = st2 y 351 cI.toNatClampNeg v → m_X5_must 59 z (fun s => Kr KR s)) := by
    intro KR y x f pl b n D v hx yF yf k0
    refine ⟨vc, fun z hz => ?_⟩
    rw [ecc] at hz
    have zF : FT z B e f pl := yF.row fun c hc => by rw [hz, st2_row hc]
    exact p_mustD zF (k0 z zF ⟨fun i i1 i2 => by rw [hz, st2_row i2]; exact yf.1 i i1 i2, fun j j1 j2 j3 => by rw [hz, st2_row (by decide)]; exact yf.2.1 j j1 j2 j3, fun j hj => by rw [hz, st2_j (by omega)]; exact yf.2.2 j hj⟩)
  have rbig : ∀ (y x : Sg) (n : Nat) (D : Nat → Int32), n ≤ most → y 351 = rD (x 351) to n D → ∀ j, 1098 ≤ j → y 351 j = x 351 j := fun y x n D hn h j hj => by
    rw [h]
    unfold rD
    rw [if_neg (by omega)]
  have n59 : ¬ isLt (59 : Int32) = true := by decide
  have key : ∀ m i : Nat, i + m = most → ∀ (u : Sg) (b : Nat) (D : Nat → Int32), a ≤ b → (i = 0 → a = b) → (0 < i → a < b) → CT u B e b → (∀ x, x < i → u r x = D x) → (∀ x, x < i → isD (D x)) → clR u s r → (∀ KR, (∀ y x bb, F x → RT y B e bb → rn isBl B e bb = rn isBl B e b → rfL y x → y 351 = rD (x 351) to i D → m_X5_directions_l3 toI lI mI (fun n y => (vp_in cI 1098 ∧ ∀ z, z = st2 y 351 cI.toNatClampNeg n → m_X5_must 59 z (fun s => Kr KR s))) (m + 1) (nI i) y) → S KR) → m_X2_readDirections_l2 r lI Kc (m + 1) (nI i) u := by
    intro m
    induction m with
    | zero =>
      intro i hi u b D hab hab0 hab1 uC uD dD uf HK
      have ei := nI_toInt (n := i) (by omega)
      have him : i = most := by omega
      have hnl : ¬ nI i < lI := by
        rw [el, ti_lt, ei, nI_toInt (by omega)]
        omega
      refine ⟨fun _ v hv => ?_, fun z => ?_⟩
      · have vC : CT v B e b := uC.mv (fun c hc => by rw [hv, st2_row hc]) (by rw [hv, st2_j (by decide)]) (by rw [hv, st2_j (by decide)]; exact uC.2.1) uC.2.2.1
        have v8 : v 18 8 = nI most := by
          rw [hv, st2_same, hln]
          rfl
        refine p_isEnd vC (fun z g gC g1 g2 => ⟨fun _ => ok g _ most D (by have : b ≤ rn isBl B e b := rn_ge; omega) (Nat.le_refl _) (fun x hx => dD x (by omega)) gC (fun x hx => ?_) ?_ ⟨fun c c1 c2 => ?_, fun j j1 j2 j3 j4 => ?_⟩ fun KR hK => HK KR fun y x bb hx yT yb yf y351 => ?_, fun y => absurd y one0⟩) fun z g gC g1 g2 => ⟨fun y => absurd rfl y, fun _ => ?_⟩
        · rw [g1 r (by omega), hv, st2_row (by omega)]
          exact uD x (by omega)
        · rw [g2 8 (by decide)]
          exact v8
        · rw [g1 c c1, hv, st2_row c1]
          exact uf.1 c c1 c2
        · rw [g2 j j1, hv, st2_j j4]
          exact uf.2 j j1 j2 j3 j4
        · refine p_fine1 yT.2.1 ⟨fun w => absurd w one0, fun _ => ⟨fun w => absurd w hnl, fun _ => p_hereT yT fun q qT qf => p_isSmall (fun w => ?_) fun _ => ⟨fun _ => ?_, fun w => absurd rfl w⟩⟩⟩
          · rw [yb, z] at w
            exact absurd w n59
          · have qb : rn isBl B e (rn isBl B e bb) = rn isBl B e b := by rw [rn_idem, yb]
            refine out KR q x _ i D hx qT ⟨fun c c1 c2 => by rw [qf.1 c c1]; exact yf.1 c c1 c2, fun j hj => by rw [qf.2 j hj]; exact yf.2 j hj⟩ (by rw [qf.1 351 (by decide)]; exact y351) (by omega) (fun _ t tT tf t351 => hK t x hx (by rw [qb] at tT; exact tT) tf (by rw [← him]; exact t351)) fun w => ?_
            rw [qb] at w
            exact absurd z w
        · rw [gC.2.1]
          refine p_fail fun t t9 t10 tf _ => ⟨fun _ => bad t 1 _ (by decide) t9 t10 (fun c c1 c2 => by rw [tf c c1, g1 c c1, hv, st2_row c1]; exact uf.1 c c1 c2) fun KR hK => HK KR fun y x bb hx yT yb yf y351 => ?_, fun w => absurd rfl w⟩
          refine p_fine1 yT.2.1 ⟨fun w => absurd w one0, fun _ => ⟨fun w => absurd w hnl, fun _ => p_hereT yT fun q qT qf => ?_⟩⟩
          have qb : rn isBl B e (rn isBl B e bb) = rn isBl B e b := by rw [rn_idem, yb]
          have qx : rfL q x := ⟨fun c c1 c2 => by rw [qf.1 c c1]; exact yf.1 c c1 c2, fun j hj => by rw [qf.2 j hj]; exact yf.2 j hj⟩
          have q351 : q 351 = rD (x 351) to i D := by rw [qf.1 351 (by decide)]; exact y351
          refine p_isSmall (fun w => ⟨fun w => absurd w one0, fun _ => p_hereT qT fun h hT hf l hl => ?_⟩) fun w => ⟨fun _ => ?_, fun w => absurd rfl w⟩
          · rw [hT.1.2.1, rn_idem, yb] at hl
            have hx' : rfL h x := ⟨fun c c1 c2 => by rw [hf.1 c c1]; exact qx.1 c c1 c2, fun j hj => by rw [hf.2 j hj]; exact qx.2 j hj⟩
            have h351 : h 351 = rD (x 351) to i D := by rw [hf.1 351 (by decide)]; exact q351
            have fin : ∀ (v : Int32) (o : Sg), FT o B e 1 (rn isBl B e b) → rfF o h → m_X5_directions_j56 toI lI mI (fun n y => (vp_in cI 1098 ∧ ∀ z, z = st2 y 351 cI.toNatClampNeg n → m_X5_must 59 z (fun s => Kr KR s))) (fun l4 σ => m_X5_directions_l3 toI lI mI (fun n y => (vp_in cI 1098 ∧ ∀ z, z = st2 y 351 cI.toNatClampNeg n → m_X5_must 59 z (fun s => Kr KR s))) 0 l4 σ) (nI i) v o := by
              intro v o oF of
              refine p_fine0 oF.no ⟨fun w => absurd rfl w, fun _ => outD KR o x 1 _ b i D _ hx oF ⟨fun c c1 c2 => by rw [of.1 c c1]; exact hx'.1 c c1 c2, fun j j1 j2 j3 => by rw [of.2 j j1 j2 j3]; exact hx'.2 j j1, fun j hj => by rw [of.1 351 (by decide)]; exact rbig h x i D (by omega) h351 j hj⟩ fun z zF zf => hK z x hx zF zf⟩
            refine p_directionA hT (fun v o bo oT of => ⟨fun w => absurd (by rw [em, him]) w, fun _ => ?_⟩) fun o oF of => ⟨fun w => absurd (by rw [em, him]) w, fun _ => ?_⟩
            · rw [hl]
              exact p_wrong oT (by decide) fun o2 o2F o2f => fin v o2 o2F (o2f.trans of.F)
            · have eb : rn isBl B e (rn isBl B e (rn isBl B e bb)) = rn isBl B e b := by rw [rn_idem, rn_idem, yb]
              rw [eb] at oF
              exact p_wrongD oF (fin 0 o oF of)
          · refine out KR q x _ i D hx qT qx q351 (by omega) (fun w => ?_) fun _ t tF tf => hK t x hx (by rw [qb] at tF; exact tF) tf
            rw [qb] at w
            exact absurd w z
      · rw [ti_le, hln, ei, ti_cn (by omega)] at z
        omega
    | succ m ih =>
      intro i hi u b D hab hab0 hab1 uC uD dD uf HK
      have ei := nI_toInt (n := i) (by omega)
      have enl : lI.toInt = least := by rw [el, nI_toInt (by omega)]
      have nem : ¬ nI i = mI := by
        intro h
        have := congrArg Int32.toInt h
        rw [em, ei, nI_toInt (by omega)] at this
        omega
      -- a direction is read
      have word : ∀ (v : Sg) (b' : Nat), CT v B e b' → rn isBl B e b' = rn isBl B e b → b ≤ b' → (∀ c, c ≠ 18 → v c = u c) → (∀ j, j ≠ 3 → j ≠ 4 → j ≠ 5 → j ≠ 8 → v 18 j = u 18 j) → (∀ KR, (∀ y x bb, F x → RT y B e bb → rn isBl B e bb = rn isBl B e b → rfL y x → y 351 = rD (x 351) to i D → m_X5_directions_j26 toI lI mI (fun n y => (vp_in cI 1098 ∧ ∀ z, z = st2 y 351 cI.toNatClampNeg n → m_X5_must 59 z (fun s => Kr KR s))) (fun l4 σ => m_X5_directions_l3 toI lI mI (fun n y => (vp_in cI 1098 ∧ ∀ z, z = st2 y 351 cI.toNatClampNeg n → m_X5_must 59 z (fun s => Kr KR s))) (m + 1) l4 σ) (nI i) y) → S KR) → m_X2_readDirections_j27 r lI Kc (fun l3 σ => m_X2_readDirections_l2 r lI Kc (m + 1) l3 σ) (nI i) v := by
        intro v b' vC vb hbb v1 v2 HK2
        refine b_dir (a2 := rn isBl B e b) (F := fun y => ∃ x, F x ∧ RT y B e (rn isBl B e b) ∧ rfL y x ∧ y 351 = rD (x 351) to i D) (Kr := fun KR r38 s38 => ((¬ nI i = mI → m_X5_directions_j56 toI lI mI (fun n y => (vp_in cI 1098 ∧ ∀ z, z = st2 y 351 cI.toNatClampNeg n → m_X5_must 59 z (fun s => Kr KR s))) (fun l4 σ => m_X5_directions_l3 toI lI mI (fun n y => (vp_in cI 1098 ∧ ∀ z, z = st2 y 351 cI.toNatClampNeg n → m_X5_must 59 z (fun s => Kr KR s))) (m + 1) l4 σ) (nI i) r38 s38) ∧ (nI i = mI → m_X5_wrong 1 (nI (rn isBl B e b)) s38 (fun s53 => m_X5_directions_j56 toI lI mI (fun n y => (vp_in cI 1098 ∧ ∀ z, z = st2 y 351 cI.toNatClampNeg n → m_X5_must 59 z (fun s => Kr KR s))) (fun l4 σ => m_X5_directions_l3 toI lI mI (fun n y => (vp_in cI 1098 ∧ ∀ z, z = st2 y 351 cI.toNatClampNeg n → m_X5_must 59 z (fun s => Kr KR s))) (m + 1) l4 σ) (nI i) r38 s53)))) vC (by rw [rn_idem, vb]) (fun y ⟨x, hx, yT, _⟩ => yT) (fun KR h => HK2 KR fun y x bb hx yT yb yf y351 => p_hereT yT fun q qT qf l hl => ?_) ?_ ?_
        · rw [yb] at qT
          rw [qT.1.2.1] at hl
          rw [hl]
          exact h q ⟨x, hx, qT, ⟨fun c c1 c2 => by rw [qf.1 c c1]; exact yf.1 c c1 c2, fun j hj => by rw [qf.2 j hj]; exact yf.2 j hj⟩, by rw [qf.1 351 (by decide)]; exact y351⟩
        · intro g b2 d hb2 hd9 _ gC g5 gf HK3
          refine ⟨fun _ => ⟨by rw [hln]; exact nI_in (by omega) (by omega), fun t ht => ?_⟩, fun w => absurd w one0⟩
          rw [nI_clamp (by omega), g5] at ht
          rw [← nI_succ]
          have gr : g r = v r := gf.1 r (by omega)
          have vr : v r = u r := v1 r (by omega)
          refine ih (i + 1) (by omega) t b2 (fun x => if x = i then nI d else D x) (by omega) (fun h => absurd h (by omega)) (fun _ => by omega) (gC.other fun c hc _ => by rw [ht, st2_row (by omega)]) (fun x hx => ?_) (fun x hx => ?_) ⟨fun c c1 c2 => ?_, fun j j1 j2 j3 j4 => ?_⟩ fun KR hK => HK3 KR fun y x ⟨x0, hx0, xT, xf, x351⟩ yT yf => ⟨fun _ => p_fine1 yT.2.1 ⟨fun _ => ⟨?_, fun q hq => ?_⟩, fun w => absurd w one0⟩, fun w => absurd w nem⟩
          · rw [ht]
            by_cases z : x = i
            · rw [if_pos z, z, st2_same]
            · rw [if_neg z, st2_j z, gr, vr]
              exact uD x (by omega)
          · show isD (if x = i then nI d else D x)
            split
            · exact ⟨by rw [nI_toInt (by omega)]; omega, by rw [nI_toInt (by omega)]; omega⟩
            · exact dD x (by omega)
          · rw [ht, st2_row c2, gf.1 c c1, v1 c c1]
            exact uf.1 c c1 c2
          · rw [ht, st2_row (by omega), gf.2 j j1 j2 j3, v2 j j1 j2 j3 j4]
            exact uf.2 j j1 j2 j3 j4
          · have e1 : (toI + nI i).toInt = to + i := by rw [eto, ti_add (by rw [nI_toInt (by omega), ei]; omega) (by rw [nI_toInt (by omega), ei]; omega), nI_toInt (by omega), ei]
            rw [ti_in, e1]
            omega
          · have e1 : (toI + nI i).toInt = to + i := by rw [eto, ti_add (by rw [nI_toInt (by omega), ei]; omega) (by rw [nI_toInt (by omega), ei]; omega), nI_toInt (by omega), ei]
            rw [ti_c, e1, show ((to : Int) + i).toNat = to + i by omega] at hq
            rw [← nI_succ]
            refine hK q x0 b2 hx0 (yT.row fun c hc => by rw [hq, st2_row hc]) rfl ⟨fun c c1 c2 => by rw [hq, st2_row c2, yf.1 c c1]; exact xf.1 c c1 c2, fun j hj => by rw [hq, st2_row (by decide), yf.2 j hj]; exact xf.2 j hj⟩ (funext fun j => ?_)
            rw [hq]
            unfold rD
            by_cases z : j = to + i
            · rw [z, st2_same, if_pos (by omega)]
              exact (if_pos (show to + i - to = i by omega)).symm
            · rw [st2_j z, yf.1 351 (by decide), x351]
              unfold rD
              by_cases z2 : to ≤ j ∧ j < to + i
              · rw [if_pos z2, if_pos (by omega)]
                exact (if_neg (show ¬ j - to = i by omega)).symm
              · rw [if_neg z2, if_neg (by omega)]
        · intro g g9 g10 gf HK3
          have B1 := bad g 1 _ (by decide) g9 g10 (fun c c1 c2 => by rw [gf c c1, v1 c c1]; exact uf.1 c c1 c2) fun KR hK => HK3 KR fun y x ⟨x0, hx0, xT, xf, x351⟩ yF yf => ⟨fun _ => p_fine0 yF.no ⟨fun w => absurd rfl w, fun _ => outD KR y x0 1 _ b i D _ hx0 yF ⟨fun c c1 c2 => by rw [yf.1 c c1]; exact xf.1 c c1 c2, fun j j1 j2 j3 => by rw [yf.2 j j1 j2 j3]; exact xf.2 j j1, fun j hj => by rw [yf.1 351 (by decide)]; exact rbig x x0 i D (by omega) x351 j hj⟩ fun z zF zf => hK z x0 hx0 zF zf⟩, fun w => absurd w nem⟩
          exact ⟨B1, fun w => absurd rfl w, fun _ => B1⟩
      refine ⟨fun z => ?_, fun _ => ⟨fun z => ?_, fun z => ?_⟩⟩
      · rw [ti_le, hln, ei, ti_cn (by omega)] at z
        omega
      · exact word u b uC rfl (Nat.le_refl _) (fun _ _ => rfl) (fun _ _ _ _ _ => rfl) fun KR hK => HK KR fun y x bb hx yT yb yf y351 => p_fine1 yT.2.1 ⟨fun w => absurd w one0, fun _ => ⟨fun _ => hK y x bb hx yT yb yf y351, fun w => absurd z w⟩⟩
      · -- at the end, or on
        have refAt : ∀ (KR : κ) (y x : Sg) (bb : Nat), F x → RT y B e bb → rn isBl B e bb = rn isBl B e b → rfL y x → y 351 = rD (x 351) to i D → (isLt (bat B e (rn isBl B e b)) = true → ∀ q, RT q B e (rn isBl B e b) → rfL q x → q 351 = rD (x 351) to i D → m_X5_directions_j26 toI lI mI (fun n y => (vp_in cI 1098 ∧ ∀ z, z = st2 y 351 cI.toNatClampNeg n → m_X5_must 59 z (fun s => Kr KR s))) (fun l4 σ => m_X5_directions_l3 toI lI mI (fun n y => (vp_in cI 1098 ∧ ∀ z, z = st2 y 351 cI.toNatClampNeg n → m_X5_must 59 z (fun s => Kr KR s))) (m + 1) l4 σ) (nI i) q) → (¬ isLt (bat B e (rn isBl B e b)) = true → ∀ q, RT q B e (rn isBl B e b) → rfL q x → q 351 = rD (x 351) to i D → (vp_in cI 1098 ∧ ∀ z, z = st2 q 351 cI.toNatClampNeg (nI i) → m_X5_must 59 z (fun s => Kr KR s))) → m_X5_directions_l3 toI lI mI (fun n y => (vp_in cI 1098 ∧ ∀ z, z = st2 y 351 cI.toNatClampNeg n → m_X5_must 59 z (fun s => Kr KR s))) (m + 1 + 1) (nI i) y := by
          intro KR y x bb hx yT yb yf y351 k1 k0
          refine p_fine1 yT.2.1 ⟨fun w => absurd w one0, fun _ => ⟨fun w => absurd w z, fun _ => p_hereT yT fun q qT qf => ?_⟩⟩
          rw [yb] at qT ⊢
          have qx : rfL q x := ⟨fun c c1 c2 => by rw [qf.1 c c1]; exact yf.1 c c1 c2, fun j hj => by rw [qf.2 j hj]; exact yf.2 j hj⟩
          have q351 : q 351 = rD (x 351) to i D := by rw [qf.1 351 (by decide)]; exact y351
          exact p_isSmall (fun w => ⟨fun g => absurd g one0, fun _ => k1 w q qT qx q351⟩) fun w => ⟨fun _ => k0 w q qT qx q351, fun g => absurd rfl g⟩
        refine p_isEnd uC (fun z59 g gC g1 g2 => ⟨fun w => absurd w one0, fun _ t ht => ?_⟩) fun z59 g gC g1 g2 => ⟨fun _ => ?_, fun w => absurd rfl w⟩
        · have tc : ∀ c, c ≠ 18 → t c = u c := fun c hc => by rw [ht, st2_row hc, g1 c hc]
          refine ok t _ i D (by have : b ≤ rn isBl B e b := rn_ge; omega) (by omega) dD (gC.mv (fun c hc => by rw [ht, st2_row hc]) (by rw [ht, st2_j (by decide)]) (by rw [ht, st2_j (by decide)]; exact gC.2.1) gC.2.2.1) (fun x hx => by rw [tc r (by omega)]; exact uD x hx) (by rw [ht, st2_same]) ⟨fun c c1 c2 => by rw [tc c c1]; exact uf.1 c c1 c2, fun j j1 j2 j3 j4 => by rw [ht, st2_j j4, g2 j j1]; exact uf.2 j j1 j2 j3 j4⟩ fun KR hK => HK KR fun y x bb hx yT yb yf y351 => refAt KR y x bb hx yT yb yf y351 (fun w => ?_) fun _ q qT qx q351 => ?_
          · rw [z59] at w
            exact absurd w n59
          · refine out KR q x _ i D hx qT qx q351 (by omega) (fun _ h hT hf h351 => hK h x hx (by rw [rn_idem] at hT; exact hT) hf h351) fun w => ?_
            rw [rn_idem] at w
            exact absurd z59 w
        · have gb : rn isBl B e (rn isBl B e b) = rn isBl B e b := rn_idem
          by_cases hL : isLt (bat B e (rn isBl B e b)) = true
          · exact word g _ gC gb rn_ge g1 (fun j j1 _ _ _ => g2 j j1) fun KR hK => HK KR fun y x bb hx yT yb yf y351 => refAt KR y x bb hx yT yb yf y351 (fun _ q qT qx q351 => hK q x _ hx qT gb qx q351) fun w => absurd hL w
          · refine p_readWord gC (fun w => ?_) fun w t t9 t10 tf => ⟨fun _ => ?_, fun q => absurd rfl q⟩
            · rw [gb] at w
              have := rn_in (P := isLt) (B := B) (e := e) (i := rn isBl B e b) (j := rn isBl B e b) (Nat.le_refl _) w
              exact absurd (by unfold bat; rw [if_pos this.2]; exact this.1) hL
            · rw [gb] at t10
              refine bad t 1 _ (by decide) t9 t10 (fun c c1 c2 => by rw [tf c c1, g1 c c1]; exact uf.1 c c1 c2) fun KR hK => HK KR fun y x bb hx yT yb yf y351 => refAt KR y x bb hx yT yb yf y351 (fun q => absurd q hL) fun _ q qT qx q351 => ?_
              refine out KR q x _ i D hx qT qx q351 (by omega) (fun h => ?_) fun _ h hF hf => hK h x hx (by rw [gb] at hF; exact hF) hf
              rw [gb] at h
              exact absurd h z59
  refine ⟨most + 1, key most 0 (by omega) s a (fun _ => 0) (Nat.le_refl _) (fun _ => rfl) (fun h => absurd h (by omega)) hC (fun x hx => absurd hx (Nat.not_lt_zero _)) (fun x hx => absurd hx (Nat.not_lt_zero _)) ⟨fun _ _ _ => rfl, fun _ _ _ _ _ => rfl⟩ fun KR hK => H KR fun x hx => ⟨most + 1, hK x x a2 hx (hF x hx) ha ⟨fun _ _ _ => rfl, fun _ _ => rfl⟩ (funext fun j => ?_)⟩⟩
  unfold rD
  rw [if_neg (by omega)]
end
