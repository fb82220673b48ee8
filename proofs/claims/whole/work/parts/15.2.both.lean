/-! a text: both at once -/
theorem rn_idem {P : Int32 → Bool} {B : Nat → Int32} {e a : Nat} : rn P B e (rn P B e a) = rn P B e a := by
  by_cases z : rn P B e a < e
  · exact rn_stop (Or.inr (rn_end z))
  · exact rn_stop (Or.inl (by omega))
def clO (u s : Sg) : Prop := (∀ c, c ≠ 18 → u c = s c) ∧ ∀ j, j ≠ 3 → j ≠ 4 → j ≠ 5 → u 18 j = s 18 j
theorem clO.trans {u v s : Sg} (a : clO u v) (b : clO v s) : clO u s := ⟨fun c hc => (a.1 c hc).trans (b.1 c hc), fun j j1 j2 j3 => (a.2 j j1 j2 j3).trans (b.2 j j1 j2 j3)⟩
section
variable {κ : Type} {S : κ → Prop} {F : Sg → Prop} {s : Sg} {B : Nat → Int32} {e a a2 : Nat}
theorem b_num {Kr : κ → Int32 → Sg → Prop} {Kc : Int32 → Sg → Prop} {lo hi : Int32} (lo' hi' : Sg → Int32) (hC : CT s B e a) (ha : rn isBl B e a2 = rn isBl B e a) (hF : ∀ x, F x → RT x B e a2 ∧ lo' x = lo ∧ hi' x = hi) (hhi : hi.toInt ≤ 999) (H : ∀ KR, (∀ x, F x → m_X5_number (lo' x) (hi' x) x (Kr KR)) → S KR)
    (ok : ∀ (u : Sg) (b v : Nat), a < b → lo.toInt ≤ v → (v : Int) ≤ hi.toInt → CT u B e b → u 18 4 = nI (rn isBl B e a) → u 18 5 = nI v → clO u s → (∀ KR, (∀ y x, F x → RT y B e b → rfO y x → Kr KR (nI v) y) → S KR) → Kc 1 u)
    (bad : ∀ (u : Sg) (f : Int32) (pl : Nat), ¬ f = 0 → u 18 9 = f → u 18 10 = nI pl → (∀ c, c ≠ 18 → u c = s c) → (∀ KR, (∀ y x r, F x → FT y B e f pl → rfF y x → Kr KR r y) → S KR) → Kc 0 u) : m_X2_readNumber lo hi s Kc := by
  have hge : a ≤ rn isBl B e a := rn_ge
  refine p_readNumber hC (fun z1 z2 z3 u uC u4 u5 f1 f2 => ok u _ _ (by omega) z2 z3 uC u4 u5 ⟨f1, f2⟩ fun KR hK => H KR fun x hx => ?_) (fun z u u9 u10 f1 => bad u 1 _ (by decide) u9 u10 f1 fun KR hK => H KR fun x hx => ?_) (fun z1 z2 u u9 u10 f1 => bad u 2 _ (by decide) u9 u10 f1 fun KR hK => H KR fun x hx => ?_)
  · obtain ⟨xT, x1, x2⟩ := hF x hx
    rw [x1, x2]
    refine p_number xT hhi (fun _ _ _ y yT yf => ?_) (fun w => ?_) (fun _ w => ?_)
    · rw [ha] at yT ⊢
      exact hK y x hx yT yf
    · rw [ha] at w
      omega
    · rw [ha] at w
      exact absurd ⟨z2, z3⟩ w
  · obtain ⟨xT, x1, x2⟩ := hF x hx
    rw [x1, x2]
    refine p_number xT hhi (fun w => ?_) (fun _ y yF yf => ?_) (fun w => ?_)
    · rw [ha] at w
      omega
    · rw [ha] at yF
      exact hK y x _ hx yF yf
    · rw [ha] at w
      omega
  · obtain ⟨xT, x1, x2⟩ := hF x hx
    rw [x1, x2]
    refine p_number xT hhi (fun w w1 w2 => ?_) (fun w => ?_) (fun _ _ r y yF yf => ?_)
    · rw [ha] at w1 w2
      exact absurd ⟨w1, w2⟩ z2
    · rw [ha] at w
      omega
    · rw [ha] at yF
      exact hK y x _ hx yF yf
theorem b_end {Kr : κ → Sg → Prop} {Kc : Int32 → Sg → Prop} (hC : CT s B e a) (ha : rn isBl B e a2 = rn isBl B e a) (hF : ∀ x, F x → RT x B e a2) (H : ∀ KR, (∀ x, F x → m_X5_must 59 x (Kr KR)) → S KR)
    (ok : ∀ (u : Sg) (b : Nat), a < b → CT u B e b → clO u s → (∀ KR, (∀ y x, F x → RT y B e b → rfO y x → Kr KR y) → S KR) → Kc 1 u)
    (bad : ∀ (u : Sg) (f : Int32) (pl : Nat), ¬ f = 0 → u 18 9 = f → u 18 10 = nI pl → (∀ c, c ≠ 18 → u c = s c) → (∀ KR, (∀ y x, F x → FT y B e f pl → rfF y x → Kr KR y) → S KR) → Kc 0 u) : m_X2_readEnd s Kc := by
  have hge : a ≤ rn isBl B e a := rn_ge
  refine p_readEnd hC (fun z u uC f1 f2 => ok u _ (by omega) uC ⟨f1, fun j j1 _ _ => f2 j j1⟩ fun KR hK => H KR fun x hx => ?_) (fun z u u9 u10 f1 => bad u 1 _ (by decide) u9 u10 f1 fun KR hK => H KR fun x hx => ?_)
  · refine p_must (hF x hx) (fun _ y yT yf => ?_) (fun w => ?_)
    · rw [ha] at yT
      exact hK y x hx yT yf
    · rw [ha] at w
      exact absurd z w
  · refine p_must (hF x hx) (fun w => ?_) (fun _ y yF yf => ?_)
    · rw [ha] at w
      exact absurd w z
    · rw [ha] at yF
      exact hK y x hx yF yf
/-- directions' words -/
def wdC (d : Nat) : Nat := if d = 0 then 12 else 3 + d
theorem wdC_w : ∀ d, d < 9 → wdC d < 37 ∧ sLen.getD (wdC d) 0 = sLen.getD (23 + d) 0 ∧ sByt.getD (wdC d) [] = sByt.getD (23 + d) [] ∧ 0 < sLen.getD (wdC d) 0 := by decide
theorem wd_same {v v' i : Nat} (h1 : sLen.getD v 0 = sLen.getD v' 0) (h2 : sByt.getD v [] = sByt.getD v' []) : wd B e v i ↔ wd B e v' i := by
  unfold wd
  rw [h1, h2]
theorem p_X2_wordOf {d : Nat} {K : Nat → Sg → Prop} (hd : d < 9) (k : K (wdC d) s) : m_X2_wordOf (nI d) s K := by
  have ed := nI_toInt (n := d) (by omega)
  have t : ∀ z : Nat, z < 9 → nI d = nI z → d = z := fun z hz h => by
    have := congrArg Int32.toInt h
    rw [ed, nI_toInt (by omega)] at this
    omega
  have go : ∀ z : Nat, z < 9 → nI d = nI z → K (wdC z) s := fun z hz h => by rw [← t z hz h]; exact k
  refine ⟨fun z => ?_, fun z => go 1 (by decide) z, fun z => go 2 (by decide) z, fun z => go 3 (by decide) z, fun z => go 4 (by decide) z, fun z => go 5 (by decide) z, fun z => go 6 (by decide) z, fun z => go 7 (by decide) z, fun z => go 8 (by decide) z⟩
  rw [ti_lt, ti_lt, ed, d1, show (8 : Int32).toInt = 8 by decide] at z
  have : d = 0 := by omega
  subst this
  exact k
theorem p_X5_wordOf {d : Nat} {K : Nat → Sg → Prop} (hd : d < 9) (k : K (23 + d) s) : m_X5_wordOf (nI d) s K := by
  have ed := nI_toInt (n := d) (by omega)
  have t : ∀ z : Nat, z < 9 → nI d = nI z → d = z := fun z hz h => by
    have := congrArg Int32.toInt h
    rw [ed, nI_toInt (by omega)] at this
    omega
  have go : ∀ z : Nat, z < 9 → nI d = nI z → K (23 + z) s := fun z hz h => by rw [← t z hz h]; exact k
  refine ⟨fun z => ?_, fun z => go 0 (by decide) z, fun z => go 1 (by decide) z, fun z => go 2 (by decide) z, fun z => go 3 (by decide) z, fun z => go 4 (by decide) z, fun z => go 5 (by decide) z, fun z => go 6 (by decide) z, fun z => go 7 (by decide) z⟩
  rw [ti_lt, ti_lt, ed, d0, show (7 : Int32).toInt = 7 by decide] at z
  have : d = 8 := by omega
  subst this
  exact k
/-- the reference's direction: the first word that stands there -/
theorem p_direction {t : Sg} {d : Nat} {K : Int32 → Sg → Prop} (h : RT t B e a) (hd : d < 9) (hw : wd B e (wdC d) (rn isBl B e a)) (hn : ∀ x, x < d → ¬ wd B e (wdC x) (rn isBl B e a)) (k : ∀ u, RT u B e (rn isLt B e (rn isBl B e a)) → rfO u t → K (nI d) u) : m_X5_direction t K := by
  have d9 : (9 : Int32).toInt = 9 := by decide
  have key : ∀ m x : Nat, x + m = d → ∀ u b, RT u B e b → rn isBl B e b = rn isBl B e a → rfO u t → m_X5_direction_l2 K (m + 1) (nI x) u := by
    intro m
    induction m with
    | zero =>
      intro x hx u b uT ub uf
      have : x = d := by omega
      subst this
      have ex := nI_toInt (n := x) (by omega)
      obtain ⟨c1, c2, c3, c4⟩ := wdC_w x hd
      refine ⟨fun z => ?_, fun _ => p_X5_wordOf hd (p_takes uT (by omega) (by omega) (fun z y yT yf => ⟨fun w => absurd w one0, fun _ => k y ?_ (yf.trans uf)⟩) fun z => ?_)⟩
      · rw [ti_le, d9, ex] at z
        omega
      · rw [ub, ← c2, ← hw.1] at yT
        exact yT
      · rw [ub] at z
        exact absurd ((wd_same c2 c3).mp hw) z
    | succ m ih =>
      intro x hx u b uT ub uf
      have ex := nI_toInt (n := x) (by omega)
      obtain ⟨c1, c2, c3, c4⟩ := wdC_w x (by omega)
      refine ⟨fun z => ?_, fun _ => p_X5_wordOf (by omega) (p_takes uT (by omega) (by omega) (fun z => ?_) fun z y yT yf => ⟨fun _ => ?_, fun w => absurd rfl w⟩)⟩
      · rw [ti_le, d9, ex] at z
        omega
      · rw [ub] at z
        exact absurd ((wd_same c2 c3).mpr z) (hn x (by omega))
      · rw [← nI_succ]
        exact ih (x + 1) (by omega) y _ yT (by rw [rn_idem, ub]) (yf.trans uf)
  exact ⟨d + 1, key d 0 (by omega) t a h rfl (rfO.refl t)⟩
theorem p_directionN {t : Sg} {K : Int32 → Sg → Prop} (h : RT t B e a) (hn : ∀ x, x < 9 → ¬ wd B e (wdC x) (rn isBl B e a)) (k : ∀ u, FT u B e 1 (rn isBl B e a) → rfF u t → K 0 u) : m_X5_direction t K := by
  have d9 : (9 : Int32).toInt = 9 := by decide
  have key : ∀ m x : Nat, x + m = 9 → ∀ u b, RT u B e b → rn isBl B e b = rn isBl B e a → (0 < x → b = rn isBl B e a) → rfO u t → m_X5_direction_l2 K (m + 1) (nI x) u := by
    intro m
    induction m with
    | zero =>
      intro x hx u b uT ub ub2 uf
      have : x = 9 := by omega
      subst this
      refine ⟨fun _ => ?_, fun z => absurd (by decide) z⟩
      rw [uT.1.2.1, ub2 (by omega)]
      exact p_wrong uT (by decide) fun y yF yf => k y yF (yf.trans uf.F)
    | succ m ih =>
      intro x hx u b uT ub ub2 uf
      have ex := nI_toInt (n := x) (by omega)
      obtain ⟨c1, c2, c3, c4⟩ := wdC_w x (by omega)
      refine ⟨fun z => ?_, fun _ => p_X5_wordOf (by omega) (p_takes uT (by omega) (by omega) (fun z => ?_) fun z y yT yf => ⟨fun _ => ?_, fun w => absurd rfl w⟩)⟩
      · rw [ti_le, d9, ex] at z
        omega
      · rw [ub] at z
        exact absurd ((wd_same c2 c3).mpr z) (hn x (by omega))
      · rw [← nI_succ]
        exact ih (x + 1) (by omega) y _ yT (by rw [rn_idem, ub]) (fun _ => ub) (yf.trans uf)
  exact ⟨10, key 9 0 (by omega) t a h rfl (fun z => absurd z (by omega)) (rfO.refl t)⟩
theorem p_directionD {t : Sg} {f : Int32} {pl : Nat} {K : Int32 → Sg → Prop} (h : FT t B e f pl) (k : K 0 t) : m_X5_direction t K := by
  have d9 : (9 : Int32).toInt = 9 := by decide
  have key : ∀ m x : Nat, x + m = 9 → m_X5_direction_l2 K (m + 1) (nI x) t := by
    intro m
    induction m with
    | zero =>
      intro x hx
      have : x = 9 := by omega
      subst this
      exact ⟨fun _ => p_wrongD h k, fun z => absurd (by decide) z⟩
    | succ m ih =>
      intro x hx
      have ex := nI_toInt (n := x) (by omega)
      refine ⟨fun z => ?_, fun _ => p_X5_wordOf (by omega) (p_takesD h ⟨fun _ => ?_, fun w => absurd rfl w⟩)⟩
      · rw [ti_le, d9, ex] at z
        omega
      · rw [← nI_succ]
        exact ih (x + 1) (by omega)
  exact ⟨10, key 9 0 (by omega)⟩
theorem p_isDirection {b : Nat} {K : Int32 → Sg → Prop} (h : CT s B e b) (h4 : s 18 4 = nI a) (hab : a ≤ b) (hb : rn isLt B e a = b) (k1 : ∀ d, d < 9 → wd B e (wdC d) a → (∀ x, x < d → ¬ wd B e (wdC x) a) → ∀ u, CT u B e b → u 18 5 = nI d → clO u s → K 1 u)
    (k0 : (∀ x, x < 9 → ¬ wd B e (wdC x) a) → ∀ u : Sg, u 18 9 = 1 → u 18 10 = nI a → (∀ c, c ≠ 18 → u c = s c) → K 0 u) : m_X2_isDirection s K := by
  have d9 : (9 : Int32).toInt = 9 := by decide
  have key : ∀ m x : Nat, x + m = 9 → (∀ y, y < x → ¬ wd B e (wdC y) a) → m_X2_isDirection_l2 K (m + 1) (nI x) s := by
    intro m
    induction m with
    | zero =>
      intro x hx h1
      have : x = 9 := by omega
      subst this
      refine ⟨fun _ => ?_, fun z => absurd (by decide) z⟩
      rw [h4]
      exact p_fail fun u u1 u2 u3 _ => k0 h1 u u1 u2 u3
    | succ m ih =>
      intro x hx h1
      have ex := nI_toInt (n := x) (by omega)
      refine ⟨fun z => ?_, fun _ => p_X2_wordOf (by omega) (p_isWord h h4 hab hb (wdC_w x (by omega)).1 (fun z => ⟨fun w => absurd w one0, fun _ u hu => ?_⟩) fun z => ⟨fun _ => ?_, fun w => absurd rfl w⟩)⟩
      · rw [ti_le, d9, ex] at z
        omega
      · have uf : clO u s := ⟨fun c hc => by rw [hu, st2_row hc], fun j j1 j2 j3 => by rw [hu, st2_j j3]⟩
        exact k1 x (by omega) z h1 u (h.mv uf.1 (by rw [hu, st2_j (by decide)]) (by rw [hu, st2_j (by decide)]; exact h.2.1) h.2.2.1) (by rw [hu, st2_same]) uf
      · rw [← nI_succ]
        refine ih (x + 1) (by omega) fun y hy => ?_
        by_cases g : y = x
        · rw [g]
          exact z
        · exact h1 y (by omega)
  exact ⟨10, key 9 0 (by omega) fun y hy => absurd hy (Nat.not_lt_zero _)⟩
theorem b_dir {Kr : κ → Int32 → Sg → Prop} {K0 : Sg → Prop} {Kd : Int32 → Sg → Prop} (hC : CT s B e a) (ha : rn isBl B e a2 = rn isBl B e a) (hF : ∀ x, F x → RT x B e a2) (H : ∀ KR, (∀ x, F x → m_X5_direction x (Kr KR)) → S KR)
    (ok : ∀ (u : Sg) (b d : Nat), a < b → d < 9 → isLt (bat B e (rn isBl B e a)) = true → CT u B e b → u 18 5 = nI d → clO u s → (∀ KR, (∀ y x, F x → RT y B e b → rfO y x → Kr KR (nI d) y) → S KR) → Kd 1 u)
    (bad : ∀ (u : Sg), u 18 9 = 1 → u 18 10 = nI (rn isBl B e a) → (∀ c, c ≠ 18 → u c = s c) → (∀ KR, (∀ y x, F x → FT y B e 1 (rn isBl B e a) → rfF y x → Kr KR 0 y) → S KR) → K0 u ∧ Kd 0 u) : m_X2_readWord s (fun r1 s1 => ((r1 = 0 → K0 s1) ∧ (¬ (r1 = 0) → m_X2_isDirection s1 Kd))) := by
  have hge : a ≤ rn isBl B e a := rn_ge
  have hle : rn isBl B e a ≤ e := rn_le hC.2.2.1
  have none : (∀ x, x < 9 → ¬ wd B e (wdC x) (rn isBl B e a)) → ∀ KR, (∀ y x, F x → FT y B e 1 (rn isBl B e a) → rfF y x → Kr KR 0 y) → S KR := fun hn KR hK => H KR fun x hx => p_directionN (hF x hx) (fun y hy => by rw [ha]; exact hn y hy) fun y yF yf => by
    rw [ha] at yF
    exact hK y x hx yF yf
  refine p_readWord hC (fun z u uC u4 f1 f2 => ⟨fun w => absurd w one0, fun _ => p_isDirection uC u4 (by omega) rfl (fun d hd hw hn v vC v5 vf => ok v _ d (by omega) hd ?_ vC v5 (vf.trans ⟨f1, fun j j1 j2 _ => f2 j j1 j2⟩) fun KR hK => H KR fun x hx => ?_) fun hn v v9 v10 vf => (bad v v9 v10 (fun c hc => by rw [vf c hc, f1 c hc]) (none hn)).2⟩) fun z u u9 u10 f1 => ⟨fun _ => (bad u u9 u10 f1 (none fun x hx hw => ?_)).1, fun w => absurd rfl w⟩
  · have := rn_in (P := isLt) (B := B) (e := e) (i := rn isBl B e a) (j := rn isBl B e a) (Nat.le_refl _) z
    unfold bat
    rw [if_pos this.2]
    exact this.1
  · refine p_direction (hF x hx) hd (by rw [ha]; exact hw) (fun y hy => by rw [ha]; exact hn y hy) fun y yT yf => ?_
    rw [ha] at yT
    exact hK y x hx yT yf
  · have := hw.1
    have := (wdC_w x hx).2.2.2
    omega
end
