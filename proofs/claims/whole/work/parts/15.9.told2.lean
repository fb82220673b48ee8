/-! a text: port, helper -/
section
variable {κ : Type} {S : κ → Prop} {F : Sg → Prop} {Kr : κ → Sg → Prop} {Kc : Int32 → Sg → Prop} {s0 t0 s : Sg} {B : Nat → Int32} {e a a2 : Nat} {w d p k : Bool} {ρ : Nat → Int32}
theorem b_port (hI : CI s0 s B e a w d false k ρ) (ha : rn isBl B e a2 = rn isBl B e a) (hF : ∀ x, F x → RI t0 x B e a2 w d true k ρ) (H : ∀ KR, (∀ x, F x → m_X5_readsCell 0 x (fun s142 => (vp_in 8 1098 ∧ ∀ s158, s158 = st2 s142 351 (8 : Int32).toNatClampNeg ((s142 347 13) - (s142 347 13) / 20 * 20) → (vp_in 9 1098 ∧ ∀ s172, s172 = st2 s158 351 (9 : Int32).toNatClampNeg ((s158 347 13) / 20) → m_X5_directions 36 0 12 s172 (fun r185 s185 => (vp_in 11 1098 ∧ ∀ s188, s188 = st2 s185 351 (11 : Int32).toNatClampNeg r185 → m_X5_must 59 s188 (fun s => Kr KR s))))))) → S KR) (ok : OkH S Kr Kc s0 t0 B e a) (bad : BadH S Kr Kc s0 t0 B e) : m_X2_readPort s Kc := by
  obtain ⟨hC, h9, ⟨f11, f12, f13, f14⟩, hD, hs0⟩ := hI
  have hr := hD.1
  have v8 : vp_in 8 1098 := by rw [ti_in]; decide
  have v9 : vp_in 9 1098 := by rw [ti_in]; decide
  have v11 : vp_in 11 1098 := by rw [ti_in]; decide
  have c8 : (8 : Int32).toNatClampNeg = 8 := by decide
  have c9 : (9 : Int32).toNatClampNeg = 9 := by decide
  have c11 : (11 : Int32).toNatClampNeg = 11 := by decide
  refine ⟨fun _ => ?_, fun z => absurd f12 z⟩
  refine b_cell0 (F := F) (Kr := fun KR s142 => (vp_in 8 1098 ∧ ∀ s158, s158 = st2 s142 351 (8 : Int32).toNatClampNeg ((s142 347 13) - (s142 347 13) / 20 * 20) → (vp_in 9 1098 ∧ ∀ s172, s172 = st2 s158 351 (9 : Int32).toNatClampNeg ((s158 347 13) / 20) → m_X5_directions 36 0 12 s172 (fun r185 s185 => (vp_in 11 1098 ∧ ∀ s188, s188 = st2 s185 351 (11 : Int32).toNatClampNeg r185 → m_X5_must 59 s188 (fun s => Kr KR s)))))) hC ha hr hD.2.1 (fun x hx => ⟨(hF x hx).1, (hF x hx).2.2.1⟩) H ?_ ?_
  · intro u b q hab hq uC u6 uf HK
    have hP := onS_P hr hq.1
    obtain ⟨p1, p2⟩ := ofP hP
    refine ⟨fun _ g hg h hh => ?_, fun z => absurd z one0⟩
    have g6 : g 18 6 = clW (rI ρ 0) q := by rw [hg, st2_j (by decide)]; exact u6
    rw [g6] at hh
    have hC2 : CT h B e b := (uC.mv (u := g) (b := b) (fun c hc => by rw [hg, st2_row hc]) (by rw [hg, st2_j (by decide)]) (by rw [hg, st2_j (by decide)]; exact uC.2.1) uC.2.2.1).other fun c hc _ => by rw [hh, st2_row (by omega)]
    have h10 : ∀ j, h 10 j = if j = 6 then clW (rI ρ 0) q else s 10 j := fun j => by
      by_cases z : j = 6
      · rw [if_pos z, hh, z, st2_same]
      · rw [if_neg z, hh, st2_j z, hg, st2_row (by decide), uf.1 10 (by decide)]
    have hk : ∀ c, c ≠ 18 → c ≠ 10 → h c = s c := fun c c1 c2 => by rw [hh, st2_row c2, hg, st2_row c1, uf.1 c c1]
    have h18 : ∀ j, (j < 3 ∨ 7 < j) → j ≠ 12 → h 18 j = s 18 j := fun j j1 j2 => by rw [hh, st2_row (by decide), hg, st2_j j2, uf.2 j j1]
    have h1812 : h 18 12 = 1 := by rw [hh, st2_row (by decide), hg, st2_same]
    have ρ1e : ∀ j, j ≠ 8 → j ≠ 9 → (fun j => if j = 8 then Int32.ofInt q.1 else if j = 9 then Int32.ofInt q.2 else ρ j) j = ρ j := fun j j8 j9 => by
      show (if j = 8 then Int32.ofInt q.1 else if j = 9 then Int32.ofInt q.2 else ρ j) = ρ j
      rw [if_neg j8, if_neg j9]
    generalize hρ1 : (fun j => if j = 8 then Int32.ofInt q.1 else if j = 9 then Int32.ofInt q.2 else ρ j) = ρ1 at ρ1e
    have ρ1v : ∀ j, ρ1 j = if j = 8 then Int32.ofInt q.1 else if j = 9 then Int32.ofInt q.2 else ρ j := fun j => by rw [← hρ1]
    have rr : ∀ j, j ≠ 8 → j ≠ 9 → rI ρ1 j = rI ρ j := fun j j8 j9 => congrArg _ (ρ1e j j8 j9)
    have w8 : ρ1 8 = Int32.ofInt q.1 := by rw [ρ1v, if_pos rfl]
    have w9 : ρ1 9 = Int32.ofInt q.2 := by rw [ρ1v, if_neg (by decide), if_pos rfl]
    have eq : (rI ρ1 8, rI ρ1 9) = q := by
      unfold rI
      rw [w8, w9, p1, p2]
    have hD1 : DR h ρ1 d true k := by
      obtain ⟨⟨b0, b1, b2, b3, b4⟩, ⟨b5, b6⟩, -⟩ := hD.2.1
      refine hD.scal (fun j hj => ρ1e j (by omega) (by omega)) (fun x x1 x2 => by rw [hk _ (by omega) (by omega)]) (fun j j3 j4 j5 j6 => by rw [h10, if_neg j6]) (by rw [h10, if_neg (by decide), ρ1e 4 (by decide) (by decide)]; exact b3) (by rw [h10, if_neg (by decide), ρ1e 5 (by decide) (by decide)]; exact b4) (by rw [h10, if_neg (by decide), rr 6 (by decide) (by decide), rr 7 (by decide) (by decide)]; exact b5) (by rw [h10, if_pos rfl, eq]) (by rw [rr 4 (by decide) (by decide)]; exact hr.2.2.2.2.1) (by rw [rr 5 (by decide) (by decide)]; exact hr.2.2.2.2.2.1) (by rw [rr 6 (by decide) (by decide), rr 7 (by decide) (by decide)]; exact hD.2.2.2.1) (fun _ => by rw [eq]; exact hq) (by rw [rr 4 (by decide) (by decide)]; exact hD.2.2.2.2.2.2.2.1)
    have tS : ∀ t y x, F x → rfP y x → (∀ c, c ≠ 351 → t c = y c) → t 351 = ρ1 → rfS t t0 := fun t y x hx yf tk t351 => rfS.row tk (yf.B.S (hF x hx).2.2.2) fun j hj => by
      rw [t351, ρ1e j (by omega) (by omega)]
      exact hD.2.2.2.2.2.2.2.2 j hj
    refine b_dirs (r := 10 + 6) (to := 36) (most := 12) (c := 11) (least := 0) (a2 := b) (F := fun t => ∃ y x, F x ∧ RT y B e b ∧ rfP y x ∧ (∀ c, c ≠ 351 → t c = y c) ∧ t 351 = ρ1) (Kr := Kr) hC2 rfl (fun t ⟨y, x, hx, yT, yf, tk, t351⟩ => yT.row tk) (Or.inr rfl) rfl (by decide) (by decide) rfl rfl rfl (by decide) rfl (by decide) (fun KR hK => HK KR fun y x hx yT y13 yf => ⟨v8, fun z hz => ⟨v9, fun v hv => hK v ⟨y, x, hx, yT, yf, fun c hc => by rw [hv, st2_row hc, hz, st2_row hc], funext fun j => ?_⟩⟩⟩) ?_ ?_
    · have z13 : z 347 13 = cl20 q := by rw [hz, st2_row (by decide)]; exact y13
      rw [c8, y13, ti_ext (cl20_x hP)] at hz
      rw [c9, z13, ti_ext (cl20_y hP)] at hv
      rw [ρ1v]
      by_cases j9 : j = 9
      · rw [if_neg (by omega), if_pos j9, hv, j9, st2_same]
      · rw [hv, st2_j j9]
        by_cases j8 : j = 8
        · rw [if_pos j8, hz, j8, st2_same]
        · rw [if_neg j8, if_neg j9, hz, st2_j j8, yf.1 351 (by decide), (hF x hx).2.2.1]
    · intro i b2 n D hab2 hn dD iC iD i8 if' HK2
      have eN : (nI n).toInt = n := nI_toInt (by omega)
      refine ⟨fun _ v hv => ?_, fun z => absurd z one0⟩
      rw [i8] at hv
      have v18 : v 18 = i 18 := by rw [hv, st2_row (by decide)]
      have vD : DR v (fun j => if j = 11 then nI n else rD ρ1 36 n D j) d true k := by
        have r11 : rI (fun j => if j = 11 then nI n else rD ρ1 36 n D j) 11 = n := eN
        have r10 : (fun j => if j = 11 then nI n else rD ρ1 36 n D j) 10 = ρ1 10 := rfl
        refine hD1.list (fun j j1 j2 hj => ?_) (by unfold rI; rw [r10]; exact hD1.1.2.2.2.2.2.2.1) (by rw [r11]; omega) (fun x hx => ?_) (fun x hx => ?_) (fun c c1 c2 c3 c4 => by rw [hv, st2_row c1]; exact if'.1 c (by omega) c3) (fun j j1 j2 => by rw [hv, st2_j j2, if'.1 10 (by decide) (by decide)]) ?_ (by rw [hv, st2_same]; rfl) (fun x hx => ?_) (fun x hx => ?_)
        · show (if j = 11 then nI n else rD ρ1 36 n D j) = ρ1 j
          unfold rD
          rw [if_neg j2, if_neg (by omega)]
        · show isD (if 12 + x = 11 then nI n else rD ρ1 36 n D (12 + x))
          rw [if_neg (by omega)]
          unfold rD
          rw [if_neg (by omega)]
          exact hD1.1.2.2.2.2.2.2.2.2.1 x hx
        · show isD (if 36 + x = 11 then nI n else rD ρ1 36 n D (36 + x))
          rw [if_neg (by omega)]
          unfold rD
          by_cases z : 36 ≤ 36 + x ∧ 36 + x < 36 + n
          · rw [if_pos z]
            exact dD _ (by omega)
          · rw [if_neg z]
            exact hD1.1.2.2.2.2.2.2.2.2.2.1 x hx
        · rw [hv, st2_j (by decide), if'.1 10 (by decide) (by decide)]
          exact hD1.2.1.2.2.1.2.1
        · unfold rI at hx
          rw [r10] at hx
          have g := hD1.2.1.2.2.2.2.2.2.1 x hx
          rw [hv, st2_row (by decide), if'.1 15 (by decide) (by decide)]
          show h 15 x = (if 12 + x = 11 then nI n else rD ρ1 36 n D (12 + x))
          have hx24 : x < 24 := by
            have := hD1.1.2.2.2.2.2.2.1
            unfold rI at this
            omega
          rw [if_neg (by omega)]
          unfold rD
          rw [if_neg (by omega)]
          exact g
        · rw [r11] at hx
          have g := iD x (by omega)
          rw [hv, st2_row (by decide)]
          show i 16 x = (if 36 + x = 11 then nI n else rD ρ1 36 n D (36 + x))
          rw [if_neg (by omega)]
          unfold rD
          rw [if_pos (by omega), show 36 + x - 36 = x by omega]
          exact g
      refine ok v b2 w d true k _ (by omega) ⟨iC.other fun c hc _ => by rw [hv, st2_row (by omega)], ?_, ?_, vD, fun c hc => ?_⟩ fun KR hK => HK2 KR fun o t ⟨y, x, hx, yT, yf, tk, t351⟩ oT of o351 => ?_
      · rw [v18, if'.2 9 (by decide) (by decide) (by decide) (by decide), if'.2 10 (by decide) (by decide) (by decide) (by decide), h18 9 (by omega) (by decide), h18 10 (by omega) (by decide)]
        exact h9
      · rw [v18, if'.2 11 (by decide) (by decide) (by decide) (by decide), if'.2 12 (by decide) (by decide) (by decide) (by decide), if'.2 13 (by decide) (by decide) (by decide) (by decide), if'.2 14 (by decide) (by decide) (by decide) (by decide), h1812, h18 11 (by omega) (by decide), h18 13 (by omega) (by decide), h18 14 (by omega) (by decide)]
        exact ⟨f11, rfl, f13, f14⟩
      · rw [hv, st2_row (by omega), if'.1 c (by omega) (by omega), hk c (by omega) (by omega)]
        exact hs0 c hc
      · have e351 : o 351 = fun j => if j = 11 then nI n else rD ρ1 36 n D j := funext fun j => by rw [o351 j, t351]
        have tt := tS t y x hx yf tk t351
        refine hK o ⟨oT, by rw [of.2 14 (by decide), tk 347 (by decide), yf.2 14 (by decide) (by decide)]; exact (hF x hx).2.1, e351, ⟨fun c c1 c2 => (of.1 c c1 c2).trans (tt.1 c c1 c2), fun j j1 j2 j3 j4 j5 => (of.2 j j1).trans (tt.2.1 j j1 j2 j3 j4 j5), fun j hj => by rw [e351]; exact vD.2.2.2.2.2.2.2.2 j hj⟩⟩
    · intro i f pl f0 i9 i10 if' HK2
      exact ⟨fun z => absurd rfl z, fun _ => bad i f pl f0 i9 i10 (fun c hc => by rw [if' c (by omega) (by omega), hk c (by omega) (by omega)]; exact hs0 c hc) fun KR hK => HK2 KR fun o t ⟨y, x, hx, yT, yf, tk, t351⟩ oF of => hK o oF (of.S (tS t y x hx yf tk t351))⟩
  · intro u f pl f0 u9 u10 uf HK
    have B1 := bad u f pl f0 u9 u10 (fun c hc => by rw [uf c (by omega)]; exact hs0 c hc) fun KR hK => HK KR fun y x hx yF yf => ⟨v8, fun z hz => ⟨v9, fun v hv => by
      have zk : ∀ c, c ≠ 351 → v c = y c := fun c hc => by rw [hv, st2_row hc, hz, st2_row hc]
      have vF := yF.row zk
      refine p_directionsD vF ⟨v11, fun g hg => ?_⟩
      have gk : ∀ c, c ≠ 351 → g c = y c := fun c hc => by rw [hg, st2_row hc, zk c hc]
      have gF := yF.row gk
      exact p_mustD gF (hK g gF (rfS.row gk (yf.S (hF x hx).2.2.2) fun j hj => by rw [hg, c11, st2_j (by omega), hv, c9, st2_j (by omega), hz, c8, st2_j (by omega), yf.1 351 (by decide)]; exact (hF x hx).2.2.2.2.2 j hj))⟩⟩
    exact ⟨B1, fun z => absurd rfl z, fun _ => B1⟩
theorem b_helper {pl0 : Nat} (hI : CI s0 s B e a w d p k ρ) (ha : rn isBl B e a2 = rn isBl B e a) (h4 : s 18 4 = nI pl0) (hF : ∀ x, F x → RI t0 x B e a2 w d p k ρ) (H : ∀ KR, (∀ x, F x → m_X5_readsHelper (nI pl0) x (fun s230 => m_X5_must 59 s230 (fun s => Kr KR s))) → S KR) (ok : OkH S Kr Kc s0 t0 B e a) (bad : BadH S Kr Kc s0 t0 B e) : m_X2_readHelper s Kc := by
  obtain ⟨hC, h9, ⟨f11, f12, f13, f14⟩, hD, hs0⟩ := hI
  have hr := hD.1
  have hm := hr.2.2.2.1
  obtain ⟨m, hmm⟩ : ∃ m : Nat, rI ρ 3 = m := ⟨(rI ρ 3).toNat, by omega⟩
  have v3 : vp_in 3 1098 := by rw [ti_in]; decide
  have v4 : vp_in 4 1098 := by rw [ti_in]; decide
  have c3 : (3 : Int32).toNatClampNeg = 3 := by decide
  have c4 : (4 : Int32).toNatClampNeg = 4 := by decide
  have e7 : s 10 7 = ρ 3 := hD.2.1.2.2.1.1
  have em : ρ 3 = nI m := of_ti (by omega) hmm
  -- a number read, and on
  have j16 : ∀ (KR : κ) (y : Sg) (f : Int32) (pl : Nat) (r : Int32), FT y B e f pl → rfS y t0 → (∀ z, FT z B e f pl → rfS z t0 → Kr KR z) → m_X5_fine y (fun r34 s34 => ((¬ r34 = 0 → (vp_in 3 1098 ∧ (∀ l3_53, l3_53 = (1089 + (3 * (s34 351 (3 : Int32).toNatClampNeg))) → (vp_in l3_53 1098 ∧ ∀ s66, s66 = st2 s34 351 l3_53.toNatClampNeg ((s34 347 13) - (s34 347 13) / 20 * 20) → (vp_in (l3_53 + 1) 1098 ∧ ∀ s81, s81 = st2 s66 351 (l3_53 + 1).toNatClampNeg ((s66 347 13) / 20) → (vp_in (l3_53 + 2) 1098 ∧ ∀ s90, s90 = st2 s81 351 (l3_53 + 2).toNatClampNeg r → (vp_in 3 1098 ∧ (vp_in 3 1098 ∧ ∀ s100, s100 = st2 s90 351 (3 : Int32).toNatClampNeg ((s90 351 (3 : Int32).toNatClampNeg) + 1) → m_X5_must 59 s100 (fun s => Kr KR s))))))))) ∧ (r34 = 0 → m_X5_must 59 s34 (fun s => Kr KR s)))) := fun KR y f pl r yF yf hK => p_fine0 yF.no ⟨fun z => absurd rfl z, fun _ => p_mustD yF (hK y yF yf)⟩
  refine ⟨fun z => ?_, fun z => ?_⟩
  · rw [e7, em, ti_lt, d3, nI_toInt (by omega)] at z
    have hne : ¬ ρ 3 = 3 := by
      rw [em]
      intro h
      have := congrArg Int32.toInt h
      rw [nI_toInt (by omega), d3] at this
      omega
    refine b_cell0 (F := F) (Kr := fun KR s18 => (vp_in 4 1098 ∧ m_X5_number 0 (s18 351 (4 : Int32).toNatClampNeg) s18 (fun r29 s29 => m_X5_fine s29 (fun r34 s34 => ((¬ r34 = 0 → (vp_in 3 1098 ∧ (∀ l3_53, l3_53 = (1089 + (3 * (s34 351 (3 : Int32).toNatClampNeg))) → (vp_in l3_53 1098 ∧ ∀ s66, s66 = st2 s34 351 l3_53.toNatClampNeg ((s34 347 13) - (s34 347 13) / 20 * 20) → (vp_in (l3_53 + 1) 1098 ∧ ∀ s81, s81 = st2 s66 351 (l3_53 + 1).toNatClampNeg ((s66 347 13) / 20) → (vp_in (l3_53 + 2) 1098 ∧ ∀ s90, s90 = st2 s81 351 (l3_53 + 2).toNatClampNeg r29 → (vp_in 3 1098 ∧ (vp_in 3 1098 ∧ ∀ s100, s100 = st2 s90 351 (3 : Int32).toNatClampNeg ((s90 351 (3 : Int32).toNatClampNeg) + 1) → m_X5_must 59 s100 (fun s => Kr KR s))))))))) ∧ (r34 = 0 → m_X5_must 59 s34 (fun s => Kr KR s))))))) hC ha hr hD.2.1 (fun x hx => ⟨(hF x hx).1, (hF x hx).2.2.1⟩) (fun KR hK => H KR fun x hx => ⟨v3, fun _ => hK x hx, fun g => ?_⟩) ?_ ?_
    · rw [c3, (hF x hx).2.2.1] at g
      exact absurd g hne
    · intro u b q hab hq uC u6 uf HK
      have hP := onS_P hr hq.1
      obtain ⟨p1, p2⟩ := ofP hP
      have uI : CI s0 u B e b w d p k ρ := CI.P ⟨hC, h9, ⟨f11, f12, f13, f14⟩, hD, hs0⟩ uC uf
      have ht := hr.2.2.2.2.1
      have u14 : u 18 14 = bi k := uI.2.2.1.2.2.2
      have u103 : u 10 3 = ρ 4 := uI.2.2.2.1.2.1.1.2.2.2.1
      have j57 : ∀ hiI : Int32, hiI = ρ 4 → m_X2_readHelper_j57 Kc 0 hiI u := by
        intro hiI hhi
        refine b_num (a2 := b) (F := fun z => RI t0 z B e b w d p k ρ ∧ z 347 13 = cl20 q) (Kr := fun KR r29 s29 => m_X5_fine s29 (fun r34 s34 => ((¬ r34 = 0 → (vp_in 3 1098 ∧ (∀ l3_53, l3_53 = (1089 + (3 * (s34 351 (3 : Int32).toNatClampNeg))) → (vp_in l3_53 1098 ∧ ∀ s66, s66 = st2 s34 351 l3_53.toNatClampNeg ((s34 347 13) - (s34 347 13) / 20 * 20) → (vp_in (l3_53 + 1) 1098 ∧ ∀ s81, s81 = st2 s66 351 (l3_53 + 1).toNatClampNeg ((s66 347 13) / 20) → (vp_in (l3_53 + 2) 1098 ∧ ∀ s90, s90 = st2 s81 351 (l3_53 + 2).toNatClampNeg r29 → (vp_in 3 1098 ∧ (vp_in 3 1098 ∧ ∀ s100, s100 = st2 s90 351 (3 : Int32).toNatClampNeg ((s90 351 (3 : Int32).toNatClampNeg) + 1) → m_X5_must 59 s100 (fun s => Kr KR s))))))))) ∧ (r34 = 0 → m_X5_must 59 s34 (fun s => Kr KR s))))) (fun _ => 0) (fun x => x 351 4) uC rfl (fun x hx => ⟨hx.1.1, rfl, by show x 351 4 = _; rw [hx.1.2.2.1, hhi]⟩) (by rw [hhi]; exact ht.2) (fun KR hK => HK KR fun y x hx yT y13 yf => ⟨v4, hK y ⟨(hF x hx).P yT yf, y13⟩⟩) ?_ ?_
        · intro g b2 n hab2 h1 h2 gC g4 g5 gf HK2
          have hn : n ≤ 999 := by
            have := ht.2
            rw [hhi] at h2
            unfold rI at this
            omega
          refine ⟨fun _ => ?_, fun z => absurd z one0⟩
          have gI : CI s0 g B e b2 w d p k ρ := uI.P gC gf.P
          have g107 : g 10 7 = nI m := by rw [gI.2.2.2.1.2.1.2.2.1.1, em]
          have g6 : g 18 6 = clW (rI ρ 0) q := by rw [gf.2 6 (by decide) (by decide) (by decide)]; exact u6
          unfold m_X3_addHelper
          rw [g107, g6, g5]
          have emI : (nI m).toInt = m := nI_toInt (by omega)
          refine p_X4_write (W_L1 (Or.inr (Or.inl rfl))) (by decide) (by omega) (by omega) ?_
          rw [st2_row (show (10 : Nat) ≠ 10 + 1 by decide), g107]
          refine p_X4_write (W_L2 (Or.inr (Or.inl rfl))) (by decide) (by omega) (by omega) fun v hv => ?_
          rw [emI, show ((m : Int)).toNat = m by omega, st2_row (show (10 : Nat) ≠ 10 + 2 by decide), st2_row (show (10 : Nat) ≠ 10 + 1 by decide), g107, ← nI_succ] at hv
          have vk : ∀ c, c ≠ 10 → c ≠ 11 → c ≠ 12 → v c = g c := fun c c1 c2 c3 => by rw [hv, st2_row c1, st2_row c3, st2_row c2]
          have v10 : ∀ j, j ≠ 7 → v 10 j = g 10 j := fun j hj => by rw [hv, st2_j hj, st2_row (by decide), st2_row (by decide)]
          have v11 : ∀ j, v 11 j = if j = m then clW (rI ρ 0) q else g 11 j := fun j => by
            rw [hv, st2_row (by decide), st2_row (by decide)]
            by_cases y : j = m
            · rw [if_pos y, y]
              exact st2_same _ _ _ _
            · rw [if_neg y]
              exact st2_j y
          have v12 : ∀ j, v 12 j = if j = m then nI n else g 12 j := fun j => by
            rw [hv, st2_row (by decide)]
            by_cases y : j = m
            · rw [if_pos y, y]
              exact st2_same _ _ _ _
            · rw [if_neg y]
              show st2 (st2 g (10 + 1) m (clW (rI ρ 0) q)) (10 + 2) m (nI n) (10 + 2) j = _
              rw [st2_j y, st2_row (by decide)]
          have vD := gI.2.2.2.1.help (f := n) hmm (by omega) hq hn (fun c c1 c2 c3 _ => vk c c1 c2 c3) v10 (by rw [hv, st2_same]) v11 v12
          refine b_fin (F := fun z => ∃ y, RI t0 y B e b2 w d p k ρ ∧ (∀ c, c ≠ 351 → z c = y c) ∧ z 351 = rH ρ m q n) (w := w) (d := d) (p := p) (k := k) (ρ := rH ρ m q n) (a := b2) (a0 := a) ⟨gC.other fun c hc _ => by rw [vk c (by omega) (by omega) (by omega)], by rw [vk 18 (by decide) (by decide) (by decide)]; exact gI.2.1, by rw [vk 18 (by decide) (by decide) (by decide)]; exact gI.2.2.1, vD, fun c hc => by rw [vk c (by omega) (by omega) (by omega)]; exact gI.2.2.2.2 c hc⟩ (by omega) (fun o ⟨y, yI, ok', o351⟩ => ⟨yI.1.row ok', by rw [ok' 347 (by decide)]; exact yI.2.1, o351, yI.2.2.2.row ok' fun j hj => by rw [o351]; exact vD.2.2.2.2.2.2.2.2 j hj⟩) (fun KR hK => HK2 KR fun y x ⟨xI, x13⟩ yT yf => ?_) ok bad
          have yI : RI t0 y B e b2 w d p k ρ := xI.P yT yf.P
          have y13 : y 347 13 = cl20 q := by rw [yf.2 13 (by decide)]; exact x13
          have d1089 : (1089 : Int32).toInt = 1089 := by decide
          refine p_fine1 yT.2.1 ⟨fun _ => ⟨v3, fun l hl => ?_⟩, fun g => absurd g one0⟩
          rw [c3, yI.2.2.1, em] at hl
          have el1 : (3 * nI m).toInt = 3 * m := by rw [ti_mul (by rw [d3, emI]; omega) (by rw [d3, emI]; omega), d3, emI]
          have el : l.toInt = 1089 + 3 * m := by rw [hl, ti_add (by rw [el1, d1089]; omega) (by rw [el1, d1089]; omega), el1, d1089]
          have el2 : (l + 1).toInt = 1090 + 3 * m := by
            rw [ti_add (by rw [el, d1]; omega) (by rw [el, d1]; omega), el, d1]
            omega
          have el3 : (l + 2).toInt = 1091 + 3 * m := by
            rw [ti_add (by rw [el, d2]; omega) (by rw [el, d2]; omega), el, d2]
            omega
          refine ⟨by rw [ti_in, el]; omega, fun o1 ho1 => ⟨by rw [ti_in, el2]; omega, fun o2 ho2 => ⟨by rw [ti_in, el3]; omega, fun o3 ho3 => ⟨v3, v3, fun o4 ho4 => ?_⟩⟩⟩⟩
          have o113 : o1 347 13 = cl20 q := by rw [ho1, st2_row (by decide)]; exact y13
          rw [ti_c, el, y13, ti_ext (cl20_x hP), show (1089 + 3 * (m : Int)).toNat = 1089 + 3 * m by omega] at ho1
          rw [ti_c, el2, o113, ti_ext (cl20_y hP), show (1090 + 3 * (m : Int)).toNat = 1090 + 3 * m by omega] at ho2
          rw [ti_c, el3, show (1091 + 3 * (m : Int)).toNat = 1091 + 3 * m by omega] at ho3
          have o33 : o3 351 3 = nI m := by rw [ho3, st2_j (by omega), ho2, st2_j (by omega), ho1, st2_j (by omega), yI.2.2.1, em]
          rw [c3, o33, ← nI_succ] at ho4
          refine hK o4 ⟨y, yI, fun c hc => by rw [ho4, st2_row hc, ho3, st2_row hc, ho2, st2_row hc, ho1, st2_row hc], funext fun j => ?_⟩
          unfold rH
          by_cases j3 : j = 3
          · rw [if_neg (by omega), if_neg (by omega), if_neg (by omega), if_pos j3, ho4, j3, st2_same]
          · rw [ho4, st2_j j3]
            by_cases g3 : j = 1091 + 3 * m
            · rw [if_neg (by omega), if_neg (by omega), if_pos g3, ho3, g3, st2_same]
            · rw [ho3, st2_j g3]
              by_cases g2 : j = 1090 + 3 * m
              · rw [if_neg (by omega), if_pos g2, ho2, g2, st2_same]
              · rw [ho2, st2_j g2]
                by_cases g1 : j = 1089 + 3 * m
                · rw [if_pos g1, ho1, g1, st2_same]
                · rw [if_neg g1, if_neg g2, if_neg g3, if_neg j3, ho1, st2_j g1, yI.2.2.1]
        · intro g f pl f0 g9 g10 gf HK2
          exact ⟨fun z => absurd rfl z, fun _ => bad g f pl f0 g9 g10 (fun c hc => by rw [gf c (by omega)]; exact uI.2.2.2.2 c hc) fun KR hK => HK2 KR fun y x r ⟨xI, x13⟩ yF yf => j16 KR y f pl r yF (yf.B.S xI.2.2.2) hK⟩
      refine ⟨fun y => absurd y one0, fun _ => ⟨fun y => j57 999 ?_, fun _ => j57 _ u103⟩⟩
      rw [u14] at y
      have := hD.2.2.2.2.2.2.2.1 (bi_0.mp y)
      rw [ti_eq]
      exact this.symm
    · intro u f pl f0 u9 u10 uf HK
      have B1 := bad u f pl f0 u9 u10 (fun c hc => by rw [uf c (by omega)]; exact hs0 c hc) fun KR hK => HK KR fun y x hx yF yf => ⟨v4, p_numberD yF (j16 KR y f pl 0 yF (yf.S (hF x hx).2.2.2) hK)⟩
      exact ⟨B1, fun _ => B1, fun z => absurd rfl z⟩
  · rw [e7, em, ti_lt, d3, nI_toInt (by omega)] at z
    have m3 : m = 3 := by omega
    rw [h4]
    refine p_fail fun v v9 v10 vf _ => bad v 4 pl0 (by decide) v9 v10 (fun c hc => by rw [vf c (by omega)]; exact hs0 c hc) fun KR hK => H KR fun x hx => ⟨v3, fun g => ?_, fun _ => p_wrong (hF x hx).1 (by decide) fun y yF yf => p_readsCellD yF fun o oF of => ⟨v4, p_numberD oF (j16 KR o 4 pl0 0 oF (of.S (yf.B.S (hF x hx).2.2.2)) hK)⟩⟩
    rw [c3, (hF x hx).2.2.1, em, m3] at g
    exact absurd rfl g
end
