/-! reach -/
theorem reach_sum {ρ : Nat → Int32} (hq : okQ ρ) {p : Int × Int} {n : Nat} {t f : Int} (hp : wat ρ p) (hf : f < 1048576) {A B : Nat → Int32} (hA : ∀ q : Int × Int, onS ρ q.1 q.2 = true → ∃ v, isMost ρ n t p q f v ∧ A (rI ρ 0 * q.2 + q.1).toNat = if v = -1 then 0 else 1)
    (hB : ∀ q : Int × Int, isP q → ∃ c, isC ρ n t p q c ∧ B (20 * q.2 + q.1).toNat = if f < c then 0 else 1) : sm A (rI ρ 0 * rI ρ 1).toNat = sm B 240 := by
  have hr := hq.1
  have a := hr.1
  have b := hr.2.1
  obtain ⟨W, hW⟩ : ∃ W : Nat, rI ρ 0 = W := ⟨(rI ρ 0).toNat, by omega⟩
  obtain ⟨H, hH⟩ : ∃ H : Nat, rI ρ 1 = H := ⟨(rI ρ 1).toNat, by omega⟩
  have off : ∀ q : Int × Int, isP q → onS ρ q.1 q.2 = false → B (20 * q.2 + q.1).toNat = 0 := by
    intro q hP ho
    obtain ⟨c, c1, c2⟩ := hB q hP
    rw [c2, if_pos]
    refine (c1.lt hf).mpr fun k hk => ?_
    have := (way_wat n t p k hp hk).1
    rw [ho] at this
    exact absurd this (by decide)
  have offN : ∀ j : Nat, j < 240 → onS ρ ((j % 20 : Nat) : Int) ((j / 20 : Nat) : Int) = false → B j = 0 := by
    intro j hj ho
    have := off (((j % 20 : Nat) : Int), ((j / 20 : Nat) : Int)) (by unfold isP; simp only; omega) ho
    simp only at this
    rw [show (20 * ((j / 20 : Nat) : Int) + ((j % 20 : Nat) : Int)).toNat = j by omega] at this
    exact this
  have e1 : (rI ρ 0 * rI ρ 1).toNat = W * H := by
    rw [hW, hH]
    have : ((W * H : Nat) : Int) = (W : Int) * H := by push_cast; rfl
    omega
  have e2 : sm B 240 = sm B (20 * H) := by
    rw [show 240 = 20 * H + (240 - 20 * H) by omega, sm_app, sm_0 (240 - 20 * H) (fun i hi => ?_), Int32.add_zero]
    refine offN _ (by omega) ?_
    cases ho : onS ρ (((20 * H + i) % 20 : Nat) : Int) (((20 * H + i) / 20 : Nat) : Int) with
    | false => rfl
    | true =>
      have := onS_iff.mp ho
      omega
  rw [e1, e2]
  refine sm_rows _ _ W 20 (by omega) H (fun y hy x hx => ?_) (fun y hy x h1 h2 => ?_)
  · have ho : onS ρ (x : Int) (y : Int) = true := onS_iff.mpr (by omega)
    obtain ⟨v, v1, v2⟩ := hA ((x : Int), (y : Int)) ho
    obtain ⟨c, c1, c2⟩ := hB ((x : Int), (y : Int)) (by unfold isP; simp only; omega)
    simp only at v2 c2
    rw [hW] at v2
    rw [show ((W : Int) * (y : Int) + (x : Int)).toNat = W * y + x by
      have : ((W * y : Nat) : Int) = (W : Int) * y := by push_cast; rfl
      omega] at v2
    rw [show (20 * (y : Int) + (x : Int)).toNat = 20 * y + x by omega] at c2
    rw [v2, c2]
    have g := most_C v1 c1 hf
    by_cases z : f < c
    · rw [if_pos z, if_pos (g.1 z)]
    · have := g.2 z
      rw [if_neg z, if_neg (by omega)]
  · have := off ((x : Int), (y : Int)) (by unfold isP; simp only; omega) (by
      cases ho : onS ρ (x : Int) (y : Int) with
      | false => rfl
      | true =>
        have := onS_iff.mp ho
        omega)
    simp only at this
    rw [show (20 * (y : Int) + (x : Int)).toNat = 20 * y + x by omega] at this
    exact this
theorem ob_reach : obl_reach Rel := by
  intro σc σm v p1 p2 hR
  have hq := hR.1.1
  have hr := hq.1
  have hw := hR.1.2
  have h2h := hr.2.2.1
  have dB : (60 : Int32).toInt = 60 := by decide
  by_cases h1 : 0 ≤ p1.toInt ∧ p1.toInt < rI (σm 350) 3
  · obtain ⟨i, i3, hi, e0, e1, e2, e3⟩ := hix hr h1
    refine p_helpY hw h1 (p_X4_isIn ?_)
    rw [d0, dB]
    by_cases h2 : 0 ≤ p2.toInt ∧ p2.toInt ≤ 60
    · rw [if_pos h2]
      subst e0
      obtain ⟨⟨hW1, hW2⟩, hf0, hf1⟩ := hq.2.2.2.1 i hi
      refine p_need1 (p_refresh hR fun s hRs s9 hF sk => ?_)
      obtain ⟨n, hn⟩ : ∃ n : Nat, p2.toInt = n := ⟨p2.toInt.toNat, by omega⟩
      have e2n : p2 = nI n := of_ti (by omega) hn
      subst e2n
      have d240 : (240 : Int32).toInt = 240 := by decide
      have hWH := wh_hi (W := rI (σm 350) 0) (H := rI (σm 350) 1) (by have := hr.1; omega) hr.1.2 (by have := hr.2.1; omega) hr.2.1.2
      have ref : ∀ (t : Sg) (u : Int32), Rel t σm → (∀ B : Nat → Int32, (∀ q : Int × Int, isP q → ∃ c, isC (σm 350) n (rI (σm 350) 2) (hAt (σm 350) i) q c ∧ B (20 * q.2 + q.1).toNat = if fAt (σm 350) i < c then 0 else 1) → u = sm B 240) → K_reach Rel (nI i) (nI n) σm 0 t u.toInt64 := by
        intro t u hRt a1 a ha
        have e350 : a 350 = σm 350 := by rw [ha]; exact st2_row (by decide)
        obtain ⟨h0, h⟩ := start hRt a ha
        have fin : ∀ (r : Int32) (w : Sg), costsM w (σm 350) i → (∀ c, (c < 361 ∨ 425 ≤ c) → w c = a c) → ∃ n9, m_X5_reach_l65 (nI i) (nI n) (fun bb s1 => m_X5_thrown s1 (fun th s2 => th = 0 ∧ ((0 : Int32) = 0 → u.toInt64 = bb.toInt64) ∧ Rel t s2)) n9 0 0 w := by
          intro r w wM wc
          have w0 : w 347 0 = 0 := by rw [wc 347 (by decide)]; exact h0
          have w350 : w 350 = σm 350 := (wc 350 (by decide)).trans e350
          have key : ∀ m j : Nat, j + m = 240 → m_X5_reach_l65 (nI i) (nI n) (fun bb s1 => m_X5_thrown s1 (fun th s2 => th = 0 ∧ ((0 : Int32) = 0 → u.toInt64 = bb.toInt64) ∧ Rel t s2)) (m + 1) (sm (fun j => if fAt (σm 350) i < (w (364 + n) j).toInt then 0 else 1) j) (nI j) w := by
            intro m
            induction m with
            | zero =>
              intro j hj
              have : j = 240 := by omega
              subst this
              exact ⟨fun _ => ⟨w0, fun _ => by rw [a1 (fun j => if fAt (σm 350) i < (w (364 + n) j).toInt then 0 else 1) fun q hP => ⟨_, wM.2 n (by omega) q hP, rfl⟩], h.cost wc⟩, fun z => absurd (by decide) z⟩
            | succ m ih =>
              intro j hj
              have ej := nI_toInt (n := j) (by omega)
              have ef : (σm 350 (1091 + 3 * i)).toInt = fAt (σm 350) i := rfl
              refine ⟨fun z => ?_, fun _ => ⟨nI_in (by omega) (by decide), nI_in (by omega) (by decide), p_X5_fuelOf (by rw [w350]; exact hq) i (by rw [w350]; exact hi) e3 ?_⟩⟩
              · rw [ti_le, d240, ej] at z
                omega
              · rw [w350, nI_clamp (by omega), nI_clamp (by omega), show 363 + 1 + n = 364 + n by omega]
                refine ⟨fun z l hl => ?_, fun z l hl => ?_⟩
                · rw [ti_lt, ef] at z
                  have es : l = sm (fun j => if fAt (σm 350) i < (w (364 + n) j).toInt then 0 else 1) (j + 1) := by
                    rw [hl]
                    show _ = sm _ j + (if fAt (σm 350) i < (w (364 + n) j).toInt then 0 else 1)
                    rw [if_pos z]
                  rw [es, ← nI_succ]
                  exact ih (j + 1) (by omega)
                · rw [ti_lt, ef] at z
                  have es : l = sm (fun j => if fAt (σm 350) i < (w (364 + n) j).toInt then 0 else 1) (j + 1) := by
                    rw [hl]
                    show _ = sm _ j + (if fAt (σm 350) i < (w (364 + n) j).toInt then 0 else 1)
                    rw [if_neg z]
                  rw [es, ← nI_succ]
                  exact ih (j + 1) (by omega)
          exact ⟨241, key 240 0 (by decide)⟩
        refine p_X5_isHelper h.1.1.1 ?_
        rw [e350, if_pos h1]
        refine ⟨fun _ => p_bad0 h0 ⟨fun z => absurd rfl z, fun _ => p_X5_in ?_⟩, fun z => absurd z one0⟩
        rw [d0, dB, if_pos h2]
        refine ⟨fun _ => p_bad0 h0 ⟨fun _ => p_earliest (i := i) (by rw [e350]; exact hq) (by rw [e350]; exact hi) e1 e2 e3 ?_ ?_, fun z => absurd rfl z⟩, fun z => absurd z one0⟩
        all_goals rw [e350]
        · exact fun w n' wM wc _ _ => fin (-1) w wM wc
        · exact fun w wM wc _ => fin (-1) w wM wc
      refine p_mostsOf hq hRs.1.2 hF i3 hi (by omega) fun u uF uw un => ?_
      have hRu := hRs.wid s9 uF uw
      have b7 := (uF.2.2.2.2.2.2 i i3 hi).1 n un
      obtain ⟨N, hN⟩ : ∃ N : Nat, rI (σm 350) 0 * rI (σm 350) 1 = N := ⟨(rI (σm 350) 0 * rI (σm 350) 1).toNat, by omega⟩
      have la := (S_m0 i i3 n (by omega)).2.2
      have key : ∀ m j : Nat, j + m = N → m_X0_reachOf_l13 (nI i) (nI n) (fun r29 s29 => K_reach Rel (nI i) (nI n) σm 0 s29 r29.toInt64) (m + 1) (90 + 64 * i + 2 + n) (sm (fun j => if u (90 + 64 * i + 2 + n) j = -1 then 0 else 1) j) (nI j) u := by
        intro m
        induction m with
        | zero =>
          intro j hj
          have ej := nI_toInt (n := j) (by omega)
          have : j = N := by omega
          subst this
          refine ⟨fun _ => ref u _ hRu fun B hB => ?_, fun z => ?_⟩
          · have := reach_sum hq (p := hAt (σm 350) i) ⟨hW1, hW2⟩ (show fAt (σm 350) i < 1048576 by omega) (A := fun j => if u (90 + 64 * i + 2 + n) j = -1 then 0 else 1) (B := B) (fun q ho => ⟨_, b7 q ho, ?_⟩) hB
            · rw [show (rI (σm 350) 0 * rI (σm 350) 1).toNat = j by omega] at this
              exact this
            · simp only [ti_eq, dm1]
          · rw [ti_le, uF.1, ej] at z
            omega
        | succ m ih =>
          intro j hj
          have ej := nI_toInt (n := j) (by omega)
          refine ⟨fun z => ?_, fun _ => ⟨fun z => ?_, fun _ => ⟨by rw [la]; exact nI_in (by omega) (by decide), fun z => ?_, fun z => ?_⟩⟩⟩
          · rw [ti_le, uF.1, ej] at z
            omega
          · rw [ti_le, la, ti_cn (by decide), ej] at z
            omega
          · rw [nI_clamp (by omega)] at z
            have es : sm (fun j => if u (90 + 64 * i + 2 + n) j = -1 then (0 : Int32) else 1) j = sm (fun j => if u (90 + 64 * i + 2 + n) j = -1 then (0 : Int32) else 1) (j + 1) := by
              show _ = sm _ j + (if u (90 + 64 * i + 2 + n) j = -1 then (0 : Int32) else 1)
              rw [if_pos z, Int32.add_zero]
            rw [es, ← nI_succ]
            exact ih (j + 1) (by omega)
          · rw [nI_clamp (by omega)] at z
            have es : sm (fun j => if u (90 + 64 * i + 2 + n) j = -1 then (0 : Int32) else 1) j + 1 = sm (fun j => if u (90 + 64 * i + 2 + n) j = -1 then (0 : Int32) else 1) (j + 1) := by
              show _ = sm _ j + (if u (90 + 64 * i + 2 + n) j = -1 then (0 : Int32) else 1)
              rw [if_neg z]
            rw [es, ← nI_succ]
            exact ih (j + 1) (by omega)
      exact ⟨N + 1, key N 0 (by omega)⟩
    · rw [if_neg h2]
      refine p_need0 (Or.inr ⟨rfl, ?_⟩)
      intro s hs
      have e350 : s 350 = σm 350 := by rw [hs]; exact st2_row (by decide)
      obtain ⟨h0, h⟩ := start hR s hs
      refine p_X5_isHelper h.1.1.1 ?_
      rw [e350, if_pos h1]
      refine ⟨fun _ => p_bad0 h0 ⟨fun z => absurd rfl z, fun _ => p_X5_in ?_⟩, fun z => absurd z one0⟩
      rw [d0, dB, if_neg h2]
      exact ⟨fun z => absurd rfl z, fun _ => leafR h h0 1 (by decide) (by decide)⟩
  · refine p_helpN hw h1 (Or.inl ⟨rfl, ?_⟩)
    intro s hs
    have e350 : s 350 = σm 350 := by rw [hs]; exact st2_row (by decide)
    obtain ⟨h0, h⟩ := start hR s hs
    refine p_X5_isHelper h.1.1.1 ?_
    rw [e350, if_neg h1]
    exact ⟨fun z => absurd rfl z, fun _ => leafL h h0 0 (by decide) (by decide)⟩
