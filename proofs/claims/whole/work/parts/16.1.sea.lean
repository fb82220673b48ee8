/-! a text: the sea, and the sentences one by one -/
def rS (W H : Nat) : Nat → Int32 := fun j => if j = 0 then nI W else if j = 1 then nI H else rowB j
theorem rS_e {W H j : Nat} (h : 2 ≤ j) : rS W H j = rowB j := by
  unfold rS
  rw [if_neg (by omega), if_neg (by omega)]
theorem rowB_0 {j : Nat} (h1 : j ≠ 4) (h2 : j < 48 ∨ 609 ≤ j) : rowB j = 0 := by
  unfold rowB
  rw [if_neg h1, if_neg (by omega)]
theorem rowB_h {j : Nat} (h1 : 48 ≤ j) (h2 : j < 609) : rowB j = -1 := by
  unfold rowB
  rw [if_neg (by omega), if_pos ⟨h1, h2⟩]
theorem rS_DR {s : Sg} {W H : Nat} (hW : 3 ≤ W ∧ W ≤ 20) (hH : 3 ≤ H ∧ H ≤ 12) (h0 : s 10 0 = nI W) (h1 : s 10 1 = nI H) (h : s 10 2 = 0 ∧ s 10 3 = 999 ∧ s 10 4 = 0 ∧ s 10 5 = 0 ∧ s 10 6 = 0 ∧ s 10 7 = 0 ∧ s 10 8 = 0 ∧ s 10 9 = 0) (l3 : ∀ j, j < 240 → s 13 j = 0) (l4 : ∀ j, j < 240 → s 14 j = 0) (l7 : ∀ j, j < 561 → s 17 j = -1) : DR s (rS W H) false false false := by
  obtain ⟨a2, a3, a4, a5, a6, a7, a8, a9⟩ := h
  have e0 : rI (rS W H) 0 = W := nI_toInt (n := W) (by omega)
  have e1 : rI (rS W H) 1 = H := by
    show (nI H).toInt = H
    exact nI_toInt (by omega)
  have z : ∀ j, 2 ≤ j → j ≠ 4 → (j < 48 ∨ 609 ≤ j) → rS W H j = 0 := fun j j1 j2 j3 => (rS_e j1).trans (rowB_0 j2 j3)
  have zi : ∀ j, 2 ≤ j → j ≠ 4 → (j < 48 ∨ 609 ≤ j) → rI (rS W H) j = 0 := fun j j1 j2 j3 => by
    unfold rI
    rw [z j j1 j2 j3, d0]
  have e4 : rS W H 4 = 999 := rfl
  have d999 : (999 : Int32).toInt = 999 := by decide
  have i4 : rI (rS W H) 4 = 999 := by
    unfold rI
    rw [e4, d999]
  have hr : okR (rS W H) := by
    refine ⟨by rw [e0]; omega, by rw [e1]; omega, by rw [zi 2 (by omega) (by omega) (by omega)]; omega, by rw [zi 3 (by omega) (by omega) (by omega)]; omega, by rw [i4]; omega, by rw [zi 5 (by omega) (by omega) (by omega)]; omega, by rw [zi 10 (by omega) (by omega) (by omega)]; omega, by rw [zi 11 (by omega) (by omega) (by omega)]; omega, fun k hk => ?_, fun k hk => ?_, fun k hk => Or.inl ((rS_e (by omega)).trans (rowB_h (by omega) (by omega))), fun k hk => Or.inl (z _ (by omega) (by omega) (by omega)), fun k hk => ?_⟩
    · rw [z _ (by omega) (by omega) (by omega)]
      exact isD0
    · rw [z _ (by omega) (by omega) (by omega)]
      exact isD0
    · rw [z _ (by omega) (by omega) (by omega)]
      exact isD0
  have ec : clW (rI (rS W H) 0) ((0 : Int), (0 : Int)) = 0 := by
    unfold clW
    rw [ti_eq, ti_of (by simp) (by simp), d0]
    simp
  refine ⟨hr, ⟨⟨h0, h1, by rw [a2, z 2 (by omega) (by omega) (by omega)], by rw [a3, e4], by rw [a4, z 5 (by omega) (by omega) (by omega)]⟩, ⟨by rw [a5, zi 6 (by omega) (by omega) (by omega), zi 7 (by omega) (by omega) (by omega), ec], by rw [a6, zi 8 (by omega) (by omega) (by omega), zi 9 (by omega) (by omega) (by omega), ec]⟩, ⟨by rw [a7, z 3 (by omega) (by omega) (by omega)], by rw [a8, z 10 (by omega) (by omega) (by omega)], by rw [a9, z 11 (by omega) (by omega) (by omega)]⟩, fun i hi => ?_, fun x y ho => ?_, fun k k1 k2 => l3 k k2, fun k hk => ?_, fun k hk => ?_, fun k hk => ?_⟩, zi 2 (by omega) (by omega) (by omega), fun q => absurd q (by decide), fun q => absurd q (by decide), fun i hi => ?_, fun q hq ho => z _ (by omega) (by omega) (by omega), fun _ => i4, fun j hj => z j (by omega) (by omega) (by omega)⟩
  · rw [zi 3 (by omega) (by omega) (by omega)] at hi
    omega
  · have oc := onS_cell (p := (x, y)) hr ho
    simp only at oc
    refine ⟨(l3 _ (by omega)).trans (z _ (by omega) (by omega) (by omega)).symm, (l4 _ (by omega)).trans (z _ (by omega) (by omega) (by omega)).symm⟩
  · rw [zi 10 (by omega) (by omega) (by omega)] at hk
    omega
  · rw [zi 11 (by omega) (by omega) (by omega)] at hk
    omega
  · exact (l7 k hk).trans ((rS_e (by omega)).trans (rowB_h (by omega) (by omega))).symm
  · rw [zi 3 (by omega) (by omega) (by omega)] at hi
    omega
section
variable {κ : Type} {S : κ → Prop} {F : Sg → Prop} {Kr : κ → Sg → Prop} {Kc : Int32 → Sg → Prop} {s0 t0 s x : Sg} {B : Nat → Int32} {e a a2 i : Nat} {w d p k : Bool} {ρ : Nat → Int32}
/-- the class's draft, begun -/
def beg (s s0 : Sg) (B : Nat → Int32) (e : Nat) : Prop := CT s B e 0 ∧ (s 18 9 = 0 ∧ s 18 10 = -1) ∧ (s 18 11 = 0 ∧ s 18 12 = 0 ∧ s 18 13 = 0 ∧ s 18 14 = 0) ∧ (s 10 2 = 0 ∧ s 10 3 = 999 ∧ s 10 4 = 0 ∧ s 10 5 = 0 ∧ s 10 6 = 0 ∧ s 10 7 = 0 ∧ s 10 8 = 0 ∧ s 10 9 = 0) ∧ (∀ j, j < 240 → s 13 j = 0) ∧ (∀ j, j < 240 → s 14 j = 0) ∧ (∀ j, j < 561 → s 17 j = -1) ∧ ∀ c, (c < 10 ∨ 19 ≤ c) → s c = s0 c
theorem b_sea (hB : beg s s0 B e) (hF : ∀ x, F x → RT x B e 0 ∧ x 347 14 = 0 ∧ x 351 = rowB ∧ rfS x t0) (H : ∀ KR, (∀ x, F x → m_X5_takes 20 x (fun r73 s73 => ((¬ r73 = 0 → m_X5_number 3 20 s73 (fun r97 s97 => (vp_in 0 1098 ∧ ∀ s100, s100 = st2 s97 351 (0 : Int32).toNatClampNeg r97 → m_X5_number 3 12 s100 (fun r110 s110 => (vp_in 1 1098 ∧ ∀ s113, s113 = st2 s110 351 (1 : Int32).toNatClampNeg r110 → m_X5_must 59 s113 (fun s => Kr KR s)))))) ∧ (r73 = 0 → m_X5_wrong 1 (s73 347 4) s73 (fun s85 => m_X5_number 3 20 s85 (fun r97 s97 => (vp_in 0 1098 ∧ ∀ s100, s100 = st2 s97 351 (0 : Int32).toNatClampNeg r97 → m_X5_number 3 12 s100 (fun r110 s110 => (vp_in 1 1098 ∧ ∀ s113, s113 = st2 s110 351 (1 : Int32).toNatClampNeg r110 → m_X5_must 59 s113 (fun s => Kr KR s)))))))))) → S KR)
    (ok : ∀ (u : Sg) (b W H : Nat), 0 < b → CI s0 u B e b false false false false (rS W H) → (∀ KR, (∀ y, RI t0 y B e b false false false false (rS W H) → Kr KR y) → S KR) → Kc 1 u) (bad : BadH S Kr Kc s0 t0 B e) : m_X2_readSea s Kc := by
  obtain ⟨hC, h9, hfl, h10, l3, l4, l7, hs0⟩ := hB
  have v0 : vp_in 0 1098 := by rw [ti_in]; decide
  have v1 : vp_in 1 1098 := by rw [ti_in]; decide
  have c0 : (0 : Int32).toNatClampNeg = 0 := by decide
  have c1 : (1 : Int32).toNatClampNeg = 1 := by decide
  have d20 : (20 : Int32).toInt = 20 := by decide
  have d12 : (12 : Int32).toInt = 12 := by decide
  have sw := wd_same (B := B) (e := e) (i := rn isBl B e 0) (v := 1) (v' := 20) (by decide) (by decide)
  have big : ∀ j, 1098 ≤ j → rowB j = 0 := fun j hj => rowB_0 (by omega) (by omega)
  -- the rest, a fault standing
  have dead2 : ∀ (KR : κ) (y : Sg) (f : Int32) (pl : Nat) (r : Int32), FT y B e f pl → rfS y t0 → (∀ z, FT z B e f pl → rfS z t0 → Kr KR z) → (vp_in 1 1098 ∧ ∀ s113, s113 = st2 y 351 (1 : Int32).toNatClampNeg r → m_X5_must 59 s113 (fun s => Kr KR s)) := fun KR y f pl r yF yf hK => ⟨v1, fun z hz => by
    have zk : ∀ c, c ≠ 351 → z c = y c := fun c hc => by rw [hz, st2_row hc]
    have zF := yF.row zk
    exact p_mustD zF (hK z zF (rfS.row zk yf fun j hj => by rw [hz, c1, st2_j (by omega)]; exact yf.2.2 j hj))⟩
  have dead1 : ∀ (KR : κ) (y : Sg) (f : Int32) (pl : Nat) (r : Int32), FT y B e f pl → rfS y t0 → (∀ z, FT z B e f pl → rfS z t0 → Kr KR z) → (vp_in 0 1098 ∧ ∀ s100, s100 = st2 y 351 (0 : Int32).toNatClampNeg r → m_X5_number 3 12 s100 (fun r110 s110 => (vp_in 1 1098 ∧ ∀ s113, s113 = st2 s110 351 (1 : Int32).toNatClampNeg r110 → m_X5_must 59 s113 (fun s => Kr KR s)))) := fun KR y f pl r yF yf hK => ⟨v0, fun z hz => by
    have zk : ∀ c, c ≠ 351 → z c = y c := fun c hc => by rw [hz, st2_row hc]
    have zF := yF.row zk
    exact p_numberD zF (dead2 KR z f pl 0 zF (rfS.row zk yf fun j hj => by rw [hz, c0, st2_j (by omega)]; exact yf.2.2 j hj) hK)⟩
  -- no such word
  have none : ¬ wd B e 1 (rn isBl B e 0) → ∀ u : Sg, u 18 9 = 1 → u 18 10 = nI (rn isBl B e 0) → (∀ c, c ≠ 18 → u c = s c) → Kc 0 u := fun hn u u9 u10 uf => bad u 1 _ (by decide) u9 u10 (fun c hc => by rw [uf c (by omega)]; exact hs0 c hc) fun KR hK => H KR fun x hx => p_takes (hF x hx).1 (by decide) (by decide) (fun z => absurd (sw.mpr z) hn) fun _ y yT yf => ⟨fun g => absurd rfl g, fun _ => by
    rw [yT.1.2.1]
    exact p_wrong yT (by decide) fun z zF zf => p_numberD zF (dead1 KR z 1 _ 0 zF ((zf.B.trans yf.P.B).S (hF x hx).2.2.2) hK)⟩
  refine p_readWord hC (fun hij u uC u4 f1 f2 => ⟨fun _ => p_isWord uC u4 rn_ge rfl (by decide) (fun hw => ⟨fun _ => ?_, fun g => absurd g one0⟩) fun hw => ⟨fun g => absurd rfl g, fun _ => ?_⟩, fun g => absurd g one0⟩) fun hij u u9 u10 f1 => ⟨fun g => absurd rfl g, fun _ => none (fun q => ?_) u u9 u10 f1⟩
  · refine b_num (a2 := rn isLt B e (rn isBl B e 0)) (F := fun y => ∃ x, F x ∧ RT y B e (rn isLt B e (rn isBl B e 0)) ∧ rfO y x) (Kr := fun KR r97 s97 => (vp_in 0 1098 ∧ ∀ s100, s100 = st2 s97 351 (0 : Int32).toNatClampNeg r97 → m_X5_number 3 12 s100 (fun r110 s110 => (vp_in 1 1098 ∧ ∀ s113, s113 = st2 s110 351 (1 : Int32).toNatClampNeg r110 → m_X5_must 59 s113 (fun s => Kr KR s))))) (fun _ => 3) (fun _ => 20) uC rfl (fun y ⟨x, hx, yT, yf⟩ => ⟨yT, rfl, rfl⟩) (by decide) (fun KR hK => H KR fun x hx => p_takes (hF x hx).1 (by decide) (by decide) (fun z y yT yf => ⟨fun _ => hK y ⟨x, hx, by rw [z.1]; exact yT, yf⟩, fun g => absurd g one0⟩) fun z => absurd (sw.mp hw) z) ?_ ?_
    · intro g b W hab h1 h2 gC g4 g5 gf HK
      rw [d3] at h1
      rw [d20] at h2
      refine ⟨fun _ h hh => ?_, fun z => absurd z one0⟩
      rw [g5] at hh
      have hC2 : CT h B e b := gC.other fun c hc _ => by rw [hh, st2_row (by omega)]
      refine b_num (a2 := b) (F := fun z => ∃ y x, F x ∧ RT y B e b ∧ rfO y x ∧ z = st2 y 351 0 (nI W)) (Kr := fun KR r110 s110 => (vp_in 1 1098 ∧ ∀ s113, s113 = st2 s110 351 (1 : Int32).toNatClampNeg r110 → m_X5_must 59 s113 (fun s => Kr KR s))) (fun _ => 3) (fun _ => 12) hC2 rfl (fun z ⟨y, x, hx, yT, yf, hz⟩ => ⟨yT.row fun c hc => by rw [hz, st2_row hc], rfl, rfl⟩) (by decide) (fun KR hK => HK KR fun y x ⟨x0, hx0, xT, xf⟩ yT yf => ⟨v0, fun z hz => hK z ⟨y, x0, hx0, yT, yf.trans xf, hz⟩⟩) ?_ ?_
      · intro q b2 Hh hab2 h3 h4 qC q4 q5 qf HK2
        rw [d3] at h3
        rw [d12] at h4
        refine ⟨fun _ v hv => ?_, fun z => absurd z one0⟩
        rw [q5] at hv
        have q10 : ∀ j, q 10 j = if j = 0 then nI W else s 10 j := fun j => by
          rw [qf.1 10 (by decide)]
          by_cases z : j = 0
          · rw [if_pos z, hh, z, st2_same]
          · rw [if_neg z, hh, st2_j z, gf.1 10 (by decide), f1 10 (by decide)]
        have vj : ∀ j, 2 ≤ j → v 10 j = s 10 j := fun j hj => by rw [hv, st2_j (by omega), q10, if_neg (by omega)]
        have vk : ∀ c, c ≠ 10 → c ≠ 18 → v c = s c := fun c c1 c2 => by rw [hv, st2_row c1, qf.1 c c2, hh, st2_row c1, gf.1 c c2, f1 c c2]
        have v18 : v 18 = q 18 := by rw [hv, st2_row (by decide)]
        have h18 : h 18 = g 18 := by rw [hh, st2_row (by decide)]
        have v18j : ∀ j, 8 < j → v 18 j = s 18 j := fun j hj => by rw [v18, qf.2 j (by omega) (by omega) (by omega), h18, gf.2 j (by omega) (by omega) (by omega), f2 j (by omega) (by omega)]
        have vD : DR v (rS W Hh) false false false := rS_DR (by omega) (by omega) (by rw [hv, st2_j (by decide), q10, if_pos rfl]) (by rw [hv, st2_same]) (by rw [vj 2 (by decide), vj 3 (by decide), vj 4 (by decide), vj 5 (by decide), vj 6 (by decide), vj 7 (by decide), vj 8 (by decide), vj 9 (by decide)]; exact h10) (fun j hj => by rw [vk 13 (by decide) (by decide)]; exact l3 j hj) (fun j hj => by rw [vk 14 (by decide) (by decide)]; exact l4 j hj) (fun j hj => by rw [vk 17 (by decide) (by decide)]; exact l7 j hj)
        have vI : CI s0 v B e b2 false false false false (rS W Hh) := ⟨qC.other fun c hc _ => by rw [hv, st2_row (by omega)], by rw [v18j 9 (by decide), v18j 10 (by decide)]; exact h9, by rw [v18j 11 (by decide), v18j 12 (by decide), v18j 13 (by decide), v18j 14 (by decide)]; exact hfl, vD, fun c hc => by rw [vk c (by omega) (by omega)]; exact hs0 c hc⟩
        have hZ : ∀ z, (∃ o y x, F x ∧ RT y B e b ∧ rfO y x ∧ RT o B e b2 ∧ rfO o (st2 y 351 0 (nI W)) ∧ z = st2 o 351 1 (nI Hh)) → RI t0 z B e b2 false false false false (rS W Hh) := by
          intro z ⟨o, y, x, hx, yT, yf, oT, of, hz⟩
          obtain ⟨xT, x14, x351, xf⟩ := hF x hx
          have zk : ∀ c, c ≠ 351 → z c = o c := fun c hc => by rw [hz, st2_row hc]
          have z351 : z 351 = rS W Hh := funext fun j => by
            unfold rS
            rw [hz]
            by_cases j1 : j = 1
            · rw [j1, st2_same, if_neg (by decide), if_pos rfl]
            · rw [st2_j j1, of.1 351 (by decide), if_neg j1]
              by_cases j0 : j = 0
              · rw [j0, st2_same, if_pos rfl]
              · rw [st2_j j0, yf.1 351 (by decide), x351, if_neg j0]
          have yS : rfS (st2 y 351 0 (nI W)) t0 := rfS.row (fun c hc => st2_row hc) (yf.P.B.S xf) fun j hj => by rw [st2_j (by omega)]; exact (yf.P.B.S xf).2.2 j hj
          refine ⟨oT.row zk, ?_, z351, rfS.row zk (of.P.B.S yS) fun j hj => by rw [z351]; exact vD.2.2.2.2.2.2.2.2 j hj⟩
          rw [zk 347 (by decide), of.2 14 (by decide), st2_row (by decide), yf.2 14 (by decide), x14]
          rfl
        exact b_end (a2 := b2) (F := fun z => RI t0 z B e b2 false false false false (rS W Hh)) vI.1 rfl (fun x hx => hx.1) (fun KR hK => HK2 KR fun o t ⟨y, x, hx, yT, yf, ht⟩ oT of => ⟨v1, fun z hz => hK z (hZ z ⟨o, y, x, hx, yT, yf, oT, ht ▸ of, hz⟩)⟩) (fun u' b' hb' uC' uf' HK' => ok u' b' W Hh (by omega) (vI.P uC' uf'.P) fun KR hK => HK' KR fun y x hx yT yf => hK y (hx.P yT yf.P)) fun u' f pl f0 u9 u10 uf' HK' => bad u' f pl f0 u9 u10 (fun c hc => by rw [uf' c (by omega)]; exact vI.2.2.2.2 c hc) fun KR hK => HK' KR fun y x hx yF yf => hK y yF (yf.B.S hx.2.2.2)
      · intro q f pl f0 q9 q10 qf HK2
        refine ⟨fun z => absurd rfl z, fun _ => bad q f pl f0 q9 q10 (fun c hc => by rw [qf c (by omega), hh, st2_row (by omega), gf.1 c (by omega), f1 c (by omega)]; exact hs0 c hc) fun KR hK => HK2 KR fun o t r ⟨y, x, hx, yT, yf, ht⟩ oF of => ?_⟩
        have tS : rfS t t0 := rfS.row (fun c hc => by rw [ht, st2_row hc]) (yf.P.B.S (hF x hx).2.2.2) fun j hj => by rw [ht, st2_j (by omega)]; exact (yf.P.B.S (hF x hx).2.2.2).2.2 j hj
        exact dead2 KR o f pl r oF (of.B.S tS) hK
    · intro g f pl f0 g9 g10 gf HK
      exact ⟨fun z => absurd rfl z, fun _ => bad g f pl f0 g9 g10 (fun c hc => by rw [gf c (by omega), f1 c (by omega)]; exact hs0 c hc) fun KR hK => HK KR fun o y r ⟨x, hx, yT, yf⟩ oF of => dead1 KR o f pl r oF (of.B.S (yf.P.B.S (hF x hx).2.2.2)) hK⟩
  · rw [u4]
    exact p_fail fun v v9 v10 vf _ => none hw v v9 v10 fun c hc => by rw [vf c hc, f1 c hc]
  · have := q.1
    have l : sLen.getD 1 0 = 3 := rfl
    omega
end
