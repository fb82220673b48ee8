/-! a text: its end -/
section
variable {S : (Int32 → Sg → Prop) → Prop} {Kc : Int32 → Sg → Prop} {s0 t0 : Sg} {B : Nat → Int32} {e : Nat} {v1 v1' : Int32}
def GoodH (S : (Int32 → Sg → Prop) → Prop) (Kc : Int32 → Sg → Prop) (s0 t0 : Sg) (B : Nat → Int32) (e : Nat) (v1 : Int32) : Prop := ∀ (u : Sg) (b : Nat) (w k : Bool) (ρ : Nat → Int32), CI s0 u B e b w true true k ρ → (∀ KR, (∀ x b', RI t0 x B e b' w true true k ρ → m_X5_text_j183 v1 KR x) → S KR) → Kc 0 u
def FaultH (S : (Int32 → Sg → Prop) → Prop) (Kc : Int32 → Sg → Prop) (s0 t0 : Sg) (B : Nat → Int32) (e : Nat) (v1 : Int32) : Prop := ∀ (u : Sg) (f : Int32) (pl : Nat), ¬ f = 0 → u 18 10 = nI pl → (∀ c, (c < 10 ∨ 19 ≤ c) → u c = s0 c) → (∀ KR, (∀ y, FT y B e f pl → rfS y t0 → m_X5_text_j183 v1 KR y) → S KR) → Kc f u
theorem p_j142D {f : Int32} {pl : Nat} {y : Sg} {KR : Int32 → Sg → Prop} (h : FT y B e f pl) (k : m_X5_text_j183 v1 KR y) : m_X5_text_j142 v1 KR y := p_fine0 h.no ⟨fun _ => k, fun z => absurd rfl z⟩
theorem b_j42 {s : Sg} {a m : Nat} {w d p k : Bool} {ρ : Nat → Int32} (hI : CI s0 s B e a w d p k ρ) (hend : e ≤ rn isBl B e a) (H : ∀ KR, (∀ x a2, rn isBl B e a2 = rn isBl B e a → RI t0 x B e a2 w d p k ρ → m_X5_text_l120 v1 KR (m + 1) x) → S KR) (good : GoodH S Kc s0 t0 B e v1) (flt : FaultH S Kc s0 t0 B e v1) : m_X2_readText_j42 v1' Kc 1 s := by
  obtain ⟨hC, h9, ⟨f11, f12, f13, f14⟩, hD, hs0⟩ := hI
  have hm := hD.1.2.2.2.1
  have e7 : (s 10 7).toInt = rI ρ 3 := congrArg _ hD.2.1.2.2.1.1
  have v3 : vp_in 3 1098 := by rw [ti_in]; decide
  have c3 : (3 : Int32).toNatClampNeg = 3 := by decide
  have bm : bat B e (rn isBl B e a) = -1 := by
    unfold bat
    rw [if_neg (by omega)]
  -- not all told
  have flt5 : (∀ (KR : Int32 → Sg → Prop) (x : Sg) (b : Nat), RI t0 x B e b w d p k ρ → (∀ y, FT y B e 5 e → rfS y t0 → m_X5_text_j183 v1 KR y) → m_X5_isTold 1 x (fun r151 s151 => ((r151 = 0 → m_X5_wrong 5 (s151 347 3) s151 (fun s180 => m_X5_text_j183 v1 KR s180)) ∧ (¬ (r151 = 0) → m_X5_isTold 2 s151 (fun r159 s159 => ((r159 = 0 → m_X5_wrong 5 (s159 347 3) s159 (fun s180 => m_X5_text_j183 v1 KR s180)) ∧ (¬ (r159 = 0) → (vp_in 3 1098 ∧ ((¬ (s159 351 (3 : Int32).toNatClampNeg) = 0 → m_X5_text_j183 v1 KR s159) ∧ ((s159 351 (3 : Int32).toNatClampNeg) = 0 → m_X5_wrong 5 (s159 347 3) s159 (fun s180 => m_X5_text_j183 v1 KR s180))))))))))) → m_X2_fail 5 (s 18 2) s (fun r76 s76 => Kc (s76 18 9) s76) := by
    intro hk
    rw [hC.1]
    refine p_fail fun v v9 v10 vf _ => ?_
    rw [v9]
    refine flt v 5 e (by decide) v10 (fun c hc => by rw [vf c (by omega)]; exact hs0 c hc) fun KR hK => H KR fun x a2 ha2 hx => ?_
    refine p_fine1 hx.1.2.1 ⟨fun g => absurd g one0, fun _ => p_hereT hx.1 fun y yT yf => ?_⟩
    rw [ha2, bm]
    exact ⟨fun _ => p_fine1 yT.2.1 ⟨fun g => absurd g one0, fun _ => hk KR y _ (hx.P yT yf.P) hK⟩, fun g => absurd rfl g⟩
  have wr : ∀ (KR : Int32 → Sg → Prop) (x : Sg) (b : Nat), RI t0 x B e b w d p k ρ → (∀ y, FT y B e 5 e → rfS y t0 → m_X5_text_j183 v1 KR y) → m_X5_wrong 5 (x 347 3) x (fun s180 => m_X5_text_j183 v1 KR s180) := fun KR x b hx hK => by
    rw [hx.1.1.1]
    exact p_wrong hx.1 (by decide) fun y yF yf => hK y yF (yf.B.S hx.2.2.2)
  refine ⟨fun z => absurd z one0, fun _ => ⟨fun z => flt5 fun KR x b hx hK => ?_, fun z => ⟨fun y => flt5 fun KR x b hx hK => ?_, fun y => ⟨fun g => ?_, fun g => flt5 fun KR x b hx hK => ?_⟩⟩⟩⟩
  · rw [f11] at z
    have hd := bi_0.mp z
    subst hd
    exact p_X5_isTold (b := false) (by rw [hx.2.1]; exact oc_1) (fun q => absurd q (by decide)) fun _ => ⟨fun _ => wr KR x b hx hK, fun q => absurd rfl q⟩
  · rw [f12] at y
    have hp := bi_0.mp y
    subst hp
    have hd : d = true := by
      cases d with
      | true => rfl
      | false => exact absurd (by rw [f11]; rfl) z
    subst hd
    exact p_X5_isTold (b := true) (by rw [hx.2.1]; exact oc_1) (fun _ => ⟨fun q => absurd q one0, fun _ => p_X5_isTold (b := false) (by rw [hx.2.1]; exact oc_2) (fun q => absurd q (by decide)) fun _ => ⟨fun _ => wr KR x b hx hK, fun q => absurd rfl q⟩⟩) fun q => absurd q (by decide)
  all_goals
    have hd : d = true := by
      cases d with
      | true => rfl
      | false => exact absurd (by rw [f11]; rfl) z
    have hp : p = true := by
      cases p with
      | true => rfl
      | false => exact absurd (by rw [f12]; rfl) y
    subst hd
    subst hp
    rw [ti_lt, d0, e7] at g
  · rw [h9.1]
    refine good s a w k ρ ⟨hC, h9, ⟨f11, f12, f13, f14⟩, hD, hs0⟩ fun KR hK => H KR fun x a2 ha2 hx => ?_
    refine p_fine1 hx.1.2.1 ⟨fun g => absurd g one0, fun _ => p_hereT hx.1 fun y yT yf => ?_⟩
    rw [ha2, bm]
    have yI := hx.P yT yf.P
    have n0 : ¬ y 351 3 = 0 := fun h => by
      rw [yI.2.2.1] at h
      unfold rI at g
      rw [h, d0] at g
      omega
    exact ⟨fun _ => p_fine1 yT.2.1 ⟨fun g => absurd g one0, fun _ => p_X5_isTold (b := true) (by rw [yI.2.1]; exact oc_1) (fun _ => ⟨fun q => absurd q one0, fun _ => p_X5_isTold (b := true) (by rw [yI.2.1]; exact oc_2) (fun _ => ⟨fun q => absurd q one0, fun _ => ⟨v3, fun _ => hK y _ yI, fun q => absurd q (by rw [c3]; exact n0)⟩⟩) fun q => absurd q (by decide)⟩) fun q => absurd q (by decide)⟩, fun g => absurd rfl g⟩
  · have n0 : x 351 3 = 0 := by
      rw [hx.2.2.1, ti_eq, d0]
      unfold rI at g hm
      omega
    exact p_X5_isTold (b := true) (by rw [hx.2.1]; exact oc_1) (fun _ => ⟨fun q => absurd q one0, fun _ => p_X5_isTold (b := true) (by rw [hx.2.1]; exact oc_2) (fun _ => ⟨fun q => absurd q one0, fun _ => ⟨v3, fun q => absurd n0 (by rw [c3] at q; exact q), fun _ => wr KR x b hx hK⟩⟩) fun q => absurd q (by decide)⟩) fun q => absurd q (by decide)
theorem b_loop (good : GoodH S Kc s0 t0 B e v1) (flt : FaultH S Kc s0 t0 B e v1) : ∀ m i : Nat, i + m = e → ∀ (s : Sg) (a : Nat) (w d p k : Bool) (ρ : Nat → Int32), i ≤ a → CI s0 s B e a w d p k ρ → (∀ KR, (∀ x, RI t0 x B e a w d p k ρ → m_X5_text_l120 v1 KR (m + 1) x) → S KR) → m_X2_readText_l12 v1' Kc (m + 1) 1 (nI i) s := by
  have again : ∀ {a m : Nat} {w d p k : Bool} {ρ : Nat → Int32} {b : Nat}, b = rn isBl B e a → (∀ KR, (∀ x, RI t0 x B e a w d p k ρ → m_X5_text_l120 v1 KR (m + 1) x) → S KR) → ∀ KR, (∀ x a2, rn isBl B e a2 = rn isBl B e b → RI t0 x B e a2 w d p k ρ → m_X5_text_l120 v1 KR (m + 1) x) → S KR := fun hb HK KR hK => HK KR fun x hx => hK x _ (by rw [hb, rn_idem]) hx
  intro m
  induction m with
  | zero =>
    intro i hi s a w d p k ρ hia hI HK
    have ha := hI.1.2.2.1
    have he := hI.1.2.2.2.1
    have hae : a = e := by omega
    have hsk : rn isBl B e a = a := rn_stop (Or.inl (by omega))
    refine ⟨fun _ => b_j42 (m := 0) hI (by omega) (again hsk.symm HK) good flt, fun z => ?_⟩
    rw [hI.1.1, ti_le, nI_toInt (by omega), nI_toInt (by omega)] at z
    omega
  | succ m ih =>
    intro i hi s a w d p k ρ hia hI HK
    have ha := hI.1.2.2.1
    have he := hI.1.2.2.2.1
    have hge : a ≤ rn isBl B e a := rn_ge
    refine ⟨fun z => ?_, fun _ => ⟨fun z => absurd z one0, fun _ => p_skip hI.1 fun u uC u1 u2 => ?_⟩⟩
    · rw [hI.1.1, ti_le, nI_toInt (by omega), nI_toInt (by omega)] at z
      omega
    · have uI : CI s0 u B e (rn isBl B e a) w d p k ρ := hI.P uC ⟨u1, fun j hj => u2 j (by omega)⟩
      have hle := uC.2.2.1
      refine ⟨fun z => ⟨fun _ => ?_, fun g => absurd rfl g⟩, fun z => ⟨fun g => absurd g one0, fun _ => ?_⟩⟩
      · rw [uC.1, uC.2.1, ti_le, nI_toInt (by omega), nI_toInt (by omega)] at z
        exact b_j42 (m := m + 1) uI (by rw [rn_idem]; omega) (again rfl HK) good flt
      · rw [uC.1, uC.2.1, ti_le, nI_toInt (by omega), nI_toInt (by omega)] at z
        have bn : ¬ bat B e (rn isBl B e a) = -1 := fun h => by
          have hb := uC.2.2.2.2.2 (rn isBl B e a) (by omega)
          unfold bat at h
          rw [if_pos (by omega)] at h
          rw [h, dm1] at hb
          omega
        refine b_sentence (κ := Int32 → Sg → Prop) (S := S) (F := fun x => RI t0 x B e (rn isBl B e a) w d p k ρ) (Kr := fun KR s => m_X5_text_l120 v1 KR (m + 1) s) uI rfl (fun x hx => hx) (fun KR hK => HK KR fun x hx => p_fine1 hx.1.2.1 ⟨fun g => absurd g one0, fun _ => p_hereT hx.1 fun y yT yf => ⟨fun g => absurd g bn, fun _ => hK y (hx.P yT yf.P)⟩⟩) ?_ ?_
        · intro v b w' d' p' k' ρ' hab vI HK'
          rw [← nI_succ]
          exact ih (i + 1) (by omega) v b w' d' p' k' ρ' (by omega) vI HK'
        · intro v f pl f0 v9 v10 vf HK'
          have fin : m_X2_readText_j42 v1' Kc 0 v := ⟨fun _ => by
            rw [v9]
            exact flt v f pl f0 v10 vf fun KR hK => HK' KR fun y yF yf => p_fine0 yF.no ⟨fun _ => p_j142D yF (hK y yF yf), fun g => absurd rfl g⟩, fun g => absurd rfl g⟩
          exact ⟨fun _ => fin, fun _ => ⟨fun _ => fin, fun g => absurd rfl g⟩⟩
end
