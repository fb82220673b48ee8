/-! told -/
def sm (f : Nat → Int32) : Nat → Int32
  | 0 => 0
  | n + 1 => sm f n + f n
theorem sm_app (f : Nat → Int32) (a : Nat) : ∀ b, sm f (a + b) = sm f a + sm (fun i => f (a + i)) b
  | 0 => by
    show sm f a = sm f a + 0
    rw [Int32.add_zero]
  | b + 1 => by
    show sm f (a + b) + f (a + b) = sm f a + (sm (fun i => f (a + i)) b + f (a + b))
    rw [sm_app f a b, Int32.add_assoc]
theorem sm_0 {f : Nat → Int32} : ∀ n, (∀ i, i < n → f i = 0) → sm f n = 0
  | 0, _ => rfl
  | n + 1, h => by
    show sm f n + f n = 0
    rw [sm_0 n (fun i hi => h i (by omega)), h n (by omega)]
    decide
theorem sm_eq {f g : Nat → Int32} : ∀ n, (∀ i, i < n → f i = g i) → sm f n = sm g n
  | 0, _ => rfl
  | n + 1, h => by
    show sm f n + f n = sm g n + g n
    rw [sm_eq n (fun i hi => h i (by omega)), h n (by omega)]
theorem sm_rows (f g : Nat → Int32) (W V : Nat) (hWV : W ≤ V) : ∀ H, (∀ y, y < H → ∀ x, x < W → f (W * y + x) = g (V * y + x)) → (∀ y, y < H → ∀ x, W ≤ x → x < V → g (V * y + x) = 0) → sm f (W * H) = sm g (V * H)
  | 0, _, _ => rfl
  | H + 1, h1, h2 => by
    have e1 : sm (fun i => g (V * H + i)) V = sm (fun i => f (W * H + i)) W := by
      rw [show V = W + (V - W) by omega, sm_app _ W (V - W), ← show V = W + (V - W) by omega]
      rw [sm_0 (f := fun i => g (V * H + (W + i))) (V - W) (fun i hi => h2 H (by omega) (W + i) (by omega) (by omega)), Int32.add_zero]
      exact sm_eq W (fun i hi => (h1 H (by omega) i hi).symm)
    rw [Nat.mul_succ, Nat.mul_succ, sm_app f (W * H) W, sm_app g (V * H) V, e1, sm_rows f g W V hWV H (fun y hy => h1 y (by omega)) (fun y hy => h2 y (by omega))]
theorem land_sum {σ : Sg} {w : Nat} {ρ : Nat → Int32} (hq : okQ ρ) (hw : Rw σ w ρ) : sm (fun j => σ (w + 3) j) 240 = sm (fun j => ρ (609 + j)) 240 := by
  have hr := hq.1
  have a := hr.1
  have b := hr.2.1
  obtain ⟨W, hW⟩ : ∃ W : Nat, rI ρ 0 = W := ⟨(rI ρ 0).toNat, by omega⟩
  obtain ⟨H, hH⟩ : ∃ H : Nat, rI ρ 1 = H := ⟨(rI ρ 1).toNat, by omega⟩
  have hWH : W * H ≤ 240 := Nat.le_trans (Nat.mul_le_mul (show W ≤ 20 by omega) (show H ≤ 12 by omega)) (by decide)
  have e1 : sm (fun j => σ (w + 3) j) 240 = sm (fun j => σ (w + 3) j) (W * H) := by
    rw [show 240 = W * H + (240 - W * H) by omega, sm_app, sm_0 (240 - W * H) (fun i hi => ?_), Int32.add_zero]
    refine hw.2.2.2.2.2.1 _ ?_ (by omega)
    rw [hW, hH]
    have : ((W * H : Nat) : Int) = (W : Int) * H := by push_cast; rfl
    omega
  have e2 : sm (fun j => ρ (609 + j)) 240 = sm (fun j => ρ (609 + j)) (20 * H) := by
    rw [show 240 = 20 * H + (240 - 20 * H) by omega, sm_app, sm_0 (240 - 20 * H) (fun i hi => ?_), Int32.add_zero]
    have g := hq.2.2.2.2 (((20 * H + i) % 20 : Nat), ((20 * H + i) / 20 : Nat)) (by unfold isP; simp only; omega) (by
      cases ho : onS ρ (((20 * H + i) % 20 : Nat)) (((20 * H + i) / 20 : Nat)) with
      | false => rfl
      | true =>
        have := onS_iff.mp ho
        omega)
    simp only at g
    rw [show 609 + (20 * (((20 * H + i) / 20 : Nat) : Int) + (((20 * H + i) % 20 : Nat) : Int)).toNat = 609 + (20 * H + i) by omega] at g
    exact g
  rw [e1, e2]
  refine sm_rows _ _ W 20 (by omega) H (fun y hy x hx => ?_) (fun y hy x h1 h2 => ?_)
  · have ho : onS ρ (x : Int) (y : Int) = true := onS_iff.mpr (by omega)
    have g := (hw.2.2.2.2.1 _ _ ho).1
    rw [hW] at g
    rw [show ((W : Int) * (y : Int) + (x : Int)).toNat = W * y + x by
      have : ((W * y : Nat) : Int) = (W : Int) * y := by push_cast; rfl
      omega, show 609 + (20 * (y : Int) + (x : Int)).toNat = 609 + (20 * y + x) by omega] at g
    exact g
  · have g := hq.2.2.2.2 ((x : Int), (y : Int)) (by unfold isP; simp only; omega) (by
      cases ho : onS ρ (x : Int) (y : Int) with
      | false => rfl
      | true =>
        have := onS_iff.mp ho
        omega)
    simp only at g
    rw [show 609 + (20 * (y : Int) + (x : Int)).toNat = 609 + (20 * y + x) by omega] at g
    exact g
theorem p_countLand {w : Nat} {σ : Sg} {K : Int32 → Sg → Prop} (h : K (sm (fun j => σ (w + 3) j) 240) σ) : m_X3_countLand w σ K := by
  have key : ∀ k i : Nat, i + k = 240 → m_X3_countLand_l4 w K (k + 1) (sm (fun j => σ (w + 3) j) i) (nI i) σ := by
    intro k
    induction k with
    | zero =>
      intro i hi
      have : i = 240 := by omega
      subst this
      exact ⟨fun _ => h, fun z => absurd (by decide) z⟩
    | succ k ih =>
      intro i hi
      have ei := nI_toInt (n := i) (by omega)
      refine ⟨fun z => ?_, fun _ => ⟨by rw [ti_in, ei]; omega, fun a ha => ?_⟩⟩
      · rw [ti_le, ti_cn (by decide), ei] at z
        omega
      · rw [nI_clamp (by omega)] at ha
        rw [ha, ← nI_succ]
        exact ih (i + 1) (by omega)
  exact ⟨241, key 240 0 (by decide)⟩
