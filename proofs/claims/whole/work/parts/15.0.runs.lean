/-! a text: runs of bytes -/
def isBl (b : Int32) : Bool := decide (b = 32)
def isLt (b : Int32) : Bool := decide (97 ≤ b.toInt) && decide (b.toInt ≤ 122)
def isDg (b : Int32) : Bool := decide (48 ≤ b.toInt) && decide (b.toInt ≤ 57)
theorem isBl_iff {b : Int32} : isBl b = true ↔ b = 32 := decide_eq_true_iff
theorem isLt_iff {b : Int32} : isLt b = true ↔ 97 ≤ b.toInt ∧ b.toInt ≤ 122 := by
  unfold isLt
  simp only [Bool.and_eq_true, decide_eq_true_eq]
theorem isDg_iff {b : Int32} : isDg b = true ↔ 48 ≤ b.toInt ∧ b.toInt ≤ 57 := by
  unfold isDg
  simp only [Bool.and_eq_true, decide_eq_true_eq]
def rnf (P : Int32 → Bool) (B : Nat → Int32) : Nat → Nat → Nat
  | 0, i => i
  | m + 1, i => if P (B i) = true then rnf P B m (i + 1) else i
/-- behind the run of such bytes -/
def rn (P : Int32 → Bool) (B : Nat → Int32) (e i : Nat) : Nat := rnf P B (e - i) i
section
variable {P : Int32 → Bool} {B : Nat → Int32} {e i : Nat}
theorem rn_stop (h : e ≤ i ∨ ¬ P (B i) = true) : rn P B e i = i := by
  unfold rn
  cases hm : e - i with
  | zero => rfl
  | succ m =>
    unfold rnf
    rw [if_neg]
    rcases h with h | h
    · omega
    · exact h
theorem rn_go (h : i < e) (hp : P (B i) = true) : rn P B e i = rn P B e (i + 1) := by
  unfold rn
  rw [show e - i = (e - (i + 1)) + 1 by omega]
  show (if P (B i) = true then _ else _) = _
  rw [if_pos hp]
theorem rn_ind : ∀ m i, e - i = m → (i ≤ rn P B e i ∧ (i ≤ e → rn P B e i ≤ e) ∧ (∀ j, i ≤ j → j < rn P B e i → P (B j) = true ∧ j < e) ∧ (rn P B e i < e → ¬ P (B (rn P B e i)) = true)) := by
  intro m
  induction m with
  | zero =>
    intro i hi
    have := rn_stop (P := P) (B := B) (e := e) (i := i) (Or.inl (by omega))
    rw [this]
    exact ⟨Nat.le_refl _, id, fun j h1 h2 => by omega, fun h => by omega⟩
  | succ m ih =>
    intro i hi
    by_cases z : P (B i) = true
    · rw [rn_go (by omega) z]
      obtain ⟨a, b, c, d⟩ := ih (i + 1) (by omega)
      refine ⟨by omega, fun _ => b (by omega), fun j h1 h2 => ?_, d⟩
      by_cases y : j = i
      · rw [y]
        exact ⟨z, by omega⟩
      · exact c j (by omega) h2
    · rw [rn_stop (Or.inr z)]
      exact ⟨Nat.le_refl _, id, fun j h1 h2 => by omega, fun _ => z⟩
theorem rn_ge : i ≤ rn P B e i := (rn_ind _ i rfl).1
theorem rn_le (h : i ≤ e) : rn P B e i ≤ e := (rn_ind _ i rfl).2.1 h
theorem rn_in {j : Nat} (h1 : i ≤ j) (h2 : j < rn P B e i) : P (B j) = true ∧ j < e := (rn_ind _ i rfl).2.2.1 j h1 h2
theorem rn_end (h : rn P B e i < e) : ¬ P (B (rn P B e i)) = true := (rn_ind _ i rfl).2.2.2 h
theorem rn_is : ∀ m i j, j = i + m → (∀ x, i ≤ x → x < j → x < e ∧ P (B x) = true) → (e ≤ j ∨ ¬ P (B j) = true) → rn P B e i = j := by
  intro m
  induction m with
  | zero =>
    intro i j hj _ h
    have : j = i := by omega
    subst this
    exact rn_stop h
  | succ m ih =>
    intro i j hj h1 h2
    obtain ⟨a, b⟩ := h1 i (Nat.le_refl _) (by omega)
    rw [rn_go a b]
    exact ih (i + 1) j (by omega) (fun x hx hx2 => h1 x (by omega) hx2) h2
end
def bat (B : Nat → Int32) (e i : Nat) : Int32 := if i < e then B i else -1
/-- a word of the program stands there -/
def wd (B : Nat → Int32) (e v i : Nat) : Prop := rn isLt B e i = i + sLen.getD v 0 ∧ ∀ x, x < sLen.getD v 0 → B (i + x) = (sByt.getD v []).getD x 0
theorem sLen_b : ∀ v, v < 37 → sLen.getD v 0 ≤ 24 := by decide
def nvf (B : Nat → Int32) : Nat → Nat → Nat → Nat
  | 0, _, v => v
  | m + 1, i, v => nvf B m (i + 1) (if 1000 < 10 * v + ((B i).toInt.toNat - 48) then 1000 else 10 * v + ((B i).toInt.toNat - 48))
/-- the number that digits from i to j say; 1000 for all above 999 -/
def nv (B : Nat → Int32) (i j : Nat) : Nat := nvf B (j - i) i 0
theorem nvf_le (B : Nat → Int32) : ∀ m i v, v ≤ 1000 → nvf B m i v ≤ 1000
  | 0, _, _, h => h
  | m + 1, i, v, h => nvf_le B m (i + 1) _ (by split <;> omega)
/-! the class's -/
def CT (s : Sg) (B : Nat → Int32) (e a : Nat) : Prop := s 18 2 = nI e ∧ s 18 3 = nI a ∧ a ≤ e ∧ e ≤ 400 ∧ (∀ j, j < 400 → s 1 j = B j) ∧ ∀ j, j < 400 → 0 ≤ (B j).toInt ∧ (B j).toInt ≤ 255
section
variable {s : Sg} {B : Nat → Int32} {e a : Nat}
theorem CT.mv {u : Sg} {b : Nat} (h : CT s B e a) (h1 : ∀ k, k ≠ 18 → u k = s k) (h2 : u 18 2 = s 18 2) (h3 : u 18 3 = nI b) (hb : b ≤ e) : CT u B e b := by
  obtain ⟨a1, a2, a3, a4, a5, a6⟩ := h
  exact ⟨h2.trans a1, h3, hb, a4, fun j hj => by rw [h1 1 (by decide)]; exact a5 j hj, a6⟩
theorem p_X2_byteAt {i : Nat} {K : Int32 → Sg → Prop} (h : CT s B e a) (hi : i < 1000) (k : K (bat B e i) s) : m_X2_byteAt (nI i) s K := by
  obtain ⟨a1, a2, a3, a4, a5, a6⟩ := h
  have ei := nI_toInt (n := i) (by omega)
  have ee := nI_toInt (n := e) (by omega)
  unfold bat at k
  unfold m_X2_byteAt
  rw [a1]
  refine ⟨fun z => ?_, fun _ => ⟨fun z => ?_, fun z => ⟨fun y => ?_, fun y => ⟨by rw [ti_in, ei]; rw [ti_le, ti_cn (by decide), ei] at y; omega, ?_⟩⟩⟩⟩
  · rw [ti_lt, d0, ei] at z
    exfalso
    omega
  · rw [ti_le, ei, ee] at z
    rwa [if_neg (by omega)] at k
  · rw [ti_le, ei, ee] at z
    rw [ti_le, ti_cn (by decide), ei] at y
    omega
  · rw [ti_le, ei, ee] at z
    rw [nI_clamp (by omega), a5 i (by omega)]
    rwa [if_pos (by omega)] at k
theorem p_skip {K : Sg → Prop} (h : CT s B e a) (k : ∀ u, CT u B e (rn isBl B e a) → (∀ c, c ≠ 18 → u c = s c) → (∀ j, j ≠ 3 → u 18 j = s 18 j) → K u) : m_X2_skipBlanks s K := by
  have key : ∀ m x : Nat, x + m = e → ∀ u : Sg, CT u B e x → rn isBl B e a = rn isBl B e x → (∀ c, c ≠ 18 → u c = s c) → (∀ j, j ≠ 3 → u 18 j = s 18 j) → m_X2_skipBlanks_l0 K (m + 1) u := by
    intro m
    induction m with
    | zero =>
      intro x hx u uC ur u1 u2
      have : x = e := by omega
      subst this
      rw [rn_stop (Or.inl (Nat.le_refl _))] at ur
      rw [ur] at k
      have uC' := uC
      obtain ⟨b1, b2, b3, b4, -⟩ := uC
      refine ⟨fun _ => k u uC' u1 u2, fun _ => ⟨fun _ => k u uC' u1 u2, fun z => ?_⟩⟩
      rw [b1, b2, ti_le] at z
      exfalso
      omega
    | succ m ih =>
      intro x hx u uC ur u1 u2
      have uC' := uC
      obtain ⟨b1, b2, b3, b4, b5, b6⟩ := uC
      have ex := nI_toInt (n := x) (by omega)
      have ee := nI_toInt (n := e) (by omega)
      unfold m_X2_skipBlanks_l0
      rw [b1, b2]
      refine ⟨fun z => ?_, fun _ => ⟨fun z => ?_, fun _ => ⟨fun z => ?_, fun _ => ⟨nI_in (by omega) (by decide), fun z => ?_, fun z t ht => ?_⟩⟩⟩⟩
      · rw [ti_lt, d0, ex] at z
        exfalso
        omega
      · rw [ti_le, ex, ee] at z
        omega
      · rw [ti_le, ti_cn (by decide), ex] at z
        omega
      · rw [nI_clamp (by omega), b5 x (by omega)] at z
        rw [rn_stop (Or.inr (fun q => z (isBl_iff.mp q)))] at ur
        rw [ur] at k
        exact k u uC' u1 u2
      · rw [nI_clamp (by omega), b5 x (by omega)] at z
        rw [← nI_succ] at ht
        refine ih (x + 1) (by omega) t (uC'.mv (fun c hc => by rw [ht, st2_row hc]) (by rw [ht, st2_j (by decide)]) (by rw [ht, st2_same]) (by omega)) (ur.trans (rn_go (by omega) (isBl_iff.mpr z))) (fun c hc => by rw [ht, st2_row hc]; exact u1 c hc) (fun j hj => by rw [ht, st2_j hj]; exact u2 j hj)
  have ha := h.2.2.1
  exact ⟨e - a + 1, key (e - a) a (by omega) s h rfl (fun _ _ => rfl) (fun _ _ => rfl)⟩
theorem d97 : (97 : Int32).toInt = 97 := by decide
theorem d122 : (122 : Int32).toInt = 122 := by decide
theorem p_fail {v w : Int32} {K : Int32 → Sg → Prop} (k : ∀ u : Sg, u 18 9 = v → u 18 10 = w → (∀ c, c ≠ 18 → u c = s c) → (∀ j, j ≠ 9 → j ≠ 10 → u 18 j = s 18 j) → K 0 u) : m_X2_fail v w s K := by
  intro x hx y hy
  exact k y (by rw [hy, st2_j (by decide), hx, st2_same]) (by rw [hy, st2_same]) (fun c hc => by rw [hy, st2_row hc, hx, st2_row hc]) (fun j j1 j2 => by rw [hy, st2_j j2, hx, st2_j j1])
theorem p_readWord {K : Int32 → Sg → Prop} (h : CT s B e a) (k1 : rn isBl B e a < rn isLt B e (rn isBl B e a) → ∀ u, CT u B e (rn isLt B e (rn isBl B e a)) → u 18 4 = nI (rn isBl B e a) → (∀ c, c ≠ 18 → u c = s c) → (∀ j, j ≠ 3 → j ≠ 4 → u 18 j = s 18 j) → K 1 u)
    (k2 : rn isLt B e (rn isBl B e a) = rn isBl B e a → ∀ u : Sg, u 18 9 = 1 → u 18 10 = nI (rn isBl B e a) → (∀ c, c ≠ 18 → u c = s c) → K 0 u) : m_X2_readWord s K := by
  refine p_skip h fun v vC v1 v2 w hw => ?_
  generalize hI : rn isBl B e a = i at k1 k2 vC
  have wC : CT w B e i := vC.mv (fun c hc => by rw [hw, st2_row hc]) (by rw [hw, st2_j (by decide)]) (by rw [hw, st2_j (by decide)]; exact vC.2.1) vC.2.2.1
  have w4 : w 18 4 = nI i := by rw [hw, st2_same]; exact vC.2.1
  have hi := vC.2.2.1
  have he := vC.2.2.2.1
  have w1 : ∀ c, c ≠ 18 → w c = s c := fun c hc => by rw [hw, st2_row hc, v1 c hc]
  have w2 : ∀ j, j ≠ 3 → j ≠ 4 → w 18 j = s 18 j := fun j j1 j2 => by rw [hw, st2_j j2, v2 j j1]
  have ee := nI_toInt (n := e) (by omega)
  have ei := nI_toInt (n := i) (by omega)
  have stop : ∀ x : Nat, rn isLt B e i = x → ∀ u : Sg, CT u B e x → i ≤ x → u 18 4 = nI i → (∀ c, c ≠ 18 → u c = s c) → (∀ j, j ≠ 3 → j ≠ 4 → u 18 j = s 18 j) → m_X2_readWord_j54 K u := by
    intro x ur u uC hix u4 u1 u2
    rw [ur] at k1 k2
    have hx := uC.2.2.1
    have ex := nI_toInt (n := x) (by omega)
    unfold m_X2_readWord_j54
    rw [u4, uC.2.1]
    refine ⟨fun z => ?_, fun z => p_fail fun b b1 b2 b3 _ => ⟨fun _ => ?_, fun y => absurd rfl y⟩⟩
    · rw [ti_lt, ei, ex] at z
      exact k1 (by omega) u uC u4 u1 u2
    · rw [ti_lt, ei, ex] at z
      exact k2 (by omega) b b1 b2 (fun c hc => by rw [b3 c hc, u1 c hc])
  have key : ∀ m x : Nat, x + m = e → i ≤ x → ∀ u : Sg, CT u B e x → u 18 4 = nI i → rn isLt B e i = rn isLt B e x → (∀ c, c ≠ 18 → u c = s c) → (∀ j, j ≠ 3 → j ≠ 4 → u 18 j = s 18 j) → m_X2_readWord_l12 K (m + 1) u := by
    intro m
    induction m with
    | zero =>
      intro x hx hix u uC u4 ur u1 u2
      have ex := nI_toInt (n := x) (by omega)
      unfold m_X2_readWord_l12
      rw [uC.1, uC.2.1]
      refine ⟨fun _ => stop x (ur.trans (rn_stop (Or.inl (by omega)))) u uC hix u4 u1 u2, fun z => absurd ?_ z⟩
      rw [ti_le, ee, ex]
      omega
    | succ m ih =>
      intro x hx hix u uC u4 ur u1 u2
      have ex := nI_toInt (n := x) (by omega)
      unfold m_X2_readWord_l12
      rw [uC.1, uC.2.1]
      refine ⟨fun z => ?_, fun _ => p_X2_byteAt uC (by omega) (p_X4_isIn ?_)⟩
      · rw [ti_le, ee, ex] at z
        omega
      have eb : bat B e x = B x := by
        unfold bat
        rw [if_pos (by omega)]
      rw [eb, d97, d122]
      by_cases z : isLt (B x) = true
      · rw [if_pos (isLt_iff.mp z)]
        refine ⟨fun y => absurd y one0, fun _ t ht => ?_⟩
        rw [uC.2.1, ← nI_succ] at ht
        exact ih (x + 1) (by omega) (by omega) t (uC.mv (fun c hc => by rw [ht, st2_row hc]) (by rw [ht, st2_j (by decide)]) (by rw [ht, st2_same]) (by omega)) (by rw [ht, st2_j (by decide)]; exact u4) (ur.trans (rn_go (by omega) z)) (fun c hc => by rw [ht, st2_row hc]; exact u1 c hc) (fun j j1 j2 => by rw [ht, st2_j j1]; exact u2 j j1 j2)
      · rw [if_neg (fun y => z (isLt_iff.mpr y))]
        exact ⟨fun _ => stop x (ur.trans (rn_stop (Or.inr z))) u uC hix u4 u1 u2, fun y => absurd rfl y⟩
  exact ⟨e - i + 1, key (e - i) i (by omega) (Nat.le_refl _) w wC w4 rfl w1 w2⟩
theorem p_isWord {v i : Nat} {K : Int32 → Sg → Prop} (h : CT s B e a) (h4 : s 18 4 = nI i) (hi : i ≤ a) (ha : rn isLt B e i = a) (hv : v < 37) (k1 : wd B e v i → K 1 s) (k0 : ¬ wd B e v i → K 0 s) : m_X2_isWord v s K := by
  obtain ⟨b1, b2, b3, b4, b5, b6⟩ := h
  have hl := sLen_b v hv
  have ei := nI_toInt (n := i) (by omega)
  have ea := nI_toInt (n := a) (by omega)
  unfold wd at k1 k0
  rw [ha] at k1 k0
  generalize hL : sLen.getD v 0 = L at hl k1 k0
  have eL := ti_cn (n := L) (by omega)
  have es : (nI a - nI i).toInt = (a : Int) - i := by rw [ti_sub (by rw [ea, ei]; omega) (by rw [ea, ei]; omega), ea, ei]
  unfold m_X2_isWord
  rw [hL, b2, h4]
  refine ⟨fun z => ⟨L + 1, ?_⟩, fun z => k0 fun y => z ?_⟩
  · rw [ti_eq, eL, es] at z
    have key : ∀ m x : Nat, x + m = L → (∀ y, y < x → B (i + y) = (sByt.getD v []).getD y 0) → m_X2_isWord_l20 v K (m + 1) (nI x) s := by
      intro m
      induction m with
      | zero =>
        intro x hx h1
        have ex := nI_toInt (n := x) (by omega)
        unfold m_X2_isWord_l20
        rw [hL]
        refine ⟨fun _ => k1 ⟨by omega, fun y hy => h1 y (by omega)⟩, fun y => ?_⟩
        rw [ti_le, eL, ex] at y
        exfalso
        omega
      | succ m ih =>
        intro x hx h1
        have ex := nI_toInt (n := x) (by omega)
        have e1 : (nI i + nI x).toInt = (i : Int) + x := by rw [ti_add (by rw [ei, ex]; omega) (by rw [ei, ex]; omega), ei, ex]
        unfold m_X2_isWord_l20
        rw [hL, h4]
        refine ⟨fun y => ?_, fun _ q hq => ?_⟩
        · rw [ti_le, eL, ex] at y
          exfalso
          omega
        subst hq
        refine ⟨fun y => ?_, fun _ => ⟨fun y => ?_, fun _ => ⟨by rw [ti_in, e1]; omega, nI_in (by omega) (by omega), fun y => ?_, fun y => ?_⟩⟩⟩
        · rw [ti_lt, d0, e1] at y
          exfalso
          omega
        · rw [ti_le, ti_cn (by decide), e1] at y
          omega
        · rw [ti_c, e1, nI_clamp (by omega), show ((i : Int) + x).toNat = i + x by omega, b5 _ (by omega)] at y
          rw [← nI_succ]
          refine ih (x + 1) (by omega) fun y' hy' => ?_
          by_cases e : y' = x
          · rw [e]
            exact y
          · exact h1 y' (by omega)
        · rw [ti_c, e1, nI_clamp (by omega), show ((i : Int) + x).toNat = i + x by omega, b5 _ (by omega)] at y
          exact k0 fun q => y (q.2 x (by omega))
    exact key L 0 (by omega) fun y hy => absurd hy (Nat.not_lt_zero _)
  · rw [ti_eq, eL, es]
    omega
theorem nv_step {v : Nat} {b : Int32} (hv : v ≤ 1000) (hb : 48 ≤ b.toInt ∧ b.toInt ≤ 57) : (nI v * 10 + b - 48).toInt = 10 * v + (b.toInt - 48) := by
  have ev := nI_toInt (n := v) (by omega)
  have d10 : (10 : Int32).toInt = 10 := by decide
  have d48 : (48 : Int32).toInt = 48 := by decide
  have e1 : (nI v * 10).toInt = v * 10 := by rw [ti_mul (by rw [ev, d10]; omega) (by rw [ev, d10]; omega), ev, d10]
  have e2 : (nI v * 10 + b).toInt = v * 10 + b.toInt := by rw [ti_add (by rw [e1]; omega) (by rw [e1]; omega), e1]
  rw [ti_sub (by rw [e2, d48]; omega) (by rw [e2, d48]; omega), e2, d48]
  omega
theorem p_readNumber {lo hi : Int32} {K : Int32 → Sg → Prop} (h : CT s B e a)
    (k1 : rn isBl B e a < rn isDg B e (rn isBl B e a) → lo.toInt ≤ nv B (rn isBl B e a) (rn isDg B e (rn isBl B e a)) → (nv B (rn isBl B e a) (rn isDg B e (rn isBl B e a)) : Int) ≤ hi.toInt → ∀ u, CT u B e (rn isDg B e (rn isBl B e a)) → u 18 4 = nI (rn isBl B e a) → u 18 5 = nI (nv B (rn isBl B e a) (rn isDg B e (rn isBl B e a))) → (∀ c, c ≠ 18 → u c = s c) → (∀ j, j ≠ 3 → j ≠ 4 → j ≠ 5 → u 18 j = s 18 j) → K 1 u)
    (k2 : rn isDg B e (rn isBl B e a) = rn isBl B e a → ∀ u : Sg, u 18 9 = 1 → u 18 10 = nI (rn isBl B e a) → (∀ c, c ≠ 18 → u c = s c) → K 0 u)
    (k3 : rn isBl B e a < rn isDg B e (rn isBl B e a) → ¬ (lo.toInt ≤ nv B (rn isBl B e a) (rn isDg B e (rn isBl B e a)) ∧ (nv B (rn isBl B e a) (rn isDg B e (rn isBl B e a)) : Int) ≤ hi.toInt) → ∀ u : Sg, u 18 9 = 2 → u 18 10 = nI (rn isBl B e a) → (∀ c, c ≠ 18 → u c = s c) → K 0 u) : m_X2_readNumber lo hi s K := by
  refine p_skip h fun v vC v1 v2 w hw w' hw' => ?_
  generalize hI : rn isBl B e a = i at k1 k2 k3 vC
  generalize hJ : rn isDg B e i = j at k1 k2 k3
  have wC : CT w' B e i := vC.mv (fun c hc => by rw [hw', st2_row hc, hw, st2_row hc]) (by rw [hw', st2_j (by decide), hw, st2_j (by decide)]) (by rw [hw', st2_j (by decide), hw, st2_j (by decide)]; exact vC.2.1) vC.2.2.1
  have w4 : w' 18 4 = nI i := by rw [hw', st2_j (by decide), hw, st2_same]; exact vC.2.1
  have w5 : w' 18 5 = nI 0 := by rw [hw', st2_same]; rfl
  have hi' := vC.2.2.1
  have he := vC.2.2.2.1
  have hje : j ≤ e := by rw [← hJ]; exact rn_le hi'
  have hij : i ≤ j := by rw [← hJ]; exact rn_ge
  have w1 : ∀ c, c ≠ 18 → w' c = s c := fun c hc => by rw [hw', st2_row hc, hw, st2_row hc, v1 c hc]
  have w2 : ∀ j, j ≠ 3 → j ≠ 4 → j ≠ 5 → w' 18 j = s 18 j := fun j j1 j2 j3 => by rw [hw', st2_j j3, hw, st2_j j2, v2 j j1]
  have d48 : (48 : Int32).toInt = 48 := by decide
  have d57 : (57 : Int32).toInt = 57 := by decide
  have d1000 : (1000 : Int32).toInt = 1000 := by decide
  have ee := nI_toInt (n := e) (by omega)
  have ei := nI_toInt (n := i) (by omega)
  have ej := nI_toInt (n := j) (by omega)
  have stop : ∀ u : Sg, CT u B e j → u 18 4 = nI i → u 18 5 = nI (nv B i j) → (∀ c, c ≠ 18 → u c = s c) → (∀ j, j ≠ 3 → j ≠ 4 → j ≠ 5 → u 18 j = s 18 j) → m_X2_readNumber_j88 lo hi K u := by
    intro u uC u4 u5 u1 u2
    have en := nI_toInt (n := nv B i j) (Nat.lt_of_le_of_lt (nvf_le B _ _ _ (Nat.zero_le _)) (by decide))
    unfold m_X2_readNumber_j88
    rw [uC.2.1, u4, u5]
    refine ⟨fun z => p_X4_isIn ?_, fun z => p_fail fun b b1 b2 b3 _ => ?_⟩
    · have hne : i < j := by
        have : i ≠ j := fun e => z (by rw [e])
        omega
      rw [en]
      by_cases g : lo.toInt ≤ nv B i j ∧ (nv B i j : Int) ≤ hi.toInt
      · rw [if_pos g]
        exact ⟨fun _ => k1 hne g.1 g.2 u uC u4 u5 u1 u2, fun y => absurd y one0⟩
      · rw [if_neg g]
        refine ⟨fun y => absurd rfl y, fun _ => ?_⟩
        rw [u4]
        exact p_fail fun b b1 b2 b3 _ => ⟨fun _ => k3 hne g b b1 b2 (fun c hc => by rw [b3 c hc, u1 c hc]), fun y => absurd rfl y⟩
    · rw [ti_eq, ej, ei] at z
      exact k2 (by omega) b b1 b2 (fun c hc => by rw [b3 c hc, u1 c hc])
  have key : ∀ m x : Nat, x + m = j → i ≤ x → ∀ (q : Nat) (u : Sg), q ≤ 1000 → nvf B (j - x) x q = nv B i j → CT u B e x → u 18 4 = nI i → u 18 5 = nI q → (∀ c, c ≠ 18 → u c = s c) → (∀ j, j ≠ 3 → j ≠ 4 → j ≠ 5 → u 18 j = s 18 j) → m_X2_readNumber_l17 lo hi K (m + 1) u := by
    intro m
    induction m with
    | zero =>
      intro x hx hix q u hq1 hq uC u4 u5 u1 u2
      have hxj : x = j := by omega
      rw [hxj, show j - j = 0 by omega] at hq
      have hq' : q = nv B i j := hq
      have st := stop u (by rw [← hxj]; exact uC) u4 (by rw [u5, hq']) u1 u2
      unfold m_X2_readNumber_l17
      rw [uC.1, uC.2.1]
      refine ⟨fun _ => st, fun _ => p_X2_byteAt uC (by omega) (p_X4_isIn ?_)⟩
      have nd : ¬ ((48 : Int32).toInt ≤ (bat B e x).toInt ∧ (bat B e x).toInt ≤ (57 : Int32).toInt) := by
        rw [d48, d57]
        unfold bat
        by_cases z : x < e
        · rw [if_pos z]
          have := rn_end (P := isDg) (B := B) (e := e) (i := i) (by omega)
          rw [hJ, ← hxj] at this
          exact fun y => this (isDg_iff.mpr y)
        · rw [if_neg z, dm1]
          omega
      rw [if_neg nd]
      exact ⟨fun _ => st, fun z => absurd rfl z⟩
    | succ m ih =>
      intro x hx hix q u hq1 hq uC u4 u5 u1 u2
      have ex := nI_toInt (n := x) (by omega)
      have dg := rn_in (P := isDg) (B := B) (e := e) (i := i) (j := x) hix (by omega)
      have dgi := isDg_iff.mp dg.1
      unfold m_X2_readNumber_l17
      rw [uC.1, uC.2.1]
      refine ⟨fun z => ?_, fun _ => p_X2_byteAt uC (by omega) (p_X4_isIn ?_)⟩
      · rw [ti_le, ee, ex] at z
        omega
      have eb : bat B e x = B x := by unfold bat; rw [if_pos dg.2]
      rw [eb, d48, d57, if_pos dgi]
      refine ⟨fun z => absurd z one0, fun _ => ?_⟩
      rw [uC.2.1]
      refine p_X2_byteAt uC (by omega) fun t ht t' ht' => ?_
      rw [eb, u5] at ht
      have st := nv_step hq1 dgi
      rw [show j - x = (j - (x + 1)) + 1 by omega] at hq
      unfold nvf at hq
      have et : t 18 5 = nI (if 1000 < 10 * q + ((B x).toInt.toNat - 48) then 1000 else 10 * q + ((B x).toInt.toNat - 48)) := by
        rw [ht, st2_same, ti_eq]
        by_cases g : 1000 < 10 * q + ((B x).toInt.toNat - 48)
        · rw [if_pos g, if_pos (by rw [ti_lt, d1000, st]; omega), nI_toInt (by omega), d1000]
          rfl
        · rw [if_neg g, if_neg (by rw [ti_lt, d1000, st]; omega), nI_toInt (by omega), st]
          omega
      have t3 : t 18 3 = nI x := by rw [ht, st2_j (by decide)]; exact uC.2.1
      rw [t3, ← nI_succ] at ht'
      refine ih (x + 1) (by omega) (by omega) _ t' (by split <;> omega) hq (uC.mv (fun c hc => by rw [ht', st2_row hc, ht, st2_row hc]) (by rw [ht', st2_j (by decide), ht, st2_j (by decide)]) (by rw [ht', st2_same]) (by omega)) (by rw [ht', st2_j (by decide), ht, st2_j (by decide)]; exact u4) (by rw [ht', st2_j (by decide)]; exact et) (fun c hc => by rw [ht', st2_row hc, ht, st2_row hc]; exact u1 c hc) (fun y y1 y2 y3 => by rw [ht', st2_j y1, ht, st2_j y3]; exact u2 y y1 y2 y3)
  exact ⟨j - i + 1, key (j - i) i (by omega) (Nat.le_refl _) 0 w' (by omega) rfl wC w4 w5 w1 w2⟩
theorem p_isEnd {K : Int32 → Sg → Prop} (h : CT s B e a) (k1 : bat B e (rn isBl B e a) = 59 → ∀ u, CT u B e (rn isBl B e a + 1) → (∀ c, c ≠ 18 → u c = s c) → (∀ j, j ≠ 3 → u 18 j = s 18 j) → K 1 u)
    (k0 : ¬ bat B e (rn isBl B e a) = 59 → ∀ u, CT u B e (rn isBl B e a) → (∀ c, c ≠ 18 → u c = s c) → (∀ j, j ≠ 3 → u 18 j = s 18 j) → K 0 u) : m_X2_isEnd s K := by
  refine p_skip h fun v vC v1 v2 => ?_
  have he := vC.2.2.2.1
  have hi := vC.2.2.1
  rw [vC.2.1]
  refine p_X2_byteAt vC (by omega) ⟨fun z t ht => ?_, fun z => k0 z v vC v1 v2⟩
  rw [vC.2.1, ← nI_succ] at ht
  have hlt : rn isBl B e a < e := by
    unfold bat at z
    by_cases y : rn isBl B e a < e
    · exact y
    · rw [if_neg y] at z
      exact absurd z (by decide)
  exact k1 z t (vC.mv (fun c hc => by rw [ht, st2_row hc]) (by rw [ht, st2_j (by decide)]) (by rw [ht, st2_same]) (by omega)) (fun c hc => by rw [ht, st2_row hc]; exact v1 c hc) (fun j hj => by rw [ht, st2_j hj]; exact v2 j hj)
theorem p_readEnd {K : Int32 → Sg → Prop} (h : CT s B e a) (k1 : bat B e (rn isBl B e a) = 59 → ∀ u, CT u B e (rn isBl B e a + 1) → (∀ c, c ≠ 18 → u c = s c) → (∀ j, j ≠ 3 → u 18 j = s 18 j) → K 1 u)
    (k0 : ¬ bat B e (rn isBl B e a) = 59 → ∀ u : Sg, u 18 9 = 1 → u 18 10 = nI (rn isBl B e a) → (∀ c, c ≠ 18 → u c = s c) → K 0 u) : m_X2_readEnd s K := by
  refine p_isEnd h (fun z u uC u1 u2 => ⟨fun _ => k1 z u uC u1 u2, fun y => absurd y one0⟩) fun z u uC u1 u2 => ⟨fun y => absurd rfl y, fun _ => ?_⟩
  rw [uC.2.1]
  exact p_fail fun b b1 b2 b3 _ => ⟨fun _ => k0 z b b1 b2 (fun c hc => by rw [b3 c hc, u1 c hc]), fun y => absurd rfl y⟩
end
