/-! feed (the first nine rows: a family out of the place's rows to paste) -/
def bt (x : Int32) (i : Nat) : Bool := x.toBitVec.getLsbD i
theorem b_ext {x y : Int32} (h : ∀ i, i < 32 → bt x i = bt y i) : x = y := Int32.toBitVec_inj.mp (BitVec.eq_of_getLsbD_eq (fun i hi => h i hi))
theorem b_and (x y : Int32) (i : Nat) : bt (x &&& y) i = (bt x i && bt y i) := by unfold bt; rw [Int32.toBitVec_and, BitVec.getLsbD_and]
theorem b_big {x : Int32} {i : Nat} (h : 32 ≤ i) : bt x i = false := BitVec.getLsbD_of_ge _ _ h
theorem b_255 (i : Nat) : bt 255 i = decide (i < 8) := by
  rcases Nat.lt_or_ge i 32 with h | h
  · exact (by decide +kernel : ∀ i, i < 32 → bt 255 i = decide (i < 8)) i h
  · rw [b_big h, decide_eq_false (by omega)]
theorem s_l : ∀ n, n < 32 → ((nI n &&& 31).toBitVec.smod 32).toNat = n := by decide +kernel
theorem s_u : ∀ n, n < 32 → (((nI n).toUInt32 &&& Int32.toUInt32 31).toBitVec % 32).toNat = n := by decide +kernel
theorem b_ushr (n : Nat) (hn : n < 32) (x : Int32) (i : Nat) : bt ((x.toUInt32 >>> ((nI n).toUInt32 &&& Int32.toUInt32 31)).toInt32) i = bt x (n + i) := by
  show (x.toUInt32 >>> ((nI n).toUInt32 &&& Int32.toUInt32 31)).toBitVec.getLsbD i = x.toUInt32.toBitVec.getLsbD (n + i)
  rw [UInt32.toBitVec_shiftRight]
  show (x.toUInt32.toBitVec >>> (((nI n).toUInt32 &&& Int32.toUInt32 31).toBitVec % 32).toNat).getLsbD i = _
  rw [s_u n hn, BitVec.getLsbD_ushiftRight]
theorem b_sshr (n : Nat) (hn : n < 32) (x : Int32) {i : Nat} (hi : i < 32) : bt (x >>> (nI n &&& 31)) i = if n + i < 32 then bt x (n + i) else bt x 31 := by
  unfold bt
  rw [Int32.toBitVec_shiftRight]
  show (x.toBitVec.sshiftRight ((nI n &&& 31).toBitVec.smod 32).toNat).getLsbD i = _
  rw [s_l n hn, BitVec.getLsbD_sshiftRight, BitVec.msb_eq_getLsbD_last]
  simp [hi]
theorem byte_r (x : Int32) : 0 ≤ (x &&& 255).toInt ∧ (x &&& 255).toInt ≤ 255 := by
  have h1 : (x &&& 255).toBitVec.toNat ≤ 255 := by
    rw [Int32.toBitVec_and, BitVec.toNat_and]
    exact Nat.and_le_right
  have h2 : (x &&& 255).toInt = (x &&& 255).toBitVec.toInt := rfl
  rw [h2, BitVec.toInt_eq_toNat_cond]
  split <;> omega
/-- the k-th byte of an int, the highest first -/
def byt (v : Int32) (k : Nat) : Int32 := (v >>> (nI (24 - 8 * k) &&& 31)) &&& 255
theorem byt_u (v : Int32) (k : Nat) (hk : k < 4) : ((v.toUInt32 >>> ((nI (24 - 8 * k)).toUInt32 &&& Int32.toUInt32 31)).toInt32) &&& 255 = byt v k := by
  refine b_ext fun i hi => ?_
  unfold byt
  rw [b_and, b_and, b_255, b_ushr _ (by omega), b_sshr _ (by omega) _ hi]
  by_cases h : i < 8
  · rw [if_pos (by omega)]
  · rw [decide_eq_false h, Bool.and_false, Bool.and_false]
/-- so many bytes put behind t into an array, the count of them beside -/
def putS (σ : Sg) (arr kc jc t : Nat) (B : Nat → Int32) (i : Nat) : Sg := fun k j => if k = arr ∧ t ≤ j ∧ j < t + i then B (j - t) else if k = kc ∧ j = jc then nI (t + i) else σ k j
theorem putS_step {σ : Sg} {arr kc jc t : Nat} {B : Nat → Int32} {i : Nat} (h : arr ≠ kc) : st2 (st2 (putS σ arr kc jc t B i) arr (t + i) (B i)) kc jc (nI (t + i + 1)) = putS σ arr kc jc t B (i + 1) := by
  funext k j
  unfold st2 putS
  by_cases h1 : k = kc ∧ j = jc
  · rw [if_pos h1, if_neg (fun z => h (z.1.symm.trans h1.1)), if_pos h1, Nat.add_assoc]
  · rw [if_neg h1]
    by_cases h2 : k = arr ∧ j = t + i
    · rw [if_pos h2, if_pos ⟨h2.1, by omega, by omega⟩]
      congr 1
      omega
    · rw [if_neg h2]
      by_cases h3 : k = arr ∧ t ≤ j ∧ j < t + i
      · rw [if_pos h3, if_pos ⟨h3.1, h3.2.1, by omega⟩]
      · rw [if_neg h3, if_neg h1, if_neg (fun z => h3 ⟨z.1, z.2.1, by
          have : j ≠ t + i := fun e => h2 ⟨z.1, e⟩
          omega⟩), if_neg h1]
theorem putS_cnt {σ : Sg} {arr kc jc t : Nat} {B : Nat → Int32} {i : Nat} (h : arr ≠ kc) : putS σ arr kc jc t B i kc jc = nI (t + i) := by
  unfold putS
  rw [if_neg (fun z => h z.1.symm), if_pos ⟨rfl, rfl⟩]
theorem p_putBytes {σ : Sg} {t i : Nat} {B : Nat → Int32} {v : Int32} {K : Sg → Prop} (ht : t + i + 4 ≤ 400) (hB : ∀ k, k < 4 → B (i + k) = byt v k) (h : K (putS σ 1 0 6 t B (i + 4))) : m_X4_putBytes v (putS σ 1 0 6 t B i) K := by
  have key : ∀ n k : Nat, n + k = 4 → ∀ l : Int32, l = nI 24 - 8 * nI k → m_X4_putBytes_l3 v K (n + 1) l (putS σ 1 0 6 t B (i + k)) := by
    intro n
    induction n with
    | zero =>
      intro k hk l hl
      have : k = 4 := by omega
      subst this
      exact ⟨fun _ => h, fun z => absurd (by rw [hl]; decide) z⟩
    | succ n ih =>
      intro k hk l hl
      have hl2 : l = nI (24 - 8 * k) := by
        rw [hl]
        rcases (show k = 0 ∨ k = 1 ∨ k = 2 ∨ k = 3 by omega) with rfl | rfl | rfl | rfl <;> decide
      have ec := putS_cnt (σ := σ) (t := t) (B := B) (i := i + k) (jc := 6) (show (1 : Nat) ≠ 0 by decide)
      have et := nI_toInt (n := t + (i + k)) (by omega)
      refine ⟨fun z => ?_, fun _ => ?_⟩
      · rw [hl2, ti_lt, d0, nI_toInt (by omega)] at z
        omega
      · rw [ec]
        refine p_X4_write (n := 400) rfl (by decide) (by rw [et]; omega) (by rw [et]; omega) ?_
        intro s hs
        rw [et, hl2, byt_u v k (by omega), ← hB k (by omega), show ((t + (i + k) : Nat) : Int).toNat = t + (i + k) by omega, st2_k (show (0 : Nat) ≠ 1 by decide), ec, ← nI_succ, putS_step (show (1 : Nat) ≠ 0 by decide)] at hs
        rw [hs, show i + k + 1 = i + (k + 1) by omega]
        refine ih (k + 1) (by omega) _ ?_
        rw [hl2]
        rcases (show k = 0 ∨ k = 1 ∨ k = 2 ∨ k = 3 by omega) with rfl | rfl | rfl | rfl <;> decide
  exact ⟨5, key 4 0 (by decide) 24 (by decide)⟩
