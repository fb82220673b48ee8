/-! the start -/
def r0 (j : Nat) : Int32 := if j = 1091 then 10 else if j = 1090 then 2 else if j = 1089 then 2 else if j = 9 then 1 else if j = 8 then 1 else if j = 3 then 1 else if j = 1 then 3 else if j = 0 then 3 else rowB j
theorem r0_big : ∀ j, 1098 ≤ j → r0 j = 0 := fun j hj => by
  unfold r0 rowB
  rw [if_neg (by omega), if_neg (by omega), if_neg (by omega), if_neg (by omega), if_neg (by omega), if_neg (by omega), if_neg (by omega), if_neg (by omega), if_neg (by omega), if_neg (by omega)]
theorem r0_wind : ∀ k, k < 24 → 0 ≤ (r0 (12 + k)).toInt ∧ (r0 (12 + k)).toInt ≤ 8 := by decide +kernel
theorem r0_turn : ∀ k, k < 12 → 0 ≤ (r0 (36 + k)).toInt ∧ (r0 (36 + k)).toInt ≤ 8 := by decide +kernel
theorem r0_hand : ∀ k, k < 561 → r0 (48 + k) = -1 := by decide +kernel
theorem r0_land : ∀ k, k < 240 → r0 (609 + k) = 0 := by decide +kernel
theorem r0_curr : ∀ k, k < 240 → r0 (849 + k) = 0 := by decide +kernel
theorem r0_okR : okR r0 := by
  refine ⟨by decide, by decide, by decide, by decide, by decide, by decide, by decide, by decide, r0_wind, r0_turn, fun k hk => Or.inl (r0_hand k hk), fun k hk => Or.inl (r0_land k hk), fun k hk => ?_⟩
  rw [r0_curr k hk]
  exact isD0
theorem r0_okQ : okQ r0 := by
  refine ⟨r0_okR, ⟨by decide, by decide⟩, ⟨by decide, by decide⟩, fun h hh => ?_, fun p hp _ => ?_⟩
  · have : rI r0 3 = 1 := by decide
    have h0 : h = 0 := by omega
    subst h0
    exact ⟨⟨by decide, by decide⟩, by decide, by decide⟩
  · unfold isP at hp
    exact r0_land _ (by omega)
theorem s0_row (k : Nat) (h : kd k = 6) (j : Nat) : s0 k j = 0 := by
  unfold s0
  rw [h]
  rfl
theorem ob_init : obl_init Rel := by
  refine p_beginEmpty W_2 fun a ha => ?_
  obtain ⟨⟨a0, a1, a2, a3, a4, a5, a6, a7, a8, a9⟩, l1, l2, l3, lk⟩ := ha
  intro b hb
  have eb6 : a 2 0 * 1 + 1 = 4 := by rw [a0]; decide
  rw [eb6] at hb
  have bk : ∀ k, k ≠ 2 → b k = a k := fun k hk => by rw [hb, st2_row hk]
  have bj : ∀ j, j ≠ 6 → b 2 j = a 2 j := fun j hj => by rw [hb, st2_j hj]
  have b6 : b 2 6 = 4 := by rw [hb, st2_same]
  have eb8 : b 2 0 * 2 + 2 = 8 := by rw [bj 0 (by decide), a0]; decide
  show m_X3_addHelper 2 (b 2 0 * 2 + 2) 10 b _
  rw [eb8]
  unfold m_X3_addHelper
  rw [bj 7 (by decide), a7]
  refine p_X4_write (W_L1 W_2) (by decide) (by decide) (by decide) ?_
  rw [st2_k (show (2 : Nat) ≠ 2 + 1 by decide), bj 7 (by decide), a7]
  refine p_X4_write (W_L2 W_2) (by decide) (by decide) (by decide) fun c hc => ?_
  rw [show (0 : Int32).toInt.toNat = 0 by decide, st2_k (show (2 : Nat) ≠ 2 + 2 by decide), st2_k (show (2 : Nat) ≠ 2 + 1 by decide), bj 7 (by decide), a7, show (0 : Int32) + 1 = 1 by decide] at hc
  have ck : ∀ k, k ≠ 2 → k ≠ 3 → k ≠ 4 → k ≠ 5 → k ≠ 6 → k ≠ 9 → c k = s0 k := fun k k2 k3 k4 k5 k6 k9 => by rw [hc, st2_row k2, st2_row k4, st2_row k3, bk k k2, lk k k2 k5 k6 k9]
  have cj : ∀ j, j ≠ 7 → c 2 j = b 2 j := fun j hj => by rw [hc, st2_j hj, st2_row (show (2 : Nat) ≠ 2 + 2 by decide), st2_row (show (2 : Nat) ≠ 2 + 1 by decide)]
  have c7 : c 2 7 = 1 := by rw [hc, st2_same]
  have c3 : c 3 0 = 8 := by rw [hc, st2_k (by decide), st2_k (by decide), st2_same]
  have c4 : c 4 0 = 10 := by rw [hc, st2_k (by decide), st2_same]
  have c5 : ∀ j, j < 240 → c 5 j = 0 := fun j hj => by rw [hc, st2_k (by decide), st2_k (by decide), st2_k (by decide), bk 5 (by decide)]; exact l1 j hj
  have c6 : ∀ j, j < 240 → c 6 j = 0 := fun j hj => by rw [hc, st2_k (by decide), st2_k (by decide), st2_k (by decide), bk 6 (by decide)]; exact l2 j hj
  have c9 : ∀ j, j < 561 → c 9 j = -1 := fun j hj => by rw [hc, st2_k (by decide), st2_k (by decide), st2_k (by decide), bk 9 (by decide)]; exact l3 j hj
  clear hc hb
  refine p_begins rfl (fun j _ => s0_row 350 rfl j) fun s hs1 hs2 => ?_
  obtain ⟨t, ht⟩ : ∃ t, t = (st2 (st2 (st2 (st2 (st2 (st2 (st2 (st2 s 350 0 3) 350 1 3) 350 3 1) 350 8 1) 350 9 1) 350 1089 2) 350 1090 2) 350 1091 10) := ⟨_, rfl⟩
  rw [← ht]
  have t350 : t 350 = r0 := by
    funext j
    rw [ht]
    unfold st2 r0
    simp only [true_and, hs1]
  have tk : ∀ k, k ≠ 350 → t k = s0 k := fun k hk => by
    rw [ht, st2_row hk, st2_row hk, st2_row hk, st2_row hk, st2_row hk, st2_row hk, st2_row hk, st2_row hk]
    exact hs2 k hk
  have cc0 : c 0 = s0 0 := ck 0 (by decide) (by decide) (by decide) (by decide) (by decide) (by decide)
  have W3 : rI r0 0 = 3 := by decide
  have H3 : rI r0 1 = 3 := by decide
  refine ⟨⟨by rw [t350]; exact r0_okQ, ?_⟩, ?_, ?_, ?_, Or.inl ?_, fun k hk j hj => ?_⟩
  · rw [t350]
    refine ⟨⟨by rw [cj 0 (by decide), bj 0 (by decide), a0]; decide, by rw [cj 1 (by decide), bj 1 (by decide), a1]; decide, by rw [cj 2 (by decide), bj 2 (by decide), a2]; decide, by rw [cj 3 (by decide), bj 3 (by decide), a3]; decide, by rw [cj 4 (by decide), bj 4 (by decide), a4]; decide⟩,
      ⟨by rw [cj 5 (by decide), bj 5 (by decide), a5]; decide, by rw [cj 6 (by decide), b6]; decide⟩, ⟨by rw [c7]; decide, by rw [cj 8 (by decide), bj 8 (by decide), a8]; decide, by rw [cj 9 (by decide), bj 9 (by decide), a9]; decide⟩, fun i hi => ?_, fun x y ho => ?_, fun k k1 k2 => c5 k k2, fun k hk => ?_, fun k hk => ?_, fun k hk => ?_⟩
    · have : rI r0 3 = 1 := by decide
      have h0 : i = 0 := by omega
      subst h0
      exact ⟨by rw [show 2 + 1 = 3 from rfl, c3]; decide, by rw [show 2 + 2 = 4 from rfl, c4]; decide⟩
    · have oc := onS_cell (p := (x, y)) r0_okR ho
      have hP := onS_isP r0_okR ho
      simp only at oc
      rw [show 2 + 3 = 5 from rfl, show 2 + 4 = 6 from rfl, c5 _ (by omega), c6 _ (by omega), r0_land _ (by omega), r0_curr _ (by omega)]
      exact ⟨rfl, rfl⟩
    · have : rI r0 10 = 0 := by decide
      omega
    · have : rI r0 11 = 0 := by decide
      omega
    · rw [show 2 + 7 = 9 from rfl, c9 k hk, r0_hand k hk]
  · unfold R2
    rw [cc0, tk 347 (by decide)]
    refine ⟨by decide, by decide, by decide, fun i hi => ?_⟩
    have : (s0 0 9).toInt = 0 := by decide
    omega
  · unfold R3
    rw [cc0, tk 347 (by decide), tk 349 (by decide), ck 1 (by decide) (by decide) (by decide) (by decide) (by decide) (by decide)]
    refine ⟨fun j hj => ?_, by decide, by decide, by decide⟩
    rw [s0_row 1 rfl, s0_row 349 rfl]
    decide
  · unfold R4
    rw [cc0, tk 348 (by decide)]
    decide
  · rw [ck 19 (by decide) (by decide) (by decide) (by decide) (by decide) (by decide)]
    decide
  · by_cases e : k = 350
    · rw [e, t350]
      exact r0_big j hj
    · rw [tk k e]
      refine s0_row k ?_ j
      rcases hk with h | h | h
      · exact absurd h e
      · rw [h]; rfl
      · have := (P_0 (k - 353) (by omega)).1
        rwa [show 353 + (k - 353) = k by omega] at this
