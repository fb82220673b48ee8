/-! the law's loop -/
theorem tsw_law (a : Int32) : (a.toInt < 0 ∨ 22 < a.toInt) ∨ a = 0 ∨ a = 1 ∨ a = 2 ∨ a = 3 ∨ a = 4 ∨ a = 5 ∨ a = 6 ∨ a = 7 ∨ a = 8 ∨ a = 9 ∨ a = 10 ∨ a = 11 ∨ a = 12 ∨ a = 13 ∨ a = 14 ∨ a = 15 ∨ a = 16 ∨ a = 17 ∨ a = 18 ∨ a = 19 ∨ a = 20 ∨ a = 21 ∨ a = 22 := by
  have h := tsw_of a
  rcases (show (a.toInt < 0 ∨ 22 < a.toInt) ∨ a.toInt = 0 ∨ a.toInt = 1 ∨ a.toInt = 2 ∨ a.toInt = 3 ∨ a.toInt = 4 ∨ a.toInt = 5 ∨ a.toInt = 6 ∨ a.toInt = 7 ∨ a.toInt = 8 ∨ a.toInt = 9 ∨ a.toInt = 10 ∨ a.toInt = 11 ∨ a.toInt = 12 ∨ a.toInt = 13 ∨ a.toInt = 14 ∨ a.toInt = 15 ∨ a.toInt = 16 ∨ a.toInt = 17 ∨ a.toInt = 18 ∨ a.toInt = 19 ∨ a.toInt = 20 ∨ a.toInt = 21 ∨ a.toInt = 22 by omega) with h1 | h1 | h1 | h1 | h1 | h1 | h1 | h1 | h1 | h1 | h1 | h1 | h1 | h1 | h1 | h1 | h1 | h1 | h1 | h1 | h1 | h1 | h1 | h1
  · exact Or.inl h1
  · exact Or.inr (Or.inl (Int32.toInt_inj.mp h1))
  · exact Or.inr (Or.inr (Or.inl (Int32.toInt_inj.mp h1)))
  · exact Or.inr (Or.inr (Or.inr (Or.inl (Int32.toInt_inj.mp h1))))
  · exact Or.inr (Or.inr (Or.inr (Or.inr (Or.inl (Int32.toInt_inj.mp h1)))))
  · exact Or.inr (Or.inr (Or.inr (Or.inr (Or.inr (Or.inl (Int32.toInt_inj.mp h1))))))
  · exact Or.inr (Or.inr (Or.inr (Or.inr (Or.inr (Or.inr (Or.inl (Int32.toInt_inj.mp h1)))))))
  · exact Or.inr (Or.inr (Or.inr (Or.inr (Or.inr (Or.inr (Or.inr (Or.inl (Int32.toInt_inj.mp h1))))))))
  · exact Or.inr (Or.inr (Or.inr (Or.inr (Or.inr (Or.inr (Or.inr (Or.inr (Or.inl (Int32.toInt_inj.mp h1)))))))))
  · exact Or.inr (Or.inr (Or.inr (Or.inr (Or.inr (Or.inr (Or.inr (Or.inr (Or.inr (Or.inl (Int32.toInt_inj.mp h1))))))))))
  · exact Or.inr (Or.inr (Or.inr (Or.inr (Or.inr (Or.inr (Or.inr (Or.inr (Or.inr (Or.inr (Or.inl (Int32.toInt_inj.mp h1)))))))))))
  · exact Or.inr (Or.inr (Or.inr (Or.inr (Or.inr (Or.inr (Or.inr (Or.inr (Or.inr (Or.inr (Or.inr (Or.inl (Int32.toInt_inj.mp h1))))))))))))
  · exact Or.inr (Or.inr (Or.inr (Or.inr (Or.inr (Or.inr (Or.inr (Or.inr (Or.inr (Or.inr (Or.inr (Or.inr (Or.inl (Int32.toInt_inj.mp h1)))))))))))))
  · exact Or.inr (Or.inr (Or.inr (Or.inr (Or.inr (Or.inr (Or.inr (Or.inr (Or.inr (Or.inr (Or.inr (Or.inr (Or.inr (Or.inl (Int32.toInt_inj.mp h1))))))))))))))
  · exact Or.inr (Or.inr (Or.inr (Or.inr (Or.inr (Or.inr (Or.inr (Or.inr (Or.inr (Or.inr (Or.inr (Or.inr (Or.inr (Or.inr (Or.inl (Int32.toInt_inj.mp h1)))))))))))))))
  · exact Or.inr (Or.inr (Or.inr (Or.inr (Or.inr (Or.inr (Or.inr (Or.inr (Or.inr (Or.inr (Or.inr (Or.inr (Or.inr (Or.inr (Or.inr (Or.inl (Int32.toInt_inj.mp h1))))))))))))))))
  · exact Or.inr (Or.inr (Or.inr (Or.inr (Or.inr (Or.inr (Or.inr (Or.inr (Or.inr (Or.inr (Or.inr (Or.inr (Or.inr (Or.inr (Or.inr (Or.inr (Or.inl (Int32.toInt_inj.mp h1)))))))))))))))))
  · exact Or.inr (Or.inr (Or.inr (Or.inr (Or.inr (Or.inr (Or.inr (Or.inr (Or.inr (Or.inr (Or.inr (Or.inr (Or.inr (Or.inr (Or.inr (Or.inr (Or.inr (Or.inl (Int32.toInt_inj.mp h1))))))))))))))))))
  · exact Or.inr (Or.inr (Or.inr (Or.inr (Or.inr (Or.inr (Or.inr (Or.inr (Or.inr (Or.inr (Or.inr (Or.inr (Or.inr (Or.inr (Or.inr (Or.inr (Or.inr (Or.inr (Or.inl (Int32.toInt_inj.mp h1)))))))))))))))))))
  · exact Or.inr (Or.inr (Or.inr (Or.inr (Or.inr (Or.inr (Or.inr (Or.inr (Or.inr (Or.inr (Or.inr (Or.inr (Or.inr (Or.inr (Or.inr (Or.inr (Or.inr (Or.inr (Or.inr (Or.inl (Int32.toInt_inj.mp h1))))))))))))))))))))
  · exact Or.inr (Or.inr (Or.inr (Or.inr (Or.inr (Or.inr (Or.inr (Or.inr (Or.inr (Or.inr (Or.inr (Or.inr (Or.inr (Or.inr (Or.inr (Or.inr (Or.inr (Or.inr (Or.inr (Or.inr (Or.inl (Int32.toInt_inj.mp h1)))))))))))))))))))))
  · exact Or.inr (Or.inr (Or.inr (Or.inr (Or.inr (Or.inr (Or.inr (Or.inr (Or.inr (Or.inr (Or.inr (Or.inr (Or.inr (Or.inr (Or.inr (Or.inr (Or.inr (Or.inr (Or.inr (Or.inr (Or.inr (Or.inl (Int32.toInt_inj.mp h1))))))))))))))))))))))
  · exact Or.inr (Or.inr (Or.inr (Or.inr (Or.inr (Or.inr (Or.inr (Or.inr (Or.inr (Or.inr (Or.inr (Or.inr (Or.inr (Or.inr (Or.inr (Or.inr (Or.inr (Or.inr (Or.inr (Or.inr (Or.inr (Or.inr (Or.inl (Int32.toInt_inj.mp h1)))))))))))))))))))))))
  · exact Or.inr (Or.inr (Or.inr (Or.inr (Or.inr (Or.inr (Or.inr (Or.inr (Or.inr (Or.inr (Or.inr (Or.inr (Or.inr (Or.inr (Or.inr (Or.inr (Or.inr (Or.inr (Or.inr (Or.inr (Or.inr (Or.inr (Or.inr (Int32.toInt_inj.mp h1)))))))))))))))))))))))
theorem ix_in {j L : Nat} (h : j < L) (hL : L ≤ 3072) : vp_in (nI j) L := nI_in h (by omega)
theorem ix_add (i : Nat) : nI i + 1 = nI (i + 1) ∧ nI i + 2 = nI (i + 2) ∧ nI i + 3 = nI (i + 3) ∧ nI i + 4 = nI (i + 4) ∧ nI i + 5 = nI (i + 5) ∧ nI i + 6 = nI (i + 6) := by
  have e : ∀ k : Nat, nI i + nI k = nI (i + k) := fun k => by unfold nI; exact (Int32.ofNat_add i k).symm
  exact ⟨e 1, e 2, e 3, e 4, e 5, e 6⟩
theorem ix_lt {i L : Nat} (hi : i ≤ 3072) (hL : L ≤ 3072) : Int32.ofNat L - 6 < nI i ↔ L < i + 6 := by
  rw [Int32.lt_iff_toInt_lt, Int32.toInt_sub, nI_toInt (show i < 2 ^ 31 by omega), show Int32.ofNat L = nI L from rfl, nI_toInt (show L < 2 ^ 31 by omega), show (6 : Int32).toInt = 6 by decide]
  simp only [Int.bmod]
  split <;> omega
theorem JP_tswIn {x : Cx} {fr : Nat → Prop} {I : Heap → Prop} {Q : State → Prop} {cc : ByteArray} {nL : Nat} {own : String} {ret : Option FieldType} {rm : Room} {pc : Nat} {lv : List (Nat × Value)} {st : List Value} {cs : Nat × Nat} (o : OkP x cc nL own ret rm) {dflt lo hi : Int} {offs : Array Int} {len : Nat} {a : Int32} {off : Int} (k : Int32) (ha : a = k) (tgt : Nat) (d : decode cc pc = .ok (.tableswitch dflt lo hi offs, len)) (h1 : ¬ k.toInt < lo) (h2 : ¬ hi < k.toInt) (ho : offs[(k.toInt - lo).toNat]? = some off) (ht : (pc : Int) + off = (tgt : Int)) (kk : JP x fr I Q tgt lv st cs) : JP x fr I Q pc lv (.int a :: st) cs := by
  subst ha
  exact JP_tableIn o tgt d h1 h2 ho ht kk
set_option maxHeartbeats 4000000 in
set_option maxRecDepth 20000 in
theorem l_loop {x : Cx} {d : Lb} {Q : State → Prop} (o : OkL x d cL_law 7 RL (some .boolean) room_1) (hfl : (xL x).stackTraces = false) {b L : Nat} {xs : Nat → Int32} (hT : va_T .int b L (fun j => .int (xs j)) (frL d) (xS x) (xS x).heap) (hL : L ≤ 3072) {R : Sg → Sg → Prop} (hR : Obl R)
    (kend : ∀ (i : Int32) (σ' τ' : Sg) (v' : Int64) (cs : Nat × Nat), cs.1 ≤ 601024 → cs.2 ≤ 7293034 → JP x (frL d) (LW d σ' τ' v') Q 1473 [(4, .int i), (3, .ref (dO d)), (2, .ref (wB (wM (dM d)) + 347)), (1, .ref (wB (wC (dC d)) + 0)), (0, .ref b)] [] cs) :
    ∀ (n i : Nat) (σc σm : Sg) (v : Int64) (cs : Nat × Nat), i ≤ 3072 → L ≤ i + 6 * n + 5 → cs.1 + 4 * n ≤ 601024 → cs.2 + 24 * n ≤ 7293034 → R σc σm → JP x (frL d) (LW d σc σm v) Q 23 [(4, .int (nI i)), (3, .ref (dO d)), (2, .ref (wB (wM (dM d)) + 347)), (1, .ref (wB (wC (dC d)) + 0)), (0, .ref b)] [] cs := by
  intro n
  induction n with
  | zero =>
    intro i σc σm v cs h1 h2 h3 h4 hr
    refine JP_iload o.1 0 d_L_law_23 rfl ?_
    refine JP_aload_n o.1 4 d_L_law_25 rfl ?_
    refine JP_alen o.1 hT d_L_law_26 ?_
    refine JP_bipush (v := 6) o.1 d_L_law_27 (by decide) ?_
    refine JP_isub o.1 d_L_law_29 ?_
    refine JP_icmp_gt o.1 1473 d_L_law_30 (by decide) (fun _ => kend _ _ _ _ _ (by omega) (by omega)) (fun h => absurd ((ix_lt h1 hL).mpr (by omega)) h)
  | succ n ih =>
    intro i σc σm v cs h1 h2 h3 h4 hr
    refine JP_iload o.1 0 d_L_law_23 rfl ?_
    refine JP_aload_n o.1 4 d_L_law_25 rfl ?_
    refine JP_alen o.1 hT d_L_law_26 ?_
    refine JP_bipush (v := 6) o.1 d_L_law_27 (by decide) ?_
    refine JP_isub o.1 d_L_law_29 ?_
    refine JP_icmp_gt o.1 1473 d_L_law_30 (by decide) (fun _ => kend _ _ _ _ _ (by omega) (by omega)) (fun h => ?_)
    have hlt : i + 6 ≤ L := Nat.not_lt.mp (fun z => h ((ix_lt h1 hL).mpr z))
    obtain ⟨a1, a2, a3, a4, a5, a6⟩ := ix_add i
    have hix : vp_in (nI i + 1) L ∧ vp_in (nI i + 2) L ∧ vp_in (nI i + 3) L ∧ vp_in (nI i + 4) L ∧ vp_in (nI i + 5) L := by
      rw [a1, a2, a3, a4, a5]
      exact ⟨ix_in (by omega) hL, ix_in (by omega) hL, ix_in (by omega) hL, ix_in (by omega) hL, ix_in (by omega) hL⟩
    have hro : cs.1 + 4 ≤ 601024 ∧ cs.2 + 24 ≤ 7293034 := by omega
    have kn : ∀ (σ' τ' : Sg) (v' : Int64), R σ' τ' → JP x (frL d) (LW d σ' τ' v') Q 1467 [(4, .int (nI i)), (3, .ref (dO d)), (2, .ref (wB (wM (dM d)) + 347)), (1, .ref (wB (wC (dC d)) + 0)), (0, .ref b)] [] (cs.1 + 4, cs.2 + 24) := by
      intro σ' τ' v' hr'
      refine JP_iinc (v2 := 6) (lv' := [(4, .int (nI i + 6)), (3, .ref (dO d)), (2, .ref (wB (wM (dM d)) + 347)), (1, .ref (wB (wC (dC d)) + 0)), (0, .ref b)]) o.1 0 d_L_law_1467 (by decide) rfl (by decide) rfl ?_
      refine JP_goto o.1 23 d_L_law_1470 (by decide) ?_
      rw [a6]
      exact ih (i + 6) σ' τ' v' _ (by omega) (by omega) (by show cs.1 + 4 + 4 * n ≤ _; omega) (by show cs.2 + 24 + 24 * n ≤ _; omega) hr'
    refine JP_aload_n o.1 4 d_L_law_33 rfl ?_
    refine JP_iload o.1 0 d_L_law_34 rfl ?_
    refine JP_ald o.1 hT (ix_in (by omega) hL) d_L_law_36 ?_
    refine JP_bipush (v := 31) o.1 d_L_law_37 (by decide) ?_
    refine JP_iand o.1 d_L_law_39 ?_
    rcases tsw_law (xs (nI i).toNatClampNeg &&& 31) with h | h | h | h | h | h | h | h | h | h | h | h | h | h | h | h | h | h | h | h | h | h | h | h
    · refine JP_tableOut o.1 1467 d_L_law_40 h (by decide) ?_
      exact JP_wide (c2 := (cs.1 + 4, cs.2 + 24)) ⟨Nat.le_add_right _ _, Nat.le_add_right _ _⟩ (kn _ _ _ hr)
    · refine JP_tswIn (off := 108) o.1 0 h 148 d_L_law_40 (by decide) (by decide) rfl (by decide) ?_
      exact l_feed o hfl hT (hR.2.1) hix hr hro kn
    · refine JP_tswIn (off := 181) o.1 1 h 221 d_L_law_40 (by decide) (by decide) rfl (by decide) ?_
      exact l_text o hfl hT (hR.2.2.1) hix hr hro kn
    · refine JP_tswIn (off := 237) o.1 2 h 277 d_L_law_40 (by decide) (by decide) rfl (by decide) ?_
      exact l_fault o hfl hT (hR.2.2.2.1) hix hr hro kn
    · refine JP_tswIn (off := 250) o.1 3 h 290 d_L_law_40 (by decide) (by decide) rfl (by decide) ?_
      exact l_hour o hfl hT (hR.2.2.2.2.1) hix hr hro kn
    · refine JP_tswIn (off := 330) o.1 4 h 370 d_L_law_40 (by decide) (by decide) rfl (by decide) ?_
      exact l_fuel o hfl hT (hR.2.2.2.2.2.1) hix hr hro kn
    · refine JP_tswIn (off := 398) o.1 5 h 438 d_L_law_40 (by decide) (by decide) rfl (by decide) ?_
      exact l_wind o hfl hT (hR.2.2.2.2.2.2.1) hix hr hro kn
    · refine JP_tswIn (off := 466) o.1 6 h 506 d_L_law_40 (by decide) (by decide) rfl (by decide) ?_
      exact l_undo o hfl hT (hR.2.2.2.2.2.2.2.1) hix hr hro kn
    · refine JP_tswIn (off := 479) o.1 7 h 519 d_L_law_40 (by decide) (by decide) rfl (by decide) ?_
      exact l_told o hfl hT (hR.2.2.2.2.2.2.2.2.1) hix hr hro kn
    · refine JP_tswIn (off := 535) o.1 8 h 575 d_L_law_40 (by decide) (by decide) rfl (by decide) ?_
      exact l_cell o hfl hT (hR.2.2.2.2.2.2.2.2.2.1) hix hr hro kn
    · refine JP_tswIn (off := 615) o.1 9 h 655 d_L_law_40 (by decide) (by decide) rfl (by decide) ?_
      exact l_blows o hfl hT (hR.2.2.2.2.2.2.2.2.2.2.1) hix hr hro kn
    · refine JP_tswIn (off := 671) o.1 10 h 711 d_L_law_40 (by decide) (by decide) rfl (by decide) ?_
      exact l_helper o hfl hT (hR.2.2.2.2.2.2.2.2.2.2.2.1) hix hr hro kn
    · refine JP_tswIn (off := 739) o.1 11 h 779 d_L_law_40 (by decide) (by decide) rfl (by decide) ?_
      exact l_drift o hfl hT (hR.2.2.2.2.2.2.2.2.2.2.2.2.1) hix hr hro kn
    · refine JP_tswIn (off := 807) o.1 12 h 847 d_L_law_40 (by decide) (by decide) rfl (by decide) ?_
      exact l_cost o hfl hT (hR.2.2.2.2.2.2.2.2.2.2.2.2.2.1) hix hr hro kn
    · refine JP_tswIn (off := 875) o.1 13 h 915 d_L_law_40 (by decide) (by decide) rfl (by decide) ?_
      exact l_meet o hfl hT (hR.2.2.2.2.2.2.2.2.2.2.2.2.2.2.1) hix hr hro kn
    · refine JP_tswIn (off := 943) o.1 14 h 983 d_L_law_40 (by decide) (by decide) rfl (by decide) ?_
      exact l_route o hfl hT (hR.2.2.2.2.2.2.2.2.2.2.2.2.2.2.2.1) hix hr hro kn
    · refine JP_tswIn (off := 1011) o.1 15 h 1051 d_L_law_40 (by decide) (by decide) rfl (by decide) ?_
      exact l_first o hfl hT (hR.2.2.2.2.2.2.2.2.2.2.2.2.2.2.2.2.1) hix hr hro kn
    · refine JP_tswIn (off := 1024) o.1 16 h 1064 d_L_law_40 (by decide) (by decide) rfl (by decide) ?_
      exact l_least o hfl hT (hR.2.2.2.2.2.2.2.2.2.2.2.2.2.2.2.2.2.1) hix hr hro kn
    · refine JP_tswIn (off := 1092) o.1 17 h 1132 d_L_law_40 (by decide) (by decide) rfl (by decide) ?_
      exact l_reach o hfl hT (hR.2.2.2.2.2.2.2.2.2.2.2.2.2.2.2.2.2.2.1) hix hr hro kn
    · refine JP_tswIn (off := 1160) o.1 18 h 1200 d_L_law_40 (by decide) (by decide) rfl (by decide) ?_
      exact l_most o hfl hT (hR.2.2.2.2.2.2.2.2.2.2.2.2.2.2.2.2.2.2.2.1) hix hr hro kn
    · refine JP_tswIn (off := 1252) o.1 19 h 1292 d_L_law_40 (by decide) (by decide) rfl (by decide) ?_
      exact l_relay o hfl hT (hR.2.2.2.2.2.2.2.2.2.2.2.2.2.2.2.2.2.2.2.2.1) hix hr hro kn
    · refine JP_tswIn (off := 1320) o.1 20 h 1360 d_L_law_40 (by decide) (by decide) rfl (by decide) ?_
      exact l_home o hfl hT (hR.2.2.2.2.2.2.2.2.2.2.2.2.2.2.2.2.2.2.2.2.2.1) hix hr hro kn
    · refine JP_tswIn (off := 1388) o.1 21 h 1428 d_L_law_40 (by decide) (by decide) rfl (by decide) ?_
      exact l_print o hfl hT (hR.2.2.2.2.2.2.2.2.2.2.2.2.2.2.2.2.2.2.2.2.2.2.1) hix hr hro kn
    · refine JP_tswIn (off := 1402) o.1 22 h 1442 d_L_law_40 (by decide) (by decide) rfl (by decide) ?_
      exact l_status o hfl hT (hR.2.2.2.2.2.2.2.2.2.2.2.2.2.2.2.2.2.2.2.2.2.2.2) hix hr hro kn
