/-! the law's entry: what the tables and the start give -/
abbrev FW : List Cond := flatC (Cond.and given_1 narrow_1)
def offS : List Nat := [79, 97, 104, 112, 123, 128, 134, 139, 145, 150, 156, 161, 167, 172, 180, 191, 201, 209, 217, 245, 263, 271, 280, 292, 298, 304, 311, 317, 324, 330, 337, 343, 350, 359, 371, 380, 389]
def tmS (i : Nat) : Term := .string ((sRef.map (fun q => q.1)).getD i "") ((sRef.map (fun q => q.2.1)).getD i 0)
def blkS (i : Nat) : List Cond := [.exactly (tmS i) "java/lang/String", .eq (.field (tmS i) "java/lang/String" "coder" "B") (.int 0), .arrayOf (.field (tmS i) "java/lang/String" "value" "[B") .byte, .eq (.length (.field (tmS i) "java/lang/String" "value" "[B")) (.int (Int32.ofNat (sLen.getD i 0)))] ++
  (List.range (sLen.getD i 0)).map (fun j => .eq (.elem (.field (tmS i) "java/lang/String" "value" "[B") (.int (Int32.ofNat j))) (.int ((sByt.getD i []).getD j 0)))
set_option maxRecDepth 20000 in
theorem sw_all : ((List.range nS).all fun i => decide ((FW.drop (offS.getD i 0)).take (blkS i).length = blkS i)) = true := by decide +kernel
theorem sw_in {i : Nat} (hi : i < nS) : ∀ q ∈ blkS i, q ∈ FW := by
  have h := of_decide_eq_true (List.all_eq_true.mp sw_all i (List.mem_range.mpr hi))
  intro q hq
  rw [← h] at hq
  exact List.mem_of_mem_drop (List.mem_of_mem_take hq)
theorem fw_at {q : Cond} (i : Nat) (h : FW[i]? = some q) : q ∈ FW := List.mem_of_getElem? h
theorem vs_Sof {args : Array Value} {s : State} {A : Nat → Prop} (hf : ∀ q ∈ FW, q.before args s = true) (hA : ∀ a : Nat, a < s.heap.size → ¬ A a) :
    ∃ adK adV : Nat → Nat, vs_S nS sLen sByt adK adV A s s.heap ∧ ∀ i : Nat, i < nS → (tmS i).eval args s none [] s = some (.ref (adK i)) := by
  have h0 : ∀ i : Nat, ∃ q : Nat × Nat, i < nS → (tmS i).eval args s none [] s = some (.ref q.1) ∧ va_O "java/lang/String" q.1 A s s.heap ∧ va_OF "java/lang/String" "coder" "B" (.int 0) q.1 A s s.heap ∧ va_OF "java/lang/String" "value" "[B" (.ref q.2) q.1 A s s.heap ∧ va_T .byte q.2 (sLen.getD i 0) (fun j => .int ((sByt.getD i []).getD j 0)) A s s.heap := by
    intro i
    by_cases hi : i < nS
    · have hw : ∀ q ∈ blkS i, q.before args s = true := fun q hq => hf q (sw_in hi q hq)
      obtain ⟨a, c, cA, kA, q1, q2, q3, q4, q5, q6, -⟩ := Cond.exactly_spec (args := args) (first := s) (o := none) (s := s) (idx := []) (t := tmS i) (cls := "java/lang/String") (hw _ List.mem_cons_self)
      obtain ⟨t, ht, hT⟩ := va_Tof (ty := .byte) (tm := .field (tmS i) "java/lang/String" "value" "[B") (f := fun j => .int ((sByt.getD i []).getD j 0)) (A := A) (sLen_ok i hi) (hw _ (by simp [blkS])) (va_eqt (hw _ (by simp [blkS]))) (fun j hj => va_eqt (hw _ (List.mem_append_right _ (List.mem_map.mpr ⟨j, List.mem_range.mpr hj, rfl⟩)))) hA
      exact ⟨(a, t), fun _ => ⟨q1, ⟨cA, q3, q5, by rw [q6]; exact q2, hA a (Array.getElem?_eq_some_iff.mp q3).1⟩, vk_OFof q1 (va_eqt (hw _ (by simp [blkS]))) hA, vk_OFof q1 ht hA, hT⟩⟩
    · exact ⟨(0, 0), fun h => absurd h hi⟩
  obtain ⟨ad, had⟩ := Classical.axiomOfChoice h0
  exact ⟨fun i => (ad i).1, fun i => (ad i).2, fun i hi => (had i hi).2, fun i hi => (had i hi).1⟩
theorem e_cls {args : Array Value} {s : State} (hts : ∀ q ∈ lw_tbl, q.before args s = true) : ∃ D : va_G, va_K D vwCl [] s := by
  have h0 : ∀ c : Nat, ∃ q : ClassId × (Nat → Nat), c < 6 → u_Kn s (tR c) (tT c) (nf c) q.1 q.2 := by
    intro c
    by_cases hc : c < 6
    · have h : ∃ (cC : ClassId) (iS : Nat → Nat), u_Kn s (tR c) (tT c) (nf c) cC iS := lt6 (P := fun c => ∃ (cC : ClassId) (iS : Nat → Nat), u_Kn s (tR c) (tT c) (nf c) cC iS)
        (u_known (n := 10) hts (by decide +kernel) (hts (.instantiable (tR 0) 10) (by decide +kernel)))
        (u_known (n := 4) hts (by decide +kernel) (hts (.instantiable (tR 1) 4) (by decide +kernel)))
        (u_known (n := 15) hts (by decide +kernel) (hts (.instantiable (tR 2) 15) (by decide +kernel)))
        (u_known (n := 17) hts (by decide +kernel) (hts (.instantiable (tR 3) 17) (by decide +kernel)))
        (u_known (n := 13) hts (by decide +kernel) (hts (.instantiable (tR 4) 13) (by decide +kernel)))
        (u_known (n := 20) hts (by decide +kernel) (hts (.instantiable (tR 5) 20) (by decide +kernel))) hc
      obtain ⟨cC, iS, h⟩ := h
      exact ⟨(cC, iS), fun _ => h⟩
    · exact ⟨(0, fun _ => 0), fun h => absurd h hc⟩
  obtain ⟨ad, had⟩ := Classical.axiomOfChoice h0
  refine ⟨(fun c => (ad c).1, fun c => (ad c).2), fun c q hq => ?_, fun k q h => by simp at h⟩
  have hc : c < 6 := (List.getElem?_eq_some_iff.mp hq).1
  rw [t_cl hc] at hq
  cases hq
  exact had c hc
theorem e_arr {args : Array Value} {s : State} (hts : ∀ q ∈ lw_tbl, q.before args s = true) : ∃ t : Nat → ClassId, ∀ i, i < 4 → ArrOfT s (t i) (tyA i) ∧ va_RA s (t i) (tyA i) := by
  obtain ⟨c0, a1, k0, b1, b2, b3⟩ : ∃ (cA comp : ClassId) (kA : Class), s.vm.findClass "[I" = some cA ∧ s.vm.classes[cA]? = some kA ∧ kA.kind = .array comp .int := by
    obtain ⟨c, k, comp, h1, h2, h3⟩ := Cond.arrayClass_spec (hts (.arrayClass .int) (by decide +kernel))
    exact ⟨c, comp, k, h1, h2, h3⟩
  obtain ⟨p1, c1, k1, d1, -, d2, d3, d4⟩ := Cond.arrayOver_spec (n := "SeaMeeting$Sailing") (hts (.arrayOver (.object "SeaMeeting$Sailing")) (by decide +kernel))
  obtain ⟨p2, c2, k2, e1, -, e2, e3, e4⟩ := Cond.arrayOver_spec (n := "SeaMeeting$World") (hts (.arrayOver (.object "SeaMeeting$World")) (by decide +kernel))
  obtain ⟨p3, c3, k3, f1, -, f2, f3, f4⟩ := arrayOverA_spec (t := .int) (hts (.arrayOver (.array .int)) (by decide +kernel))
  refine ⟨fun i => if i = 0 then c0 else if i = 1 then c1 else if i = 2 then c2 else c3, fun i hi => ?_⟩
  rcases (show i = 0 ∨ i = 1 ∨ i = 2 ∨ i = 3 by omega) with rfl | rfl | rfl | rfl
  · exact ⟨fun N z => ⟨(fun k h => by cases h), k0, b2, _, b3⟩, b1⟩
  · exact ⟨fun N z => ⟨(fun k h => by cases h), k1, d2, _, d3⟩, k1, p1, d2, d3, d1, d4⟩
  · exact ⟨fun N z => ⟨(fun k h => by cases h), k2, e2, _, e3⟩, k2, p2, e2, e3, e1, e4⟩
  · exact ⟨fun N z => ⟨(fun k h => by cases h), k3, f2, _, f3⟩, f4⟩
theorem nests_ok : (∀ q ∈ nestF, Cond.fieldLinkNest q.1 q.2.1 q.2.2.1 q.2.2.2.1 q.2.2.2.2.1 q.2.2.2.2.2 ∈ lw_tbl) ∧ (∀ q ∈ nestM, Cond.methodLinkNest q.1 q.2.1 q.2.2.1 q.2.2.2 ∈ lw_tbl) ∧ (∀ q ∈ sRef, Cond.stringRef q.1 q.2.1 q.2.2.1 ∈ lw_tbl) ∧ (∀ q ∈ decL, Cond.declares q ∈ lw_tbl) ∧ (∀ q ∈ casL, Cond.castable q.1 q.2 ∈ lw_tbl) := by decide +kernel
theorem ncs_ok : ∀ q ∈ ncL, Cond.not (.castable q.1 q.2) ∈ FW := by decide +kernel
theorem sRef_ok : ∀ q ∈ sRef, q.2.2.2 < nS ∧ (sRef.map (fun q => q.1)).getD q.2.2.2 "" = q.1 ∧ (sRef.map (fun q => q.2.1)).getD q.2.2.2 0 = q.2.1 := by decide +kernel
theorem tabE : ∀ j, j < 9 → Cond.eq (.elem (.static "SeaMeeting" "EAST" "[I") (.int (Int32.ofNat j))) (.int (eastT j)) ∈ FW := by decide +kernel
theorem tabN : ∀ j, j < 9 → Cond.eq (.elem (.static "SeaMeeting" "NORTH" "[I") (.int (Int32.ofNat j))) (.int (northT j)) ∈ FW := by decide +kernel
set_option maxHeartbeats 1000000 in
/-- the entry's world -/
theorem ev_start {s : State} {b : Nat} (hts : ∀ q ∈ lw_tbl, q.before #[Value.ref b] s = true) (hgv : (Cond.and given_1 narrow_1).before #[Value.ref b] s = true) :
    ∃ g : va_G × (Nat → ClassId) × (Nat → Nat) × (Nat → Nat), Ev ((0, 347, s.heap.size), g) s s.heap ∧ (∀ i, i < 4 → va_RA s (g.2.1 i) (tyA i)) ∧ va_AO "SeaMeeting$Sailing" s ∧ va_AO "SeaMeeting$World" s ∧ (Cond.arrayOver (.array .int)).before #[] s = true := by
  have hf : ∀ q ∈ FW, q.before #[Value.ref b] s = true := flat_of_before _ hgv
  have hA : ∀ a : Nat, a < s.heap.size → ¬ (s.heap.size ≤ a) := fun a h => Nat.not_le.mpr h
  obtain ⟨D, hD⟩ := e_cls hts
  obtain ⟨t, ht⟩ := e_arr hts
  obtain ⟨adK, adV, hS, hSe⟩ := vs_Sof (A := fun q => s.heap.size ≤ q) hf hA
  obtain ⟨n1, n2, n3, n4, n5⟩ := nests_ok
  obtain ⟨tE, hE1, hE2⟩ := va_Tof (ty := .int) (tm := .static "SeaMeeting" "EAST" "[I") (N := 9) (f := fun j => .int (eastT j)) (A := fun q => s.heap.size ≤ q) (by decide) (hf _ (fw_at 5 (by decide +kernel))) (va_eqt (hf _ (fw_at 6 (by decide +kernel)))) (fun j hj => va_eqt (hf _ (tabE j hj))) hA
  obtain ⟨tN, hN1, hN2⟩ := va_Tof (ty := .int) (tm := .static "SeaMeeting" "NORTH" "[I") (N := 9) (f := fun j => .int (northT j)) (A := fun q => s.heap.size ≤ q) (by decide) (hf _ (fw_at 17 (by decide +kernel))) (va_eqt (hf _ (fw_at 18 (by decide +kernel)))) (fun j hj => va_eqt (hf _ (tabN j hj))) hA
  refine ⟨(D, t, adK, adV), ⟨Nat.le_refl _, hD, fun i hi => (ht i hi).1, fun q hq => va_Nw.of rfl (hts _ (n1 q hq)), fun q hq => va_Nw.of rfl (hts _ (n2 q hq)), ?_, ?_, hS, fun q hq => ?_, ?_, ?_, ?_, ?_, fun q hq => va_Nw.of rfl (hts _ (n4 q hq)), fun q hq => va_Nw.of rfl (hts _ (n5 q hq)), fun q hq => va_Nc.of (hf _ (ncs_ok q hq))⟩, fun i hi => (ht i hi).2, va_AO.of (hts _ (by decide +kernel)), va_AO.of (hts _ (by decide +kernel)), ?_⟩
  · exact ⟨tE, va_Zof (hts _ (by decide +kernel)) (hts (.initialized "SeaMeeting") (by decide +kernel)) hE1 hA, hE2⟩
  · exact ⟨tN, va_Zof (hts _ (by decide +kernel)) (hts (.initialized "SeaMeeting") (by decide +kernel)) hN1 hA, hN2⟩
  · obtain ⟨s1, s2, s3⟩ := sRef_ok q hq
    have h2 := hSe q.2.2.2 s1
    unfold tmS at h2
    rw [s2, s3] at h2
    exact vk_R.of (hts _ (n3 q hq)) h2
  · exact va_Zof (hts _ (by decide +kernel)) (hts (.initialized "java/lang/String") (by decide +kernel)) (va_eqt (hf _ (fw_at 30 (by decide +kernel)))) hA
  · exact va_Zqof (hts _ (by decide +kernel)) (hts (.initialized "jdk/internal/util/Preconditions") (by decide +kernel)) (hf _ (fw_at 31 (by decide +kernel))) hA
  · exact vx_Zqof (hts _ (by decide +kernel)) (hts (.initialized Bundle.tN) (by decide +kernel)) (hf _ (fw_at 28 (by decide +kernel))) hA
  · exact vx_Zqof (hts _ (by decide +kernel)) (hts (.initialized Bundle.tN) (by decide +kernel)) (hf _ (fw_at 29 (by decide +kernel))) hA
  · exact hts (.arrayOver (.array .int)) (by decide +kernel)
