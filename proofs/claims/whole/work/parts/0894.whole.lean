/-! THE CLAIM OUT OF ONE WALK OF THE LAW'S BODY. Your part is whole_start (and what it stands on); all else here is the same for every law, but numbers. -/
def R_law : String := "SeaMeetingLaw"
def lw_P (b : Addr) (xs : List Int32) (args : Array Value) (s : State) : Prop := args = #[.ref b] ∧ s.IntsAt b xs ∧ xs.length ≤ 3072 ∧ (Jvm.Cond.and given_1 narrow_1).before args s = true
def lw_Q (_ : Array Value) (s : State) (o : Outcome) (t : State) : Prop := o = .returned (some (.int 1)) ∧ Framed s o t [] 601024 7293034
def lw_Z (below : List Frame) (a : Array Value) (s : State) : State → Prop := fun t => ∃ o, t.status = .running ∧ Ended t below o ∧ lw_Q a s o t
/-- the law's own end, with 1 on the stack, nothing written that was there before, its room as the claim has it -/
theorem lw_ret {p : Program} {l : Launch} {e : Env} {s : State} {m : MethodId} {below : List Frame} {meth : Method} {c : Code} {b : Nat} (hx : p.tables.exec = Jvm.exec) (hb : c.code = code) (hr : meth.sig.returnType = ret) (hlocks : meth.locks = false) {pc : Nat} {H : Heap} {ls : Array Slot} (hdg : decode code pc = .ok (.ireturn, 1)) : W p l e room_1 s m #[Value.ref b] below meth c H [] 601024 7293034 (lw_Z below #[Value.ref b] s) (F0 m pc ls [.int 1]) := by
  intro T hT X
  obtain ⟨fs, hret, hrun, hended, hW, hframe⟩ := X.leave (v := some (.int 1)) (hlocks := hlocks) (fun h => by rw [hr] at h; cases h)
  have hmeth' : T.vm.method? m = some meth := X.method'
  refine ⟨T.setFrames fs, ?_, .returned (some (.int 1)), hrun, hended, rfl, ⟨_, rfl⟩, hW, hframe⟩
  jvm_step X.here [X.here.top, hx, hb, hdg, hmeth', hr, ret, narrow_b1]
  (try refine ⟨rfl, ?_⟩); (try refine ⟨rfl, ?_⟩)
  first | (intro acts; rw [hret _ acts rfl rfl rfl]) | rw [hret _ _ rfl rfl rfl]
  exact Steps.refl _
/-- what holds at the law's entry: the machine, the code, the tables' words (any of lw_tbl by 'hts w (by decide +kernel)'), the script of L ints xs at the cell b, what the Statement gives of the start (any of its parts by flat_of_before) -/
def lw_At (p : Program) (s : State) (m : MethodId) (meth : Method) (c : Code) (b L : Nat) (xs : Nat → Int32) : Prop :=
  p.tables.exec = Jvm.exec ∧ c.code = code ∧ meth.sig.returnType = ret ∧ c.maxLocals = 7 ∧ s.vm.findClass R_law = some m.cls ∧ (∀ w ∈ lw_tbl, w.before #[Value.ref b] s = true) ∧ va_X b L xs s s.heap ∧ b < s.heap.size ∧ meth.locks = false ∧ (Jvm.Cond.and given_1 narrow_1).before #[Value.ref b] s = true
theorem ck_RL_8 : Cond.classLink RL 8 (tR 4) ∈ TBL := tb_in 20 (by decide +kernel) rfl
theorem ia_4 : Cond.instantiable (tR 4) (nf 4) ∈ TBL := tb_in 21 (by decide +kernel) rfl
theorem in_4 : Cond.initialized (tR 4) ∈ TBL := tb_in 1 (by decide +kernel) rfl
theorem ck_RL_71 : Cond.classLink RL 71 (tR 5) ∈ TBL := tb_in 971 (by decide +kernel) rfl
theorem ia_5 : Cond.instantiable (tR 5) (nf 5) ∈ TBL := tb_in 972 (by decide +kernel) rfl
theorem in_5 : Cond.initialized (tR 5) ∈ TBL := tb_in 7 (by decide +kernel) rfl
theorem mth_X4_init : Mth yX4_init cX4_init 2 none 0 := ⟨tb_in 24 (by decide +kernel) rfl, tb_in 1 (by decide +kernel) rfl, ⟨by decide +kernel, by decide +kernel⟩, by decide +kernel⟩
theorem mth_X5_init : Mth yX5_init cX5_init 1 none 0 := ⟨tb_in 975 (by decide +kernel) rfl, tb_in 7 (by decide +kernel) rfl, ⟨by decide +kernel, by decide +kernel⟩, by decide +kernel⟩
theorem ivi_X4_init : Cond.instanceMethod yX4_init ∈ TBL := tb_in 23 (by decide +kernel) rfl
theorem ivi_X5_init : Cond.instanceMethod yX5_init ∈ TBL := tb_in 974 (by decide +kernel) rfl
theorem ml_RL_70 : Cond.methodLink RL 70 yX4_init ∈ TBL := tb_in 22 (by decide +kernel) rfl
theorem ml_RL_73 : Cond.methodLink RL 73 yX5_init ∈ TBL := tb_in 973 (by decide +kernel) rfl
theorem ac_long : Cond.arrayClass .long ∈ TBL := tb_in 1338 (by decide +kernel) rfl

section
variable {x : Cx} {Q : State → Prop} {cc : ByteArray} {nL : Nat} {own : String} {ret : Option FieldType} {rm : Room} {pc : Nat} {lv : List (Nat × Value)} {st : List Value} {cs : Nat × Nat}
theorem JO_makeC {w : Wx} {op : Ops} {n : Nat} (o : OkG x w cc nL own ret rm) {y : MethodName} {bytes : ByteArray} {maxL idx a : Nat} {r2 : Room} {K : Sg → Prop} (hm : Mth y bytes maxL none 0) (hs : y.name = "<init>" ∧ Cond.instanceMethod y ∈ TBL) (hl0 : Cond.methodLink own idx y ∈ TBL) (hR : r2.frames + 1 ≤ rm.frames ∧ 8 + (maxL + 11) + r2.locals ≤ rm.locals)
    (hr8 : (st.map fun v => v.category).sum ≤ 8) (hcs : cs.1 + r2.cells ≤ rm.cells ∧ cs.2 + r2.slots ≤ rm.slots) (d : decode cc pc = .ok (.invokespecial idx, 3)) (hC : Met (xL x) y (.code y bytes maxL none :: TBL) r2 (PreO w [.ref a] op n) (PostC w (PV K)) r2.cells r2.slots (Fr w))
    (kk : ∀ σ, K σ → JP x (Fr w) (fun H => Wd w σ H) Q (pc + 3) lv st (cs.1 + r2.cells, cs.2 + r2.slots)) : JO x w Q pc lv (.ref a :: st) cs op n := by
  intro H locs ls hS hW hl
  have hr : va_Run (xP x) (xL x) (xE x) (xR x) (xS x) (xM x) (xA x) (xW x) (xY x) (xC x) H locs cs.1 cs.2 r2.cells r2.slots (F0 (xM x) pc ls (.ref a :: st)) st (PostC w (PV K) [Value.ref a].toArray) (Fr w) :=
    va_runI (As := []) (JO_fix o) hC ⟨J_cB o.1 hm hl0 hR, hs.1, o.1.2.2.2.2.1 _ hs.2⟩ (JO_pre o hS hW) rfl rfl (hl.1.trans o.1.2.2.1) rfl (lv_room hr8) d (by rw [o.1.2.2.2.2.2.2.2.1]; exact hcs)
  intro T hT X
  obtain ⟨u, st₀, t, T', L, h0, X', hL, e1, e2, ⟨⟨σ', ⟨hu, hK⟩, hw⟩, hz, hk⟩, go⟩ := hr T hT X
  cases hu
  rw [h0] at hz hk
  have hA : ∀ q, Ar w H.size q → Fr w q := fun q h => by
    unfold Fr
    rcases h with h | h
    · exact h.1
    · have h1 := hW.1
      have h2 := hW.2.1
      omega
  have hS' : va_S (Fr w) (xS x).heap T'.heap (locs ++ L) := ⟨Nat.le_trans hS.1 (by rw [e1]; exact hz), fun q h1 h2 => by rw [e1, hk q (Nat.lt_of_lt_of_le h1 hS.1) (fun z => h2 (hA q z))]; exact hS.2.1 q h1 h2, fun q hq => by
      rcases List.mem_append.mp hq with h | h
      · exact hS.2.2 q h
      · exact hL q h⟩
  obtain ⟨t2, a1, b1⟩ := kk σ' hK T'.heap (locs ++ L) ls hS' (by rw [e1]; exact hw) hl T' rfl X'
  exact ⟨t2, go t2 a1, b1⟩
theorem JP_newM (o : OkP x cc nL own ret rm) {bc : Wy} {σc : Sg} {idx : Nat} (hK : va_K (wD (wC bc)) vwCl [] (xS x)) (hls : ∀ k, k < nf 5 → u_lay (tR 5) (tT 5) k ∈ TBL) (hcl : Cond.classLink own idx (tR 5) ∈ TBL) (hin : Cond.instantiable (tR 5) (nf 5) ∈ TBL) (hini : Cond.initialized (tR 5) ∈ TBL)
    (hR : cs.1 + 1 ≤ rm.cells ∧ cs.2 + nf 5 ≤ rm.slots) (d : decode cc pc = .ok (.new idx, 3)) (kk : ∀ M : Nat, bc.1 ≤ M → JP x (Lo (wC bc)) (fun H => Wd (wC bc) σc H ∧ WO (wM (M, bc.2)) [(347, fun j => defaultValue (tY 5 j))] 348 H) Q (pc + 3) lv (.ref (M + 347) :: st) (cs.1 + 1, cs.2 + nf 5)) : JP x (Lo (wC bc)) (fun H => Wd (wC bc) σc H) Q pc lv st cs := by
  intro H locs ls hS hW hl
  have hlt : bc.1 + 346 < H.size := (hW 346 (Nat.zero_le _) (Nat.le_of_ble_eq_true rfl)).lt
  obtain ⟨M, hM⟩ : ∃ M, H.size = M + 347 := ⟨H.size - 347, by omega⟩
  have hKn := hK.1 5 _ (t_cl (c := 5) (by decide))
  refine W.newcK o.1 o.2.1 o.2.2.2.1 (o.2.2.2.2.1 _ hcl) (o.2.2.2.2.1 _ hin) (o.2.2.2.2.1 _ hini) rfl d (by rw [o.2.2.2.2.2.2.2]; exact hR.1) (by rw [o.2.2.2.2.2.2.2]; exact hR.2) hKn.2.1 hM fun H1 kC hkC e1 z1 o1 => ?_
  have hb := u_born (tY 5) o.2.2.2.2.1 (fun q hq => by
    obtain ⟨k, hk, rfl⟩ := List.mem_map.mp hq
    exact hls k (List.mem_range.mp hk)) hKn hkC e1 (t_ty (c := 5) (by decide))
  have h0 : WO (wM (M, bc.2)) [] 347 H := ⟨hM, Nat.le_refl 347, (fun i j p q h => by simp at h), (fun i q h => by simp at h), fun k k1 k2 _ => absurd k2 (Nat.not_lt.mpr k1)⟩
  have hold : ∀ q : Nat, q < H.size → H1[q]? = H[q]? := fun q hq => o1 q (by rw [← hM]; exact hq)
  exact kk M (by omega) H1 locs ls ⟨Nat.le_trans hS.1 (by omega), fun q h1 h2 => (hold q (Nat.lt_of_lt_of_le h1 hS.1)).trans (hS.2.1 q h1 h2), hS.2.2⟩
    ⟨fun k k1 k2 => (hW k k1 k2).kept (hold _ (hW k k1 k2).lt) (fun _ => rfl), h0.push z1 o1 (CG.ofObj (c := 5) rfl (by decide) hb)⟩ hl
theorem JP_makeM (o : OkP x cc nL own ret rm) {bc : Wy} {M : Nat} {σc : Sg} {op : Ops} (hE : Ev (wC bc) (xS x) (xS x).heap) (hF : FcG (wC bc) (xS x)) (hM : bc.1 ≤ M) {y : MethodName} {bytes : ByteArray} {maxL idx : Nat} {r2 : Room} {K : Sg → Prop} (hm : Mth y bytes maxL none 0) (hs : y.name = "<init>" ∧ Cond.instanceMethod y ∈ TBL) (hl0 : Cond.methodLink own idx y ∈ TBL) (hR : r2.frames + 1 ≤ rm.frames ∧ 8 + (maxL + 11) + r2.locals ≤ rm.locals)
    (hr8 : (st.map fun v => v.category).sum ≤ 8) (hcs : cs.1 + r2.cells ≤ rm.cells ∧ cs.2 + r2.slots ≤ rm.slots) (d : decode cc pc = .ok (.invokespecial idx, 3)) (hC : Met (xL x) y (.code y bytes maxL none :: TBL) r2 (PreO (wM (M, bc.2)) [.ref (M + 347)] op 348) (PostC (wM (M, bc.2)) (PV K)) r2.cells r2.slots (Fr (wM (M, bc.2))))
    (kk : ∀ σ, K σ → JP x (Lo (wC bc)) (fun H => Wd (wC bc) σc H ∧ Wd (wM (M, bc.2)) σ H) Q (pc + 3) lv st (cs.1 + r2.cells, cs.2 + r2.slots)) : JP x (Lo (wC bc)) (fun H => Wd (wC bc) σc H ∧ WO (wM (M, bc.2)) op 348 H) Q pc lv (.ref (M + 347) :: st) cs := by
  intro H locs ls hS hI hl
  obtain ⟨hWc, hW⟩ := hI
  have hz0 : H.size = M + 348 := hW.1
  have hp : PreS (xS x) H (PreO (wM (M, bc.2)) [.ref (M + 347)] op 348) [.ref (M + 347)] := by
    refine ⟨PreO.blind, fun U hU hWm => ⟨rfl, ?_, hF.warm hWm, by rw [hU]; exact hW⟩⟩
    rw [hU]
    exact Ev.base ((hE.kept hS.1 (fun a h1 h2 => hS.2.1 a h1 h2)).warm hWm) hM (by omega)
  have hr : va_Run (xP x) (xL x) (xE x) (xR x) (xS x) (xM x) (xA x) (xW x) (xY x) (xC x) H locs cs.1 cs.2 r2.cells r2.slots (F0 (xM x) pc ls (.ref (M + 347) :: st)) st (PostC (wM (M, bc.2)) (PV K) [Value.ref (M + 347)].toArray) (Fr (wM (M, bc.2))) :=
    va_runI (As := []) (own := own) (Ts := TBL) ⟨o.1, o.2.1, o.2.2.1, o.2.2.2.1, o.2.2.2.2.1⟩ hC ⟨⟨rfl, rfl, by rw [o.2.2.2.2.2.2.2]; exact hR.1, by rw [o.2.2.2.2.2.2.2]; exact hR.2, pay_in o.2.2.2.2.1 (tb_goodL y bytes maxL none hm.1), List.mem_cons_self, o.2.2.2.2.1 _ hm.1, o.2.2.2.2.1 _ hm.2.1, hm.2.2.1, hm.len, o.2.2.2.2.1 _ hl0⟩, hs.1, o.2.2.2.2.1 _ hs.2⟩ hp rfl rfl (hl.1.trans o.2.2.1) rfl (lv_room hr8) d (by rw [o.2.2.2.2.2.2.2]; exact hcs)
  intro T hT X
  obtain ⟨u, st₀, t, T', L, h0, X', hL, e1, e2, ⟨⟨σ', ⟨hu, hK⟩, hw⟩, hz, hk⟩, go⟩ := hr T hT X
  cases hu
  rw [h0] at hz hk
  have hA : ∀ q, Ar (wM (M, bc.2)) H.size q → bc.1 ≤ q := fun q h => by
    rcases h with h | h
    · have : M + 347 ≤ q := h.1
      omega
    · omega
  have hS' : va_S (Lo (wC bc)) (xS x).heap T'.heap (locs ++ L) := ⟨Nat.le_trans hS.1 (by rw [e1]; exact hz), fun q h1 h2 => by rw [e1, hk q (Nat.lt_of_lt_of_le h1 hS.1) (fun z => h2 (hA q z))]; exact hS.2.1 q h1 h2, fun q hq => by
      rcases List.mem_append.mp hq with h | h
      · exact hS.2.2 q h
      · have : M + 347 ≤ q.base := hL q h
        exact Nat.le_trans hM (by omega)⟩
  have hWc' : Wd (wC bc) σc t.heap := fun k k1 k2 => by
    have hc := hWc k k1 k2
    have hlt : bc.1 + k < H.size := hc.lt
    have hk2 : k < 347 := k2
    refine hc.kept (hk _ hlt (fun z => ?_)) (fun _ => rfl)
    rcases z with z | z
    · have : M + 347 ≤ bc.1 + k := z.1
      omega
    · exact absurd z (Nat.not_le.mpr hlt)
  obtain ⟨t2, a1, b1⟩ := kk σ' hK T'.heap (locs ++ L) ls hS' (by rw [e1]; exact ⟨hWc', hw⟩) hl T' rfl X'
  exact ⟨t2, go t2 a1, b1⟩
theorem JP_newJ (o : OkP x cc nL own ret rm) {bc : Wy} {M : Nat} {σc σm : Sg} (ha : Cond.arrayClass .long ∈ TBL) (hR : cs.1 + 1 ≤ rm.cells ∧ cs.2 + 1 ≤ rm.slots) (d : decode cc pc = .ok (.newarray .long, 2))
    (kk : ∀ (po : Nat) (cJ : ClassId), M + 549 ≤ po → ArrOfT (xS x) cJ .long → JP x (Lo (wC bc)) (LW (bc, M, po, cJ) σc σm 0) Q (pc + 2) lv (.ref po :: st) (cs.1 + 1, cs.2 + 1)) : JP x (Lo (wC bc)) (fun H => Wd (wC bc) σc H ∧ Wd (wM (M, bc.2)) σm H) Q pc lv (.int 1 :: st) cs := by
  intro H locs ls hS hI hl
  have h548 : M + 548 < H.size := (hI.2 548 (Nat.le_of_ble_eq_true rfl) (Nat.le_of_ble_eq_true rfl)).lt
  refine W.newa (atype := .long) (n := 1) (rest := st) o.1 o.2.1 (o.2.2.2.2.1 _ ha) rfl d rfl (by decide) (by decide) (by rw [o.2.2.2.2.2.2.2]; exact hR.1) (by rw [o.2.2.2.2.2.2.2]; exact hR.2) fun cA kA comp f1 f2 f3 => ?_
  generalize hH1 : H.push ({ cls := cA, slots := Array.replicate (1 : Int32).toNatClampNeg (defaultValue (newarray.typeOf .long)), vm := .none } : Cell) = H1
  have e1 : H1[H.size]? = some (arrV cA 1 (fun _ => .long 0)) := by
    rw [← hH1, Array.getElem?_push_size, ← arrV_new]
    rfl
  have o1 : ∀ q : Nat, q < H.size → H1[q]? = H[q]? := fun q hq => by rw [← hH1, Array.getElem?_push, if_neg (Nat.ne_of_lt hq)]
  have z1 : H1.size = H.size + 1 := by rw [← hH1, Array.size_push]
  exact kk H.size cA (by omega) (fun N z => ⟨(fun k h => by cases h), kA, f2, comp, f3⟩) H1 locs ls ⟨Nat.le_trans hS.1 (by omega), fun q h1 h2 => (o1 q (Nat.lt_of_lt_of_le h1 hS.1)).trans (hS.2.1 q h1 h2), hS.2.2⟩
    ⟨fun k k1 k2 => (hI.1 k k1 k2).kept (o1 _ (hI.1 k k1 k2).lt) (fun _ => rfl), fun k k1 k2 => (hI.2 k k1 k2).kept (o1 _ (hI.2 k k1 k2).lt) (fun _ => rfl), e1⟩ hl
end
set_option maxHeartbeats 4000000 in
set_option maxRecDepth 20000 in
/-- the law comes to its end with true, if class and reference keep R -/
theorem whole_of {R : Sg → Sg → Prop} (hR : Obl R) {p : Program} {e : Env} {s : State} {m : MethodId} {below : List Frame} {meth : Method} {c : Code} (l : Launch) (hflags : l.flags = flags0) {b L : Nat} {xs : Nat → Int32} (hL : L ≤ 3072) (C0 : lw_At p s m meth c b L xs) : W p l e room_1 s m #[Value.ref b] below meth c s.heap [] 0 0 (lw_Z below #[Value.ref b] s) (entryFrame m ([Value.ref b] : List Value).toArray 7) := by
  obtain ⟨hx, hb, hr, hml, hown, hts, hX, hbl, hlocks, hgv⟩ := id C0
  obtain ⟨g, hE, hF1, hF2, hF3, hF4⟩ := ev_start hts hgv
  have htb : ∀ q ∈ TBL, q.before #[Value.ref b] s = true := fun q hq => hts q (List.mem_filter.mp hq).1
  obtain ⟨x, hxe⟩ : ∃ x : Cx, x = (p, l, e, room_1, s, m, #[Value.ref b], below, meth, c) := ⟨_, rfl⟩
  have oP : OkP x cL_law 7 RL (some .boolean) room_1 := by subst hxe; exact ⟨hx, hb, hml, hown, htb, hlocks, hr, rfl⟩
  have hE' : Ev (wC (s.heap.size, g)) (xS x) (xS x).heap := by subst hxe; exact hE
  have oG : OkG x (wC (s.heap.size, g)) cL_law 7 RL (some .boolean) room_1 := ⟨⟨oP.1, oP.2.1, oP.2.2.1, oP.2.2.2.1, oP.2.2.2.2.1, oP.2.2.2.2.2.1, oP.2.2.2.2.2.2.1, oP.2.2.2.2.2.2.2, hE'⟩, by subst hxe; exact ⟨hF1, hF2, hF3, hF4⟩⟩
  have hfl : (xL x).stackTraces = false := by
    subst hxe
    show l.stackTraces = false
    unfold Launch.stackTraces
    rw [hflags]
    decide
  have hT : va_T .int b L (fun j => .int (xs j)) (Lo (wC (s.heap.size, g))) (xS x) (xS x).heap := by
    subst hxe
    obtain ⟨scr, q1, q2, q3, q4, q5⟩ := hX
    exact ⟨scr, q1, q2, q3, by omega, by rw [q4], q5, Nat.not_le.mpr hbl⟩
  have K : JO x (wC (s.heap.size, g)) (lw_Z below #[Value.ref b] s) 0 [(0, .ref b)] [] (0, 0) [] 0 := by
    refine JO_new (c := 4) (n1 := 1) oG (by decide) rfl la_4 ck_RL_8 ia_4 in_4 ⟨Nat.le_of_ble_eq_true rfl, Nat.le_of_ble_eq_true rfl⟩ rfl d_L_law_0 ?_
    refine JO_dup oG d_L_law_3 rfl ?_
    refine JO_makeC (r2 := rm_X4_init) oG mth_X4_init ⟨rfl, ivi_X4_init⟩ ml_RL_70 ⟨Nat.le_of_ble_eq_true rfl, Nat.le_of_ble_eq_true rfl⟩ (Nat.le_of_ble_eq_true rfl) ⟨Nat.le_of_ble_eq_true rfl, Nat.le_of_ble_eq_true rfl⟩ d_L_law_4 (w_X4_init (xL x) (s.heap.size, g) hR.1) (fun σc h1 => ?_)
    show JP x (Lo (wC (s.heap.size, g))) _ _ _ _ _ _
    refine JP_astore_n (lv' := [(1, .ref (s.heap.size + 0)), (0, .ref b)]) oP d_L_law_7 (by decide) rfl ?_
    refine JP_newM oP hE'.2.1 la_5 ck_RL_71 ia_5 in_5 ⟨Nat.le_of_ble_eq_true rfl, Nat.le_of_ble_eq_true rfl⟩ d_L_law_8 (fun M hM => ?_)
    refine JP_dup oP d_L_law_11 rfl ?_
    refine JP_makeM (r2 := rm_X5_init) oP hE' oG.2 hM mth_X5_init ⟨rfl, ivi_X5_init⟩ ml_RL_73 ⟨Nat.le_of_ble_eq_true rfl, Nat.le_of_ble_eq_true rfl⟩ (Nat.le_of_ble_eq_true rfl) ⟨Nat.le_of_ble_eq_true rfl, Nat.le_of_ble_eq_true rfl⟩ d_L_law_12 (w_X5_init (xL x) (M, g) h1) (fun σm h2 => ?_)
    refine JP_astore_n (lv' := [(2, .ref (M + 347)), (1, .ref (s.heap.size + 0)), (0, .ref b)]) oP d_L_law_15 (by decide) rfl ?_
    refine JP_iconst (v := 1) oP d_L_law_16 (by decide) ?_
    refine JP_newJ oP ac_long ⟨Nat.le_of_ble_eq_true rfl, Nat.le_of_ble_eq_true rfl⟩ d_L_law_17 (fun po cJ hpo hJ => ?_)
    refine JP_astore_n (lv' := [(3, .ref po), (2, .ref (M + 347)), (1, .ref (s.heap.size + 0)), (0, .ref b)]) oP d_L_law_19 (by decide) rfl ?_
    refine JP_iconst (v := 0) oP d_L_law_20 (by decide) ?_
    refine JP_istore (lv' := [(4, .int (nI 0)), (3, .ref po), (2, .ref (M + 347)), (1, .ref (s.heap.size + 0)), (0, .ref b)]) oP d_L_law_21 (by decide) rfl ?_
    refine JP_wide (c2 := (600, 140000)) ⟨Nat.le_of_ble_eq_true rfl, Nat.le_of_ble_eq_true rfl⟩ ?_
    refine l_loop (d := ((s.heap.size, g), M, po, cJ)) ⟨oP, ⟨hE', hJ⟩, hM, hpo⟩ hfl hT hL hR (fun i σ' τ' v' cs q1 q2 => ?_) 512 0 σc σm 0 _ (Nat.zero_le _) (by omega) (Nat.le_of_ble_eq_true rfl) (Nat.le_of_ble_eq_true rfl) h2
    refine JP_iconst (v := 1) oP d_L_law_1473 (by decide) ?_
    subst hxe
    intro H locs ls hS hI hl
    exact va_forget (fun q hq => hS.2.2 q hq) (W.widen q1 q2 (lw_ret hx hb hr hlocks d_L_law_1474))
  subst hxe
  have hl := lv_entry ([.ref b]) (n := 7) (Nat.le_of_ble_eq_true rfl)
  rw [lg_entry_eq]
  exact K s.heap [] _ va_S.rf ⟨rfl, Nat.le_refl 0, (fun i j p q h => by simp at h), (fun i q h => by simp at h), fun k k1 k2 _ => absurd k2 (Nat.not_lt_zero _)⟩ (by rw [show (xC (p, l, e, room_1, s, m, #[Value.ref b], below, meth, c)).maxLocals = 7 from hml]; exact hl)
