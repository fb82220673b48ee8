/-! methods that throw -/
/-- the words of 'throw new X("text")', X's own super call by entry ix of its file and bytes bt -/
def vg_at (own : String) (ic : Nat) (X Y1 : String) (ix : Nat) (bt : ByteArray) (r1 : List String) : List Cond :=
  Bundle.throwableAtoms ++ Bundle.throwableSAtoms ++ (Bundle.passSAtoms X Y1 ix bt ++ Bundle.chainSAtoms Y1 r1) ++
  [.methodLink own ic (Bundle.initS X), .instantiable X 6, .castable X X, .selects X Bundle.tFill0 Bundle.tFill0, .selects X Bundle.tFill Bundle.tFill,
   .lays X Bundle.tN "cause" "Ljava/lang/Throwable;", .lays X Bundle.tN "stackTrace" Bundle.steD, .lays X Bundle.tN "suppressedExceptions" Bundle.listD, .lays X Bundle.tN "detailMessage" "Ljava/lang/String;",
   .isRef (.static Bundle.tN "UNASSIGNED_STACK" Bundle.steD), .isRef (.static Bundle.tN "SUPPRESSED_SENTINEL" Bundle.listD),
   .fieldLink Bundle.tN 198 Bundle.tN "backtrace" "Ljava/lang/Object;", .lays Bundle.tN Bundle.tN "backtrace" "Ljava/lang/Object;", .lays X Bundle.tN "backtrace" "Ljava/lang/Object;"]
section
variable {p : Program} {l : Launch} {e : Env} {R : Room} {s : State} {m₀ : MethodId} {args : Array Value} {below : List Frame} {meth : Method} {c : Code} {W : State} {locs : List Loc} {cells slots : Nat}
set_option maxHeartbeats 4000000 in
theorem vg_ctor (X : Stand p l e R s m₀ args below meth c W locs cells slots) (hexec : p.tables.exec = Jvm.exec) (htr : e.platform.stackTraces = false) {own cls Y1 : String} {r1 : List String} {ic ix : Nat} {bt : ByteArray} (b0 : decode bt 0 = .ok (.aload_n 0, 1)) (b1 : decode bt 1 = .ok (.aload_n 1, 1)) (b2 : decode bt 2 = .ok (.invokespecial ix, 3)) (b5 : decode bt 5 = .ok (.return_, 1))
    (hown : s.vm.findClass own = some m₀.cls) (hcls : Bundle.fit cls = true) (hY1 : Bundle.fit Y1 = true) (hnames : ∀ n ∈ r1, Bundle.fit n = true)
    (h : ∀ a ∈ vg_at own ic cls Y1 ix bt r1, a.before args s = true)
    (hlocs : ∀ x ∈ locs, ∀ cell, s.heap[x.base]? = some cell → cell.vm.isStatics = false)
    {a : Addr} {cX : ClassId} {kX : Class} (hfoundX : s.vm.findClass cls = some cX) (hkX : s.vm.classes[cX]? = some kX) (hcell : W.heap[a]? = some (freshCell cX kX)) (hnew : s.heap.size ≤ a)
    {msg : Value} (hmsg : msg.isRef = true)
    {g : JFrame} (hg : g.method = m₀) (hsize : g.locals.size = c.maxLocals) (hlocked : g.locked = none) (hentered : g.entered = []) {rest : List Value} (hstack : g.stack = msg :: .ref a :: .ref a :: rest)
    (hd6 : decode c.code g.pc = .ok (.invokespecial ic, 3)) (hd9 : decode c.code (g.pc + 3) = .ok (.athrow, 1)) (hout : ∀ x ∈ c.exceptionTable.toList, covers x (g.pc + 3) = false)
    (hRframes : (r1.length + 1) + 3 < R.frames) (hRlocals : 2 * g.monitorRoom + ((Value.ref a :: rest).map fun v => v.category).sum + (13 * ((r1.length + 1) + 1) + 42) ≤ R.locals) (hlocks : meth.locks = false := by first | assumption | exact BodyLoose.notSynchronized (by assumption) | exact Body.notSynchronized (by assumption)) :
    ∃ U : State, Steps p.tables e below (W.setTop g) U ∧ U.status = .running ∧ Ended U below (.threw a) ∧ s.WarmedH U.vm ∧ s.sameButNew ({ U with vm := s.vm } : State) locs cells slots ∧
      ∃ ce, U.heap[a]? = some ce ∧ Bundle.OwnCell args s cls a msg ce := by
  have howns : e.platform.frameOwnsMonitors = true := by rw [X.admits.platform]
  have hfin : e.platform.finalization = false := by rw [X.admits.platform]
  have hpl : e.platform.magicAccessors = ({} : Platform).magicAccessors := by rw [X.admits.platform]
  have a' : ∀ x, x ∈ vg_at own ic cls Y1 ix bt r1 → x.holds args s none s [] = true := fun x hx => h x hx
  obtain ⟨T, Z0, L, -, Y⟩ := ThrowableC.of_atoms (args := args) howns hfin hpl (fun x hx => h x (by simp [vg_at, hx]))
  obtain ⟨Z, M, LZ, LM, hnZ⟩ := Init0T.ofS_atoms (args := args) hpl L Y (fun x hx => h x (by simp [vg_at, hx]))
  obtain ⟨P1, L1, hP1m, hs1⟩ := PassC.ofS_atoms (args := args) (s := s) hpl (X := cls) (Y := Y1) (Bundle.fit_spec hcls).1 (Bundle.fit_spec hY1).2 b0 b1 b2 b5 (fun x hx => h x (by simp only [vg_at, List.mem_append]; exact Or.inl (Or.inr (Or.inl hx))))
  obtain ⟨P2, Ps', hlen', L2, hL', hm2, hsup2, hpass2⟩ := Bundle.chainS (args := args) hpl hnZ r1 Y1 hY1 hnames (fun x hx => h x (by simp only [vg_at, List.mem_append]; exact Or.inl (Or.inr (Or.inr hx))))
  have hlink1 : P1.sup = P2.m := Option.some.inj (hs1.symm.trans hm2)
  obtain ⟨Ps, hPs⟩ : ∃ z, z = P2 :: Ps' := ⟨_, rfl⟩
  have hlen : Ps.length = r1.length + 1 := by rw [hPs]; simp [hlen']
  have hL : ∀ P, P ∈ Ps → P.LinksS e.platform s := by
    rw [hPs]
    intro P hP
    rcases List.mem_cons.mp hP with rfl | hP
    · exact L2
    · exact hL' P hP
  have hlink1 : P1.sup = firstOf (Z.m T.toThrowableT) (Ps.map (·.toPassT)) := by rw [hPs]; exact hlink1
  have hlink : PassesOn (Z.m T.toThrowableT) (Ps.map (·.toPassT)) := by rw [hPs]; exact ⟨hsup2, hpass2⟩
              
  have hfound : s.vm.findClass cls = some P1.m.cls := findClass_of_methodNamed hP1m
  cases Option.some.inj (hfoundX.symm.trans hfound)
  obtain ⟨c1, kX', hc1, hk, hord, -, -, hn6⟩ := Cond.instantiable_spec (a' (.instantiable cls 6) (by simp [vg_at]))
  cases Option.some.inj (hc1.symm.trans hfound)
  cases Option.some.inj (hkX.symm.trans hk)
  have hsel0 : selectMethod e.platform s.vm P1.m.cls T.fill0 = .method T.fill0 := by
    obtain ⟨c2, r2, m2, q1, q2, q3, q4, -⟩ := Cond.selects_spec (a' (.selects cls Bundle.tFill0 Bundle.tFill0) (by simp [vg_at]))
    cases Option.some.inj (q1.symm.trans hfound)
    cases Option.some.inj (q2.symm.trans (State.methodFound?_of_named Y.fill0 (by decide)))
    cases Option.some.inj (q3.symm.trans Y.fill0)
    rw [Launch.admits_selectMethod X.admits]; exact q4
  have hselF : selectMethod e.platform s.vm P1.m.cls T.fill = .method T.fill := by
    obtain ⟨c2, r2, m2, q1, q2, q3, q4, -⟩ := Cond.selects_spec (a' (.selects cls Bundle.tFill Bundle.tFill) (by simp [vg_at]))
    cases Option.some.inj (q1.symm.trans hfound)
    cases Option.some.inj (q2.symm.trans (State.methodFound?_of_named Y.fill (by decide)))
    cases Option.some.inj (q3.symm.trans Y.fill)
    rw [Launch.admits_selectMethod X.admits]; exact q4
  obtain ⟨cellS0, hcS0, hiss⟩ := Y.statics
  obtain ⟨u0, hu0⟩ := Cond.staticRefV Y.unassigned L.unassignedStatic L.statics hcS0 hiss (a' (.isRef (.static Bundle.tN "UNASSIGNED_STACK" Bundle.steD)) (by simp [vg_at]))
  obtain ⟨sen, hsen⟩ := Cond.staticRefV Y.sentinel L.sentinelStatic L.statics hcS0 hiss (a' (.isRef (.static Bundle.tN "SUPPRESSED_SENTINEL" Bundle.listD)) (by simp [vg_at]))
  obtain ⟨ci198, i198, fB, hk198, hg198, ha198, hsB, -, hnB, htB, hffB⟩ := Cond.ownField (t := .object "java/lang/Object") Y.found L.cls (by decide +kernel) (a' (.fieldLink Bundle.tN 198 Bundle.tN "backtrace" "Ljava/lang/Object;") (by simp [vg_at])) (a' (.lays Bundle.tN Bundle.tN "backtrace" "Ljava/lang/Object;") (by simp [vg_at])) e.platform hpl
  obtain ⟨cellS, hcS', heS, -, hkeep⟩ := X.same.2.2.2.2.2 T.aS cellS0 hcS0
  have hcellS : W.heap[T.aS]? = some cellS := hcS'
  have hout' : ∀ i, (⟨T.aS, i⟩ : Loc) ∉ locs := fun i hmem => by
    have := hlocs _ hmem cellS0 hcS0
    rw [hiss] at this; cases this
  have hknownS : cellS.vm ≠ .unknown := by
    rw [heS]; intro hu
    rw [show cellS0.vm = .unknown from hu] at hiss
    cases hiss
  have hneS : T.aS ≠ a := Nat.ne_of_lt (Nat.lt_of_lt_of_le (Array.getElem?_eq_some_iff.mp hcS0).1 hnew)
  obtain ⟨iM, hffM⟩ := Y.msg
  obtain ⟨tyC, dC, hdC, hdnC⟩ := Cond.laysAt hfound hk Y.cause (a' (.lays cls Bundle.tN "cause" "Ljava/lang/Throwable;") (by simp [vg_at]))
  obtain ⟨tyS, dS, hdS, hdnS⟩ := Cond.laysAt hfound hk Y.stack (a' (.lays cls Bundle.tN "stackTrace" Bundle.steD) (by simp [vg_at]))
  obtain ⟨tyP, dP, hdP, hdnP⟩ := Cond.laysAt hfound hk Y.supp (a' (.lays cls Bundle.tN "suppressedExceptions" Bundle.listD) (by simp [vg_at]))
  obtain ⟨tyM, dM, hdM, hdnM⟩ := Cond.laysAt hfound hk hffM (a' (.lays cls Bundle.tN "detailMessage" "Ljava/lang/String;") (by simp [vg_at]))
  obtain ⟨tyB, dB, hdB, hdnB⟩ := Cond.laysAt hfound hk hffB (a' (.lays cls Bundle.tN "backtrace" "Ljava/lang/Object;") (by simp [vg_at]))
  have bC := Cond.laysApart hdB hdC hdnB hdnC (by rw [hnB, Y.causeName]; decide)
  have bS := Cond.laysApart hdB hdS hdnB hdnS (by rw [hnB, Y.stackName]; decide)
  have bP := Cond.laysApart hdB hdP hdnB hdnP (by rw [hnB, Y.suppName]; decide)
  have hskip : SkipFacts T e.platform s (fun u => u) u0 ((preparedCellV T.toThrowableT (freshCell P1.m.cls kX) a u0 sen).withEntry W.cur) :=
    ⟨{ ci198 := ci198, i198 := i198, fBack := fB }, ⟨hk198, hg198, ha198, hsB⟩, by
      have := fresh_default (c := P1.m.cls) tyB
      rw [htB] at this
      simpa [preparedCellV, Cell.setSlot, Cell.withEntry, Array.getElem?_setIfInBounds, bC, bS, bP, bC.symm, bS.symm, bP.symm, defaultValue] using this, fun _ _ => rfl⟩
                                     
  obtain ⟨tm, methC, cdC, kC, vm₁, hnC, -, -, -, -, -, -, -, hW₁, st1⟩ := Steps.initColdS (tb := p.tables) (e := e) (below := below) (s := s) (U := W) X.here hexec X.warmed hpl hown (t := Bundle.initS cls) rfl rfl (Bundle.fit_spec hcls).2
    (a' (.methodLink own ic (Bundle.initS cls)) (by simp [vg_at])) (h (.instanceMethod (Bundle.initS cls)) (by simp [vg_at, Bundle.passSAtoms])) (bytes := bt) (maxL := 2) (h (.code (Bundle.initS cls) bt 2 none) (by simp [vg_at, Bundle.passSAtoms]))
    (f := g) hg (a := a) (msg := msg) (rest := .ref a :: rest) hstack hd6
  cases Option.some.inj (hnC.symm.trans hP1m)
  have X₁ := X.noted hW₁
                                 
  obtain ⟨vm₂, X₂, st2⟩ := X₁.ctorMessageOffV hexec (g := { g with stack := .ref a :: rest }) hg hsize T L Z LZ M LM (P1 :: Ps)
    (fun P hP => by rcases List.mem_cons.mp hP with rfl | hP; exact L1; exact hL P hP) ⟨hlink1, hlink⟩ (u0 := u0) (sen := sen) (self := a) hmsg (cell := freshCell P1.m.cls kX) (cellS := cellS)
    hcell (fun _ => by simp) (by simp) rfl rfl hsel0 hselF hcellS hneS hknownS (by rw [hkeep _ (hout' _)]; exact hu0) (by rw [hkeep _ (hout' _)]; exact hsen)
    (Takes.of_laid hk hord tyC (by rw [Y.causeType]; rfl)) (Takes.of_laid hk hord tyS (by rw [Y.stackType]; exact fits_refV_array _ u0)) (Takes.of_laid hk hord tyP (by rw [Y.suppType]; exact fits_refV_object _ sen))
    (Takes.of_laid hk hord tyM (by rw [Y.msgType]; exact fits_refV_object _ ⟨msg, hmsg⟩)) Y.objLocals hskip htr [] hd6
    (by simp only [List.length_cons, hlen]; omega) (by simp only [List.length_cons, hlen]; exact hRlocals)
                                    
  obtain ⟨hwalk, hrun, hended, hWU, hsame⟩ := X₂.athrowLeaves hexec (g := { g with stack := .ref a :: rest, pc := g.pc + 3 }) hg hlocked hentered hout (a := a) (rest := rest) rfl hd9
  obtain ⟨c3, c4, hc3, hc4, hasg⟩ := Cond.castable_spec (a' (.castable cls cls) (by simp [vg_at]))
  cases Option.some.inj (hc3.symm.trans hfound)
  cases Option.some.inj (hc4.symm.trans hfound)
  have hlt : a < ((W.setVm vm₁).setVm vm₂).heap.size := (Array.getElem?_eq_some_iff.mp hcell).1
  have hU := heapAt_setCell_self (s := (W.setVm vm₁).setVm vm₂) (plainBareV T.toThrowableT (freshCell P1.m.cls kX) a u0 sen msg) hlt
  have hnM : T.fMsg.name = "detailMessage" := (State.fieldFound?_type hffM (t := .object "java/lang/String") (by decide +kernel)).1
  have nCS := Cond.laysApart hdC hdS hdnC hdnS (by rw [Y.causeName, Y.stackName]; decide)
  have nCP := Cond.laysApart hdC hdP hdnC hdnP (by rw [Y.causeName, Y.suppName]; decide)
  have nCM := Cond.laysApart hdC hdM hdnC hdnM (by rw [Y.causeName, hnM]; decide)
  have nSP := Cond.laysApart hdS hdP hdnS hdnP (by rw [Y.stackName, Y.suppName]; decide)
  have nSM := Cond.laysApart hdS hdM hdnS hdnM (by rw [Y.stackName, hnM]; decide)
  have nPM := Cond.laysApart hdP hdM hdnP hdnM (by rw [Y.suppName, hnM]; decide)
  have lC : T.fCause.slot < kX.instanceTypes.size := (Array.getElem?_eq_some_iff.mp tyC).1
  have lS : T.fStack.slot < kX.instanceTypes.size := (Array.getElem?_eq_some_iff.mp tyS).1
  have lP : T.fSupp.slot < kX.instanceTypes.size := (Array.getElem?_eq_some_iff.mp tyP).1
  have lM : T.fMsg.slot < kX.instanceTypes.size := (Array.getElem?_eq_some_iff.mp tyM).1
  have evU : ∀ o, (Term.static Bundle.tN "UNASSIGNED_STACK" Bundle.steD).eval args s o [] s = some u0.v := by
    intro o
    simp [Term.eval, State.fieldNamed?, Y.unassigned, L.unassignedStatic, L.statics, hcS0, hiss, hu0]
  have evS : ∀ o, (Term.static Bundle.tN "SUPPRESSED_SENTINEL" Bundle.listD).eval args s o [] s = some sen.v := by
    intro o
    simp [Term.eval, State.fieldNamed?, Y.sentinel, L.sentinelStatic, L.statics, hcS0, hiss, hsen]
  refine ⟨_, st1 _ (fun acts => ?_), hrun, hended, hWU, hsame.weaken (fun y hy hlt' => ?_) (Nat.le_refl _) (Nat.le_refl _), _, hU, ?_⟩
  · rw [doInvoke_state]
    exact st2 _ hwalk
  · rcases List.mem_append.mp hy with h1 | h1
    · exact h1
    · exfalso
      have hb : y.base = a := by
        simp only [List.mem_cons, List.not_mem_nil, or_false] at h1
        rcases h1 with rfl | rfl | rfl | rfl | rfl <;> rfl
      rw [hb] at hlt'
      exact Nat.not_lt.mpr hnew hlt'
  · exact { cls := hfound, self := hasg, monitor := rfl, hash := rfl, vm := rfl, size := by simp [plainBareV, preparedCellV, Cell.setSlot, hn6]
            cause := ⟨_, _, _, _, Y.cause, by simp [plainBareV, preparedCellV, Cell.setSlot, nCS.symm, nCP.symm, nCM.symm, lC]⟩
            stack := ⟨_, _, _, _, u0, Y.stack, by simp [plainBareV, preparedCellV, Cell.setSlot, nSM.symm, lS], evU⟩
            supp := ⟨_, _, _, _, sen, Y.supp, by simp [plainBareV, preparedCellV, Cell.setSlot, nSP, nPM.symm, lP], evS⟩
            msg := ⟨_, _, _, _, hffM, by simp [plainBareV, preparedCellV, Cell.setSlot, lM]⟩
            other := fun O f d c k i fd hf hy n1 n2 n3 n4 => by
              obtain ⟨ty, dd, hdd, hddn⟩ := Cond.laysAt hfound hk hf hy
              have m1 := Cond.laysApart hdd hdC hddn hdnC (by rw [Y.causeName]; exact n1)
              have m2 := Cond.laysApart hdd hdS hddn hdnS (by rw [Y.stackName]; exact n2)
              have m3 := Cond.laysApart hdd hdP hddn hdnP (by rw [Y.suppName]; exact n3)
              have m4 := Cond.laysApart hdd hdM hddn hdnM (by rw [hnM]; exact n4)
              have := fresh_default (c := P1.m.cls) ty
              simpa [plainBareV, preparedCellV, Cell.setSlot, Array.getElem?_setIfInBounds, m1, m2, m3, m4, m1.symm, m2.symm, m3.symm, m4.symm] using this }
end
section
variable {p : Program} {l : Launch} {e : Env} {R : Room} {s : State} {m : MethodId} {args : Array Value} {below : List Frame} {meth : Method} {c : Code} {H : Heap} {locs : List Loc} {cells slots : Nat}
variable {mc ms : Nat} {free : Addr → Prop} {ls : Array Slot} {rest : List Value} {Qc : Array Value → State → Outcome → State → Prop} {XC : String → State → State → Prop}
theorem vg_throw {cc : ByteArray} {pc : Nat} (hexec : p.tables.exec = Jvm.exec) (hb : c.code = cc) (hl : l.stackTraces = false) {own cls text Y1 : String} {r1 : List String} {ik is ic ix mc ms sa : Nat} {bt : ByteArray} (b0 : decode bt 0 = .ok (.aload_n 0, 1)) (b1 : decode bt 1 = .ok (.aload_n 1, 1)) (b2 : decode bt 2 = .ok (.invokespecial ix, 3)) (b5 : decode bt 5 = .ok (.return_, 1)) {A : Nat → Prop}
    (hown : s.vm.findClass own = some m.cls) (hcls : Bundle.fit cls = true) (hY1 : Bundle.fit Y1 = true) (hnames : ∀ n ∈ r1, Bundle.fit n = true)
    (hk : (Cond.classLink own ik cls).before args s = true) (hini : (Cond.initialized cls).before args s = true) (hstr : vk_R own is text sa s) (hat : ∀ w ∈ (vg_at own ic cls Y1 ix bt r1).filter vx_no, w.before args s = true)
    (hgood : ∀ w ∈ Cond.classLink own ik cls :: Cond.initialized cls :: (vg_at own ic cls Y1 ix bt r1).filter vx_no, vx_ot w = true)
    (hU : vx_Zq Bundle.tN "UNASSIGNED_STACK" Bundle.steD A s s.heap) (hN : vx_Zq Bundle.tN "SUPPRESSED_SENTINEL" Bundle.listD A s s.heap) (hS : va_S A s.heap H locs) (hsize : ls.size = c.maxLocals)
    (d0 : decode cc pc = .ok (.new ik, 3)) (d3 : decode cc (pc + 3) = .ok (.dup, 1)) (d4 : decode cc (pc + 4) = .ok (.ldc is, 2)) (d6 : decode cc (pc + 6) = .ok (.invokespecial ic, 3)) (d9 : decode cc (pc + 9) = .ok (.athrow, 1))
    (hout : ∀ x ∈ c.exceptionTable.toList, covers x (pc + 9) = false)
    (hRframes : (r1.length + 1) + 3 < R.frames) (hRlocals : (rest.map fun v => v.category).sum + (13 * ((r1.length + 1) + 1) + 43) ≤ R.locals) (hRcells : cells + 1 ≤ R.cells) (hRslots : slots + 6 ≤ R.slots) (hlocks : meth.locks = false)
    (hx : ∀ t : State, s.vm.Alike t.vm → H.size ≤ t.heap.size → (∀ q : Nat, q < H.size → t.heap[q]? = H[q]?) → XC cls s t)
    (hf : ∀ z ∈ locs, free z.base) (hc : cells + 1 ≤ mc) (hs : slots + 6 ≤ ms) :
    W p l e R s m args below meth c H locs cells slots (vx_MQ below Qc XC args s mc ms free) (F0 m pc ls rest) := by
  intro T hT X
  have htr : e.platform.stackTraces = false := (show e.platform.stackTraces = l.stackTraces by rw [X.admits.platform]).trans hl
  have Y := vx_rebase X (R' := { frames := R.frames, locals := R.locals, cells := 1, slots := 6 }) (Nat.le_refl _) (Nat.le_refl _) hRcells hRslots
  obtain ⟨s', hA⟩ : ∃ z, z = (T.setVm s.vm).setFrames (.invoking m args :: below) := ⟨_, rfl⟩
  rw [← hA] at Y
  have hvm : s'.vm = s.vm := by rw [hA]; rfl
  have hhp : s'.heap = H := by rw [hA]; exact hT
  have hW0 : s.WarmedH s'.vm := by rw [hvm]; exact State.WarmedH.refl s
  have hat' : ∀ w ∈ (vg_at own ic cls Y1 ix bt r1).filter vx_no, w.before args s' = true := fun w hw => vx_ot_at hW0 hvm.symm (hgood w (List.mem_cons_of_mem _ (List.mem_cons_of_mem _ hw))) (hat w hw)
  have hk' : (Cond.classLink own ik cls).before args s' = true := vx_ot_at hW0 hvm.symm (hgood _ List.mem_cons_self) hk
  have hini' : (Cond.initialized cls).before args s' = true := vx_ot_at hW0 hvm.symm (hgood _ (List.mem_cons_of_mem _ List.mem_cons_self)) hini
  have hU' : vx_Zq Bundle.tN "UNASSIGNED_STACK" Bundle.steD A s' s'.heap := by rw [hhp]; exact vx_Zq.moved hW0.alike (hU.kept hS.2.1)
  have hN' : vx_Zq Bundle.tN "SUPPRESSED_SENTINEL" Bundle.listD A s' s'.heap := by rw [hhp]; exact vx_Zq.moved hW0.alike (hN.kept hS.2.1)
  have h : ∀ w ∈ vg_at own ic cls Y1 ix bt r1, w.before args s' = true := vx_own hat' (vx_isRefq hU'.1) (vx_isRefq hN'.1) hU'.2.word hN'.2.word
  have hown' : s'.vm.findClass own = some m.cls := by rw [hvm]; exact hown
  have hins : (Cond.instantiable cls 6).before args s' = true := h _ (by simp [vg_at])
  obtain ⟨vm₁, cX, kX, hfX, hkX, -, -, X₁, st1⟩ := Y.newCold hexec (own := own) (C := cls) (index := ik) (n := 6) hown' hk' hins hini'
    (g := F0 m pc ls rest) rfl (by rw [hb]; exact d0) (Nat.le_refl _) (Nat.le_refl _)
  generalize hT1 : (T.setVm vm₁).pushCell { cls := cX, slots := kX.instanceTypes.map defaultValue, vm := .none } = T1 at X₁ st1
  have hcat : (Value.ref T.heap.size).category = 1 := rfl
  have hcellA : T1.heap[T.heap.size]? = some (freshCell cX kX) := by rw [← hT1]; exact State.heap_pushCell_size _ _
  have d3' : decode c.code (pc + 3) = .ok (.dup, 1) := by rw [hb]; exact d3
  have d4' : decode c.code (pc + 4) = .ok (.ldc is, 2) := by rw [hb]; exact d4
  have hstr' : vk_R own is text sa s' := vk_R.warm hW0 hstr
  obtain ⟨U, hsteps, hrun, hend, hW, hsame, ce, hce, hO⟩ := vg_ctor X₁ hexec htr (own := own) (cls := cls) (Y1 := Y1) (r1 := r1) (ic := ic) (ix := ix) (bt := bt) b0 b1 b2 b5 hown' hcls hY1 hnames h (fun x hx => nomatch hx) hfX hkX hcellA (by rw [hhp, hT]; exact Nat.le_refl _) (msg := .ref sa) rfl
    (g := { method := m, pc := pc + 6, locals := ls, stack := .ref sa :: .ref T.heap.size :: .ref T.heap.size :: rest, locked := none }) rfl hsize rfl rfl (rest := rest) rfl
    (by rw [hb]; exact d6) (by rw [hb]; exact d9) hout hRframes (by simp only [List.map_cons, List.sum_cons, hcat]; omega) hlocks
  obtain ⟨f1, f2⟩ := vx_frame hsame
  rw [hhp] at f1 f2
  have hWs : s.WarmedH U.vm := State.WarmedH.trans hW0 hW
  have hcl : s.vm.findClass cls = some ce.cls := by
    have h9 := hO.cls
    rw [hvm] at h9
    exact h9
  have hall : s.sameButNew ({ U with vm := s.vm } : State) locs mc ms := by
    subst hA
    obtain ⟨e1, e2⟩ := hsame
    rw [State.setFrames_setFrames] at e1
    have h2 : (T.setVm s.vm).sameButNew ({ U with vm := s.vm } : State) [] (0 + 1) (0 + 6) := ⟨e1, e2⟩
    have h3 := X.same.trans h2
    rw [List.append_nil] at h3
    exact h3.mono hc hs
  refine ⟨U, ?_, .threw T.heap.size, hrun, hend, Or.inr ⟨T.heap.size, rfl, cls, ce, locs, hx U hWs.alike f1 (fun q hq => f2 q hq (fun z hz => nomatch hz)), hce, hO.vm, hcl, hWs, hall, hf⟩⟩
  refine st1 _ ?_
  show Steps p.tables e below (T1.setTop { method := m, pc := pc + 3, locals := ls, stack := .ref T.heap.size :: rest, locked := none }) _
  jvm_step X₁.here [X₁.here.top, hexec, d3', Value.category]
  exact X₁.ldcString hexec (own := own) (text := text) (index := is) (a := sa) hown' hstr'.1 hstr'.2
    (g := { method := m, pc := pc + 4, locals := ls, stack := .ref T.heap.size :: .ref T.heap.size :: rest, locked := none }) rfl d4' _ hsteps
end
theorem at_IAE : (∀ q ∈ vx_atS RX4 240 "java/lang/IllegalArgumentException" ["java/lang/RuntimeException", "java/lang/Exception"], vx_ot q = true) ∧ (∀ q ∈ (vx_atS RX4 240 "java/lang/IllegalArgumentException" ["java/lang/RuntimeException", "java/lang/Exception"]).filter goodWord, q ∈ tables_1) ∧ (vx_atS RX4 240 "java/lang/IllegalArgumentException" ["java/lang/RuntimeException", "java/lang/Exception"]).filter (fun q => !goodWord q) ⊆ decL.map Cond.declares ++ casL.map (fun q => Cond.castable q.1 q.2) := by decide +kernel
theorem ak_IAE : Cond.classLink RX4 236 "java/lang/IllegalArgumentException" ∈ TBL ∧ Cond.initialized "java/lang/IllegalArgumentException" ∈ TBL ∧ vx_ot (Cond.classLink RX4 236 "java/lang/IllegalArgumentException") = true ∧ vx_ot (Cond.initialized "java/lang/IllegalArgumentException") = true := ⟨tb_in 470 (by decide +kernel) rfl, tb_in 11 (by decide +kernel) rfl, rfl, rfl⟩
theorem at_ISE : (∀ q ∈ vx_atS RX4 245 "java/lang/IllegalStateException" ["java/lang/RuntimeException", "java/lang/Exception"], vx_ot q = true) ∧ (∀ q ∈ (vx_atS RX4 245 "java/lang/IllegalStateException" ["java/lang/RuntimeException", "java/lang/Exception"]).filter goodWord, q ∈ tables_1) ∧ (vx_atS RX4 245 "java/lang/IllegalStateException" ["java/lang/RuntimeException", "java/lang/Exception"]).filter (fun q => !goodWord q) ⊆ decL.map Cond.declares ++ casL.map (fun q => Cond.castable q.1 q.2) := by decide +kernel
theorem ak_ISE : Cond.classLink RX4 241 "java/lang/IllegalStateException" ∈ TBL ∧ Cond.initialized "java/lang/IllegalStateException" ∈ TBL ∧ vx_ot (Cond.classLink RX4 241 "java/lang/IllegalStateException") = true ∧ vx_ot (Cond.initialized "java/lang/IllegalStateException") = true := ⟨tb_in 741 (by decide +kernel) rfl, tb_in 18 (by decide +kernel) rfl, rfl, rfl⟩
theorem d_nse : decode prog_24_method_4_code 0 = .ok (.aload_n 0, 1) ∧ decode prog_24_method_4_code 1 = .ok (.aload_n 1, 1) ∧ decode prog_24_method_4_code 2 = .ok (.invokespecial 13, 3) ∧ decode prog_24_method_4_code 5 = .ok (.return_, 1) := by decide +kernel
abbrev nseW : List Cond := (vg_at RX4 233 "java/util/NoSuchElementException" "java/lang/RuntimeException" 13 prog_24_method_4_code ["java/lang/Exception"]).filter vx_no
theorem at_NSE : (∀ q ∈ nseW, vx_ot q = true) ∧ (∀ q ∈ nseW.filter goodWord, q ∈ tables_1) ∧ nseW.filter (fun q => !goodWord q) ⊆ decL.map Cond.declares ++ casL.map (fun q => Cond.castable q.1 q.2) := by decide +kernel
theorem ak_NSE : Cond.classLink RX4 229 "java/util/NoSuchElementException" ∈ TBL ∧ Cond.initialized "java/util/NoSuchElementException" ∈ TBL ∧ vx_ot (Cond.classLink RX4 229 "java/util/NoSuchElementException") = true ∧ vx_ot (Cond.initialized "java/util/NoSuchElementException") = true := ⟨tb_in 783 (by decide +kernel) rfl, tb_in 19 (by decide +kernel) rfl, rfl, rfl⟩
def XCof (w : Wx) (X : String → Sg → Prop) : String → State → State → Prop := fun E st t => (∃ σ', X E σ' ∧ Wd w σ' t.heap) ∧ va_F (Ar w st.heap.size) st t
def CtX (l : Launch) (w : Wx) (y : MethodName) (cc : ByteArray) (nL : Nat) (ret : Option FieldType) (rm : Room) (As : List Value) (σ : Sg) (P : Outcome → Sg → Prop) (X : String → Sg → Prop) : Prop :=
  ∀ sz, vx_Met l y (.code y cc nL ret :: TBL) rm (PreC w As σ sz) (PostC w P) (XCof w X) rm.cells rm.slots (Ar w sz)
def FinX (x : Cx) (w : Wx) (P : Outcome → Sg → Prop) (X : String → Sg → Prop) (cs : Nat × Nat) : State → Prop := vx_MQ (xW x) (PostC w P) (XCof w X) (xA x) (xS x) cs.1 cs.2 (Ar w (xS x).heap.size)
def NoH (x : Cx) : Prop := (∀ z ∈ (xC x).exceptionTable.toList, False) ∧ (xL x).stackTraces = false
theorem CtX.of {l : Launch} (hfl : l.stackTraces = false) {w : Wx} {y : MethodName} {cc : ByteArray} {nL : Nat} {own : String} {ret : Option FieldType} {rm : Room} {As : List Value} {σ : Sg} {P : Outcome → Sg → Prop} {X : String → Sg → Prop} (hy : plainName y.cls = true) (ho : y.cls = own) (hlen : (lg_sl As).length ≤ nL)
    (body : ∀ x : Cx, xL x = l → NoH x → Ok x w cc nL own ret rm → J x w (FinX x w P X (rm.cells, rm.slots)) 0 (lv_args 0 As) [] (0, 0) σ) : CtX l w y cc nL ret rm As σ P X := by
  intro sz
  refine vx_ofW (cc := cc) (maxL := nL) (ret := ret) hy rfl ?_
  intro p e s m args below meth c s₁ B hml ht hv
  obtain ⟨rfl, hsz, hE, hW⟩ := hv
  have hts := atoms_spec (ws := .code y cc nL ret :: TBL) B.pre
  have hown : s.vm.findClass y.cls = some m.cls := findClass_of_methodNamed B.named
  subst hsz
  have K := body (p, l, e, rm, s, m, As.toArray, below, meth, c) rfl ⟨ht, hfl⟩ ⟨B.exec, B.bytes, hml, by rw [← ho]; exact hown, fun q hq => hts q (List.mem_cons_of_mem _ hq), B.notSynchronized, B.returns, rfl, hE⟩
  rw [lg_entry_eq]
  exact K s.heap [] _ va_S.rf hW (by rw [show (xC (p, l, e, rm, s, m, As.toArray, below, meth, c)).maxLocals = nL from hml]; exact lv_entry As hlen)
section
variable {x : Cx} {w : Wx} {Q : State → Prop} {cc : ByteArray} {nL : Nat} {own : String} {ret : Option FieldType} {rm : Room} {pc : Nat} {lv : List (Nat × Value)} {st : List Value} {cs : Nat × Nat} {σ : Sg}
/-- the judgement with an exception of class E thrown over the frame -/
def JT (x : Cx) (w : Wx) (Q : State → Prop) (pc : Nat) (lv : List (Nat × Value)) (st : List Value) (cs : Nat × Nat) (σ : Sg) (E : String) : Prop :=
  ∀ (H : Heap) (locs : List Loc) (ls : Array Slot) (q : Addr) (ce : Cell), va_S (Ar w (xS x).heap.size) (xS x).heap H locs → Wd w σ H → lv_has ls (xC x).maxLocals lv →
    H[q]? = some ce → ce.vm = .none → (xS x).vm.findClass E = some ce.cls →
    vx_W (xP x) (xL x) (xE x) (xR x) (xS x) (xM x) (xA x) (xW x) (xY x) (xC x) H locs cs.1 cs.2 Q (F0 (xM x) pc ls st) q
theorem JT_out (o : Ok x w cc nL own ret rm) (nh : NoH x) {P : Outcome → Sg → Prop} {X : String → Sg → Prop} {c2 : Nat × Nat} {E : String} (hcs : cs.1 ≤ c2.1 ∧ cs.2 ≤ c2.2) (h : X E σ) : JT x w (FinX x w P X c2) pc lv st cs σ E := by
  intro H locs ls q ce hS hW hl hq hv hc
  exact vx_out (fun z hz => (nh.1 z hz).elim) o.2.2.2.2.2.1 hq hv hc (fun t ht _ => ⟨⟨σ, h, by rw [ht]; exact hW⟩, hS.F ht⟩) hS.2.2 hcs.1 hcs.2
theorem J_afterX {H : Heap} {locs : List Loc} {ls : Array Slot} {st0 : List Value} {mc ms : Nat} {a : Array Value} {P : Outcome → Sg → Prop} {X : String → Sg → Prop} (hS : va_S (Ar w (xS x).heap.size) (xS x).heap H locs) (hl : lv_has ls (xC x).maxLocals lv)
    (hr : vx_Run (xP x) (xL x) (xE x) (xR x) (xS x) (xM x) (xA x) (xW x) (xY x) (xC x) H locs cs.1 cs.2 mc ms (F0 (xM x) pc ls st0) st (PostC w P a) (XCof w X) (Ar w H.size))
    (kx : ∀ E σ', X E σ' → JT x w Q pc lv st (cs.1 + mc, cs.2 + ms) σ' E) (kk : ∀ v σ', P (.returned v) σ' → J x w Q (pc + 3) lv (v.toList ++ st) (cs.1 + mc, cs.2 + ms) σ') : W (xP x) (xL x) (xE x) (xR x) (xS x) (xM x) (xA x) (xW x) (xY x) (xC x) H locs cs.1 cs.2 Q (F0 (xM x) pc ls st0) := by
  have hA : ∀ q, Ar w H.size q → Ar w (xS x).heap.size q := fun q h => h.imp id (fun z => Nat.le_trans hS.1 z)
  intro T hT X9
  rcases hr T hT X9 with ⟨v, st₀, t, T', L, h0, X', hL, e1, e2, ⟨⟨σ', hp, hw⟩, hz, hk⟩, go⟩ | ⟨q, st₀, t, T', L, E, ce, h0, X', hL, e1, e2, ⟨⟨σ', hp, hw⟩, hz, hk⟩, hce, hcv, hcl, go⟩
  · rw [h0] at hz hk
    have hS' : va_S (Ar w (xS x).heap.size) (xS x).heap T'.heap (locs ++ L) := ⟨Nat.le_trans hS.1 (by rw [e1]; exact hz), fun q h1 h2 => by rw [e1, hk q (Nat.lt_of_lt_of_le h1 hS.1) (fun z => h2 (hA q z))]; exact hS.2.1 q h1 h2, fun q hq => by
        rcases List.mem_append.mp hq with h | h
        · exact hS.2.2 q h
        · exact hA _ (hL q h)⟩
    obtain ⟨t2, a1, b1⟩ := kk v σ' hp T'.heap (locs ++ L) ls hS' (by rw [e1]; exact hw) hl T' rfl X'
    exact ⟨t2, go t2 a1, b1⟩
  · rw [h0] at hz hk
    have hS' : va_S (Ar w (xS x).heap.size) (xS x).heap T'.heap (locs ++ L) := ⟨Nat.le_trans hS.1 (by rw [e1]; exact hz), fun q h1 h2 => by rw [e1, hk q (Nat.lt_of_lt_of_le h1 hS.1) (fun z => h2 (hA q z))]; exact hS.2.1 q h1 h2, fun q hq => by
        rcases List.mem_append.mp hq with h | h
        · exact hS.2.2 q h
        · exact hA _ (hL q h)⟩
    obtain ⟨t2, a1, b1⟩ := kx E σ' hp T'.heap (locs ++ L) ls q ce hS' (by rw [e1]; exact hw) hl (by rw [e1]; exact hce) hcv hcl T' rfl X'
    exact ⟨t2, go.trans a1, b1⟩
theorem J_callXV (o : Ok x w cc nL own ret rm) {y : MethodName} {bytes : ByteArray} {maxL n idx k c : Nat} {rt : Option FieldType} {r2 : Room} {P : Outcome → Sg → Prop} {X : String → Sg → Prop} {st0 : List Value} (As : List Value) (hk : kd k = c) (hc : c < 6) (h1 : wLo w ≤ k) (h2 : k < wHi w) (hm : Mth y bytes maxL rt n) (hs : Cond.instanceMethod y ∈ TBL ∧ Cond.selects (tR c) y y ∈ TBL) (hl0 : Cond.methodLink own idx y ∈ TBL) (hR : r2.frames + 1 ≤ rm.frames ∧ 8 + (maxL + 11) + r2.locals ≤ rm.locals)
    (hn : As.length = n) (hstack : st0 = As.reverse ++ .ref (wB w + k) :: st) (hr8 : (st.map fun v => v.category).sum ≤ 8) (hcs : cs.1 + r2.cells ≤ rm.cells ∧ cs.2 + r2.slots ≤ rm.slots) (d : decode cc pc = .ok (.invokevirtual idx, 3)) (hC : CtX (xL x) w y bytes maxL rt r2 (.ref (wB w + k) :: As) σ P X)
    (kx : ∀ E σ', X E σ' → JT x w Q pc lv st (cs.1 + r2.cells, cs.2 + r2.slots) σ' E) (kk : ∀ v σ', P (.returned v) σ' → J x w Q (pc + 3) lv (v.toList ++ st) (cs.1 + r2.cells, cs.2 + r2.slots) σ') : J x w Q pc lv st0 cs σ := by
  intro H locs ls hS hW hl
  subst hstack
  have hp := J_pre (As := .ref (wB w + k) :: As) o hS hW
  exact J_afterX hS hl (vx_runV (C := tR c) (b := wB w + k) (J_fix o) (hC H.size) ⟨J_cB o hm hl0 hR, o.2.2.2.2.1 _ hs.1, o.2.2.2.2.1 _ hs.2⟩ ⟨hp.1, J_recv o hW hk hc h1 h2, hp.2⟩ rfl hn (hl.1.trans o.2.2.1) rfl (lv_room hr8) d (by rw [o.2.2.2.2.2.2.2.1]; exact hcs)) kx kk
theorem JX_ret {P : Outcome → Sg → Prop} {X : String → Sg → Prop} {c2 : Nat × Nat} (hcs : cs.1 ≤ c2.1 ∧ cs.2 ≤ c2.2) (k : J x w (FinC x w P c2) pc lv st c2 σ) : J x w (FinX x w P X c2) pc lv st cs σ :=
  fun H locs ls hS hW hl => W.widen hcs.1 hcs.2 (vx_ret (k H locs ls hS hW hl))
theorem J_throw (o : Ok x w cc nL RX4 ret rm) (nh : NoH x) {P : Outcome → Sg → Prop} {X : String → Sg → Prop} {c2 : Nat × Nat} {E tx : String} {ik is ic si : Nat}
    (hat : (∀ q ∈ vx_atS RX4 ic E ["java/lang/RuntimeException", "java/lang/Exception"], vx_ot q = true) ∧ (∀ q ∈ (vx_atS RX4 ic E ["java/lang/RuntimeException", "java/lang/Exception"]).filter goodWord, q ∈ tables_1) ∧ (vx_atS RX4 ic E ["java/lang/RuntimeException", "java/lang/Exception"]).filter (fun q => !goodWord q) ⊆ decL.map Cond.declares ++ casL.map (fun q => Cond.castable q.1 q.2))
    (hk : Cond.classLink RX4 ik E ∈ TBL ∧ Cond.initialized E ∈ TBL ∧ vx_ot (Cond.classLink RX4 ik E) = true ∧ vx_ot (Cond.initialized E) = true) (hE : Bundle.fit E = true) (hs : (RX4, is, tx, si) ∈ sRef)
    (d0 : decode cc pc = .ok (.new ik, 3)) (d3 : decode cc (pc + 3) = .ok (.dup, 1)) (d4 : decode cc (pc + 4) = .ok (.ldc is, 2)) (d6 : decode cc (pc + 6) = .ok (.invokespecial ic, 3)) (d9 : decode cc (pc + 9) = .ok (.athrow, 1))
    (hR : 5 < rm.frames ∧ (st.map fun v => v.category).sum + 82 ≤ rm.locals ∧ cs.1 + 1 ≤ rm.cells ∧ cs.2 + 6 ≤ rm.slots) (hcs : cs.1 + 1 ≤ c2.1 ∧ cs.2 + 6 ≤ c2.2) (h : X E σ) : J x w (FinX x w P X c2) pc lv st cs σ := by
  intro H locs ls hS hW hl
  have hEv := o.2.2.2.2.2.2.2.2
  have hB := hEv.1
  have hR' := hR
  rw [← o.2.2.2.2.2.2.2.1] at hR'
  refine vx_throwS (names := ["java/lang/RuntimeException", "java/lang/Exception"]) (cls := E) (A := Ar w (xS x).heap.size) o.1 o.2.1 nh.2 o.2.2.2.1 hE (by decide +kernel) (o.2.2.2.2.1 _ hk.1) (o.2.2.2.2.1 _ hk.2.1) (hEv.2.2.2.2.2.2.2.2.1 _ hs) (fun q hq => ?_) (fun q hq => ?_)
    (hEv.2.2.2.2.2.2.2.2.2.2.2.1.narrow (fun _ h => Ar.lo hB h)) (hEv.2.2.2.2.2.2.2.2.2.2.2.2.1.narrow (fun _ h => Ar.lo hB h)) hS hl.1 d0 d3 d4 d6 d9 (fun z hz => (nh.1 z hz).elim) hR'.1 hR'.2.1 hR'.2.2.1 hR'.2.2.2 o.2.2.2.2.2.1 (fun t ha hz hq => ?_) hS.2.2 hcs.1 hcs.2
  · by_cases g : goodWord q = true
    · exact o.2.2.2.2.1 _ (List.mem_filter.mpr ⟨List.mem_append_right _ (hat.2.1 q (List.mem_filter.mpr ⟨hq, g⟩)), g⟩)
    · have h2 := hat.2.2 (List.mem_filter.mpr ⟨hq, by cases e : goodWord q <;> simp_all⟩)
      rcases List.mem_append.mp h2 with h3 | h3
      · obtain ⟨z, hz, rfl⟩ := List.mem_map.mp h3
        exact (hEv.2.2.2.2.2.2.2.2.2.2.2.2.2.1 z hz).use rfl
      · obtain ⟨z, hz, rfl⟩ := List.mem_map.mp h3
        exact (hEv.2.2.2.2.2.2.2.2.2.2.2.2.2.2.1 z hz).use rfl
  · rcases List.mem_cons.mp hq with e | hq
    · rw [e]; exact hk.2.2.1
    · rcases List.mem_cons.mp hq with e | hq
      · rw [e]; exact hk.2.2.2
      · exact hat.1 q hq
  · refine ⟨⟨σ, h, fun k h1 h2 => ?_⟩, Nat.le_trans hS.1 hz, fun q h1 h2 => ?_⟩
    · have hc := hW k h1 h2
      have hlt : wB w + k < H.size := by
        unfold Cl at hc
        split at hc
        · obtain ⟨cell, e1, -⟩ := hc
          exact (Array.getElem?_eq_some_iff.mp e1).1
        · split at hc <;> exact (Array.getElem?_eq_some_iff.mp hc).1
      exact hc.kept (hq _ hlt) (fun _ => rfl)
    · rw [hq q (Nat.lt_of_lt_of_le h1 hS.1)]
      exact hS.2.1 q h1 h2
theorem J_throwN (o : Ok x w cc nL RX4 ret rm) (nh : NoH x) {P : Outcome → Sg → Prop} {X : String → Sg → Prop} {c2 : Nat × Nat} {tx : String} {ik is si : Nat}
    (hk : Cond.classLink RX4 ik "java/util/NoSuchElementException" ∈ TBL ∧ Cond.initialized "java/util/NoSuchElementException" ∈ TBL ∧ vx_ot (Cond.classLink RX4 ik "java/util/NoSuchElementException") = true ∧ vx_ot (Cond.initialized "java/util/NoSuchElementException") = true) (hs : (RX4, is, tx, si) ∈ sRef)
    (d0 : decode cc pc = .ok (.new ik, 3)) (d3 : decode cc (pc + 3) = .ok (.dup, 1)) (d4 : decode cc (pc + 4) = .ok (.ldc is, 2)) (d6 : decode cc (pc + 6) = .ok (.invokespecial 233, 3)) (d9 : decode cc (pc + 9) = .ok (.athrow, 1))
    (hR : 5 < rm.frames ∧ (st.map fun v => v.category).sum + 82 ≤ rm.locals ∧ cs.1 + 1 ≤ rm.cells ∧ cs.2 + 6 ≤ rm.slots) (hcs : cs.1 + 1 ≤ c2.1 ∧ cs.2 + 6 ≤ c2.2) (h : X "java/util/NoSuchElementException" σ) : J x w (FinX x w P X c2) pc lv st cs σ := by
  intro H locs ls hS hW hl
  have hEv := o.2.2.2.2.2.2.2.2
  have hB := hEv.1
  have hR' := hR
  rw [← o.2.2.2.2.2.2.2.1] at hR'
  refine vg_throw (Y1 := "java/lang/RuntimeException") (r1 := ["java/lang/Exception"]) (ic := 233) (ix := 13) (bt := prog_24_method_4_code) (cls := "java/util/NoSuchElementException") (A := Ar w (xS x).heap.size) o.1 o.2.1 nh.2 d_nse.1 d_nse.2.1 d_nse.2.2.1 d_nse.2.2.2 o.2.2.2.1 (by decide +kernel) (by decide +kernel) (by decide +kernel) (o.2.2.2.2.1 _ hk.1) (o.2.2.2.2.1 _ hk.2.1) (hEv.2.2.2.2.2.2.2.2.1 _ hs) (fun q hq => ?_) (fun q hq => ?_)
    (hEv.2.2.2.2.2.2.2.2.2.2.2.1.narrow (fun _ h => Ar.lo hB h)) (hEv.2.2.2.2.2.2.2.2.2.2.2.2.1.narrow (fun _ h => Ar.lo hB h)) hS hl.1 d0 d3 d4 d6 d9 (fun z hz => (nh.1 z hz).elim) hR'.1 hR'.2.1 hR'.2.2.1 hR'.2.2.2 o.2.2.2.2.2.1 (fun t ha hz hq => ?_) hS.2.2 hcs.1 hcs.2
  · by_cases g : goodWord q = true
    · exact o.2.2.2.2.1 _ (List.mem_filter.mpr ⟨List.mem_append_right _ (at_NSE.2.1 q (List.mem_filter.mpr ⟨hq, g⟩)), g⟩)
    · have h2 := at_NSE.2.2 (List.mem_filter.mpr ⟨hq, by cases e : goodWord q <;> simp_all⟩)
      rcases List.mem_append.mp h2 with h3 | h3
      · obtain ⟨z, hz, rfl⟩ := List.mem_map.mp h3
        exact (hEv.2.2.2.2.2.2.2.2.2.2.2.2.2.1 z hz).use rfl
      · obtain ⟨z, hz, rfl⟩ := List.mem_map.mp h3
        exact (hEv.2.2.2.2.2.2.2.2.2.2.2.2.2.2.1 z hz).use rfl
  · rcases List.mem_cons.mp hq with e | hq
    · rw [e]; exact hk.2.2.1
    · rcases List.mem_cons.mp hq with e | hq
      · rw [e]; exact hk.2.2.2
      · exact at_NSE.1 q hq
  · refine ⟨⟨σ, h, fun k h1 h2 => ?_⟩, Nat.le_trans hS.1 hz, fun q h1 h2 => ?_⟩
    · have hc := hW k h1 h2
      have hlt : wB w + k < H.size := by
        unfold Cl at hc
        split at hc
        · obtain ⟨cell, e1, -⟩ := hc
          exact (Array.getElem?_eq_some_iff.mp e1).1
        · split at hc <;> exact (Array.getElem?_eq_some_iff.mp hc).1
      exact hc.kept (hq _ hlt) (fun _ => rfl)
    · rw [hq q (Nat.lt_of_lt_of_le h1 hS.1)]
      exact hS.2.1 q h1 h2
end
