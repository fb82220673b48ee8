/-! constructors: cells under construction -/
/-- the ints at the start -/
def s0 : Sg := fun k j => if kd k = 3 then (if j = 0 then 3 else if j = 1 then 3 else if j = 3 then 999 else 0) else if kd k = 2 then (if j = 10 then -1 else 0) else if kd k = 4 then (if j = 7 then -1 else 0) else if kd k = 5 then (if j = 5 then -1 else 0) else 0
def vS (B : Nat) (k j : Nat) : Value := if kd k < 6 then fv B s0 k j else if kd k = 6 then .int (s0 k j) else .ref (B + tgt k j)
def szC (k : Nat) : Nat := if kd k < 6 then nf (kd k) else ln k
def CG (w : Wx) (f : Nat → Value) (H : Heap) (k : Nat) : Prop :=
  if kd k < 6 then t_OB (wB w + k) ((wD w).1 (kd k)) (nf (kd k)) ((wD w).2 (kd k)) H f
  else H[wB w + k]? = some (arrV (wT w (kd k - 6)) (ln k) f)
theorem arrV_to {c : ClassId} {N : Nat} {f g : Nat → Value} (h : ∀ j, j < N → f j = g j) : arrV c N f = arrV c N g := by
  unfold arrV
  congr 1
  exact congrArg Array.ofFn (funext fun j => h j.val j.isLt)
theorem CG.to {w : Wx} {f g : Nat → Value} {H : Heap} {k : Nat} (h : CG w f H k) (hs : ∀ j, j < szC k → f j = g j) : CG w g H k := by
  unfold CG at h ⊢
  unfold szC at hs
  split at h
  · next hk => rw [if_pos hk]; rw [if_pos hk] at hs; exact h.to hs
  · next hk => rw [if_neg hk]; rw [if_neg hk] at hs; rw [h]; exact congrArg some (arrV_to hs)
theorem CG.kept {w : Wx} {f : Nat → Value} {H H1 : Heap} {k : Nat} (h : CG w f H k) (hq : H1[wB w + k]? = H[wB w + k]?) : CG w f H1 k := by
  unfold CG at h ⊢
  rw [hq]
  split at h
  · next hk => rw [if_pos hk]; exact t_OB.kept h hq
  · next hk => rw [if_neg hk]; exact h
theorem CG.obj {w : Wx} {f : Nat → Value} {H : Heap} {k c : Nat} (h : CG w f H k) (hk : kd k = c) (hc : c < 6) : t_OB (wB w + k) ((wD w).1 c) (nf c) ((wD w).2 c) H f := by
  unfold CG at h
  rw [hk, if_pos hc] at h
  exact h
theorem CG.arr {w : Wx} {f : Nat → Value} {H : Heap} {k i : Nat} (h : CG w f H k) (hk : kd k = 6 + i) : H[wB w + k]? = some (arrV (wT w i) (ln k) f) := by
  unfold CG at h
  rw [hk, if_neg (by omega), show 6 + i - 6 = i by omega] at h
  exact h
theorem CG.ofObj {w : Wx} {f : Nat → Value} {H : Heap} {k c : Nat} (hk : kd k = c) (hc : c < 6) (h : t_OB (wB w + k) ((wD w).1 c) (nf c) ((wD w).2 c) H f) : CG w f H k := by
  unfold CG
  rw [hk, if_pos hc]
  exact h
theorem CG.ofArr {w : Wx} {f : Nat → Value} {H : Heap} {k i : Nat} (hk : kd k = 6 + i) (h : H[wB w + k]? = some (arrV (wT w i) (ln k) f)) : CG w f H k := by
  unfold CG
  rw [hk, if_neg (by omega), show 6 + i - 6 = i by omega]
  exact h
abbrev Ops : Type := List (Nat × (Nat → Value))
/-- n cells are made; those of op are open, with these contents; all others are as at the start -/
def WO (w : Wx) (op : Ops) (n : Nat) (H : Heap) : Prop :=
  H.size = wB w + n ∧ wLo w ≤ n ∧ (∀ (i j : Nat) (p q : Nat × (Nat → Value)), op[i]? = some p → op[j]? = some q → p.1 = q.1 → i = j) ∧
  (∀ (i : Nat) (q : Nat × (Nat → Value)), op[i]? = some q → wLo w ≤ q.1 ∧ q.1 < n ∧ CG w q.2 H q.1) ∧
  ∀ k, wLo w ≤ k → k < n → (∀ (i : Nat) (q : Nat × (Nat → Value)), op[i]? = some q → q.1 ≠ k) → CG w (vS (wB w) k) H k
theorem WO.push {w : Wx} {op : Ops} {n : Nat} {H H1 : Heap} {f : Nat → Value} (h : WO w op n H) (hz : H1.size = wB w + n + 1) (hq : ∀ q : Nat, q < wB w + n → H1[q]? = H[q]?) (hf : CG w f H1 n) : WO w ((n, f) :: op) (n + 1) H1 := by
  obtain ⟨h1, h2, h3, h4, h5⟩ := h
  refine ⟨by rw [hz, Nat.add_assoc], by omega, ?_, ?_, ?_⟩
  · intro i j p q hi hj e
    cases i with
    | zero => cases j with
      | zero => rfl
      | succ j =>
        cases hi
        have := (h4 j q hj).2.1
        rw [← e] at this
        exact absurd this (Nat.lt_irrefl _)
    | succ i => cases j with
      | zero =>
        cases hj
        have := (h4 i p hi).2.1
        rw [e] at this
        exact absurd this (Nat.lt_irrefl _)
      | succ j => rw [h3 i j p q hi hj e]
  · intro i q hi
    cases i with
    | zero => cases hi; exact ⟨h2, Nat.lt_succ_self _, hf⟩
    | succ i =>
      obtain ⟨a, b, c⟩ := h4 i q hi
      exact ⟨a, by omega, c.kept (hq _ (by omega))⟩
  · intro k k1 k2 k3
    have hne : n ≠ k := k3 0 (n, f) rfl
    exact (h5 k k1 (by omega) (fun i q hi => k3 (i + 1) q hi)).kept (hq _ (by omega))
theorem WO.shut {w : Wx} {op : Ops} {n k : Nat} {H : Heap} {f : Nat → Value} (h : WO w ((k, f) :: op) n H) (hf : ∀ j, j < szC k → f j = vS (wB w) k j) : WO w op n H := by
  obtain ⟨h1, h2, h3, h4, h5⟩ := h
  refine ⟨h1, h2, fun i j p q hi hj e => ?_, fun i q hi => h4 (i + 1) q hi, fun k' k1 k2 k3 => ?_⟩
  · have := h3 (i + 1) (j + 1) p q hi hj e
    omega
  · by_cases hk : k = k'
    · subst hk
      exact (h4 0 (k, f) rfl).2.2.to hf
    · refine h5 k' k1 k2 (fun i q hi => ?_)
      cases i with
      | zero => cases hi; exact hk
      | succ i => exact k3 i q hi
theorem WO.made {w : Wx} {op : Ops} {n : Nat} {H H1 : Heap} (h : WO w op n H) (hz : H1.size = wB w + n + 1) (hq : ∀ q : Nat, q < wB w + n → H1[q]? = H[q]?) (hf : CG w (vS (wB w) n) H1 n) : WO w op (n + 1) H1 :=
  (h.push hz hq hf).shut (fun _ _ => rfl)
theorem WO.set {w : Wx} {op : Ops} {n i k : Nat} {H H1 : Heap} {f g : Nat → Value} (h : WO w op n H) (hi : op[i]? = some (k, f)) (hz : H1.size = H.size) (hq : ∀ q : Nat, q ≠ wB w + k → H1[q]? = H[q]?) (hg : CG w g H1 k) : WO w (op.set i (k, g)) n H1 := by
  obtain ⟨h1, h2, h3, h4, h5⟩ := h
  have hlt : i < op.length := (List.getElem?_eq_some_iff.mp hi).1
  have key : ∀ (j : Nat) (q : Nat × (Nat → Value)), (op.set i (k, g))[j]? = some q → (j = i ∧ q = (k, g)) ∨ (j ≠ i ∧ op[j]? = some q) := by
    intro j q hj
    rw [List.getElem?_set] at hj
    by_cases e : i = j
    · rw [if_pos e, if_pos hlt] at hj
      exact Or.inl ⟨e.symm, (Option.some.inj hj).symm⟩
    · rw [if_neg e] at hj
      exact Or.inr ⟨fun z => e z.symm, hj⟩
  have key2 : ∀ (j : Nat) (q : Nat × (Nat → Value)), (op.set i (k, g))[j]? = some q → ∃ q', op[j]? = some q' ∧ q'.1 = q.1 := by
    intro j q hj
    rcases key j q hj with ⟨rfl, rfl⟩ | ⟨-, h⟩
    · exact ⟨_, hi, rfl⟩
    · exact ⟨_, h, rfl⟩
  refine ⟨by rw [hz, h1], h2, fun a b p q ha hb e => ?_, fun j q hj => ?_, fun k' k1 k2 k3 => ?_⟩
  · obtain ⟨p', ha', e1⟩ := key2 a p ha
    obtain ⟨q', hb', e2⟩ := key2 b q hb
    exact h3 a b p' q' ha' hb' (by rw [e1, e2, e])
  · rcases key j q hj with ⟨rfl, rfl⟩ | ⟨hne, h⟩
    · obtain ⟨a, b, -⟩ := h4 _ _ hi
      exact ⟨a, b, hg⟩
    · obtain ⟨a, b, c⟩ := h4 j q h
      have hqk : q.1 ≠ k := fun e => hne (h3 j i q (k, f) h hi e)
      exact ⟨a, b, c.kept (hq _ (fun e => hqk (Nat.add_left_cancel e)))⟩
  · have hkk : k ≠ k' := by
      have := k3 i (k, g) (by rw [List.getElem?_set, if_pos rfl, if_pos hlt])
      exact this
    refine (h5 k' k1 k2 (fun j q hj => ?_)).kept (hq _ (fun e => hkk (Nat.add_left_cancel e).symm))
    by_cases e : j = i
    · subst e
      rw [hi] at hj
      cases hj
      exact hkk
    · exact k3 j q (by rw [List.getElem?_set, if_neg (fun z => e z.symm)]; exact hj)
theorem WO.wd {w : Wx} {n : Nat} {H : Heap} (h : WO w [] n H) (hn : wHi w ≤ n) : Wd w s0 H := by
  intro k k1 k2
  have hc := h.2.2.2.2 k k1 (Nat.lt_of_lt_of_le k2 hn) (fun i q hi => by cases hi)
  unfold CG at hc
  unfold Cl
  by_cases hk : kd k < 6
  · rw [if_pos hk] at hc ⊢
    refine hc.to (fun j _ => ?_)
    unfold vS
    rw [if_pos hk]
  · rw [if_neg hk] at hc ⊢
    by_cases h6 : kd k = 6
    · rw [if_pos h6, hc, h6]
      refine congrArg some (arrV_to fun j _ => ?_)
      unfold vS
      rw [if_neg hk, if_pos h6]
    · rw [if_neg h6, hc]
      refine congrArg some (arrV_to fun j _ => ?_)
      unfold vS
      rw [if_neg hk, if_neg h6]
def AOI (U : State) : Prop := (Cond.arrayOver (.array .int)).before #[] U = true
theorem AOI.moved {u U : State} (hvm : u.vm.Alike U.vm) (h : AOI u) : AOI U := by
  obtain ⟨comp, c, k, h1, h2, h3, h4, h5⟩ := arrayOverA_spec h
  obtain ⟨k', hk', he⟩ := hvm.2.2 _ _ h3
  have e0 : U.vm.bare = u.vm.bare := by first | exact hvm.bare_eq | exact hvm.bare_eq.symm
  have hi : (U.vm.classes.findIdx? fun (x : Class) => match x.kind with | .array component _ => component == comp | _ => false) = some c := by
    have e1 := va_idx_bare U.vm comp
    rw [e0] at e1
    exact e1.symm.trans ((va_idx_bare u.vm comp).trans h2)
  have hkind : k'.kind = .array comp (.array .int) := by rw [he]; exact h4
  have f1 : U.vm.findClass (FieldType.array .int).toString = some comp := by rw [hvm.findClass]; exact h1
  have f2 : U.vm.findClass ("[" ++ (FieldType.array .int).toString) = some c := by rw [hvm.findClass]; exact h5
  unfold AOI Cond.before Cond.holds
  simp only [Cond.value]
  rw [f1, Option.bind_some]
  refine (congrArg (fun o : Option Nat => (o.bind (fun c => (U.vm.classes[c]?).map fun (k : Class) => match k.kind with | .array _ ty => decide (ty = FieldType.array .int) && decide (U.vm.findClass ("[" ++ (FieldType.array .int).toString) = some c) | _ => false) == some true)) hi).trans ?_
  simp [hk', hkind, f2]
/-- what constructors need besides -/
def FcG (w : Wx) (U : State) : Prop := (∀ i, i < 4 → va_RA U (wT w i) (tyA i)) ∧ va_AO "SeaMeeting$Sailing" U ∧ va_AO "SeaMeeting$World" U ∧ AOI U
theorem FcG.warm {w : Wx} {s U : State} (hW : s.WarmedH U.vm) (h : FcG w s) : FcG w U := by
  have a := hW.alike
  exact ⟨fun i hi => (h.1 i hi).moved a, h.2.1.moved a, h.2.2.1.moved a, h.2.2.2.moved a⟩
def Fr (w : Wx) : Nat → Prop := fun q => wB w + wLo w ≤ q
theorem Fr.lo {w : Wx} {q : Nat} (h : Fr w q) : Lo w q := Nat.le_trans (Nat.le_add_right _ _) h
def PreO (w : Wx) (As : List Value) (op : Ops) (n : Nat) : Array Value → State → Prop := fun a U => a = As.toArray ∧ Ev w U U.heap ∧ FcG w U ∧ WO w op n U.heap
def PostO (w : Wx) (op : Ops) (n : Nat) : Array Value → State → Outcome → State → Prop := fun _ st o t => o = .returned none ∧ WO w op n t.heap ∧ va_F (Fr w) st t
def CtO (l : Launch) (w : Wx) (y : MethodName) (cc : ByteArray) (nL : Nat) (rm : Room) (As : List Value) (op : Ops) (n : Nat) (op1 : Ops) (n1 : Nat) : Prop :=
  Met l y (.code y cc nL none :: TBL) rm (PreO w As op n) (PostO w op1 n1) rm.cells rm.slots (Fr w)
theorem PreO.blind {w : Wx} {As : List Value} {op : Ops} {n : Nat} : FrameBlind (PreO w As op n) := by
  intro a U g mk h
  exact ⟨h.1, Ev.vm (s := U) rfl h.2.1, h.2.2.1.warm (s := U) (State.WarmedH.refl U), h.2.2.2⟩
def OkG (x : Cx) (w : Wx) (cc : ByteArray) (nL : Nat) (own : String) (ret : Option FieldType) (rm : Room) : Prop := Ok x w cc nL own ret rm ∧ FcG w (xS x)
def JO (x : Cx) (w : Wx) (Q : State → Prop) (pc : Nat) (lv : List (Nat × Value)) (st : List Value) (cs : Nat × Nat) (op : Ops) (n : Nat) : Prop :=
  ∀ (H : Heap) (locs : List Loc) (ls : Array Slot), va_S (Fr w) (xS x).heap H locs → WO w op n H → lv_has ls (xC x).maxLocals lv →
    W (xP x) (xL x) (xE x) (xR x) (xS x) (xM x) (xA x) (xW x) (xY x) (xC x) H locs cs.1 cs.2 Q (F0 (xM x) pc ls st)
def FinO (x : Cx) (w : Wx) (op : Ops) (n : Nat) (cs : Nat × Nat) : State → Prop := MQ (xW x) (PostO w op n) (xA x) (xS x) cs.1 cs.2 (Fr w)
theorem Met.ofJO {l : Launch} {w : Wx} {y : MethodName} {cc : ByteArray} {nL : Nat} {own : String} {rm : Room} {As : List Value} {op : Ops} {n : Nat} {Qc : Array Value → State → Outcome → State → Prop} (hy : plainName y.cls = true) (ho : y.cls = own) (hn : y.name = "<init>") (hlen : (lg_sl As).length ≤ nL)
    (body : ∀ x : Cx, xL x = l → OkG x w cc nL own none rm → (xY x).name = "<init>" → (xS x).heap.size = wB w + n → JO x w (MQ (xW x) Qc (xA x) (xS x) rm.cells rm.slots (Fr w)) 0 (lv_args 0 As) [] (0, 0) op n) : Met l y (.code y cc nL none :: TBL) rm (PreO w As op n) Qc rm.cells rm.slots (Fr w) := by
  refine Met.ofW (cc := cc) (maxL := nL) (ret := none) hy rfl ?_
  intro p e s m args below meth c s₁ B hml hv
  obtain ⟨rfl, hE, hF, hW⟩ := hv
  have hts := atoms_spec (ws := .code y cc nL none :: TBL) B.pre
  have hown : s.vm.findClass y.cls = some m.cls := findClass_of_methodNamed B.named
  have hin : meth.name = "<init>" := (name_of_methodNamed B.named B.method).1.trans hn
  have K := body (p, l, e, rm, s, m, As.toArray, below, meth, c) rfl ⟨⟨B.exec, B.bytes, hml, by rw [← ho]; exact hown, fun q hq => hts q (List.mem_cons_of_mem _ hq), B.notSynchronized, B.returns, rfl, hE⟩, hF⟩ hin hW.1
  rw [lg_entry_eq]
  exact K s.heap [] _ va_S.rf hW (by rw [show (xC (p, l, e, rm, s, m, As.toArray, below, meth, c)).maxLocals = nL from hml]; exact lv_entry As hlen)
theorem CtO.of {l : Launch} {w : Wx} {y : MethodName} {cc : ByteArray} {nL : Nat} {own : String} {rm : Room} {As : List Value} {op op1 : Ops} {n n1 : Nat} (hy : plainName y.cls = true) (ho : y.cls = own) (hn : y.name = "<init>") (hlen : (lg_sl As).length ≤ nL)
    (body : ∀ x : Cx, xL x = l → OkG x w cc nL own none rm → (xY x).name = "<init>" → JO x w (FinO x w op1 n1 (rm.cells, rm.slots)) 0 (lv_args 0 As) [] (0, 0) op n) : CtO l w y cc nL rm As op n op1 n1 :=
  Met.ofJO hy ho hn hlen (fun x hx o h _ => body x hx o h)
section
variable {x : Cx} {w : Wx} {Q : State → Prop} {cc : ByteArray} {nL : Nat} {own : String} {ret : Option FieldType} {rm : Room} {pc : Nat} {lv : List (Nat × Value)} {st : List Value} {cs : Nat × Nat} {op : Ops} {n : Nat}
theorem JO_iconst (o : OkG x w cc nL own ret rm) {n0 : Int} {v : Int32} (d : decode cc pc = .ok (.iconst n0, 1)) (hv : Int32.ofInt n0 = v) (kk : JO x w Q (pc + 1) lv (.int v :: st) cs op n) : JO x w Q pc lv (st) cs op n :=
  fun H locs ls hS hW hl => lv_iconst o.1.1 o.1.2.1 d hv (kk H locs ls hS hW hl)
theorem JO_bipush (o : OkG x w cc nL own ret rm) {n0 : Int} {v : Int32} (d : decode cc pc = .ok (.bipush n0, 2)) (hv : (Int8.ofInt n0).toInt32 = v) (kk : JO x w Q (pc + 2) lv (.int v :: st) cs op n) : JO x w Q pc lv (st) cs op n :=
  fun H locs ls hS hW hl => lv_bipush o.1.1 o.1.2.1 d hv (kk H locs ls hS hW hl)
theorem JO_sipush (o : OkG x w cc nL own ret rm) {n0 : Int} {v : Int32} (d : decode cc pc = .ok (.sipush n0, 3)) (hv : (Int16.ofInt n0).toInt32 = v) (kk : JO x w Q (pc + 3) lv (.int v :: st) cs op n) : JO x w Q pc lv (st) cs op n :=
  fun H locs ls hS hW hl => lv_sipush o.1.1 o.1.2.1 d hv (kk H locs ls hS hW hl)
theorem JO_iload (o : OkG x w cc nL own ret rm) (k : Nat) {i : Nat} {v : Int32} (d : decode cc pc = .ok (.iload i, 2)) (hl0 : lv[k]? = some (i, .int v)) (kk : JO x w Q (pc + 2) lv (.int v :: st) cs op n) : JO x w Q pc lv (st) cs op n :=
  fun H locs ls hS hW hl => lv_iload o.1.1 o.1.2.1 d (lv_at hl k hl0) (kk H locs ls hS hW hl)
theorem JO_iload_n (o : OkG x w cc nL own ret rm) (k : Nat) {i : Fin 4} {v : Int32} (d : decode cc pc = .ok (.iload_n i, 1)) (hl0 : lv[k]? = some ((i : Nat), .int v)) (kk : JO x w Q (pc + 1) lv (.int v :: st) cs op n) : JO x w Q pc lv (st) cs op n :=
  fun H locs ls hS hW hl => lv_iload_n o.1.1 o.1.2.1 d rfl (lv_at hl k hl0) (kk H locs ls hS hW hl)
theorem JO_aload (o : OkG x w cc nL own ret rm) (k : Nat) {i : Nat} {v : Nat} (d : decode cc pc = .ok (.aload i, 2)) (hl0 : lv[k]? = some (i, .ref v)) (kk : JO x w Q (pc + 2) lv (.ref v :: st) cs op n) : JO x w Q pc lv (st) cs op n :=
  fun H locs ls hS hW hl => lv_aload o.1.1 o.1.2.1 d (lv_at hl k hl0) (kk H locs ls hS hW hl)
theorem JO_aload_n (o : OkG x w cc nL own ret rm) (k : Nat) {i : Fin 4} {v : Nat} (d : decode cc pc = .ok (.aload_n i, 1)) (hl0 : lv[k]? = some ((i : Nat), .ref v)) (kk : JO x w Q (pc + 1) lv (.ref v :: st) cs op n) : JO x w Q pc lv (st) cs op n :=
  fun H locs ls hS hW hl => lv_aload_n o.1.1 o.1.2.1 d rfl (lv_at hl k hl0) (kk H locs ls hS hW hl)
theorem JO_istore (o : OkG x w cc nL own ret rm) {i : Nat} {v : Int32} {lv' : List (Nat × Value)} (d : decode cc pc = .ok (.istore i, 2)) (hn : i < nL) (hl0 : ((i : Nat), Value.int v) :: lv.filter (fun q => !(q.1 == (i : Nat)) && !(q.1 + 1 == (i : Nat) && q.2.category == 2)) = lv') (kk : JO x w Q (pc + 2) lv' st cs op n) : JO x w Q pc lv (Value.int v :: st) cs op n :=
  fun H locs ls hS hW hl => lv_istore o.1.1 o.1.2.1 d hl (by rw [o.1.2.2.1]; exact hn) hl0 (fun ls' h => kk H locs ls' hS hW h)
theorem JO_istore_n (o : OkG x w cc nL own ret rm) {i : Fin 4} {v : Int32} {lv' : List (Nat × Value)} (d : decode cc pc = .ok (.istore_n i, 1)) (hn : (i : Nat) < nL) (hl0 : ((i : Nat), Value.int v) :: lv.filter (fun q => !(q.1 == (i : Nat)) && !(q.1 + 1 == (i : Nat) && q.2.category == 2)) = lv') (kk : JO x w Q (pc + 1) lv' st cs op n) : JO x w Q pc lv (Value.int v :: st) cs op n :=
  fun H locs ls hS hW hl => lv_istore_n o.1.1 o.1.2.1 d rfl hl (by rw [o.1.2.2.1]; exact hn) hl0 (fun ls' h => kk H locs ls' hS hW h)
theorem JO_iinc (o : OkG x w cc nL own ret rm) {i : Nat} {n0 : Int} {v v2 : Int32} {lv' : List (Nat × Value)} (k : Nat) (d : decode cc pc = .ok (.iinc i n0, 3)) (hn : i < nL) (hk : lv[k]? = some (i, .int v)) (hv : Int32.ofInt n0 = v2) (hl0 : (i, Value.int (v + v2)) :: lv.filter (fun q => !(q.1 == i) && !(q.1 + 1 == i && q.2.category == 2)) = lv') (kk : JO x w Q (pc + 3) lv' st cs op n) : JO x w Q pc lv st cs op n :=
  fun H locs ls hS hW hl => lv_iinc o.1.1 o.1.2.1 d hl hk (by rw [hv]) (by rw [o.1.2.2.1]; exact hn) hl0 (fun ls' h => kk H locs ls' hS hW h)
theorem JO_dup (o : OkG x w cc nL own ret rm) {v : Value} (d : decode cc pc = .ok (.dup, 1)) (hc : v.category = 1) (kk : JO x w Q (pc + 1) lv (v :: v :: st) cs op n) : JO x w Q pc lv (v :: st) cs op n :=
  fun H locs ls hS hW hl => lv_dup o.1.1 o.1.2.1 d hc (kk H locs ls hS hW hl)
theorem JO_icmp_ge (o : OkG x w cc nL own ret rm) {a b : Int32} {off : Int} (tgt : Nat) (d : decode cc pc = .ok (.if_icmp .ge off, 3)) (ht : (pc : Int) + off = (tgt : Int)) (kt : b ≤ a → JO x w Q tgt lv st cs op n) (kf : ¬ (b ≤ a) → JO x w Q (pc + 3) lv st cs op n) : JO x w Q pc lv (.int b :: .int a :: st) cs op n :=
  fun H locs ls hS hW hl => lv_icmp_ge o.1.1 o.1.2.1 d ht (fun c => kt c H locs ls hS hW hl) (fun c => kf c H locs ls hS hW hl)
theorem JO_goto (o : OkG x w cc nL own ret rm) {off : Int} (tgt : Nat) (d : decode cc pc = .ok (.goto off, 3)) (ht : (pc : Int) + off = (tgt : Int)) (kk : JO x w Q tgt lv st cs op n) : JO x w Q pc lv st cs op n :=
  fun H locs ls hS hW hl => lv_goto o.1.1 o.1.2.1 d ht (kk H locs ls hS hW hl)
theorem JO_sub {lv' : List (Nat × Value)} (ks : List Nat) (hl0 : lv_pick lv ks = lv') (kk : JO x w Q pc lv' st cs op n) : JO x w Q pc lv st cs op n :=
  fun H locs ls hS hW hl => kk H locs ls hS hW (lv_sub hl ks hl0)

theorem JO_fix (o : OkG x w cc nL own ret rm) : CallFix (xP x) (xM x) (xC x) cc nL (xS x) (xA x) TBL own := J_fix o.1
theorem JO_objInit (o : OkG x w cc nL own ret rm) {idx a : Nat} (hl0 : Cond.methodLink own idx Lib.objectInit ∈ TBL) (hi : Cond.instanceMethod Lib.objectInit ∈ TBL) (hc : Cond.code Lib.objectInit ⟨#[0xb1]⟩ 1 none ∈ TBL) (hR : 1 ≤ rm.frames ∧ (st.map fun v => v.category).sum + 12 ≤ rm.locals)
    (d : decode cc pc = .ok (.invokespecial idx, 3)) (kk : JO x w Q (pc + 3) lv st cs op n) : JO x w Q pc lv (.ref a :: st) cs op n :=
  fun H locs ls hS hW hl => W.objInit o.1.1 o.1.2.1 o.1.2.2.2.1 (o.1.2.2.2.2.1 _ hl0) (o.1.2.2.2.2.1 _ hi) (o.1.2.2.2.2.1 _ hc) rfl hl.1 rfl d (by rw [o.1.2.2.2.2.2.2.2.1]; exact hR.1) (by rw [o.1.2.2.2.2.2.2.2.1]; show 2 * 0 + _ + 12 ≤ _; have := hR.2; omega) (kk H locs ls hS hW hl)
/-- a field of an open object read -/
theorem JO_get (o : OkG x w cc nL own ret rm) (i : Nat) {idx c j k : Nat} {f : Nat → Value} {v : Value} (hf : Fl own idx c j) (hk : kd k = c) (hi0 : op[i]? = some (k, f)) (hv : f j = v) (hc : v.category = 1) (d : decode cc pc = .ok (.getfield idx, 3)) (kk : JO x w Q (pc + 3) lv (v :: st) cs op n) : JO x w Q pc lv (.ref (wB w + k) :: st) cs op n := by
  intro H locs ls hS hW hl
  obtain ⟨cell, q1, q2, q3, q4⟩ := (hW.2.2.2.1 i _ hi0).2.2.obj hk hf.1
  obtain ⟨hSl, hfc, kC, hkC, hkind⟩ := o.1.2.2.2.2.2.2.2.2.2.1.1 c _ (t_cl hf.1)
  obtain ⟨cf, kf, fi, fd, hi, hsl⟩ := hSl j hf.2.1
  refine W.getf o.1.1 o.1.2.1 o.1.2.2.2.1 (o.1.2.2.2.2.1 _ hf.2.2.2) hi (u_facts hfc hkC (f_lay o.1.2.2.2.2.1 hf.2.2.1) hi).1 q1 (by rw [q3]; exact fun h => by cases h) (v := v) ?_ rfl rfl d (kk H locs ls hS hW hl)
  rw [hsl, ← hv]
  exact q4 j hf.2.1
/-- a field of an open object written -/
theorem JO_put (o : OkG x w cc nL own ret rm) (i : Nat) {idx c j k : Nat} {f : Nat → Value} {v : Value} {op1 : Ops} (hf : Fl own idx c j) (hls : ∀ k, k < nf c → u_lay (tR c) (tT c) k ∈ TBL) (hk : kd k = c) (hi0 : op[i]? = some (k, f)) (hfin : (tT c j).2.2.2 = false)
    (hn : narrow (tY c j) v = v) (hfit : fits (tY c j) v = true) (ho : op.set i (k, updV f j v) = op1) (d : decode cc pc = .ok (.putfield idx, 3)) (kk : JO x w Q (pc + 3) lv st cs op1 n) : JO x w Q pc lv (v :: .ref (wB w + k) :: st) cs op n := by
  intro H locs ls hS hW hl
  have hw := hW.2.2.2.1 i _ hi0
  obtain ⟨cell, q1, q2, q3, q4⟩ := hw.2.2.obj hk hf.1
  have hap := J_apart o.1 hf.1 hls
  obtain ⟨hSl, hfc, kC, hkC, hkind⟩ := o.1.2.2.2.2.2.2.2.2.2.1.1 c _ (t_cl hf.1)
  obtain ⟨cf, kf, fi, fd, hi2, hsl⟩ := hSl j hf.2.1
  have hlay := o.1.2.2.2.2.1 _ hf.2.2.1
  unfold u_lay at hlay
  rw [if_neg (by rw [hfin]; decide)] at hlay
  have hst := (u_facts hfc hkC (f_lay o.1.2.2.2.2.1 hf.2.2.1) hi2).1
  have h6 := u_store hfc hkC hkind hlay hi2 (t_ty hf.1 j hf.2.1) hn hfit
  refine W.putK o.1.1 o.1.2.1 (f := fd) ⟨o.1.2.2.2.1, o.1.2.2.2.2.1 _ hf.2.2.2, ⟨_, _, _, hi2⟩, hst⟩ (by rw [q2]; exact h6) q1 q3 (by rw [hsl]; exact k2_hasslot (q4 j hf.2.1)) rfl rfl d fun H' e1 e2 e3 => ?_
  rw [hsl] at e1 ⊢
  subst ho
  exact kk H' _ ls (hS.put e2 e3 (Nat.add_le_add_left hw.1 _)) (hW.set hi0 e2 e3 (CG.ofObj hk hf.1 ⟨_, e1, q2, q3, t_set q4 hap hf.2.1 v⟩)) hl
/-- a final field of an open object written, in its constructor -/
theorem JO_putF (o : OkG x w cc nL own ret rm) (hnm : (xY x).name = "<init>") (i : Nat) {idx c j k : Nat} {f : Nat → Value} {v : Value} {op1 : Ops} (hf : Fl own idx c j) (hls : ∀ k, k < nf c → u_lay (tR c) (tT c) k ∈ TBL) (hk : kd k = c) (hi0 : op[i]? = some (k, f)) (hfin : (tT c j).2.2.2 = true) (hdecl : (tT c j).1 = own)
    (hn : narrow (tY c j) v = v) (hfit : fits (tY c j) v = true) (ho : op.set i (k, updV f j v) = op1) (d : decode cc pc = .ok (.putfield idx, 3)) (kk : JO x w Q (pc + 3) lv st cs op1 n) : JO x w Q pc lv (v :: .ref (wB w + k) :: st) cs op n := by
  intro H locs ls hS hW hl
  have hw := hW.2.2.2.1 i _ hi0
  obtain ⟨cell, q1, q2, q3, q4⟩ := hw.2.2.obj hk hf.1
  have hap := J_apart o.1 hf.1 hls
  obtain ⟨hSl, hfc, kC, hkC, hkind⟩ := o.1.2.2.2.2.2.2.2.2.2.1.1 c _ (t_cl hf.1)
  obtain ⟨cf, kf, fi, fd, hi2, hsl⟩ := hSl j hf.2.1
  have hlay := o.1.2.2.2.2.1 _ hf.2.2.1
  unfold u_lay at hlay
  rw [if_pos hfin] at hlay
  have hst := (u_facts hfc hkC (f_lay o.1.2.2.2.2.1 hf.2.2.1) hi2).1
  have hcf : (xM x).cls = cf := by
    obtain ⟨_, _, c', _, _, _, -, -, hf', -, -, -, hown2, -⟩ := Cond.laysFinal_spec hlay
    have e1 : c' = cf := by have := hi2.symm.trans hf'; simp at this; exact this.1.symm
    rw [hdecl] at hown2
    rw [← e1]; exact Option.some.inj (o.1.2.2.2.1.symm.trans hown2)
  have h6 := u_fits hfc hkC hkind (Or.inr hlay) hi2 (t_ty hf.1 j hf.2.1) hn hfit
  refine W.putFinK o.1.1 o.1.2.1 o.1.2.2.2.1 (o.1.2.2.2.2.1 _ hf.2.2.2) hi2 hst hcf hnm (by rw [q2]; exact h6) q1 q3 (by rw [hsl]; exact k2_hasslot (q4 j hf.2.1)) rfl rfl d fun H' e1 e2 e3 => ?_
  rw [hsl] at e1 ⊢
  subst ho
  exact kk H' _ ls (hS.put e2 e3 (Nat.add_le_add_left hw.1 _)) (hW.set hi0 e2 e3 (CG.ofObj hk hf.1 ⟨_, e1, q2, q3, t_set q4 hap hf.2.1 v⟩)) hl
theorem JO_grow {H H1 : Heap} {locs : List Loc} (hS : va_S (Fr w) (xS x).heap H locs) (hW : WO w op n H) (hz : H.size ≤ H1.size) (hq : ∀ q : Nat, q < H.size → H1[q]? = H[q]?) : va_S (Fr w) (xS x).heap H1 locs :=
  ⟨Nat.le_trans hS.1 hz, fun q h1 h2 => (hq q (Nat.lt_of_lt_of_le h1 hS.1)).trans (hS.2.1 q h1 h2), hS.2.2⟩
/-- new C -/
theorem JO_new (o : OkG x w cc nL own ret rm) {idx c n1 : Nat} (hc : c < 6) (hk : kd n = c) (hls : ∀ k, k < nf c → u_lay (tR c) (tT c) k ∈ TBL) (hcl : Cond.classLink own idx (tR c) ∈ TBL) (hin : Cond.instantiable (tR c) (nf c) ∈ TBL) (hini : Cond.initialized (tR c) ∈ TBL)
    (hR : cs.1 + 1 ≤ rm.cells ∧ cs.2 + nf c ≤ rm.slots) (hn1 : n + 1 = n1) (d : decode cc pc = .ok (.new idx, 3)) (kk : JO x w Q (pc + 3) lv (.ref (wB w + n) :: st) (cs.1 + 1, cs.2 + nf c) ((n, fun j => defaultValue (tY c j)) :: op) n1) : JO x w Q pc lv st cs op n := by
  intro H locs ls hS hW hl
  have hKn := o.1.2.2.2.2.2.2.2.2.2.1.1 c _ (t_cl hc)
  subst hn1
  refine W.newcK o.1.1 o.1.2.1 o.1.2.2.2.1 (o.1.2.2.2.2.1 _ hcl) (o.1.2.2.2.2.1 _ hin) (o.1.2.2.2.2.1 _ hini) rfl d (by rw [o.1.2.2.2.2.2.2.2.1]; exact hR.1) (by rw [o.1.2.2.2.2.2.2.2.1]; exact hR.2) hKn.2.1 hW.1 fun H1 kC hkC e1 z1 o1 => ?_
  have hb := u_born (tY c) o.1.2.2.2.2.1 (fun q hq => by
    obtain ⟨k, hk, rfl⟩ := List.mem_map.mp hq
    exact hls k (List.mem_range.mp hk)) hKn hkC e1 (t_ty hc)
  exact kk H1 locs ls (JO_grow hS hW (by have := hW.1; omega) (fun q hq => o1 q (by rw [← hW.1]; exact hq))) (hW.push z1 o1 (CG.ofObj hk hc hb)) hl
/-- new int[m] -/
theorem JO_newI (o : OkG x w cc nL own ret rm) {m n1 : Nat} {v : Int32} (hk : kd n = 6) (hl0 : ln n = m) (ha : Cond.arrayClass .int ∈ TBL) (hv : ¬ v < 0) (hm : v.toNatClampNeg = m) (hb : m * 4 ≤ 536870912) (hR : cs.1 + 1 ≤ rm.cells ∧ cs.2 + m ≤ rm.slots) (hn1 : n + 1 = n1) (d : decode cc pc = .ok (.newarray .int, 2))
    (kk : JO x w Q (pc + 2) lv (.ref (wB w + n) :: st) (cs.1 + 1, cs.2 + m) op n1) : JO x w Q pc lv (.int v :: st) cs op n := by
  intro H locs ls hS hW hl
  subst hm
  subst hn1
  refine W.newa (atype := .int) o.1.1 o.1.2.1 (o.1.2.2.2.2.1 _ ha) rfl d rfl hv hb (by rw [o.1.2.2.2.2.2.2.2.1]; exact hR.1) (by rw [o.1.2.2.2.2.2.2.2.1]; exact hR.2) fun cA kA comp f1 f2 f3 => ?_
  have hcA : cA = wT w 0 := Option.some.inj (f1.symm.trans (o.2.1 0 (by decide)))
  generalize hH1 : H.push ({ cls := cA, slots := Array.replicate v.toNatClampNeg (defaultValue (newarray.typeOf .int)), vm := .none } : Cell) = H1
  have z1 : H1.size = wB w + n + 1 := by rw [← hH1, Array.size_push, hW.1]
  have e1 : H1[wB w + n]? = some (arrV (wT w 0) (ln n) (fun _ => .int 0)) := by
    rw [← hH1, ← hW.1, Array.getElem?_push_size, ← hcA, hl0, ← arrV_new]
    rfl
  have o1 : ∀ q : Nat, q < wB w + n → H1[q]? = H[q]? := fun q hq => by rw [← hH1, Array.getElem?_push, if_neg (by rw [hW.1]; exact Nat.ne_of_lt hq)]
  have hsz : ({ F0 (xM x) pc ls (.int v :: st) with pc := pc + 2, stack := .ref H.size :: st } : JFrame) = F0 (xM x) (pc + 2) ls (.ref (wB w + n) :: st) := by rw [hW.1]
  have hcg : CG w (vS (wB w) n) H1 n := (CG.ofArr (i := 0) hk e1).to (fun j _ => by
    unfold vS s0
    rw [hk]
    rfl)
  have := kk H1 locs ls (JO_grow hS hW (by have := hW.1; omega) (fun q hq => o1 q (by rw [← hW.1]; exact hq))) (hW.made z1 o1 hcg) hl
  rw [← hsz] at this
  exact this
/-- new C[m], left open -/
theorem JO_newQ (o : OkG x w cc nL own ret rm) {C : String} {i idx m n1 : Nat} {v : Int32} (hi : i < 4) (hty : tyA i = .object C) (hk : kd n = 6 + i) (hl0 : ln n = m) (hcl : Cond.classLink own idx C ∈ TBL) (ha : va_AO C (xS x)) (hv : ¬ v < 0) (hm : v.toNatClampNeg = m) (hb : m * 4 ≤ 536870912) (hR : cs.1 + 1 ≤ rm.cells ∧ cs.2 + m ≤ rm.slots) (hn1 : n + 1 = n1) (d : decode cc pc = .ok (.anewarray idx, 3))
    (kk : JO x w Q (pc + 3) lv (.ref (wB w + n) :: st) (cs.1 + 1, cs.2 + m) ((n, fun _ => .null) :: op) n1) : JO x w Q pc lv (.int v :: st) cs op n := by
  intro H locs ls hS hW hl
  subst hm
  subst hn1
  refine W.anew o.1.1 o.1.2.1 o.1.2.2.2.1 (o.1.2.2.2.2.1 _ hcl) (va_AO.use ha) rfl d rfl hv hb (by rw [o.1.2.2.2.2.2.2.2.1]; exact hR.1) (by rw [o.1.2.2.2.2.2.2.2.1]; exact hR.2) fun cA kA comp f1 f2 f3 f4 => ?_
  have hcA : cA = wT w i := by
    have := o.2.1 i hi
    rw [hty] at this
    obtain ⟨-, -, -, -, -, h4⟩ := this
    exact Option.some.inj (f1.symm.trans h4)
  generalize hH1 : H.push ({ cls := cA, slots := Array.replicate v.toNatClampNeg .null, vm := .none } : Cell) = H1
  have z1 : H1.size = wB w + n + 1 := by rw [← hH1, Array.size_push, hW.1]
  have e1 : H1[wB w + n]? = some (arrV (wT w i) (ln n) (fun _ => .null)) := by
    rw [← hH1, ← hW.1, Array.getElem?_push_size, ← hcA, hl0, ← arrV_new]
  have o1 : ∀ q : Nat, q < wB w + n → H1[q]? = H[q]? := fun q hq => by rw [← hH1, Array.getElem?_push, if_neg (by rw [hW.1]; exact Nat.ne_of_lt hq)]
  have hsz : ({ F0 (xM x) pc ls (.int v :: st) with pc := pc + 3, stack := .ref H.size :: st } : JFrame) = F0 (xM x) (pc + 3) ls (.ref (wB w + n) :: st) := by rw [hW.1]
  have := kk H1 locs ls (JO_grow hS hW (by have := hW.1; omega) (fun q hq => o1 q (by rw [← hW.1]; exact hq))) (hW.push z1 o1 (CG.ofArr hk e1)) hl
  rw [← hsz] at this
  exact this
theorem outer_eq (c : ClassId) (N h0 : Nat) : ∀ i : Nat, Jvm.Free.Multi.outerC c N h0 i = arrV c N (fun j => if j < i then .ref (h0 + 1 + j) else .null)
  | 0 => by
    show ({ cls := c, slots := Array.replicate N .null, vm := .none } : Cell) = _
    rw [arrV_new]
    refine congrArg (arrV c N) (funext fun j => ?_)
    simp
  | i + 1 => by
    show (Jvm.Free.Multi.outerC c N h0 i).setSlot i (.ref (h0 + 1 + i)) = _
    rw [outer_eq c N h0 i, arrV_store]
    refine congrArg (arrV c N) (funext fun j => ?_)
    by_cases e : j = i
    · subst e
      simp [updV]
    · by_cases h : j < i
      · simp [updV, e, h, Nat.lt_succ_of_lt h]
      · simp [updV, e, h, show ¬ j < i + 1 by omega]
theorem WO.rows {w : Wx} {op : Ops} {n : Nat} {H : Heap} : ∀ (N : Nat) (F : Heap), WO w op n H → F.size = wB w + n + N → (∀ q : Nat, q < wB w + n → F[q]? = H[q]?) → (∀ j, j < N → CG w (vS (wB w) (n + j)) F (n + j)) → WO w op (n + N) F := by
  intro N F h hz hq hr
  obtain ⟨h1, h2, h3, h4, h5⟩ := h
  refine ⟨by rw [hz, Nat.add_assoc], by omega, h3, fun i q hi => ?_, fun k k1 k2 k3 => ?_⟩
  · obtain ⟨a, b, c⟩ := h4 i q hi
    exact ⟨a, by omega, c.kept (hq _ (by omega))⟩
  · by_cases hk : k < n
    · exact (h5 k k1 hk k3).kept (hq _ (by omega))
    · have := hr (k - n) (by omega)
      rw [show n + (k - n) = k by omega] at this
      exact this
/-- new int[N][M] -/
theorem JO_mna (o : OkG x w cc nL own ret rm) {idx N M n1 : Nat} {a b : Int32} (hk : kd n = 9) (hl0 : ln n = N) (ht : ∀ j, j < N → tgt n j = n + 1 + j) (hr : ∀ j, j < N → kd (n + 1 + j) = 6 ∧ ln (n + 1 + j) = M) (hcl : Cond.classLink own idx "[[I" ∈ TBL) (hac : Cond.arrayClass .int ∈ TBL) (ha : ¬ a < 0) (hb : ¬ b < 0) (hN : a.toNatClampNeg = N) (hM : b.toNatClampNeg = M)
    (hb1 : N * 4 ≤ 536870912 ∧ M * 4 ≤ 536870912) (hR : cs.1 + (1 + N) ≤ rm.cells ∧ cs.2 + (N + N * M) ≤ rm.slots) (hn1 : n + (1 + N) = n1) (d : decode cc pc = .ok (.multianewarray idx 2, 4))
    (kk : JO x w Q (pc + 4) lv (.ref (wB w + n) :: st) (cs.1 + 1 + N, cs.2 + N + N * M) op n1) : JO x w Q pc lv (.int b :: .int a :: st) cs op n := by
  intro H locs ls hS hW hl
  subst hN
  subst hM
  subst hn1
  intro T hT Xs
  have hbc : (xC x).code = cc := o.1.2.1
  obtain ⟨vm₁, cA, comp, -, fA, fC, hO, -, X', step⟩ := Xs.multianewarray2F (ty := .int) o.1.1 o.1.2.2.2.1 (o.1.2.2.2.2.1 _ hcl) o.2.2.2.2 (o.1.2.2.2.2.1 _ hac) (g := F0 (xM x) pc ls (.int b :: .int a :: st)) rfl (by rw [hbc]; exact d) rfl ha hb hb1.1 hb1.2 (by have := hb1.2; omega) rfl rfl (by rw [o.1.2.2.2.2.2.2.2.1]; exact hR.1) (by rw [o.1.2.2.2.2.2.2.2.1]; exact hR.2)
  have e3 : cA = wT w 3 := Option.some.inj (fA.symm.trans (o.2.1 3 (by decide)))
  have e0 : comp = wT w 0 := Option.some.inj (fC.symm.trans (o.2.1 0 (by decide)))
  subst e3
  subst e0
  generalize hF : Jvm.Free.Multi.fill (T.setVm vm₁) (wT w 3) (wT w 0) a.toNatClampNeg b.toNatClampNeg (defaultValue .int) a.toNatClampNeg = F at X' step
  have hTh : (T.setVm vm₁).heap = H := hT
  have hsz : T.heap.size = wB w + n := by rw [hT]; exact hW.1
  obtain ⟨f1, f2, -, -⟩ := Jvm.Free.Multi.fill_facts (T.setVm vm₁) (wT w 3) (wT w 0) a.toNatClampNeg b.toNatClampNeg (defaultValue .int) a.toNatClampNeg
  rw [hF, hTh] at f1 f2
  have hold : ∀ q : Nat, q < H.size → F.heap[q]? = H[q]? := fun q hq => by
    have := Jvm.Free.Multi.fill_old (T.setVm vm₁) (wT w 3) (wT w 0) a.toNatClampNeg b.toNatClampNeg (defaultValue .int) (a := q) (by rw [hTh]; exact hq) a.toNatClampNeg
    rw [hF, hTh] at this
    exact this
  have hrow : ∀ j : Nat, j < a.toNatClampNeg → F.heap[H.size + 1 + j]? = some (Jvm.Free.Multi.innerC (wT w 0) b.toNatClampNeg (defaultValue .int)) := fun j hj => by
    have := Jvm.Free.Multi.fill_inner (T.setVm vm₁) (wT w 3) (wT w 0) a.toNatClampNeg b.toNatClampNeg (defaultValue .int) a.toNatClampNeg j hj
    rw [hF, hTh] at this
    exact this
  rw [outer_eq] at f2
  rw [hW.1] at f1 f2 hold hrow
  have hWF : WO w op (n + (1 + a.toNatClampNeg)) F.heap := WO.rows _ _ hW (by rw [f1]; omega) hold (fun j hj => by
    cases j with
    | zero =>
      show CG w (vS (wB w) n) F.heap n
      refine (CG.ofArr (w := w) (i := 3) (f := fun j => if j < a.toNatClampNeg then .ref (wB w + n + 1 + j) else .null) hk (by rw [hl0]; exact f2)).to (fun j hj => ?_)
      have hj : j < a.toNatClampNeg := by
        unfold szC at hj
        rw [hk, if_neg (by decide), hl0] at hj
        exact hj
      refine (if_pos hj).trans ?_
      unfold vS
      rw [hk, if_neg (by decide), if_neg (by decide), ht j hj]
      exact congrArg Value.ref (show wB w + n + 1 + j = wB w + (n + 1 + j) by omega)
    | succ j =>
      obtain ⟨k1, k2⟩ := hr j (by omega)
      rw [show n + (j + 1) = n + 1 + j by omega]
      refine (CG.ofArr (w := w) (i := 0) (f := fun _ => .int 0) k1 ?_).to (fun i _ => ?_)
      · rw [k2, ← arrV_new, show wB w + (n + 1 + j) = wB w + n + 1 + j by omega]
        exact hrow j (by omega)
      · unfold vS s0
        rw [k1]
        rfl)
  obtain ⟨t, a1, b1⟩ := kk F.heap locs ls (JO_grow hS hW (by have := hW.1; omega) (fun q hq => hold q (by rw [← hW.1]; exact hq))) hWF hl F rfl X'
  refine ⟨t, step t ?_, b1⟩
  rw [hsz]
  exact a1
/-- a reference put into an open array; its target is a closed object or an open one -/
theorem JO_aast (o : OkG x w cc nL own ret rm) (i : Nat) {ia c k t : Nat} {f : Nat → Value} {v : Int32} {op1 : Ops} (hi : ia < 4) (hc : c < 6) (hty : tyA ia = .object (tR c)) (hk : kd k = 6 + ia) (hi0 : op[i]? = some (k, f)) (ht : kd t = c) (h1 : wLo w ≤ t) (h2 : t < n) (ho2 : ∀ q ∈ op, q.1 ≠ t) (hv : ¬ v < 0) (hin : v.toNatClampNeg < ln k)
    (ho : op.set i (k, updV f v.toNatClampNeg (.ref (wB w + t))) = op1) (d : decode cc pc = .ok (.aastore, 1)) (kk : JO x w Q (pc + 1) lv st cs op1 n) : JO x w Q pc lv (.ref (wB w + t) :: .int v :: .ref (wB w + k) :: st) cs op n := by
  intro H locs ls hS hW hl
  have hw := hW.2.2.2.1 i _ hi0
  have ha := hw.2.2.arr hk
  obtain ⟨cellV, g1, g2, g3, -⟩ := (hW.2.2.2.2 t h1 h2 (fun i q hq => ho2 q (List.mem_of_getElem? hq))).obj ht hc
  have hcls := (o.1.2.2.2.2.2.2.2.2.2.1.1 c _ (t_cl hc)).2
  have hra := o.2.1 ia hi
  rw [hty] at hra
  obtain ⟨kA, comp, k1, k2, k3, -⟩ := hra
  have hcomp : comp = (wD w).1 c := Option.some.inj (k3.symm.trans hcls.1)
  subst hcomp
  obtain ⟨kC, hkC, -⟩ := hcls.2
  refine W.aast o.1.1 o.1.2.1 ha (fun q h => by cases h) (fun h => by cases h) k1 k2 rfl hkC ⟨hv, by rw [arrV_size]; exact hin⟩ g1 (fun q h => by rw [g3] at h; cases h) (by rw [g2]; exact hkC) (by rw [g2]; exact va_assign hcls) rfl rfl d fun H1 e z oq => ?_
  subst ho
  exact kk H1 _ ls (hS.put z oq (Nat.add_le_add_left hw.1 _)) (hW.set hi0 z oq (CG.ofArr hk (by rw [e, arrV_store]))) hl
theorem JO_alen (o : OkG x w cc nL own ret rm) (i : Nat) {ia k m : Nat} {f : Nat → Value} (hi : ia < 4) (hk : kd k = 6 + ia) (hl0 : ln k = m) (hi0 : op[i]? = some (k, f)) (d : decode cc pc = .ok (.arraylength, 1)) (kk : JO x w Q (pc + 1) lv (.int (Int32.ofNat m) :: st) cs op n) : JO x w Q pc lv (.ref (wB w + k) :: st) cs op n := by
  intro H locs ls hS hW hl
  exact W.alen (n := Int32.ofNat m) (ty := tyA ia) o.1.1 o.1.2.1 ((hW.2.2.2.1 i _ hi0).2.2.arr hk) (o.1.2.2.2.2.2.2.2.2.2.2.1 ia hi _ _) (by rw [arrV_size, hl0]) rfl rfl d (kk H locs ls hS hW hl)
theorem JO_shut {k : Nat} {f : Nat → Value} (hf : ∀ j, j < szC k → f j = vS (wB w) k j) (kk : JO x w Q pc lv st cs op n) : JO x w Q pc lv st cs ((k, f) :: op) n :=
  fun H locs ls hS hW hl => kk H locs ls hS (hW.shut hf) hl
theorem JO_pre (o : OkG x w cc nL own ret rm) {H : Heap} {locs : List Loc} {As : List Value} (hS : va_S (Fr w) (xS x).heap H locs) (hW : WO w op n H) : PreS (xS x) H (PreO w As op n) As := by
  refine ⟨PreO.blind, fun U hU hWm => ⟨rfl, ?_, o.2.warm hWm, by rw [hU]; exact hW⟩⟩
  rw [hU]
  exact (o.1.2.2.2.2.2.2.2.2.kept hS.1 (fun a h1 h2 => hS.2.1 a h1 (fun z => h2 z.lo))).warm hWm
theorem JO_after {H : Heap} {locs : List Loc} {ls : Array Slot} {st0 : List Value} {mc ms : Nat} {a : Array Value} {op1 : Ops} {n1 : Nat} (hS : va_S (Fr w) (xS x).heap H locs) (hl : lv_has ls (xC x).maxLocals lv)
    (hr : va_Run (xP x) (xL x) (xE x) (xR x) (xS x) (xM x) (xA x) (xW x) (xY x) (xC x) H locs cs.1 cs.2 mc ms (F0 (xM x) pc ls st0) st (PostO w op1 n1 a) (Fr w))
    (kk : JO x w Q (pc + 3) lv st (cs.1 + mc, cs.2 + ms) op1 n1) : W (xP x) (xL x) (xE x) (xR x) (xS x) (xM x) (xA x) (xW x) (xY x) (xC x) H locs cs.1 cs.2 Q (F0 (xM x) pc ls st0) := by
  intro T hT X
  obtain ⟨v, st₀, t, T', L, h0, X', hL, e1, e2, ⟨hv, hw, hz, hk⟩, go⟩ := hr T hT X
  cases hv
  rw [h0] at hz hk
  have hS' : va_S (Fr w) (xS x).heap T'.heap (locs ++ L) := ⟨Nat.le_trans hS.1 (by rw [e1]; exact hz), fun q h1 h2 => by rw [e1, hk q (Nat.lt_of_lt_of_le h1 hS.1) h2]; exact hS.2.1 q h1 h2, fun q hq => by
      rcases List.mem_append.mp hq with h | h
      · exact hS.2.2 q h
      · exact hL q h⟩
  obtain ⟨t2, a1, b1⟩ := kk T'.heap (locs ++ L) ls hS' (by rw [e1]; exact hw) hl T' rfl X'
  exact ⟨t2, go t2 a1, b1⟩
theorem JO_call (o : OkG x w cc nL own ret rm) {y : MethodName} {bytes : ByteArray} {maxL n0 idx : Nat} {r2 : Room} {st0 : List Value} {b n1 : Nat} {op1 : Ops} (As : List Value) (hm : Mth y bytes maxL none n0) (hs : y.name = "<init>" ∧ Cond.instanceMethod y ∈ TBL) (hl0 : Cond.methodLink own idx y ∈ TBL) (hR : r2.frames + 1 ≤ rm.frames ∧ 8 + (maxL + 11) + r2.locals ≤ rm.locals)
    (hn : As.length = n0) (hstack : st0 = As.reverse ++ .ref b :: st) (hr8 : (st.map fun v => v.category).sum ≤ 8) (hcs : cs.1 + r2.cells ≤ rm.cells ∧ cs.2 + r2.slots ≤ rm.slots) (d : decode cc pc = .ok (.invokespecial idx, 3)) (hC : CtO (xL x) w y bytes maxL r2 (.ref b :: As) op n op1 n1)
    (kk : JO x w Q (pc + 3) lv st (cs.1 + r2.cells, cs.2 + r2.slots) op1 n1) : JO x w Q pc lv st0 cs op n := by
  intro H locs ls hS hW hl
  subst hstack
  exact JO_after hS hl (va_runI (JO_fix o) hC ⟨J_cB o.1 hm hl0 hR, hs.1, o.1.2.2.2.2.1 _ hs.2⟩ (JO_pre o hS hW) rfl hn (hl.1.trans o.1.2.2.1) rfl (lv_room hr8) d (by rw [o.1.2.2.2.2.2.2.2.1]; exact hcs)) kk
theorem JO_callN (o : OkG x w cc nL own ret rm) {y : MethodName} {bytes : ByteArray} {maxL n0 idx : Nat} {r2 : Room} {host : String} {st0 : List Value} {b n1 : Nat} {op1 : Ops} (As : List Value) (hm : Mth y bytes maxL none n0) (hs : y.name = "<init>" ∧ Cond.instanceMethod y ∈ TBL) (hl0 : (own, idx, y, host) ∈ nestM) (hR : r2.frames + 1 ≤ rm.frames ∧ 8 + (maxL + 11) + r2.locals ≤ rm.locals)
    (hn : As.length = n0) (hstack : st0 = As.reverse ++ .ref b :: st) (hr8 : (st.map fun v => v.category).sum ≤ 8) (hcs : cs.1 + r2.cells ≤ rm.cells ∧ cs.2 + r2.slots ≤ rm.slots) (d : decode cc pc = .ok (.invokespecial idx, 3)) (hC : CtO (xL x) w y bytes maxL r2 (.ref b :: As) op n op1 n1)
    (kk : JO x w Q (pc + 3) lv st (cs.1 + r2.cells, cs.2 + r2.slots) op1 n1) : JO x w Q pc lv st0 cs op n := by
  intro H locs ls hS hW hl
  subst hstack
  exact JO_after hS hl (va_runIN (JO_fix o) hC ⟨J_cN o.1 hm hl0 hR, hs.1, o.1.2.2.2.2.1 _ hs.2⟩ (JO_pre o hS hW) rfl hn (hl.1.trans o.1.2.2.1) rfl (lv_room hr8) d (by rw [o.1.2.2.2.2.2.2.2.1]; exact hcs)) kk
theorem JO_ret (o : OkG x w cc nL own none rm) (d : decode cc pc = .ok (.return_, 1)) : JO x w (FinO x w op n cs) pc lv [] cs op n :=
  fun H locs ls hS hW hl => W.vret (hlocks := o.1.2.2.2.2.2.1) o.1.1 o.1.2.1 o.1.2.2.2.2.2.2.1 (fun t ht _ => ⟨rfl, by rw [ht]; exact hW, hS.F ht⟩) hS.2.2 d
/-- all is made: on with the ints -/
theorem JO_J {b1 : Nat} (hz : (xS x).heap.size = wB w + b1) (hb : wLo w ≤ b1 ∧ b1 ≤ wHi w) (hn : wHi w ≤ n) (kk : J x w Q pc lv st cs s0) : JO x w Q pc lv st cs [] n := by
  intro H locs ls hS hW hl
  have hA : ∀ q, Fr w q → Ar w (xS x).heap.size q := fun q h => by
    by_cases h2 : q < wB w + wHi w
    · exact Or.inl ⟨h, h2⟩
    · exact Or.inr (by rw [hz]; omega)
  have hB : ∀ q, Ar w (xS x).heap.size q → Fr w q := fun q h => by
    unfold Fr
    rcases h with h | h
    · exact h.1
    · rw [hz] at h
      omega
  exact kk H locs ls ⟨hS.1, fun q h1 h2 => hS.2.1 q h1 (fun z => h2 (hA q z)), fun q hq => hA _ (hS.2.2 q hq)⟩ (hW.wd hn) hl
theorem fr_ar {b1 : Nat} (hz : (xS x).heap.size = wB w + b1) (hb : wLo w ≤ b1 ∧ b1 ≤ wHi w) : Fr w = Ar w (xS x).heap.size := by
  funext q
  refine propext ⟨fun h => ?_, fun h => ?_⟩
  · by_cases h2 : q < wB w + wHi w
    · exact Or.inl ⟨h, h2⟩
    · exact Or.inr (by rw [hz]; omega)
  · unfold Fr
    rcases h with h | h
    · exact h.1
    · rw [hz] at h
      omega
end
