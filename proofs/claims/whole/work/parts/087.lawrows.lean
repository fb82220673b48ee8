/-! the law's frames: rows over any heap predicate -/
def OkP (x : Cx) (cc : ByteArray) (nL : Nat) (own : String) (ret : Option FieldType) (rm : Room) : Prop :=
  (xP x).tables.exec = Jvm.exec ∧ (xC x).code = cc ∧ (xC x).maxLocals = nL ∧ (xS x).vm.findClass own = some (xM x).cls ∧ (∀ q ∈ TBL, q.before (xA x) (xS x) = true) ∧
  (xY x).locks = false ∧ (xY x).sig.returnType = ret ∧ xR x = rm
def JP (x : Cx) (fr : Nat → Prop) (I : Heap → Prop) (Q : State → Prop) (pc : Nat) (lv : List (Nat × Value)) (st : List Value) (cs : Nat × Nat) : Prop :=
  ∀ (H : Heap) (locs : List Loc) (ls : Array Slot), va_S fr (xS x).heap H locs → I H → lv_has ls (xC x).maxLocals lv →
    W (xP x) (xL x) (xE x) (xR x) (xS x) (xM x) (xA x) (xW x) (xY x) (xC x) H locs cs.1 cs.2 Q (F0 (xM x) pc ls st)
section
variable {x : Cx} {fr : Nat → Prop} {I : Heap → Prop} {Q : State → Prop} {cc : ByteArray} {nL : Nat} {own : String} {ret : Option FieldType} {rm : Room} {pc : Nat} {lv : List (Nat × Value)} {st : List Value} {cs : Nat × Nat}
theorem JP_iconst (o : OkP x cc nL own ret rm) {n : Int} {v : Int32} (d : decode cc pc = .ok (.iconst n, 1)) (hv : Int32.ofInt n = v) (kk : JP x fr I Q (pc + 1) lv (.int v :: st) cs) : JP x fr I Q pc lv (st) cs :=
  fun H locs ls hS hW hl => lv_iconst o.1 o.2.1 d hv (kk H locs ls hS hW hl)
theorem JP_bipush (o : OkP x cc nL own ret rm) {n : Int} {v : Int32} (d : decode cc pc = .ok (.bipush n, 2)) (hv : (Int8.ofInt n).toInt32 = v) (kk : JP x fr I Q (pc + 2) lv (.int v :: st) cs) : JP x fr I Q pc lv (st) cs :=
  fun H locs ls hS hW hl => lv_bipush o.1 o.2.1 d hv (kk H locs ls hS hW hl)
theorem JP_iload (o : OkP x cc nL own ret rm) (k : Nat) {i : Nat} {v : Int32} (d : decode cc pc = .ok (.iload i, 2)) (hl0 : lv[k]? = some (i, .int v)) (kk : JP x fr I Q (pc + 2) lv (.int v :: st) cs) : JP x fr I Q pc lv (st) cs :=
  fun H locs ls hS hW hl => lv_iload o.1 o.2.1 d (lv_at hl k hl0) (kk H locs ls hS hW hl)
theorem JP_iload_n (o : OkP x cc nL own ret rm) (k : Nat) {i : Fin 4} {v : Int32} (d : decode cc pc = .ok (.iload_n i, 1)) (hl0 : lv[k]? = some ((i : Nat), .int v)) (kk : JP x fr I Q (pc + 1) lv (.int v :: st) cs) : JP x fr I Q pc lv (st) cs :=
  fun H locs ls hS hW hl => lv_iload_n o.1 o.2.1 d rfl (lv_at hl k hl0) (kk H locs ls hS hW hl)
theorem JP_aload (o : OkP x cc nL own ret rm) (k : Nat) {i : Nat} {v : Nat} (d : decode cc pc = .ok (.aload i, 2)) (hl0 : lv[k]? = some (i, .ref v)) (kk : JP x fr I Q (pc + 2) lv (.ref v :: st) cs) : JP x fr I Q pc lv (st) cs :=
  fun H locs ls hS hW hl => lv_aload o.1 o.2.1 d (lv_at hl k hl0) (kk H locs ls hS hW hl)
theorem JP_aload_n (o : OkP x cc nL own ret rm) (k : Nat) {i : Fin 4} {v : Nat} (d : decode cc pc = .ok (.aload_n i, 1)) (hl0 : lv[k]? = some ((i : Nat), .ref v)) (kk : JP x fr I Q (pc + 1) lv (.ref v :: st) cs) : JP x fr I Q pc lv (st) cs :=
  fun H locs ls hS hW hl => lv_aload_n o.1 o.2.1 d rfl (lv_at hl k hl0) (kk H locs ls hS hW hl)
theorem JP_lload (o : OkP x cc nL own ret rm) (k : Nat) {i : Nat} {v : Int64} (d : decode cc pc = .ok (.lload i, 2)) (hl0 : lv[k]? = some (i, .long v)) (kk : JP x fr I Q (pc + 2) lv (.long v :: st) cs) : JP x fr I Q pc lv (st) cs :=
  fun H locs ls hS hW hl => lv_lload o.1 o.2.1 d (lv_at hl k hl0) (kk H locs ls hS hW hl)
theorem JP_istore (o : OkP x cc nL own ret rm) {i : Nat} {v : Int32} {lv' : List (Nat × Value)} (d : decode cc pc = .ok (.istore i, 2)) (hn : i < nL) (hl0 : ((i : Nat), Value.int v) :: lv.filter (fun q => !(q.1 == (i : Nat)) && !(q.1 + 1 == (i : Nat) && q.2.category == 2)) = lv') (kk : JP x fr I Q (pc + 2) lv' st cs) : JP x fr I Q pc lv (Value.int v :: st) cs :=
  fun H locs ls hS hW hl => lv_istore o.1 o.2.1 d hl (by rw [o.2.2.1]; exact hn) hl0 (fun ls' h => kk H locs ls' hS hW h)
theorem JP_istore_n (o : OkP x cc nL own ret rm) {i : Fin 4} {v : Int32} {lv' : List (Nat × Value)} (d : decode cc pc = .ok (.istore_n i, 1)) (hn : (i : Nat) < nL) (hl0 : ((i : Nat), Value.int v) :: lv.filter (fun q => !(q.1 == (i : Nat)) && !(q.1 + 1 == (i : Nat) && q.2.category == 2)) = lv') (kk : JP x fr I Q (pc + 1) lv' st cs) : JP x fr I Q pc lv (Value.int v :: st) cs :=
  fun H locs ls hS hW hl => lv_istore_n o.1 o.2.1 d rfl hl (by rw [o.2.2.1]; exact hn) hl0 (fun ls' h => kk H locs ls' hS hW h)
theorem JP_astore (o : OkP x cc nL own ret rm) {i : Nat} {v : Nat} {lv' : List (Nat × Value)} (d : decode cc pc = .ok (.astore i, 2)) (hn : i < nL) (hl0 : ((i : Nat), Value.ref v) :: lv.filter (fun q => !(q.1 == (i : Nat)) && !(q.1 + 1 == (i : Nat) && q.2.category == 2)) = lv') (kk : JP x fr I Q (pc + 2) lv' st cs) : JP x fr I Q pc lv (Value.ref v :: st) cs :=
  fun H locs ls hS hW hl => lv_astore o.1 o.2.1 d hl (by rw [o.2.2.1]; exact hn) hl0 (fun ls' h => kk H locs ls' hS hW h)
theorem JP_astore_n (o : OkP x cc nL own ret rm) {i : Fin 4} {v : Nat} {lv' : List (Nat × Value)} (d : decode cc pc = .ok (.astore_n i, 1)) (hn : (i : Nat) < nL) (hl0 : ((i : Nat), Value.ref v) :: lv.filter (fun q => !(q.1 == (i : Nat)) && !(q.1 + 1 == (i : Nat) && q.2.category == 2)) = lv') (kk : JP x fr I Q (pc + 1) lv' st cs) : JP x fr I Q pc lv (Value.ref v :: st) cs :=
  fun H locs ls hS hW hl => lv_astore_n o.1 o.2.1 d rfl hl (by rw [o.2.2.1]; exact hn) hl0 (fun ls' h => kk H locs ls' hS hW h)
theorem JP_iinc (o : OkP x cc nL own ret rm) {i : Nat} {n : Int} {v v2 : Int32} {lv' : List (Nat × Value)} (k : Nat) (d : decode cc pc = .ok (.iinc i n, 3)) (hn : i < nL) (hk : lv[k]? = some (i, .int v)) (hv : Int32.ofInt n = v2) (hl0 : (i, Value.int (v + v2)) :: lv.filter (fun q => !(q.1 == i) && !(q.1 + 1 == i && q.2.category == 2)) = lv') (kk : JP x fr I Q (pc + 3) lv' st cs) : JP x fr I Q pc lv st cs :=
  fun H locs ls hS hW hl => lv_iinc o.1 o.2.1 d hl hk (by rw [hv]) (by rw [o.2.2.1]; exact hn) hl0 (fun ls' h => kk H locs ls' hS hW h)
theorem JP_iadd (o : OkP x cc nL own ret rm) {a b : Int32} (d : decode cc pc = .ok (.iadd, 1)) (kk : JP x fr I Q (pc + 1) lv (.int (a + b) :: st) cs) : JP x fr I Q pc lv (.int b :: .int a :: st) cs :=
  fun H locs ls hS hW hl => lv_iadd o.1 o.2.1 d (kk H locs ls hS hW hl)
theorem JP_isub (o : OkP x cc nL own ret rm) {a b : Int32} (d : decode cc pc = .ok (.isub, 1)) (kk : JP x fr I Q (pc + 1) lv (.int (a - b) :: st) cs) : JP x fr I Q pc lv (.int b :: .int a :: st) cs :=
  fun H locs ls hS hW hl => lv_isub o.1 o.2.1 d (kk H locs ls hS hW hl)
theorem JP_iand (o : OkP x cc nL own ret rm) {a b : Int32} (d : decode cc pc = .ok (.iand, 1)) (kk : JP x fr I Q (pc + 1) lv (.int (a &&& b) :: st) cs) : JP x fr I Q pc lv (.int b :: .int a :: st) cs :=
  fun H locs ls hS hW hl => lv_iand o.1 o.2.1 d (kk H locs ls hS hW hl)
theorem JP_dup (o : OkP x cc nL own ret rm) {v : Value} (d : decode cc pc = .ok (.dup, 1)) (hc : v.category = 1) (kk : JP x fr I Q (pc + 1) lv (v :: v :: st) cs) : JP x fr I Q pc lv (v :: st) cs :=
  fun H locs ls hS hW hl => lv_dup o.1 o.2.1 d hc (kk H locs ls hS hW hl)
theorem JP_i2l (o : OkP x cc nL own ret rm) {a : Int32} (d : decode cc pc = .ok (.i2l, 1)) (kk : JP x fr I Q (pc + 1) lv (.long a.toInt64 :: st) cs) : JP x fr I Q pc lv (.int a :: st) cs :=
  fun H locs ls hS hW hl => lv_i2l o.1 o.2.1 d rfl (kk H locs ls hS hW hl)
theorem JP_lcmp (o : OkP x cc nL own ret rm) {a b : Int64} (d : decode cc pc = .ok (.lcmp, 1)) (kk : JP x fr I Q (pc + 1) lv (.int (lg_cmp a b) :: st) cs) : JP x fr I Q pc lv (.long b :: .long a :: st) cs :=
  fun H locs ls hS hW hl => W.lcmp o.1 o.2.1 d (kk H locs ls hS hW hl)
theorem JP_if_eq (o : OkP x cc nL own ret rm) {a : Int32} {off : Int} (tgt : Nat) (d : decode cc pc = .ok (.ifCond .eq off, 3)) (ht : (pc : Int) + off = (tgt : Int)) (kt : a = 0 → JP x fr I Q tgt lv st cs) (kf : ¬ (a = 0) → JP x fr I Q (pc + 3) lv st cs) : JP x fr I Q pc lv (.int a :: st) cs :=
  fun H locs ls hS hW hl => lv_if_eq o.1 o.2.1 d ht (fun c => kt c H locs ls hS hW hl) (fun c => kf c H locs ls hS hW hl)
theorem JP_if_ne (o : OkP x cc nL own ret rm) {a : Int32} {off : Int} (tgt : Nat) (d : decode cc pc = .ok (.ifCond .ne off, 3)) (ht : (pc : Int) + off = (tgt : Int)) (kt : ¬ a = 0 → JP x fr I Q tgt lv st cs) (kf : a = 0 → JP x fr I Q (pc + 3) lv st cs) : JP x fr I Q pc lv (.int a :: st) cs :=
  fun H locs ls hS hW hl => lv_if_ne o.1 o.2.1 d ht (fun c => kt c H locs ls hS hW hl) (fun c => kf c H locs ls hS hW hl)
theorem JP_icmp_eq (o : OkP x cc nL own ret rm) {a b : Int32} {off : Int} (tgt : Nat) (d : decode cc pc = .ok (.if_icmp .eq off, 3)) (ht : (pc : Int) + off = (tgt : Int)) (kt : a = b → JP x fr I Q tgt lv st cs) (kf : ¬ (a = b) → JP x fr I Q (pc + 3) lv st cs) : JP x fr I Q pc lv (.int b :: .int a :: st) cs :=
  fun H locs ls hS hW hl => lv_icmp_eq o.1 o.2.1 d ht (fun c => kt c H locs ls hS hW hl) (fun c => kf c H locs ls hS hW hl)
theorem JP_icmp_ne (o : OkP x cc nL own ret rm) {a b : Int32} {off : Int} (tgt : Nat) (d : decode cc pc = .ok (.if_icmp .ne off, 3)) (ht : (pc : Int) + off = (tgt : Int)) (kt : ¬ a = b → JP x fr I Q tgt lv st cs) (kf : a = b → JP x fr I Q (pc + 3) lv st cs) : JP x fr I Q pc lv (.int b :: .int a :: st) cs :=
  fun H locs ls hS hW hl => lv_icmp_ne o.1 o.2.1 d ht (fun c => kt c H locs ls hS hW hl) (fun c => kf c H locs ls hS hW hl)
theorem JP_icmp_gt (o : OkP x cc nL own ret rm) {a b : Int32} {off : Int} (tgt : Nat) (d : decode cc pc = .ok (.if_icmp .gt off, 3)) (ht : (pc : Int) + off = (tgt : Int)) (kt : b < a → JP x fr I Q tgt lv st cs) (kf : ¬ (b < a) → JP x fr I Q (pc + 3) lv st cs) : JP x fr I Q pc lv (.int b :: .int a :: st) cs :=
  fun H locs ls hS hW hl => lv_icmp_gt o.1 o.2.1 d ht (fun c => kt c H locs ls hS hW hl) (fun c => kf c H locs ls hS hW hl)
theorem JP_goto (o : OkP x cc nL own ret rm) {off : Int} (tgt : Nat) (d : decode cc pc = .ok (.goto off, 3)) (ht : (pc : Int) + off = (tgt : Int)) (kk : JP x fr I Q tgt lv st cs) : JP x fr I Q pc lv st cs :=
  fun H locs ls hS hW hl => lv_goto o.1 o.2.1 d ht (kk H locs ls hS hW hl)
theorem JP_tableIn (o : OkP x cc nL own ret rm) {dflt lo hi : Int} {offs : Array Int} {len : Nat} {a : Int32} {off : Int} (tgt : Nat) (d : decode cc pc = .ok (.tableswitch dflt lo hi offs, len)) (h1 : ¬ a.toInt < lo) (h2 : ¬ hi < a.toInt) (ho : offs[(a.toInt - lo).toNat]? = some off) (ht : (pc : Int) + off = (tgt : Int)) (kk : JP x fr I Q tgt lv st cs) : JP x fr I Q pc lv (.int a :: st) cs :=
  fun H locs ls hS hW hl => lv_tableIn o.1 o.2.1 d h1 h2 ho ht (kk H locs ls hS hW hl)
theorem JP_tableOut (o : OkP x cc nL own ret rm) {dflt lo hi : Int} {offs : Array Int} {len : Nat} {a : Int32} (tgt : Nat) (d : decode cc pc = .ok (.tableswitch dflt lo hi offs, len)) (h : a.toInt < lo ∨ hi < a.toInt) (ht : (pc : Int) + dflt = (tgt : Int)) (kk : JP x fr I Q tgt lv st cs) : JP x fr I Q pc lv (.int a :: st) cs :=
  fun H locs ls hS hW hl => lv_tableOut o.1 o.2.1 d h ht (kk H locs ls hS hW hl)
theorem JP_sub {lv' : List (Nat × Value)} (ks : List Nat) (hl0 : lv_pick lv ks = lv') (kk : JP x fr I Q pc lv' st cs) : JP x fr I Q pc lv st cs :=
  fun H locs ls hS hW hl => kk H locs ls hS hW (lv_sub hl ks hl0)

theorem JP_wide {c2 : Nat × Nat} (h : cs.1 ≤ c2.1 ∧ cs.2 ≤ c2.2) (kk : JP x fr I Q pc lv st c2) : JP x fr I Q pc lv st cs :=
  fun H locs ls hS hW hl => W.widen h.1 h.2 (kk H locs ls hS hW hl)
theorem JP_to {I' : Heap → Prop} (h : ∀ H, I H → I' H) (kk : JP x fr I' Q pc lv st cs) : JP x fr I Q pc lv st cs :=
  fun H locs ls hS hW hl => kk H locs ls hS (h H hW) hl
theorem JP_ald (o : OkP x cc nL own ret rm) {t N : Nat} {f : Nat → Int32} {i : Int32} (hT : va_T .int t N (fun j => .int (f j)) fr (xS x) (xS x).heap) (hin : vp_in i N) (d : decode cc pc = .ok (.iaload, 1)) (kk : JP x fr I Q (pc + 1) lv (.int (f i.toNatClampNeg) :: st) cs) : JP x fr I Q pc lv (.int i :: .ref t :: st) cs :=
  fun H locs ls hS hW hl => va_ti o.1 o.2.1 hT hS hin rfl d (kk H locs ls hS hW hl)
theorem JP_alen (o : OkP x cc nL own ret rm) {t N : Nat} {f : Nat → Int32} (hT : va_T .int t N (fun j => .int (f j)) fr (xS x) (xS x).heap) (d : decode cc pc = .ok (.arraylength, 1)) (kk : JP x fr I Q (pc + 1) lv (.int (Int32.ofNat N) :: st) cs) : JP x fr I Q pc lv (.ref t :: st) cs := by
  intro H locs ls hS hW hl
  obtain ⟨cell, h1, h2, h3, h4, h5, h6, h7⟩ := hT
  exact W.alen o.1 o.2.1 ((hS.2.1 t (Array.getElem?_eq_some_iff.mp h1).1 h7).trans h1) h2 h5 rfl rfl d (kk H locs ls hS hW hl)
end
/-- the two makings: bases of class and model, the long cell, its class -/
abbrev Lb : Type := Wy × Nat × Nat × ClassId
abbrev dC (d : Lb) : Wy := d.1
abbrev dM (d : Lb) : Wy := (d.2.1, d.1.2)
abbrev dO (d : Lb) : Nat := d.2.2.1
abbrev dJ (d : Lb) : ClassId := d.2.2.2
def Ld (d : Lb) : Prop := d.1.1 ≤ d.2.1 ∧ d.2.1 + 549 ≤ dO d
def LW (d : Lb) (σc σm : Sg) (v : Int64) (H : Heap) : Prop := Wd (wC (dC d)) σc H ∧ Wd (wM (dM d)) σm H ∧ H[dO d]? = some (arrV (dJ d) 1 (fun _ => .long v))
theorem Cl.lt {w : Wx} {σ : Sg} {H : Heap} {k : Nat} (h : Cl w σ H k) : wB w + k < H.size := by
  unfold Cl at h
  split at h
  · obtain ⟨cell, e1, -⟩ := h
    exact (Array.getElem?_eq_some_iff.mp e1).1
  · split at h <;> exact (Array.getElem?_eq_some_iff.mp h).1
theorem LW.c {d : Lb} {σc σm σ' : Sg} {v : Int64} {H H1 : Heap} (hd : Ld d) (h : LW d σc σm v H) (hw : Wd (wC (dC d)) σ' H1) (hq : ∀ q : Nat, q < H.size → ¬ Ar (wC (dC d)) H.size q → H1[q]? = H[q]?) : LW d σ' σm v H1 := by
  obtain ⟨h1, h2, h3⟩ := h
  refine ⟨hw, fun k k1 k2 => ?_, ?_⟩
  · have hc := h2 k k1 k2
    have e1 : 347 ≤ k := k1
    have e2 : d.1.1 ≤ d.2.1 := hd.1
    have hlt : d.2.1 + k < H.size := hc.lt
    refine hc.kept (hq _ hlt (fun z => ?_)) (fun _ => rfl)
    rcases z with z | z
    · have : d.2.1 + k < d.1.1 + 347 := z.2
      omega
    · exact absurd z (Nat.not_le.mpr hlt)
  · have hlt : dO d < H.size := (Array.getElem?_eq_some_iff.mp h3).1
    rw [hq _ hlt (fun z => ?_), h3]
    rcases z with z | z
    · have : dO d < d.1.1 + 347 := z.2
      have := hd.1
      have := hd.2
      omega
    · exact absurd z (Nat.not_le.mpr hlt)
theorem LW.m {d : Lb} {σc σm σ' : Sg} {v : Int64} {H H1 : Heap} (hd : Ld d) (h : LW d σc σm v H) (hw : Wd (wM (dM d)) σ' H1) (hq : ∀ q : Nat, q < H.size → ¬ Ar (wM (dM d)) H.size q → H1[q]? = H[q]?) : LW d σc σ' v H1 := by
  obtain ⟨h1, h2, h3⟩ := h
  refine ⟨fun k k1 k2 => ?_, hw, ?_⟩
  · have hc := h1 k k1 k2
    have e1 : k < 347 := k2
    have e2 : d.1.1 ≤ d.2.1 := hd.1
    have hlt : d.1.1 + k < H.size := hc.lt
    refine hc.kept (hq _ hlt (fun z => ?_)) (fun _ => rfl)
    rcases z with z | z
    · have : d.2.1 + 347 ≤ d.1.1 + k := z.1
      omega
    · exact absurd z (Nat.not_le.mpr hlt)
  · have hlt : dO d < H.size := (Array.getElem?_eq_some_iff.mp h3).1
    rw [hq _ hlt (fun z => ?_), h3]
    rcases z with z | z
    · have : dO d < d.2.1 + 549 := z.2
      have := hd.2
      omega
    · exact absurd z (Nat.not_le.mpr hlt)
theorem LW.o {d : Lb} {σc σm : Sg} {v v' : Int64} {H H1 : Heap} (hd : Ld d) (h : LW d σc σm v H) (h3 : H1[dO d]? = some (arrV (dJ d) 1 (fun _ => .long v'))) (hq : ∀ q : Nat, q ≠ dO d → H1[q]? = H[q]?) : LW d σc σm v' H1 := by
  obtain ⟨h1, h2, -⟩ := h
  have e1 := hd.1
  have e2 := hd.2
  refine ⟨fun k k1 k2 => ?_, fun k k1 k2 => ?_, h3⟩
  · refine (h1 k k1 k2).kept (hq _ (fun z => ?_)) (fun _ => rfl)
    have z : d.1.1 + k = dO d := z
    have : k < 347 := k2
    omega
  · refine (h2 k k1 k2).kept (hq _ (fun z => ?_)) (fun _ => rfl)
    have z : d.2.1 + k = dO d := z
    have : k < 549 := k2
    omega
theorem LW.size {d : Lb} {σc σm : Sg} {v : Int64} {H : Heap} (h : LW d σc σm v H) : d.2.1 + 549 ≤ H.size := by
  have h2 : d.2.1 + 548 < H.size := (h.2.1 548 (Nat.le_of_ble_eq_true rfl) (Nat.le_of_ble_eq_true rfl)).lt
  omega
theorem Ev.base {B B2 : Nat} {lo hi lo2 hi2 : Nat} {g : va_G × (Nat → ClassId) × (Nat → Nat) × (Nat → Nat)} {U : State} {H : Heap} (h : Ev ((lo, hi, B), g) U H) (h1 : B ≤ B2) (h2 : B2 ≤ H.size) : Ev ((lo2, hi2, B2), g) U H := by
  obtain ⟨-, g2, g3, g4, g5, ⟨t, g6, g7⟩, ⟨t2, g8, g9⟩, g10, g11, g12, g13, g14, g15, g16, g17, g18⟩ := h
  have hn : ∀ q, Lo ((lo2, hi2, B2), g) q → Lo ((lo, hi, B), g) q := fun q hq => Nat.le_trans h1 hq
  exact ⟨h2, g2, g3, g4, g5, ⟨t, g6.narrow hn, g7.narrow hn⟩, ⟨t2, g8.narrow hn, g9.narrow hn⟩, g10.narrow hn, g11, g12.narrow hn, g13.narrow hn, g14.narrow hn, g15.narrow hn, g16, g17, g18⟩
def EvL (d : Lb) (U : State) (H : Heap) : Prop := Ev (wC (dC d)) U H ∧ ArrOfT U (dJ d) .long
theorem EvL.warm {d : Lb} {s U : State} {H : Heap} (hW : s.WarmedH U.vm) (h : EvL d s H) : EvL d U H := ⟨h.1.warm hW, arrOfT_moved hW.alike h.2⟩
theorem EvL.kept {d : Lb} {U : State} {H H1 : Heap} (h : EvL d U H) (hz : H.size ≤ H1.size) (hq : ∀ a : Nat, a < H.size → ¬ Lo (wC (dC d)) a → H1[a]? = H[a]?) : EvL d U H1 := ⟨h.1.kept hz hq, h.2⟩
abbrev frL (d : Lb) : Nat → Prop := Lo (wC (dC d))
def OkL (x : Cx) (d : Lb) (cc : ByteArray) (nL : Nat) (own : String) (ret : Option FieldType) (rm : Room) : Prop := OkP x cc nL own ret rm ∧ EvL d (xS x) (xS x).heap ∧ Ld d
def PreL (d : Lb) (As : List Value) (σc σm : Sg) (v : Int64) : Array Value → State → Prop := fun a U => a = As.toArray ∧ EvL d U U.heap ∧ LW d σc σm v U.heap
def PostL (d : Lb) (P : Int32 → Sg → Int64 → Prop) (σm : Sg) : Array Value → State → Outcome → State → Prop := fun _ st o t => (∃ k σ' v', o = .returned (some (.int k)) ∧ P k σ' v' ∧ LW d σ' σm v' t.heap) ∧ va_F (frL d) st t
theorem PreL.blind {d : Lb} {As : List Value} {σc σm : Sg} {v : Int64} : FrameBlind (PreL d As σc σm v) := by
  intro a U g mk h
  exact ⟨h.1, EvL.warm (s := U) (State.WarmedH.refl U) h.2.1, h.2.2⟩
def CtL (l : Launch) (d : Lb) (y : MethodName) (cc : ByteArray) (nL : Nat) (hh : List (Nat × Nat × Nat × Nat)) (rm : Room) (As : List Value) (σc σm : Sg) (v : Int64) (P : Int32 → Sg → Int64 → Prop) : Prop :=
  vx_Met l y (.codeWith y cc nL (some .int) hh :: TBL) rm (PreL d As σc σm v) (PostL d P σm) (fun _ _ _ => False) rm.cells rm.slots (frL d)
def FinL (x : Cx) (d : Lb) (P : Int32 → Sg → Int64 → Prop) (σm : Sg) (cs : Nat × Nat) : State → Prop := vx_MQ (xW x) (PostL d P σm) (fun _ _ _ => False) (xA x) (xS x) cs.1 cs.2 (frL d)
theorem CtL.of {l : Launch} {d : Lb} (hd : Ld d) {y : MethodName} {cc : ByteArray} {nL : Nat} {hh : List (Nat × Nat × Nat × Nat)} {own : String} {rm : Room} {As : List Value} {σc σm : Sg} {v : Int64} {P : Int32 → Sg → Int64 → Prop} (hy : plainName y.cls = true) (ho : y.cls = own) (hlen : (lg_sl As).length ≤ nL)
    (body : ∀ x : Cx, xL x = l → (xC x).exceptionTable.toList = tableOf hh → OkL x d cc nL own (some .int) rm → JP x (frL d) (LW d σc σm v) (FinL x d P σm (rm.cells, rm.slots)) 0 (lv_args 0 As) [] (0, 0)) : CtL l d y cc nL hh rm As σc σm v P := by
  refine vx_ofWH (cc := cc) (maxL := nL) (ret := some .int) hy rfl ?_
  intro p e s m args below meth c s₁ B hml hv
  obtain ⟨rfl, hE, hW⟩ := hv
  have hts := atoms_spec (ws := .codeWith y cc nL (some .int) hh :: TBL) B.pre
  have hown : s.vm.findClass y.cls = some m.cls := findClass_of_methodNamed B.named
  have ht : c.exceptionTable.toList = tableOf hh := vx_table (x := y) B (hts _ List.mem_cons_self)
  have K := body (p, l, e, rm, s, m, As.toArray, below, meth, c) rfl ht ⟨⟨B.exec, B.bytes, hml, by rw [← ho]; exact hown, fun q hq => hts q (List.mem_cons_of_mem _ hq), B.notSynchronized, B.returns, rfl⟩, hE, hd⟩
  rw [lg_entry_eq]
  exact K s.heap [] _ va_S.rf hW (by rw [show (xC (p, l, e, rm, s, m, As.toArray, below, meth, c)).maxLocals = nL from hml]; exact lv_entry As hlen)
section
variable {x : Cx} {d : Lb} {Q : State → Prop} {cc : ByteArray} {nL : Nat} {own : String} {ret : Option FieldType} {rm : Room} {pc : Nat} {lv : List (Nat × Value)} {st : List Value} {cs : Nat × Nat} {σc σm : Sg} {v : Int64}
theorem OkL.ev (o : OkL x d cc nL own ret rm) {H : Heap} {locs : List Loc} {U : State} (hS : va_S (frL d) (xS x).heap H locs) (hW : (xS x).WarmedH U.vm) : EvL d U H :=
  (o.2.1.kept hS.1 (fun a h1 h2 => hS.2.1 a h1 h2)).warm hW
theorem OkL.evM (o : OkL x d cc nL own ret rm) {H : Heap} {locs : List Loc} {U : State} (hS : va_S (frL d) (xS x).heap H locs) (hW : (xS x).WarmedH U.vm) (hL : LW d σc σm v H) : Ev (wM (dM d)) U H :=
  Ev.base (o.ev hS hW).1 o.2.2.1 (Nat.le_trans (Nat.le_add_right _ 549) hL.size)
theorem JL_fix (o : OkL x d cc nL own ret rm) : CallFix (xP x) (xM x) (xC x) cc nL (xS x) (xA x) TBL own := ⟨o.1.1, o.1.2.1, o.1.2.2.1, o.1.2.2.2.1, o.1.2.2.2.2.1⟩
theorem JL_cB (o : OkL x d cc nL own ret rm) {y : MethodName} {bytes : ByteArray} {maxL n idx : Nat} {rt : Option FieldType} {r2 : Room} (hm : Mth y bytes maxL rt n) (hl : Cond.methodLink own idx y ∈ TBL) (hR : r2.frames + 1 ≤ rm.frames ∧ 8 + (maxL + 11) + r2.locals ≤ rm.locals) :
    CallB (xR x) (xS x) (xA x) own idx y bytes maxL rt (.code y bytes maxL rt :: TBL) r2 r2.cells r2.slots n :=
  ⟨rfl, rfl, by rw [o.1.2.2.2.2.2.2.2]; exact hR.1, by rw [o.1.2.2.2.2.2.2.2]; exact hR.2, pay_in o.1.2.2.2.2.1 (tb_goodL y bytes maxL rt hm.1), List.mem_cons_self, o.1.2.2.2.2.1 _ hm.1, o.1.2.2.2.2.1 _ hm.2.1, hm.2.2.1, hm.len, o.1.2.2.2.2.1 _ hl⟩
theorem Lk (o : OkL x d cc nL own ret rm) {c : Nat} (hc : c < 6) : ∃ kC : Class, (xS x).vm.findClass (tR c) = some ((wD (wC (dC d))).1 c) ∧ True := by
  obtain ⟨-, hfc, -⟩ := o.2.1.1.2.1.1 c _ (t_cl hc)
  obtain ⟨kC, hk, -⟩ := Vm.findClass_spec hfc
  exact ⟨kC, hfc, trivial⟩
theorem JL_recv (o : OkL x d cc nL own ret rm) {H : Heap} {w : Wx} {σ : Sg} {k c : Nat} (hD : wD w = wD (wC (dC d))) (hW : Wd w σ H) (hk : kd k = c) (hc : c < 6) (h1 : wLo w ≤ k) (h2 : k < wHi w) : ∃ cellB : Cell, H[wB w + k]? = some cellB ∧ cellB.vm.isStatics = false ∧ (xS x).vm.findClass (tR c) = some cellB.cls := by
  obtain ⟨cell, q1, q2, q3, -⟩ := (hW k h1 h2).obj hk hc
  obtain ⟨-, hfc, -⟩ := o.2.1.1.2.1.1 c _ (t_cl hc)
  exact ⟨cell, q1, by rw [q3]; rfl, by rw [q2, hD]; exact hfc⟩
/-- a call of the class that only returns -/
theorem JL_callC (o : OkL x d cc nL own ret rm) {y : MethodName} {bytes : ByteArray} {maxL n idx : Nat} {rt : Option FieldType} {r2 : Room} {P : Outcome → Sg → Prop} {st0 : List Value} (As : List Value) (hm : Mth y bytes maxL rt n) (hs : Cond.instanceMethod y ∈ TBL ∧ Cond.selects (tR 4) y y ∈ TBL) (hl0 : Cond.methodLink own idx y ∈ TBL) (hR : r2.frames + 1 ≤ rm.frames ∧ 8 + (maxL + 11) + r2.locals ≤ rm.locals)
    (hn : As.length = n) (hstack : st0 = As.reverse ++ .ref (wB (wC (dC d)) + 0) :: st) (hr8 : (st.map fun v => v.category).sum ≤ 8) (hcs : cs.1 + r2.cells ≤ rm.cells ∧ cs.2 + r2.slots ≤ rm.slots) (hd : decode cc pc = .ok (.invokevirtual idx, 3)) (hC : Ct (xL x) (wC (dC d)) y bytes maxL rt r2 (.ref (wB (wC (dC d)) + 0) :: As) σc P)
    (kk : ∀ u σ', P (.returned u) σ' → JP x (frL d) (LW d σ' σm v) Q (pc + 3) lv (u.toList ++ st) (cs.1 + r2.cells, cs.2 + r2.slots)) : JP x (frL d) (LW d σc σm v) Q pc lv st0 cs := by
  intro H locs ls hS hW hl
  subst hstack
  have hp : PreS (xS x) H (PreC (wC (dC d)) (.ref (wB (wC (dC d)) + 0) :: As) σc H.size) (.ref (wB (wC (dC d)) + 0) :: As) := ⟨PreC.blind, fun U hU hWm => ⟨rfl, by rw [hU], by rw [hU]; exact (o.ev hS hWm).1, by rw [hU]; exact hW.1⟩⟩
  have hr : va_Run (xP x) (xL x) (xE x) (xR x) (xS x) (xM x) (xA x) (xW x) (xY x) (xC x) H locs cs.1 cs.2 r2.cells r2.slots (F0 (xM x) pc ls (As.reverse ++ .ref (wB (wC (dC d)) + 0) :: st)) st (PostC (wC (dC d)) P (Value.ref (wB (wC (dC d)) + 0) :: As).toArray) (Ar (wC (dC d)) H.size) := va_runV (C := tR 4) (b := wB (wC (dC d)) + 0) (JL_fix o) (hC H.size) ⟨JL_cB o hm hl0 hR, o.1.2.2.2.2.1 _ hs.1, o.1.2.2.2.2.1 _ hs.2⟩ ⟨hp.1, JL_recv o rfl hW.1 rfl (by decide) (Nat.le_of_ble_eq_true rfl) (Nat.le_of_ble_eq_true rfl), hp.2⟩ rfl hn (hl.1.trans o.1.2.2.1) rfl (lv_room hr8) hd (by rw [o.1.2.2.2.2.2.2.2]; exact hcs)
  have hB : d.1.1 ≤ H.size := Nat.le_trans o.2.2.1 (Nat.le_trans (Nat.le_add_right _ 549) hW.size)
  intro T hT X
  obtain ⟨u, st₀, t, T', L, h0, X', hL, e1, e2, ⟨⟨σ', hp1, hw⟩, hz, hk⟩, go⟩ := hr T hT X
  rw [h0] at hz hk
  have hA : ∀ q, Ar (wC (dC d)) H.size q → frL d q := fun q h => Ar.lo hB h
  have hS' : va_S (frL d) (xS x).heap T'.heap (locs ++ L) := ⟨Nat.le_trans hS.1 (by rw [e1]; exact hz), fun q h1 h2 => by rw [e1, hk q (Nat.lt_of_lt_of_le h1 hS.1) (fun z => h2 (hA q z))]; exact hS.2.1 q h1 h2, fun q hq => by
      rcases List.mem_append.mp hq with h | h
      · exact hS.2.2 q h
      · exact hA _ (hL q h)⟩
  obtain ⟨t2, a1, b1⟩ := kk u σ' hp1 T'.heap (locs ++ L) ls hS' (by rw [e1]; exact hW.c o.2.2 hw hk) hl T' rfl X'
  exact ⟨t2, go t2 a1, b1⟩
/-- a call of the model -/
theorem JL_callM (o : OkL x d cc nL own ret rm) {y : MethodName} {bytes : ByteArray} {maxL n idx : Nat} {rt : Option FieldType} {r2 : Room} {P : Outcome → Sg → Prop} {st0 : List Value} (As : List Value) (hm : Mth y bytes maxL rt n) (hs : Cond.instanceMethod y ∈ TBL ∧ Cond.selects (tR 5) y y ∈ TBL) (hl0 : Cond.methodLink own idx y ∈ TBL) (hR : r2.frames + 1 ≤ rm.frames ∧ 8 + (maxL + 11) + r2.locals ≤ rm.locals)
    (hn : As.length = n) (hstack : st0 = As.reverse ++ .ref (wB (wM (dM d)) + 347) :: st) (hr8 : (st.map fun v => v.category).sum ≤ 8) (hcs : cs.1 + r2.cells ≤ rm.cells ∧ cs.2 + r2.slots ≤ rm.slots) (hd : decode cc pc = .ok (.invokevirtual idx, 3)) (hC : Ct (xL x) (wM (dM d)) y bytes maxL rt r2 (.ref (wB (wM (dM d)) + 347) :: As) σm P)
    (kk : ∀ u σ', P (.returned u) σ' → JP x (frL d) (LW d σc σ' v) Q (pc + 3) lv (u.toList ++ st) (cs.1 + r2.cells, cs.2 + r2.slots)) : JP x (frL d) (LW d σc σm v) Q pc lv st0 cs := by
  intro H locs ls hS hW hl
  subst hstack
  have hp : PreS (xS x) H (PreC (wM (dM d)) (.ref (wB (wM (dM d)) + 347) :: As) σm H.size) (.ref (wB (wM (dM d)) + 347) :: As) := ⟨PreC.blind, fun U hU hWm => ⟨rfl, by rw [hU], by rw [hU]; exact o.evM hS hWm hW, by rw [hU]; exact hW.2.1⟩⟩
  have hr : va_Run (xP x) (xL x) (xE x) (xR x) (xS x) (xM x) (xA x) (xW x) (xY x) (xC x) H locs cs.1 cs.2 r2.cells r2.slots (F0 (xM x) pc ls (As.reverse ++ .ref (wB (wM (dM d)) + 347) :: st)) st (PostC (wM (dM d)) P (Value.ref (wB (wM (dM d)) + 347) :: As).toArray) (Ar (wM (dM d)) H.size) := va_runV (C := tR 5) (b := wB (wM (dM d)) + 347) (JL_fix o) (hC H.size) ⟨JL_cB o hm hl0 hR, o.1.2.2.2.2.1 _ hs.1, o.1.2.2.2.2.1 _ hs.2⟩ ⟨hp.1, JL_recv o rfl hW.2.1 rfl (by decide) (Nat.le_of_ble_eq_true rfl) (Nat.le_of_ble_eq_true rfl), hp.2⟩ rfl hn (hl.1.trans o.1.2.2.1) rfl (lv_room hr8) hd (by rw [o.1.2.2.2.2.2.2.2]; exact hcs)
  have hB : d.2.1 ≤ H.size := Nat.le_trans (Nat.le_add_right _ 549) hW.size
  intro T hT X
  obtain ⟨u, st₀, t, T', L, h0, X', hL, e1, e2, ⟨⟨σ', hp1, hw⟩, hz, hk⟩, go⟩ := hr T hT X
  rw [h0] at hz hk
  have hA : ∀ q, Ar (wM (dM d)) H.size q → frL d q := fun q h => Nat.le_trans o.2.2.1 (Ar.lo (w := wM (dM d)) hB h)
  have hS' : va_S (frL d) (xS x).heap T'.heap (locs ++ L) := ⟨Nat.le_trans hS.1 (by rw [e1]; exact hz), fun q h1 h2 => by rw [e1, hk q (Nat.lt_of_lt_of_le h1 hS.1) (fun z => h2 (hA q z))]; exact hS.2.1 q h1 h2, fun q hq => by
      rcases List.mem_append.mp hq with h | h
      · exact hS.2.2 q h
      · exact hA _ (hL q h)⟩
  obtain ⟨t2, a1, b1⟩ := kk u σ' hp1 T'.heap (locs ++ L) ls hS' (by rw [e1]; exact hW.m o.2.2 hw hk) hl T' rfl X'
  exact ⟨t2, go t2 a1, b1⟩
/-- the judgement with an exception of class E thrown over the frame -/
def JPT (x : Cx) (fr : Nat → Prop) (I : Heap → Prop) (Q : State → Prop) (pc : Nat) (lv : List (Nat × Value)) (st : List Value) (cs : Nat × Nat) (E : String) : Prop :=
  ∀ (H : Heap) (locs : List Loc) (ls : Array Slot) (q : Addr) (ce : Cell), va_S fr (xS x).heap H locs → I H → lv_has ls (xC x).maxLocals lv →
    H[q]? = some ce → ce.vm = .none → (xS x).vm.findClass E = some ce.cls →
    vx_W (xP x) (xL x) (xE x) (xR x) (xS x) (xM x) (xA x) (xW x) (xY x) (xC x) H locs cs.1 cs.2 Q (F0 (xM x) pc ls st) q
/-- a call of the class that may throw -/
theorem JL_callX (o : OkL x d cc nL own ret rm) {y : MethodName} {bytes : ByteArray} {maxL n idx : Nat} {rt : Option FieldType} {r2 : Room} {P : Outcome → Sg → Prop} {X : String → Sg → Prop} {st0 : List Value} (As : List Value) (hm : Mth y bytes maxL rt n) (hs : Cond.instanceMethod y ∈ TBL ∧ Cond.selects (tR 4) y y ∈ TBL) (hl0 : Cond.methodLink own idx y ∈ TBL) (hR : r2.frames + 1 ≤ rm.frames ∧ 8 + (maxL + 11) + r2.locals ≤ rm.locals)
    (hn : As.length = n) (hstack : st0 = As.reverse ++ .ref (wB (wC (dC d)) + 0) :: st) (hr8 : (st.map fun v => v.category).sum ≤ 8) (hcs : cs.1 + r2.cells ≤ rm.cells ∧ cs.2 + r2.slots ≤ rm.slots) (hd : decode cc pc = .ok (.invokevirtual idx, 3)) (hC : CtX (xL x) (wC (dC d)) y bytes maxL rt r2 (.ref (wB (wC (dC d)) + 0) :: As) σc P X)
    (kx : ∀ E σ', X E σ' → JPT x (frL d) (LW d σ' σm v) Q pc lv st (cs.1 + r2.cells, cs.2 + r2.slots) E) (kk : ∀ u σ', P (.returned u) σ' → JP x (frL d) (LW d σ' σm v) Q (pc + 3) lv (u.toList ++ st) (cs.1 + r2.cells, cs.2 + r2.slots)) : JP x (frL d) (LW d σc σm v) Q pc lv st0 cs := by
  intro H locs ls hS hW hl
  subst hstack
  have hp : PreS (xS x) H (PreC (wC (dC d)) (.ref (wB (wC (dC d)) + 0) :: As) σc H.size) (.ref (wB (wC (dC d)) + 0) :: As) := ⟨PreC.blind, fun U hU hWm => ⟨rfl, by rw [hU], by rw [hU]; exact (o.ev hS hWm).1, by rw [hU]; exact hW.1⟩⟩
  have hr : vx_Run (xP x) (xL x) (xE x) (xR x) (xS x) (xM x) (xA x) (xW x) (xY x) (xC x) H locs cs.1 cs.2 r2.cells r2.slots (F0 (xM x) pc ls (As.reverse ++ .ref (wB (wC (dC d)) + 0) :: st)) st (PostC (wC (dC d)) P (Value.ref (wB (wC (dC d)) + 0) :: As).toArray) (XCof (wC (dC d)) X) (Ar (wC (dC d)) H.size) := vx_runV (C := tR 4) (b := wB (wC (dC d)) + 0) (JL_fix o) (hC H.size) ⟨JL_cB o hm hl0 hR, o.1.2.2.2.2.1 _ hs.1, o.1.2.2.2.2.1 _ hs.2⟩ ⟨hp.1, JL_recv o rfl hW.1 rfl (by decide) (Nat.le_of_ble_eq_true rfl) (Nat.le_of_ble_eq_true rfl), hp.2⟩ rfl hn (hl.1.trans o.1.2.2.1) rfl (lv_room hr8) hd (by rw [o.1.2.2.2.2.2.2.2]; exact hcs)
  have hB : d.1.1 ≤ H.size := Nat.le_trans o.2.2.1 (Nat.le_trans (Nat.le_add_right _ 549) hW.size)
  have hA : ∀ q, Ar (wC (dC d)) H.size q → frL d q := fun q h => Ar.lo hB h
  intro T hT X9
  rcases hr T hT X9 with ⟨u, st₀, t, T', L, h0, X', hL, e1, e2, ⟨⟨σ', hp1, hw⟩, hz, hk⟩, go⟩ | ⟨q9, st₀, t, T', L, E, ce, h0, X', hL, e1, e2, ⟨⟨σ', hp1, hw⟩, hz, hk⟩, hce, hcv, hcl, go⟩
  · rw [h0] at hz hk
    have hS' : va_S (frL d) (xS x).heap T'.heap (locs ++ L) := ⟨Nat.le_trans hS.1 (by rw [e1]; exact hz), fun q h1 h2 => by rw [e1, hk q (Nat.lt_of_lt_of_le h1 hS.1) (fun z => h2 (hA q z))]; exact hS.2.1 q h1 h2, fun q hq => by
        rcases List.mem_append.mp hq with h | h
        · exact hS.2.2 q h
        · exact hA _ (hL q h)⟩
    obtain ⟨t2, a1, b1⟩ := kk u σ' hp1 T'.heap (locs ++ L) ls hS' (by rw [e1]; exact hW.c o.2.2 hw hk) hl T' rfl X'
    exact ⟨t2, go t2 a1, b1⟩
  · rw [h0] at hz hk
    have hS' : va_S (frL d) (xS x).heap T'.heap (locs ++ L) := ⟨Nat.le_trans hS.1 (by rw [e1]; exact hz), fun q h1 h2 => by rw [e1, hk q (Nat.lt_of_lt_of_le h1 hS.1) (fun z => h2 (hA q z))]; exact hS.2.1 q h1 h2, fun q hq => by
        rcases List.mem_append.mp hq with h | h
        · exact hS.2.2 q h
        · exact hA _ (hL q h)⟩
    obtain ⟨t2, a1, b1⟩ := kx E σ' hp1 T'.heap (locs ++ L) ls q9 ce hS' (by rw [e1]; exact hW.c o.2.2 hw hk) hl (by rw [e1]; exact hce) hcv hcl T' rfl X'
    exact ⟨t2, go.trans a1, b1⟩
/-- the first handler catches it -/
theorem JPT_catch (o : OkL x d cc nL own ret rm) {I : Heap → Prop} {E : String} (pre : List ExceptionTableEntry) (z : ExceptionTableEntry) (suf : List ExceptionTableEntry) (hsp : (xC x).exceptionTable.toList = pre ++ z :: suf)
    (hpass : ∀ y ∈ pre, y.catchType ≠ 0 ∧ ∃ nm : String, Cond.classLink own y.catchType nm ∈ TBL ∧ (E, nm) ∈ ncL) (hx : covers z pc = true) (h0 : z.catchType ≠ 0) (hl0 : Cond.classLink own z.catchType E ∈ TBL) (hc : (E, E) ∈ casL)
    (kk : ∀ q, JP x (frL d) I Q z.handlerPc lv [.ref q] cs) : JPT x (frL d) I Q pc lv st cs E := by
  intro H locs ls q ce hS hI hl hq hv hcl
  refine vx_catch o.1.2.2.2.1 pre z suf hsp (fun y hy => ?_) hx h0 (o.1.2.2.2.2.1 _ hl0) ((o.2.1.1.2.2.2.2.2.2.2.2.2.2.2.2.2.2.1 (E, E) hc).use rfl) hq hv hcl (kk q H locs ls hS hI hl)
  obtain ⟨h1, nm, h2, h3⟩ := hpass y hy
  exact Or.inr ⟨h1, nm, o.1.2.2.2.2.1 _ h2, o.2.1.1.2.2.2.2.2.2.2.2.2.2.2.2.2.2.2 (E, nm) h3⟩
theorem JL_last (o : OkL x d cc nL own ret rm) {u : Int64} (hd : decode cc pc = .ok (.lastore, 1)) (kk : JP x (frL d) (LW d σc σm u) Q (pc + 1) lv st cs) : JP x (frL d) (LW d σc σm v) Q pc lv (.long u :: .int 0 :: .ref (dO d) :: st) cs := by
  intro H locs ls hS hW hl
  have hin : ¬ ((0 : Int32) < 0 ∨ (arrV (dJ d) 1 (fun _ => .long v)).slots.size ≤ (0 : Int32).toNatClampNeg) := by
    rw [arrV_size]
    decide
  refine W.last o.1.1 o.1.2.1 hW.2.2 (o.2.1.2 _ _) (fun q => by cases q) hin rfl rfl hd fun H' e1 e2 e3 => ?_
  refine kk H' _ ls (hS.put e2 e3 ?_) (hW.o o.2.2 ?_ e3) hl
  · show d.1.1 ≤ dO d
    have := o.2.2.1
    have := o.2.2.2
    omega
  · rw [e1, arrV_store]
    refine congrArg some (arrV_to fun j hj => ?_)
    have : j = 0 := by omega
    subst this
    rfl
theorem JL_lald (o : OkL x d cc nL own ret rm) (hd : decode cc pc = .ok (.laload, 1)) (kk : JP x (frL d) (LW d σc σm v) Q (pc + 1) lv (.long v :: st) cs) : JP x (frL d) (LW d σc σm v) Q pc lv (.int 0 :: .ref (dO d) :: st) cs := by
  intro H locs ls hS hW hl
  have hin : ¬ ((0 : Int32) < 0 ∨ (arrV (dJ d) 1 (fun _ => .long v)).slots.size ≤ (0 : Int32).toNatClampNeg) := by
    rw [arrV_size]
    decide
  exact W.lald (v := .long v) o.1.1 o.1.2.1 hW.2.2 (o.2.1.2 _ _) (fun q => by cases q) hin (by rw [show (0 : Int32).toNatClampNeg = 0 by decide, arrV_read _ _ (by decide)]) rfl rfl hd (kk H locs ls hS hW hl)
theorem JL_ret (o : OkL x d cc nL own (some .int) rm) {P : Int32 → Sg → Int64 → Prop} {k : Int32} {c2 : Nat × Nat} (hcs : cs.1 ≤ c2.1 ∧ cs.2 ≤ c2.2) (hd : decode cc pc = .ok (.ireturn, 1)) (h : P k σc v) : JP x (frL d) (LW d σc σm v) (FinL x d P σm c2) pc lv [.int k] cs :=
  JP_wide hcs (fun H locs ls hS hW hl => vx_ret (W.iret (hlocks := o.1.2.2.2.2.2.1) o.1.1 o.1.2.1 o.1.2.2.2.2.2.2.1 (fun t ht _ => ⟨⟨k, σc, v, rfl, h, by rw [ht]; exact hW⟩, hS.F ht⟩) hS.2.2 hd))
/-- a wrapper called -/
theorem JL_callW (o : OkL x d cc nL own ret rm) {y : MethodName} {bytes : ByteArray} {maxL n idx : Nat} {hh : List (Nat × Nat × Nat × Nat)} {r2 : Room} {P : Int32 → Sg → Int64 → Prop} {st0 : List Value} (As : List Value) (hm : Cond.codeWith y bytes maxL (some .int) hh ∈ TBL ∧ Cond.initialized y.cls ∈ TBL ∧ (y.cls ≠ "java/lang/invoke/MethodHandle" ∧ y.cls ≠ "java/lang/invoke/VarHandle") ∧ (parseMethodDescriptor y.desc).map (fun d => d.parameters.length) = some n)
    (hs : Cond.static y ∈ TBL) (hl0 : Cond.methodLink own idx y ∈ TBL) (hR : r2.frames + 1 ≤ rm.frames ∧ 8 + (maxL + 11) + r2.locals ≤ rm.locals)
    (hn : As.length = n) (hstack : st0 = As.reverse ++ st) (hr8 : (st.map fun v => v.category).sum ≤ 8) (hcs : cs.1 + r2.cells ≤ rm.cells ∧ cs.2 + r2.slots ≤ rm.slots) (hd : decode cc pc = .ok (.invokestatic idx, 3)) (hC : CtL (xL x) d y bytes maxL hh r2 As σc σm v P)
    (kk : ∀ k σ' v', P k σ' v' → JP x (frL d) (LW d σ' σm v') Q (pc + 3) lv (.int k :: st) (cs.1 + r2.cells, cs.2 + r2.slots)) : JP x (frL d) (LW d σc σm v) Q pc lv st0 cs := by
  intro H locs ls hS hW hl
  subst hstack
  have hp : PreS (xS x) H (PreL d As σc σm v) As := ⟨PreL.blind, fun U hU hWm => ⟨rfl, by rw [hU]; exact o.ev hS hWm, by rw [hU]; exact hW⟩⟩
  have hgw : ∀ q ∈ (Cond.codeWith y bytes maxL (some .int) hh :: TBL), ∀ (a' : Array Value) (U : State), (xS x).WarmedH U.vm → q.before a' U = true := by
    refine pay_in o.1.2.2.2.2.1 (fun q hq => ?_)
    rcases List.mem_cons.mp hq with e | hq
    · subst e
      exact ⟨hm.1, good_of_word (List.mem_filter.mp hm.1).2⟩
    · exact ⟨hq, good_of_word (List.mem_filter.mp hq).2⟩
  have hr : vx_Run (xP x) (xL x) (xE x) (xR x) (xS x) (xM x) (xA x) (xW x) (xY x) (xC x) H locs cs.1 cs.2 r2.cells r2.slots (F0 (xM x) pc ls (As.reverse ++ st)) st (PostL d P σm As.toArray) (fun _ _ _ => False) (frL d) := vx_runSX (hh := hh) (JL_fix o) hC ⟨⟨rfl, rfl, by rw [o.1.2.2.2.2.2.2.2]; exact hR.1, by rw [o.1.2.2.2.2.2.2.2]; exact hR.2, hgw, List.mem_cons_self⟩, o.1.2.2.2.2.1 _ hm.1, o.1.2.2.2.2.1 _ hm.2.1, hm.2.2.1, fun sig h => by
    have h2 := hm.2.2.2
    rw [h] at h2
    exact (Option.some.inj h2).symm, o.1.2.2.2.2.1 _ hl0, o.1.2.2.2.2.1 _ hs⟩ hp rfl hn (hl.1.trans o.1.2.2.1) rfl (lv_room hr8) hd (by rw [o.1.2.2.2.2.2.2.2]; exact hcs)
  intro T hT X9
  rcases hr T hT X9 with ⟨u, st₀, t, T', L, h0, X', hL, e1, e2, ⟨⟨k, σ', v', hu, hp1, hw⟩, hz, hk⟩, go⟩ | ⟨q9, st₀, t, T', L, E, ce, h0, X', hL, e1, e2, hf, -⟩
  · cases hu
    rw [h0] at hz hk
    have hS' : va_S (frL d) (xS x).heap T'.heap (locs ++ L) := ⟨Nat.le_trans hS.1 (by rw [e1]; exact hz), fun q h1 h2 => by rw [e1, hk q (Nat.lt_of_lt_of_le h1 hS.1) h2]; exact hS.2.1 q h1 h2, fun q hq => by
        rcases List.mem_append.mp hq with h | h
        · exact hS.2.2 q h
        · exact hL q h⟩
    obtain ⟨t2, a1, b1⟩ := kk k σ' v' hp1 T'.heap (locs ++ L) ls hS' (by rw [e1]; exact hw) hl T' rfl X'
    exact ⟨t2, go t2 a1, b1⟩
  · exact hf.elim
end
