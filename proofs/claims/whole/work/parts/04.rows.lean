section
variable {x : Cx} {w : Wx} {Q : State → Prop} {cc : ByteArray} {nL : Nat} {own : String} {ret : Option FieldType} {rm : Room} {pc : Nat} {lv : List (Nat × Value)} {st : List Value} {cs : Nat × Nat} {σ : Sg}
/-! ints, locals, stack -/
theorem J_iconst (o : Ok x w cc nL own ret rm) {n : Int} {v : Int32} (d : decode cc pc = .ok (.iconst n, 1)) (hv : Int32.ofInt n = v) (kk : J x w Q (pc + 1) lv (.int v :: st) cs σ) : J x w Q pc lv (st) cs σ :=
  fun H locs ls hS hW hl => lv_iconst o.1 o.2.1 d hv (kk H locs ls hS hW hl)
theorem J_bipush (o : Ok x w cc nL own ret rm) {n : Int} {v : Int32} (d : decode cc pc = .ok (.bipush n, 2)) (hv : (Int8.ofInt n).toInt32 = v) (kk : J x w Q (pc + 2) lv (.int v :: st) cs σ) : J x w Q pc lv (st) cs σ :=
  fun H locs ls hS hW hl => lv_bipush o.1 o.2.1 d hv (kk H locs ls hS hW hl)
theorem J_sipush (o : Ok x w cc nL own ret rm) {n : Int} {v : Int32} (d : decode cc pc = .ok (.sipush n, 3)) (hv : (Int16.ofInt n).toInt32 = v) (kk : J x w Q (pc + 3) lv (.int v :: st) cs σ) : J x w Q pc lv (st) cs σ :=
  fun H locs ls hS hW hl => lv_sipush o.1 o.2.1 d hv (kk H locs ls hS hW hl)
theorem J_iload (o : Ok x w cc nL own ret rm) (k : Nat) {i : Nat} {v : Int32} (d : decode cc pc = .ok (.iload i, 2)) (hl0 : lv[k]? = some (i, .int v)) (kk : J x w Q (pc + 2) lv (.int v :: st) cs σ) : J x w Q pc lv (st) cs σ :=
  fun H locs ls hS hW hl => lv_iload o.1 o.2.1 d (lv_at hl k hl0) (kk H locs ls hS hW hl)
theorem J_iload_n (o : Ok x w cc nL own ret rm) (k : Nat) {i : Fin 4} {v : Int32} (d : decode cc pc = .ok (.iload_n i, 1)) (hl0 : lv[k]? = some ((i : Nat), .int v)) (kk : J x w Q (pc + 1) lv (.int v :: st) cs σ) : J x w Q pc lv (st) cs σ :=
  fun H locs ls hS hW hl => lv_iload_n o.1 o.2.1 d rfl (lv_at hl k hl0) (kk H locs ls hS hW hl)
theorem J_aload (o : Ok x w cc nL own ret rm) (k : Nat) {i : Nat} {v : Nat} (d : decode cc pc = .ok (.aload i, 2)) (hl0 : lv[k]? = some (i, .ref v)) (kk : J x w Q (pc + 2) lv (.ref v :: st) cs σ) : J x w Q pc lv (st) cs σ :=
  fun H locs ls hS hW hl => lv_aload o.1 o.2.1 d (lv_at hl k hl0) (kk H locs ls hS hW hl)
theorem J_aload_n (o : Ok x w cc nL own ret rm) (k : Nat) {i : Fin 4} {v : Nat} (d : decode cc pc = .ok (.aload_n i, 1)) (hl0 : lv[k]? = some ((i : Nat), .ref v)) (kk : J x w Q (pc + 1) lv (.ref v :: st) cs σ) : J x w Q pc lv (st) cs σ :=
  fun H locs ls hS hW hl => lv_aload_n o.1 o.2.1 d rfl (lv_at hl k hl0) (kk H locs ls hS hW hl)
theorem J_lload (o : Ok x w cc nL own ret rm) (k : Nat) {i : Nat} {v : Int64} (d : decode cc pc = .ok (.lload i, 2)) (hl0 : lv[k]? = some (i, .long v)) (kk : J x w Q (pc + 2) lv (.long v :: st) cs σ) : J x w Q pc lv (st) cs σ :=
  fun H locs ls hS hW hl => lv_lload o.1 o.2.1 d (lv_at hl k hl0) (kk H locs ls hS hW hl)
theorem J_lload_n (o : Ok x w cc nL own ret rm) (k : Nat) {i : Fin 4} {v : Int64} (d : decode cc pc = .ok (.lload_n i, 1)) (hl0 : lv[k]? = some ((i : Nat), .long v)) (kk : J x w Q (pc + 1) lv (.long v :: st) cs σ) : J x w Q pc lv (st) cs σ :=
  fun H locs ls hS hW hl => lv_lload_n o.1 o.2.1 d rfl (lv_at hl k hl0) (kk H locs ls hS hW hl)
theorem J_istore (o : Ok x w cc nL own ret rm) {i : Nat} {v : Int32} {lv' : List (Nat × Value)} (d : decode cc pc = .ok (.istore i, 2)) (hn : i < nL) (hl0 : ((i : Nat), Value.int v) :: lv.filter (fun q => !(q.1 == (i : Nat)) && !(q.1 + 1 == (i : Nat) && q.2.category == 2)) = lv') (kk : J x w Q (pc + 2) lv' st cs σ) : J x w Q pc lv (Value.int v :: st) cs σ :=
  fun H locs ls hS hW hl => lv_istore o.1 o.2.1 d hl (by rw [o.2.2.1]; exact hn) hl0 (fun ls' h => kk H locs ls' hS hW h)
theorem J_istore_n (o : Ok x w cc nL own ret rm) {i : Fin 4} {v : Int32} {lv' : List (Nat × Value)} (d : decode cc pc = .ok (.istore_n i, 1)) (hn : (i : Nat) < nL) (hl0 : ((i : Nat), Value.int v) :: lv.filter (fun q => !(q.1 == (i : Nat)) && !(q.1 + 1 == (i : Nat) && q.2.category == 2)) = lv') (kk : J x w Q (pc + 1) lv' st cs σ) : J x w Q pc lv (Value.int v :: st) cs σ :=
  fun H locs ls hS hW hl => lv_istore_n o.1 o.2.1 d rfl hl (by rw [o.2.2.1]; exact hn) hl0 (fun ls' h => kk H locs ls' hS hW h)
theorem J_astore (o : Ok x w cc nL own ret rm) {i : Nat} {v : Nat} {lv' : List (Nat × Value)} (d : decode cc pc = .ok (.astore i, 2)) (hn : i < nL) (hl0 : ((i : Nat), Value.ref v) :: lv.filter (fun q => !(q.1 == (i : Nat)) && !(q.1 + 1 == (i : Nat) && q.2.category == 2)) = lv') (kk : J x w Q (pc + 2) lv' st cs σ) : J x w Q pc lv (Value.ref v :: st) cs σ :=
  fun H locs ls hS hW hl => lv_astore o.1 o.2.1 d hl (by rw [o.2.2.1]; exact hn) hl0 (fun ls' h => kk H locs ls' hS hW h)
theorem J_astore_n (o : Ok x w cc nL own ret rm) {i : Fin 4} {v : Nat} {lv' : List (Nat × Value)} (d : decode cc pc = .ok (.astore_n i, 1)) (hn : (i : Nat) < nL) (hl0 : ((i : Nat), Value.ref v) :: lv.filter (fun q => !(q.1 == (i : Nat)) && !(q.1 + 1 == (i : Nat) && q.2.category == 2)) = lv') (kk : J x w Q (pc + 1) lv' st cs σ) : J x w Q pc lv (Value.ref v :: st) cs σ :=
  fun H locs ls hS hW hl => lv_astore_n o.1 o.2.1 d rfl hl (by rw [o.2.2.1]; exact hn) hl0 (fun ls' h => kk H locs ls' hS hW h)
theorem J_lstore (o : Ok x w cc nL own ret rm) {i : Nat} {v : Int64} {lv' : List (Nat × Value)} (d : decode cc pc = .ok (.lstore i, 2)) (hn : i + 1 < nL) (hl0 : ((i : Nat), Value.long v) :: lv.filter (fun q => !(q.1 == (i : Nat)) && (!(q.1 == (i : Nat) + 1) && !(q.1 + 1 == (i : Nat) && q.2.category == 2))) = lv') (kk : J x w Q (pc + 2) lv' st cs σ) : J x w Q pc lv (Value.long v :: st) cs σ :=
  fun H locs ls hS hW hl => lv_lstore o.1 o.2.1 d hl (by rw [o.2.2.1]; exact hn) hl0 (fun ls' h => kk H locs ls' hS hW h)
theorem J_lstore_n (o : Ok x w cc nL own ret rm) {i : Fin 4} {v : Int64} {lv' : List (Nat × Value)} (d : decode cc pc = .ok (.lstore_n i, 1)) (hn : (i : Nat) + 1 < nL) (hl0 : ((i : Nat), Value.long v) :: lv.filter (fun q => !(q.1 == (i : Nat)) && (!(q.1 == (i : Nat) + 1) && !(q.1 + 1 == (i : Nat) && q.2.category == 2))) = lv') (kk : J x w Q (pc + 1) lv' st cs σ) : J x w Q pc lv (Value.long v :: st) cs σ :=
  fun H locs ls hS hW hl => lv_lstore_n o.1 o.2.1 d rfl hl (by rw [o.2.2.1]; exact hn) hl0 (fun ls' h => kk H locs ls' hS hW h)
theorem J_iinc (o : Ok x w cc nL own ret rm) {i : Nat} {n : Int} {v v2 : Int32} {lv' : List (Nat × Value)} (k : Nat) (d : decode cc pc = .ok (.iinc i n, 3)) (hn : i < nL) (hk : lv[k]? = some (i, .int v)) (hv : Int32.ofInt n = v2) (hl0 : (i, Value.int (v + v2)) :: lv.filter (fun q => !(q.1 == i) && !(q.1 + 1 == i && q.2.category == 2)) = lv') (kk : J x w Q (pc + 3) lv' st cs σ) : J x w Q pc lv st cs σ :=
  fun H locs ls hS hW hl => lv_iinc o.1 o.2.1 d hl hk (by rw [hv]) (by rw [o.2.2.1]; exact hn) hl0 (fun ls' h => kk H locs ls' hS hW h)
theorem J_iadd (o : Ok x w cc nL own ret rm) {a b : Int32} (d : decode cc pc = .ok (.iadd, 1)) (kk : J x w Q (pc + 1) lv (.int (a + b) :: st) cs σ) : J x w Q pc lv (.int b :: .int a :: st) cs σ :=
  fun H locs ls hS hW hl => lv_iadd o.1 o.2.1 d (kk H locs ls hS hW hl)
theorem J_isub (o : Ok x w cc nL own ret rm) {a b : Int32} (d : decode cc pc = .ok (.isub, 1)) (kk : J x w Q (pc + 1) lv (.int (a - b) :: st) cs σ) : J x w Q pc lv (.int b :: .int a :: st) cs σ :=
  fun H locs ls hS hW hl => lv_isub o.1 o.2.1 d (kk H locs ls hS hW hl)
theorem J_imul (o : Ok x w cc nL own ret rm) {a b : Int32} (d : decode cc pc = .ok (.imul, 1)) (kk : J x w Q (pc + 1) lv (.int (a * b) :: st) cs σ) : J x w Q pc lv (.int b :: .int a :: st) cs σ :=
  fun H locs ls hS hW hl => lv_imul o.1 o.2.1 d (kk H locs ls hS hW hl)
theorem J_iand (o : Ok x w cc nL own ret rm) {a b : Int32} (d : decode cc pc = .ok (.iand, 1)) (kk : J x w Q (pc + 1) lv (.int (a &&& b) :: st) cs σ) : J x w Q pc lv (.int b :: .int a :: st) cs σ :=
  fun H locs ls hS hW hl => lv_iand o.1 o.2.1 d (kk H locs ls hS hW hl)
theorem J_ior (o : Ok x w cc nL own ret rm) {a b : Int32} (d : decode cc pc = .ok (.ior, 1)) (kk : J x w Q (pc + 1) lv (.int (a ||| b) :: st) cs σ) : J x w Q pc lv (.int b :: .int a :: st) cs σ :=
  fun H locs ls hS hW hl => lv_ior o.1 o.2.1 d (kk H locs ls hS hW hl)
theorem J_idiv (o : Ok x w cc nL own ret rm) {a b : Int32} (d : decode cc pc = .ok (.idiv, 1)) (hb : ¬ b = 0) (kk : J x w Q (pc + 1) lv (.int (a / b) :: st) cs σ) : J x w Q pc lv (.int b :: .int a :: st) cs σ :=
  fun H locs ls hS hW hl => lv_idiv o.1 o.2.1 d hb (kk H locs ls hS hW hl)
theorem J_irem (o : Ok x w cc nL own ret rm) {a b : Int32} (d : decode cc pc = .ok (.irem, 1)) (hb : ¬ b = 0) (kk : J x w Q (pc + 1) lv (.int (a - a / b * b) :: st) cs σ) : J x w Q pc lv (.int b :: .int a :: st) cs σ :=
  fun H locs ls hS hW hl => lv_irem o.1 o.2.1 d hb (kk H locs ls hS hW hl)
theorem J_ishl (o : Ok x w cc nL own ret rm) {a b : Int32} (d : decode cc pc = .ok (.ishl, 1)) (kk : J x w Q (pc + 1) lv (.int (a <<< (b &&& 31)) :: st) cs σ) : J x w Q pc lv (.int b :: .int a :: st) cs σ :=
  fun H locs ls hS hW hl => lv_ishl o.1 o.2.1 d (kk H locs ls hS hW hl)
theorem J_ishr (o : Ok x w cc nL own ret rm) {a b : Int32} (d : decode cc pc = .ok (.ishr, 1)) (kk : J x w Q (pc + 1) lv (.int (a >>> (b &&& 31)) :: st) cs σ) : J x w Q pc lv (.int b :: .int a :: st) cs σ :=
  fun H locs ls hS hW hl => lv_ishr o.1 o.2.1 d (kk H locs ls hS hW hl)
theorem J_iushr (o : Ok x w cc nL own ret rm) {a b : Int32} (d : decode cc pc = .ok (.iushr, 1)) (kk : J x w Q (pc + 1) lv (.int ((a.toUInt32 >>> (b.toUInt32 &&& Int32.toUInt32 31)).toInt32) :: st) cs σ) : J x w Q pc lv (.int b :: .int a :: st) cs σ :=
  fun H locs ls hS hW hl => lv_iushr o.1 o.2.1 d rfl (kk H locs ls hS hW hl)
theorem J_ladd (o : Ok x w cc nL own ret rm) {a b : Int64} (d : decode cc pc = .ok (.ladd, 1)) (kk : J x w Q (pc + 1) lv (.long (a + b) :: st) cs σ) : J x w Q pc lv (.long b :: .long a :: st) cs σ :=
  fun H locs ls hS hW hl => lv_ladd o.1 o.2.1 d (kk H locs ls hS hW hl)
theorem J_lmul (o : Ok x w cc nL own ret rm) {a b : Int64} (d : decode cc pc = .ok (.lmul, 1)) (kk : J x w Q (pc + 1) lv (.long (a * b) :: st) cs σ) : J x w Q pc lv (.long b :: .long a :: st) cs σ :=
  fun H locs ls hS hW hl => lv_lmul o.1 o.2.1 d (kk H locs ls hS hW hl)
theorem J_lcmp (o : Ok x w cc nL own ret rm) {a b : Int64} (d : decode cc pc = .ok (.lcmp, 1)) (kk : J x w Q (pc + 1) lv (.int (lg_cmp a b) :: st) cs σ) : J x w Q pc lv (.long b :: .long a :: st) cs σ :=
  fun H locs ls hS hW hl => W.lcmp o.1 o.2.1 d (kk H locs ls hS hW hl)
theorem J_i2l (o : Ok x w cc nL own ret rm) {a : Int32} (d : decode cc pc = .ok (.i2l, 1)) (kk : J x w Q (pc + 1) lv (.long a.toInt64 :: st) cs σ) : J x w Q pc lv (.int a :: st) cs σ :=
  fun H locs ls hS hW hl => lv_i2l o.1 o.2.1 d rfl (kk H locs ls hS hW hl)
theorem J_dup (o : Ok x w cc nL own ret rm) {v : Value} (d : decode cc pc = .ok (.dup, 1)) (hc : v.category = 1) (kk : J x w Q (pc + 1) lv (v :: v :: st) cs σ) : J x w Q pc lv (v :: st) cs σ :=
  fun H locs ls hS hW hl => lv_dup o.1 o.2.1 d hc (kk H locs ls hS hW hl)
theorem J_pop (o : Ok x w cc nL own ret rm) {v : Value} (d : decode cc pc = .ok (.pop, 1)) (hc : v.category = 1) (kk : J x w Q (pc + 1) lv (st) cs σ) : J x w Q pc lv (v :: st) cs σ :=
  fun H locs ls hS hW hl => lv_pop o.1 o.2.1 d hc (kk H locs ls hS hW hl)
theorem J_dup2 (o : Ok x w cc nL own ret rm) {u v : Value} (d : decode cc pc = .ok (.dup2, 1)) (hu : u.category = 1) (hc : v.category = 1) (kk : J x w Q (pc + 1) lv (u :: v :: u :: v :: st) cs σ) : J x w Q pc lv (u :: v :: st) cs σ :=
  fun H locs ls hS hW hl => lv_dup2_11 o.1 o.2.1 d hu hc (kk H locs ls hS hW hl)
theorem J_ldc2 (o : Ok x w cc nL own ret rm) {i : Nat} {v : Int64} (d : decode cc pc = .ok (.ldc2_w i, 3)) (hc : Cond.constantLong own i v ∈ TBL) (kk : J x w Q (pc + 3) lv (.long v :: st) cs σ) : J x w Q pc lv (st) cs σ :=
  fun H locs ls hS hW hl => lv_ldc2 o.1 o.2.1 o.2.2.2.1 (o.2.2.2.2.1 _ hc) d (kk H locs ls hS hW hl)
theorem J_ldc (o : Ok x w cc nL own ret rm) {i : Nat} {v : Int32} (d : decode cc pc = .ok (.ldc i, 2)) (hc : Cond.constant own i v ∈ TBL) (kk : J x w Q (pc + 2) lv (.int v :: st) cs σ) : J x w Q pc lv (st) cs σ :=
  fun H locs ls hS hW hl => lv_ldc o.1 o.2.1 o.2.2.2.1 (o.2.2.2.2.1 _ hc) d (kk H locs ls hS hW hl)
theorem J_ldcw (o : Ok x w cc nL own ret rm) {i : Nat} {v : Int32} (d : decode cc pc = .ok (.ldc_w i, 3)) (hc : Cond.constant own i v ∈ TBL) (kk : J x w Q (pc + 3) lv (.int v :: st) cs σ) : J x w Q pc lv (st) cs σ :=
  fun H locs ls hS hW hl => lv_ldcw o.1 o.2.1 o.2.2.2.1 (o.2.2.2.2.1 _ hc) d (kk H locs ls hS hW hl)
theorem J_if_eq (o : Ok x w cc nL own ret rm) {a : Int32} {off : Int} (tgt : Nat) (d : decode cc pc = .ok (.ifCond .eq off, 3)) (ht : (pc : Int) + off = (tgt : Int)) (kt : a = 0 → J x w Q tgt lv st cs σ) (kf : ¬ (a = 0) → J x w Q (pc + 3) lv st cs σ) : J x w Q pc lv (.int a :: st) cs σ :=
  fun H locs ls hS hW hl => lv_if_eq o.1 o.2.1 d ht (fun c => kt c H locs ls hS hW hl) (fun c => kf c H locs ls hS hW hl)
theorem J_if_ne (o : Ok x w cc nL own ret rm) {a : Int32} {off : Int} (tgt : Nat) (d : decode cc pc = .ok (.ifCond .ne off, 3)) (ht : (pc : Int) + off = (tgt : Int)) (kt : ¬ a = 0 → J x w Q tgt lv st cs σ) (kf : a = 0 → J x w Q (pc + 3) lv st cs σ) : J x w Q pc lv (.int a :: st) cs σ :=
  fun H locs ls hS hW hl => lv_if_ne o.1 o.2.1 d ht (fun c => kt c H locs ls hS hW hl) (fun c => kf c H locs ls hS hW hl)
theorem J_if_lt (o : Ok x w cc nL own ret rm) {a : Int32} {off : Int} (tgt : Nat) (d : decode cc pc = .ok (.ifCond .lt off, 3)) (ht : (pc : Int) + off = (tgt : Int)) (kt : a < 0 → J x w Q tgt lv st cs σ) (kf : ¬ (a < 0) → J x w Q (pc + 3) lv st cs σ) : J x w Q pc lv (.int a :: st) cs σ :=
  fun H locs ls hS hW hl => lv_if_lt o.1 o.2.1 d ht (fun c => kt c H locs ls hS hW hl) (fun c => kf c H locs ls hS hW hl)
theorem J_if_ge (o : Ok x w cc nL own ret rm) {a : Int32} {off : Int} (tgt : Nat) (d : decode cc pc = .ok (.ifCond .ge off, 3)) (ht : (pc : Int) + off = (tgt : Int)) (kt : 0 ≤ a → J x w Q tgt lv st cs σ) (kf : ¬ (0 ≤ a) → J x w Q (pc + 3) lv st cs σ) : J x w Q pc lv (.int a :: st) cs σ :=
  fun H locs ls hS hW hl => lv_if_ge o.1 o.2.1 d ht (fun c => kt c H locs ls hS hW hl) (fun c => kf c H locs ls hS hW hl)
theorem J_if_gt (o : Ok x w cc nL own ret rm) {a : Int32} {off : Int} (tgt : Nat) (d : decode cc pc = .ok (.ifCond .gt off, 3)) (ht : (pc : Int) + off = (tgt : Int)) (kt : 0 < a → J x w Q tgt lv st cs σ) (kf : ¬ (0 < a) → J x w Q (pc + 3) lv st cs σ) : J x w Q pc lv (.int a :: st) cs σ :=
  fun H locs ls hS hW hl => lv_if_gt o.1 o.2.1 d ht (fun c => kt c H locs ls hS hW hl) (fun c => kf c H locs ls hS hW hl)
theorem J_if_le (o : Ok x w cc nL own ret rm) {a : Int32} {off : Int} (tgt : Nat) (d : decode cc pc = .ok (.ifCond .le off, 3)) (ht : (pc : Int) + off = (tgt : Int)) (kt : a ≤ 0 → J x w Q tgt lv st cs σ) (kf : ¬ (a ≤ 0) → J x w Q (pc + 3) lv st cs σ) : J x w Q pc lv (.int a :: st) cs σ :=
  fun H locs ls hS hW hl => lv_if_le o.1 o.2.1 d ht (fun c => kt c H locs ls hS hW hl) (fun c => kf c H locs ls hS hW hl)
theorem J_icmp_eq (o : Ok x w cc nL own ret rm) {a b : Int32} {off : Int} (tgt : Nat) (d : decode cc pc = .ok (.if_icmp .eq off, 3)) (ht : (pc : Int) + off = (tgt : Int)) (kt : a = b → J x w Q tgt lv st cs σ) (kf : ¬ (a = b) → J x w Q (pc + 3) lv st cs σ) : J x w Q pc lv (.int b :: .int a :: st) cs σ :=
  fun H locs ls hS hW hl => lv_icmp_eq o.1 o.2.1 d ht (fun c => kt c H locs ls hS hW hl) (fun c => kf c H locs ls hS hW hl)
theorem J_icmp_ne (o : Ok x w cc nL own ret rm) {a b : Int32} {off : Int} (tgt : Nat) (d : decode cc pc = .ok (.if_icmp .ne off, 3)) (ht : (pc : Int) + off = (tgt : Int)) (kt : ¬ a = b → J x w Q tgt lv st cs σ) (kf : a = b → J x w Q (pc + 3) lv st cs σ) : J x w Q pc lv (.int b :: .int a :: st) cs σ :=
  fun H locs ls hS hW hl => lv_icmp_ne o.1 o.2.1 d ht (fun c => kt c H locs ls hS hW hl) (fun c => kf c H locs ls hS hW hl)
theorem J_icmp_lt (o : Ok x w cc nL own ret rm) {a b : Int32} {off : Int} (tgt : Nat) (d : decode cc pc = .ok (.if_icmp .lt off, 3)) (ht : (pc : Int) + off = (tgt : Int)) (kt : a < b → J x w Q tgt lv st cs σ) (kf : ¬ (a < b) → J x w Q (pc + 3) lv st cs σ) : J x w Q pc lv (.int b :: .int a :: st) cs σ :=
  fun H locs ls hS hW hl => lv_icmp_lt o.1 o.2.1 d ht (fun c => kt c H locs ls hS hW hl) (fun c => kf c H locs ls hS hW hl)
theorem J_icmp_ge (o : Ok x w cc nL own ret rm) {a b : Int32} {off : Int} (tgt : Nat) (d : decode cc pc = .ok (.if_icmp .ge off, 3)) (ht : (pc : Int) + off = (tgt : Int)) (kt : b ≤ a → J x w Q tgt lv st cs σ) (kf : ¬ (b ≤ a) → J x w Q (pc + 3) lv st cs σ) : J x w Q pc lv (.int b :: .int a :: st) cs σ :=
  fun H locs ls hS hW hl => lv_icmp_ge o.1 o.2.1 d ht (fun c => kt c H locs ls hS hW hl) (fun c => kf c H locs ls hS hW hl)
theorem J_icmp_gt (o : Ok x w cc nL own ret rm) {a b : Int32} {off : Int} (tgt : Nat) (d : decode cc pc = .ok (.if_icmp .gt off, 3)) (ht : (pc : Int) + off = (tgt : Int)) (kt : b < a → J x w Q tgt lv st cs σ) (kf : ¬ (b < a) → J x w Q (pc + 3) lv st cs σ) : J x w Q pc lv (.int b :: .int a :: st) cs σ :=
  fun H locs ls hS hW hl => lv_icmp_gt o.1 o.2.1 d ht (fun c => kt c H locs ls hS hW hl) (fun c => kf c H locs ls hS hW hl)
theorem J_icmp_le (o : Ok x w cc nL own ret rm) {a b : Int32} {off : Int} (tgt : Nat) (d : decode cc pc = .ok (.if_icmp .le off, 3)) (ht : (pc : Int) + off = (tgt : Int)) (kt : a ≤ b → J x w Q tgt lv st cs σ) (kf : ¬ (a ≤ b) → J x w Q (pc + 3) lv st cs σ) : J x w Q pc lv (.int b :: .int a :: st) cs σ :=
  fun H locs ls hS hW hl => lv_icmp_le o.1 o.2.1 d ht (fun c => kt c H locs ls hS hW hl) (fun c => kf c H locs ls hS hW hl)
theorem J_goto (o : Ok x w cc nL own ret rm) {off : Int} (tgt : Nat) (d : decode cc pc = .ok (.goto off, 3)) (ht : (pc : Int) + off = (tgt : Int)) (kk : J x w Q tgt lv st cs σ) : J x w Q pc lv st cs σ :=
  fun H locs ls hS hW hl => lv_goto o.1 o.2.1 d ht (kk H locs ls hS hW hl)
theorem J_tableIn (o : Ok x w cc nL own ret rm) {dflt lo hi : Int} {offs : Array Int} {len : Nat} {a : Int32} {off : Int} (tgt : Nat) (d : decode cc pc = .ok (.tableswitch dflt lo hi offs, len)) (h1 : ¬ a.toInt < lo) (h2 : ¬ hi < a.toInt) (ho : offs[(a.toInt - lo).toNat]? = some off) (ht : (pc : Int) + off = (tgt : Int)) (kk : J x w Q tgt lv st cs σ) : J x w Q pc lv (.int a :: st) cs σ :=
  fun H locs ls hS hW hl => lv_tableIn o.1 o.2.1 d h1 h2 ho ht (kk H locs ls hS hW hl)
theorem J_tableOut (o : Ok x w cc nL own ret rm) {dflt lo hi : Int} {offs : Array Int} {len : Nat} {a : Int32} (tgt : Nat) (d : decode cc pc = .ok (.tableswitch dflt lo hi offs, len)) (h : a.toInt < lo ∨ hi < a.toInt) (ht : (pc : Int) + dflt = (tgt : Int)) (kk : J x w Q tgt lv st cs σ) : J x w Q pc lv (.int a :: st) cs σ :=
  fun H locs ls hS hW hl => lv_tableOut o.1 o.2.1 d h ht (kk H locs ls hS hW hl)
theorem J_sub {lv' : List (Nat × Value)} (ks : List Nat) (hl0 : lv_pick lv ks = lv') (kk : J x w Q pc lv' st cs σ) : J x w Q pc lv st cs σ :=
  fun H locs ls hS hW hl => kk H locs ls hS hW (lv_sub hl ks hl0)
/-! fields -/
theorem f_lay {c j : Nat} (hts : ∀ q ∈ TBL, q.before (xA x) (xS x) = true) (h : u_lay (tR c) (tT c) j ∈ TBL) : (Cond.lays (tR c) (tT c j).1 (tT c j).2.1 (tT c j).2.2.1).before (xA x) (xS x) = true ∨ (Cond.laysFinal (tR c) (tT c j).1 (tT c j).2.1 (tT c j).2.2.1).before (xA x) (xS x) = true := by
  have h := hts _ h
  unfold u_lay at h
  split at h
  · exact Or.inr h
  · exact Or.inl h
/-- the j-th field of class c by entry idx of own's file -/
def Fl (own : String) (idx c j : Nat) : Prop := c < 6 ∧ j < nf c ∧ u_lay (tR c) (tT c) j ∈ TBL ∧ (Cond.fieldLink own idx (tT c j).1 (tT c j).2.1 (tT c j).2.2.1) ∈ TBL
theorem J_getV (o : Ok x w cc nL own ret rm) {idx c j k : Nat} (hf : Fl own idx c j) (hk : kd k = c) (h1 : wLo w ≤ k) (h2 : k < wHi w) (d : decode cc pc = .ok (.getfield idx, 3)) (kk : J x w Q (pc + 3) lv (fv (wB w) σ k j :: st) cs σ) : J x w Q pc lv (.ref (wB w + k) :: st) cs σ := by
  intro H locs ls hS hW hl
  obtain ⟨cell, q1, q2, q3, q4⟩ := (hW k h1 h2).obj hk hf.1
  obtain ⟨hSl, hfc, kC, hkC, hkind⟩ := o.2.2.2.2.2.2.2.2.2.1.1 c _ (t_cl hf.1)
  obtain ⟨cf, kf, fi, f, hi, hsl⟩ := hSl j hf.2.1
  refine W.getf o.1 o.2.1 o.2.2.2.1 (o.2.2.2.2.1 _ hf.2.2.2) hi (u_facts hfc hkC (f_lay o.2.2.2.2.1 hf.2.2.1) hi).1 q1 (by rw [q3]; exact fun h => by cases h) (v := fv (wB w) σ k j) ?_ rfl rfl d (kk H locs ls hS hW hl)
  rw [hsl]
  exact q4 j hf.2.1
/-- an int field read -/
theorem J_getI (o : Ok x w cc nL own ret rm) {idx c j k : Nat} (hf : Fl own idx c j) (hk : kd k = c) (h1 : wLo w ≤ k) (h2 : k < wHi w) (hi : isR c j = false) (d : decode cc pc = .ok (.getfield idx, 3)) (kk : J x w Q (pc + 3) lv (.int (σ k j) :: st) cs σ) : J x w Q pc lv (.ref (wB w + k) :: st) cs σ := by
  refine J_getV o hf hk h1 h2 d ?_
  rw [show fv (wB w) σ k j = .int (σ k j) from if_neg (by rw [hk, hi]; decide)]
  exact kk
/-- a reference read -/
theorem J_getR (o : Ok x w cc nL own ret rm) {idx c j k t : Nat} (hf : Fl own idx c j) (hk : kd k = c) (h1 : wLo w ≤ k) (h2 : k < wHi w) (hi : isR c j = true) (ht : tgt k j = t) (d : decode cc pc = .ok (.getfield idx, 3)) (kk : J x w Q (pc + 3) lv (.ref (wB w + t) :: st) cs σ) : J x w Q pc lv (.ref (wB w + k) :: st) cs σ := by
  refine J_getV o hf hk h1 h2 d ?_
  rw [show fv (wB w) σ k j = .ref (wB w + t) from (if_pos (by rw [hk, hi])).trans (by rw [ht])]
  exact kk
theorem J_apart (o : Ok x w cc nL own ret rm) {c : Nat} (hc : c < 6) (hl : ∀ k, k < nf c → u_lay (tR c) (tT c) k ∈ TBL) : ∀ a b, a < nf c → b < nf c → a ≠ b → (wD w).2 c a ≠ (wD w).2 c b := by
  refine va_apart (own := own) (Ts := TBL) o.2.2.2.2.1 (fun q hq => ?_) (tY c) (t_ty hc) (t_nm hc) o.2.2.2.2.2.2.2.2.2.1 (t_cl hc)
  obtain ⟨k, hk, rfl⟩ := List.mem_map.mp hq
  exact hl k (List.mem_range.mp hk)
/-- an int (or boolean) field written -/
theorem J_put (o : Ok x w cc nL own ret rm) {idx c j k : Nat} {v : Int32} (hf : Fl own idx c j) (hls : ∀ k, k < nf c → u_lay (tR c) (tT c) k ∈ TBL) (hk : kd k = c) (h1 : wLo w ≤ k) (h2 : k < wHi w) (hi : isR c j = false) (hfin : (tT c j).2.2.2 = false)
    (hn : narrow (tY c j) (.int v) = .int v) (hfit : fits (tY c j) (.int v) = true) (d : decode cc pc = .ok (.putfield idx, 3)) (kk : J x w Q (pc + 3) lv st cs (st2 σ k j v)) : J x w Q pc lv (.int v :: .ref (wB w + k) :: st) cs σ := by
  intro H locs ls hS hW hl
  obtain ⟨cell, q1, q2, q3, q4⟩ := (hW k h1 h2).obj hk hf.1
  have hap := J_apart o hf.1 hls
  obtain ⟨hSl, hfc, kC, hkC, hkind⟩ := o.2.2.2.2.2.2.2.2.2.1.1 c _ (t_cl hf.1)
  obtain ⟨cf, kf, fi, f, hi2, hsl⟩ := hSl j hf.2.1
  have hlay := o.2.2.2.2.1 _ hf.2.2.1
  unfold u_lay at hlay
  rw [if_neg (by rw [hfin]; decide)] at hlay
  have hst := (u_facts hfc hkC (f_lay o.2.2.2.2.1 hf.2.2.1) hi2).1
  have h6 := u_store hfc hkC hkind hlay hi2 (t_ty hf.1 j hf.2.1) hn hfit
  refine W.putK o.1 o.2.1 (f := f) ⟨o.2.2.2.1, o.2.2.2.2.1 _ hf.2.2.2, ⟨_, _, _, hi2⟩, hst⟩ (by rw [q2]; exact h6) q1 q3 (by rw [hsl]; exact k2_hasslot (q4 j hf.2.1)) rfl rfl d fun H' e1 e2 e3 => ?_
  rw [hsl] at e1 ⊢
  refine kk H' _ ls (hS.put e2 e3 (Or.inl ⟨Nat.add_le_add_left h1 _, Nat.add_lt_add_left h2 _⟩)) (fun k' h1' h2' => ?_) hl
  by_cases hkk : k' = k
  · subst hkk
    unfold Cl
    rw [hk, if_pos hf.1]
    have q5 : t_OB (wB w + k') ((wD w).1 c) (nf c) ((wD w).2 c) H' (updV (fv (wB w) σ k') j (.int v)) := ⟨_, e1, q2, q3, t_set q4 hap hf.2.1 (.int v)⟩
    refine q5.to (fun i _ => ?_)
    unfold updV fv st2
    by_cases hij : i = j
    · subst hij
      rw [if_pos rfl, if_neg (by rw [hk, hi]; decide), if_pos ⟨rfl, rfl⟩]
    · rw [if_neg hij]
      simp [hij]
  · exact (hW k' h1' h2').kept (e3 _ (fun h => hkk (Nat.add_left_cancel h))) (fun j' => st2_ne (fun h => hkk h.1))
/-! int arrays -/
/-- an int array of the world at an offset -/
def IsA (w : Wx) (a : Nat) : Prop := kd a = 6 ∧ wLo w ≤ a ∧ a < wHi w
theorem J_iald (o : Ok x w cc nL own ret rm) {a : Nat} {i : Int32} (ha : IsA w a) (hin : vp_in i (ln a)) (d : decode cc pc = .ok (.iaload, 1)) (kk : J x w Q (pc + 1) lv (.int (σ a i.toNatClampNeg) :: st) cs σ) : J x w Q pc lv (.int i :: .ref (wB w + a) :: st) cs σ := by
  intro H locs ls hS hW hl
  have hlt : i.toNatClampNeg < ln a := Nat.not_le.mp fun q => hin (Or.inr q)
  exact W.iald (v := .int (σ a i.toNatClampNeg)) o.1 o.2.1 ((hW a ha.2.1 ha.2.2).ints ha.1) (o.2.2.2.2.2.2.2.2.2.2.1 0 (by decide) _ _) (fun q => by cases q) (by rw [arrV_size]; exact hin) (by rw [arrV_read _ _ hlt]) rfl rfl d (kk H locs ls hS hW hl)
theorem J_alen (o : Ok x w cc nL own ret rm) {a : Nat} (ha : IsA w a) (d : decode cc pc = .ok (.arraylength, 1)) (kk : J x w Q (pc + 1) lv (.int (Int32.ofNat (ln a)) :: st) cs σ) : J x w Q pc lv (.ref (wB w + a) :: st) cs σ := by
  intro H locs ls hS hW hl
  exact W.alen (n := Int32.ofNat (ln a)) o.1 o.2.1 ((hW a ha.2.1 ha.2.2).ints ha.1) (o.2.2.2.2.2.2.2.2.2.2.1 0 (by decide) _ _) (by rw [arrV_size]) rfl rfl d (kk H locs ls hS hW hl)
theorem J_iast (o : Ok x w cc nL own ret rm) {a : Nat} {i v : Int32} (ha : IsA w a) (hin : vp_in i (ln a)) (d : decode cc pc = .ok (.iastore, 1)) (kk : J x w Q (pc + 1) lv st cs (st2 σ a i.toNatClampNeg v)) : J x w Q pc lv (.int v :: .int i :: .ref (wB w + a) :: st) cs σ := by
  intro H locs ls hS hW hl
  refine W.iast o.1 o.2.1 ((hW a ha.2.1 ha.2.2).ints ha.1) (o.2.2.2.2.2.2.2.2.2.2.1 0 (by decide) _ _) (fun q => by cases q) (by rw [arrV_size]; exact hin) rfl rfl d fun H' e1 e2 e3 => ?_
  refine kk H' _ ls (hS.put e2 e3 (Or.inl ⟨Nat.add_le_add_left ha.2.1 _, Nat.add_lt_add_left ha.2.2 _⟩)) (fun k' h1' h2' => ?_) hl
  by_cases hkk : k' = a
  · subst hkk
    unfold Cl
    rw [ha.1, if_neg (by decide), if_pos rfl, e1, arrV_store]
    refine congrArg some (congrArg (arrV _ _) (funext fun j => ?_))
    unfold updV st2
    by_cases hij : j = i.toNatClampNeg
    · rw [if_pos hij, if_pos ⟨rfl, hij⟩]
    · rw [if_neg hij, if_neg (fun h => hij h.2)]
  · exact (hW k' h1' h2').kept (e3 _ (fun h => hkk (Nat.add_left_cancel h))) (fun j' => st2_ne (fun h => hkk h.1))
/-! arrays of references: kind 6 + i -/
theorem J_aald (o : Ok x w cc nL own ret rm) {a t : Nat} {i : Int32} (n : Nat) (hn : n < 3) (hk : kd a = 6 + (n + 1)) (h1 : wLo w ≤ a) (h2 : a < wHi w) (hin : vp_in i (ln a)) (ht : tgt a i.toNatClampNeg = t) (d : decode cc pc = .ok (.aaload, 1)) (kk : J x w Q (pc + 1) lv (.ref (wB w + t) :: st) cs σ) : J x w Q pc lv (.int i :: .ref (wB w + a) :: st) cs σ := by
  intro H locs ls hS hW hl
  have hlt : i.toNatClampNeg < ln a := Nat.not_le.mp fun q => hin (Or.inr q)
  exact W.aald (v := .ref (wB w + t)) (ty := tyA (n + 1)) o.1 o.2.1 ((hW a h1 h2).refs hk (Nat.succ_pos n)) (o.2.2.2.2.2.2.2.2.2.2.1 (n + 1) (by omega) _ _) (by rcases (show n = 0 ∨ n = 1 ∨ n = 2 by omega) with rfl | rfl | rfl <;> rfl) (fun q => by cases q) (by rw [arrV_size]; exact hin) (by rw [arrV_read _ _ hlt, ht]) rfl rfl d (kk H locs ls hS hW hl)
theorem J_alenR (o : Ok x w cc nL own ret rm) {a : Nat} (n : Nat) (hn : n < 3) (hk : kd a = 6 + (n + 1)) (h1 : wLo w ≤ a) (h2 : a < wHi w) (d : decode cc pc = .ok (.arraylength, 1)) (kk : J x w Q (pc + 1) lv (.int (Int32.ofNat (ln a)) :: st) cs σ) : J x w Q pc lv (.ref (wB w + a) :: st) cs σ := by
  intro H locs ls hS hW hl
  exact W.alen (n := Int32.ofNat (ln a)) (ty := tyA (n + 1)) o.1 o.2.1 ((hW a h1 h2).refs hk (Nat.succ_pos n)) (o.2.2.2.2.2.2.2.2.2.2.1 (n + 1) (by omega) _ _) (by rw [arrV_size]) rfl rfl d (kk H locs ls hS hW hl)
/-! static tables -/
theorem J_tab (o : Ok x w cc nL own ret rm) {t : Nat} {f : Nat → Int32} {i : Int32} (hT : va_T .int t 9 (fun j => .int (f j)) (Lo w) (xS x) (xS x).heap) (hin : vp_in i 9) (d : decode cc pc = .ok (.iaload, 1)) (kk : J x w Q (pc + 1) lv (.int (f i.toNatClampNeg) :: st) cs σ) : J x w Q pc lv (.int i :: .ref t :: st) cs σ :=
  fun H locs ls hS hW hl => va_ti o.1 o.2.1 (hT.narrow (fun _ h => Ar.lo o.2.2.2.2.2.2.2.2.1 h)) hS hin rfl d (kk H locs ls hS hW hl)
theorem J_east (o : Ok x w cc nL own ret rm) {idx : Nat} (hq : (own, idx, "SeaMeeting", "EAST", "[I", "SeaMeeting") ∈ nestF) (d : decode cc pc = .ok (.getstatic idx, 3)) (kk : ∀ t, va_T .int t 9 (fun j => .int (eastT j)) (Lo w) (xS x) (xS x).heap → J x w Q (pc + 3) lv (.ref t :: st) cs σ) : J x w Q pc lv st cs σ := by
  intro H locs ls hS hW hl
  obtain ⟨hB, -, -, hN, -, ⟨t, hZ, hT⟩, -⟩ := o.2.2.2.2.2.2.2.2
  exact va_getsN o.1 o.2.1 (hZ.narrow (fun _ h => Ar.lo hB h)) hS o.2.2.2.1 ((hN _ hq).use rfl) (fun _ h => h) d (kk t hT H locs ls hS hW hl)
theorem J_north (o : Ok x w cc nL own ret rm) {idx : Nat} (hq : (own, idx, "SeaMeeting", "NORTH", "[I", "SeaMeeting") ∈ nestF) (d : decode cc pc = .ok (.getstatic idx, 3)) (kk : ∀ t, va_T .int t 9 (fun j => .int (northT j)) (Lo w) (xS x) (xS x).heap → J x w Q (pc + 3) lv (.ref t :: st) cs σ) : J x w Q pc lv st cs σ := by
  intro H locs ls hS hW hl
  obtain ⟨hB, -, -, hN, -, -, ⟨t, hZ, hT⟩, -⟩ := o.2.2.2.2.2.2.2.2
  exact va_getsN o.1 o.2.1 (hZ.narrow (fun _ h => Ar.lo hB h)) hS o.2.2.2.1 ((hN _ hq).use rfl) (fun _ h => h) d (kk t hT H locs ls hS hW hl)
/-- a String constant -/
theorem J_ldcS (o : Ok x w cc nL own ret rm) {idx i : Nat} {tx : String} (hq : (own, idx, tx, i) ∈ sRef) (d : decode cc pc = .ok (.ldc idx, 2)) (kk : J x w Q (pc + 2) lv (.ref (wK w i) :: st) cs σ) : J x w Q pc lv st cs σ :=
  fun H locs ls hS hW hl => va_ldcS o.1 o.2.1 o.2.2.2.1 (o.2.2.2.2.2.2.2.2.2.2.2.2.2.2.2.2.1 _ hq) d (kk H locs ls hS hW hl)
/-! Math -/
theorem J_min (o : Ok x w cc nL own ret rm) {idx : Nat} {a b : Int32} (hl0 : Cond.methodLink own idx Lib.Math.min.name ∈ TBL) (hs : Cond.static Lib.Math.min.name ∈ TBL) (hi : Cond.initialized "java/lang/Math" ∈ TBL) (hc : Cond.code Lib.Math.min.name Lib.Math.min.code 2 (some .int) ∈ TBL)
    (hR : 1 ≤ rm.frames ∧ (st.map fun v => v.category).sum + 13 ≤ rm.locals ∧ cs.1 ≤ rm.cells ∧ cs.2 ≤ rm.slots) (d : decode cc pc = .ok (.invokestatic idx, 3)) (kk : J x w Q (pc + 3) lv (.int (if b < a then b else a) :: st) cs σ) : J x w Q pc lv (.int b :: .int a :: st) cs σ :=
  fun H locs ls hS hW hl => va_mmin o.1 o.2.1 hl.1.symm o.2.2.2.1 (o.2.2.2.2.1 _ hl0) (o.2.2.2.2.1 _ hs) (o.2.2.2.2.1 _ hi) (o.2.2.2.2.1 _ hc) (by rw [o.2.2.2.2.2.2.2.1]; exact hR.1) (by rw [o.2.2.2.2.2.2.2.1]; exact hR.2.1) (by rw [o.2.2.2.2.2.2.2.1]; exact hR.2.2.1) (by rw [o.2.2.2.2.2.2.2.1]; exact hR.2.2.2) d (kk H locs ls hS hW hl)
theorem J_max (o : Ok x w cc nL own ret rm) {idx : Nat} {a b : Int32} (hl0 : Cond.methodLink own idx Lib.Math.max.name ∈ TBL) (hs : Cond.static Lib.Math.max.name ∈ TBL) (hi : Cond.initialized "java/lang/Math" ∈ TBL) (hc : Cond.code Lib.Math.max.name Lib.Math.max.code 2 (some .int) ∈ TBL)
    (hR : 1 ≤ rm.frames ∧ (st.map fun v => v.category).sum + 13 ≤ rm.locals ∧ cs.1 ≤ rm.cells ∧ cs.2 ≤ rm.slots) (d : decode cc pc = .ok (.invokestatic idx, 3)) (kk : J x w Q (pc + 3) lv (.int (if a < b then b else a) :: st) cs σ) : J x w Q pc lv (.int b :: .int a :: st) cs σ :=
  fun H locs ls hS hW hl => va_mmax o.1 o.2.1 hl.1.symm o.2.2.2.1 (o.2.2.2.2.1 _ hl0) (o.2.2.2.2.1 _ hs) (o.2.2.2.2.1 _ hi) (o.2.2.2.2.1 _ hc) (by rw [o.2.2.2.2.2.2.2.1]; exact hR.1) (by rw [o.2.2.2.2.2.2.2.1]; exact hR.2.1) (by rw [o.2.2.2.2.2.2.2.1]; exact hR.2.2.1) (by rw [o.2.2.2.2.2.2.2.1]; exact hR.2.2.2) d (kk H locs ls hS hW hl)
theorem J_abs (o : Ok x w cc nL own ret rm) {idx : Nat} {a : Int32} (hl0 : Cond.methodLink own idx Lib.Math.abs.name ∈ TBL) (hs : Cond.static Lib.Math.abs.name ∈ TBL) (hi : Cond.initialized "java/lang/Math" ∈ TBL) (hc : Cond.code Lib.Math.abs.name Lib.Math.abs.code 1 (some .int) ∈ TBL)
    (hR : 1 ≤ rm.frames ∧ (st.map fun v => v.category).sum + 13 ≤ rm.locals ∧ cs.1 ≤ rm.cells ∧ cs.2 ≤ rm.slots) (d : decode cc pc = .ok (.invokestatic idx, 3)) (kk : J x w Q (pc + 3) lv (.int (if 0 ≤ a then a else 0 - a) :: st) cs σ) : J x w Q pc lv (.int a :: st) cs σ :=
  fun H locs ls hS hW hl => va_mabs o.1 o.2.1 hl.1.symm o.2.2.2.1 (o.2.2.2.2.1 _ hl0) (o.2.2.2.2.1 _ hs) (o.2.2.2.2.1 _ hi) (o.2.2.2.2.1 _ hc) (by rw [o.2.2.2.2.2.2.2.1]; exact hR.1) (by rw [o.2.2.2.2.2.2.2.1]; exact hR.2.1) (by rw [o.2.2.2.2.2.2.2.1]; exact hR.2.2.1) (by rw [o.2.2.2.2.2.2.2.1]; exact hR.2.2.2) d (kk H locs ls hS hW hl)
/-! System.arraycopy -/
def cp2 (σ : Sg) (a sp b dp n : Nat) : Sg := fun k i => if k = b ∧ dp ≤ i ∧ i < dp + n then σ a (sp + (i - dp)) else σ k i
theorem J_copy (o : Ok x w cc nL own ret rm) {idx a b : Nat} {sp dp n : Int32} (hl0 : Cond.methodLink own idx arraycopyName ∈ TBL) (hnat : Cond.native arraycopyName ∈ TBL) (hstat : Cond.static arraycopyName ∈ TBL) (hini : Cond.initialized "java/lang/System" ∈ TBL)
    (ha : IsA w a) (hb : IsA w b) (h1 : ¬ sp < 0) (h2 : ¬ dp < 0) (h3 : ¬ n < 0) (h4 : sp.toNatClampNeg + n.toNatClampNeg ≤ ln a) (h5 : dp.toNatClampNeg + n.toNatClampNeg ≤ ln b)
    (hR : 1 ≤ rm.frames ∧ (st.map fun v => v.category).sum + (nativeFrameWords "java/lang/System" "arraycopy" 5 + 11) ≤ rm.locals) (d : decode cc pc = .ok (.invokestatic idx, 3))
    (kk : J x w Q (pc + 3) lv st cs (cp2 σ a sp.toNatClampNeg b dp.toNatClampNeg n.toNatClampNeg)) : J x w Q pc lv (.int n :: .int dp :: .ref (wB w + b) :: .int sp :: .ref (wB w + a) :: st) cs σ := by
  intro H locs ls hS hW hl
  have nn : ∀ z : Int32, ¬ z < 0 → z.toInt = (z.toNatClampNeg : Int) := by
    intro z hz
    have hz0 : (0 : Int) ≤ z.toInt := by
      have := Int32.not_lt.mp hz
      simpa using Int32.le_iff_toInt_le.mp this
    show z.toInt = ((z.toInt.toNat : Nat) : Int)
    omega
  have hc0 := (hW a ha.2.1 ha.2.2).ints ha.1
  have hc1 := (hW b hb.2.1 hb.2.2).ints hb.1
  have hAr := o.2.2.2.2.2.2.2.2.2.2.1 0 (by decide)
  intro T hT X
  obtain ⟨-, k0, hk0, cm0, hkk0⟩ := hAr (ln a) (fun j => .int (σ a j))
  obtain ⟨-, k1, hk1, cm1, hkk1⟩ := hAr (ln b) (fun j => .int (σ b j))
  have hb' := o.2.1
  have hml := hl.1
  obtain ⟨vm', X', step⟩ := X.arraycopy o.1 o.2.2.2.1 (o.2.2.2.2.1 _ hl0) (o.2.2.2.2.1 _ hnat) (o.2.2.2.2.1 _ hstat) (o.2.2.2.2.1 _ hini) (src := wB w + a) (dst := wB w + b) (cs := arrV (wT w 0) (ln a) (fun j => .int (σ a j))) (cd := arrV (wT w 0) (ln b) (fun j => .int (σ b j))) (srcPos := sp) (destPos := dp) (n := n) (by rw [hT]; exact hc0) (by rw [hT]; exact hc1)
    (fun _ h => by cases h) (fun _ h => by cases h) (fun h => by cases h) (fun h => by cases h) hk0 hk1 hkk0 hkk1 (by simp [refKind, tyA]) h1 h2 h3
    (by rw [nn sp h1, nn n h3, arrV_size]; omega)
    (by rw [nn dp h2, nn n h3]; show ¬ _ > ((arrV (wT w 0) (ln b) (fun j => .int (σ b j))).slots.size : Int); rw [arrV_size]; omega)
    (fun vm₁ _ i hi => by
      have e : (arrV (wT w 0) (ln a) (fun j => .int (σ a j))).slots.getD (sp.toNatClampNeg + i) .null = .int (σ a (sp.toNatClampNeg + i)) := by
        rw [Array.getD_eq_getD_getElem?, arrV_read _ _ (by omega)]
        rfl
      refine ⟨?_, ?_⟩
      · rw [e]
        rfl
      · rw [e]
        exact trivial)
    (g := F0 (xM x) pc ls (.int n :: .int dp :: .ref (wB w + b) :: .int sp :: .ref (wB w + a) :: st)) rfl (by rw [hml]) (rest := st) rfl (by rw [hb']; exact d) (by rw [o.2.2.2.2.2.2.2.1]; exact hR.1) (by rw [o.2.2.2.2.2.2.2.1]; show 2 * 0 + _ + _ ≤ _; have := hR.2; omega)
  have e1 : copied (arrV (wT w 0) (ln a) (fun j => .int (σ a j))) (arrV (wT w 0) (ln b) (fun j => .int (σ b j))) sp dp n = arrV (wT w 0) (ln b) (fun j => .int (va_cpy (σ a) (σ b) sp.toNatClampNeg dp.toNatClampNeg n.toNatClampNeg j)) := va_copiedX (fun z => .int z) _ (wT w 0) (σ a) (σ b) (n0 := ln a) (fun j hj => arrV_read _ _ hj) h4
  rw [e1] at X' step
  have hl' : wB w + b < H.size := (Array.getElem?_eq_some_iff.mp hc1).1
  obtain ⟨nc, hnc⟩ : ∃ z, z = arrV (wT w 0) (ln b) (fun j => .int (va_cpy (σ a) (σ b) sp.toNatClampNeg dp.toNatClampNeg n.toNatClampNeg j)) := ⟨_, rfl⟩
  rw [← hnc] at X' step
  have hheap : ((T.setVm vm').setCell (wB w + b) nc).heap = H.setIfInBounds (wB w + b) nc := by rw [← hT]; rfl
  have oq : ∀ q : Nat, q ≠ wB w + b → (H.setIfInBounds (wB w + b) nc)[q]? = H[q]? := fun q hq => by simp [Array.getElem?_setIfInBounds, Ne.symm hq]
  have oA : Ar w (xS x).heap.size (wB w + b) := Or.inl ⟨Nat.add_le_add_left hb.2.1 _, Nat.add_lt_add_left hb.2.2 _⟩
  obtain ⟨t, a1, b1⟩ := kk _ _ ls ⟨by simp; exact hS.1, fun q g1 g2 => by
      rw [oq q (fun e => g2 (by rw [e]; exact oA))]
      exact hS.2.1 q g1 g2, fun q hq => by
      rcases List.mem_append.mp hq with h | h
      · exact hS.2.2 q h
      · obtain ⟨z, -, hz⟩ := List.mem_map.mp h
        rw [← hz]
        exact oA⟩ (fun k' h1' h2' => by
      by_cases hkk : k' = b
      · subst hkk
        unfold Cl
        rw [hb.1, if_neg (by decide), if_pos rfl, show (H.setIfInBounds (wB w + k') nc)[wB w + k']? = some nc by simp [Array.getElem?_setIfInBounds, hl'], hnc]
        refine congrArg some (congrArg (arrV _ _) (funext fun j => ?_))
        unfold va_cpy cp2
        by_cases hij : dp.toNatClampNeg ≤ j ∧ j < dp.toNatClampNeg + n.toNatClampNeg
        · rw [if_pos hij, if_pos ⟨rfl, hij⟩]
        · rw [if_neg hij, if_neg (fun h => hij h.2)]
      · exact (hW k' h1' h2').kept (oq _ (fun h => hkk (Nat.add_left_cancel h))) (fun j' => if_neg (fun h => hkk h.1))) hl _ hheap X'
  exact ⟨t, step t a1, b1⟩
/-! calls -/
def PI (K : Int32 → Sg → Prop) : Outcome → Sg → Prop := fun o σ => ∃ r, o = .returned (some (.int r)) ∧ K r σ
def PZ (K : Int32 → Sg → Prop) : Outcome → Sg → Prop := fun o σ => ∃ r, o = .returned (some (.int r)) ∧ (r = 0 ∨ r = 1) ∧ K r σ
def PV (K : Sg → Prop) : Outcome → Sg → Prop := fun o σ => o = .returned none ∧ K σ
def PL (K : Int64 → Sg → Prop) : Outcome → Sg → Prop := fun o σ => ∃ r, o = .returned (some (.long r)) ∧ K r σ
def PA (w : Wx) (T : Nat → Prop) (K : Nat → Sg → Prop) : Outcome → Sg → Prop := fun o σ => ∃ k, o = .returned (some (.ref (wB w + k))) ∧ T k ∧ K k σ
def PS (w : Wx) (K : Nat → Sg → Prop) : Outcome → Sg → Prop := fun o σ => ∃ k, o = .returned (some (.ref (wK w k))) ∧ k < nS ∧ K k σ
theorem aI {K : Int32 → Sg → Prop} (kk : ∀ r σ', K r σ' → J x w Q pc lv (.int r :: st) cs σ') : ∀ v σ', PI K (.returned v) σ' → J x w Q pc lv (v.toList ++ st) cs σ' := by
  rintro v σ' ⟨r, hv, h⟩
  cases hv
  exact kk r σ' h
theorem aZ {K : Int32 → Sg → Prop} (kk : ∀ r σ', (r = 0 ∨ r = 1) → K r σ' → J x w Q pc lv (.int r :: st) cs σ') : ∀ v σ', PZ K (.returned v) σ' → J x w Q pc lv (v.toList ++ st) cs σ' := by
  rintro v σ' ⟨r, hv, h1, h⟩
  cases hv
  exact kk r σ' h1 h
theorem aV {K : Sg → Prop} (kk : ∀ σ', K σ' → J x w Q pc lv st cs σ') : ∀ v σ', PV K (.returned v) σ' → J x w Q pc lv (v.toList ++ st) cs σ' := by
  rintro v σ' ⟨hv, h⟩
  cases hv
  exact kk σ' h
theorem aL {K : Int64 → Sg → Prop} (kk : ∀ r σ', K r σ' → J x w Q pc lv (.long r :: st) cs σ') : ∀ v σ', PL K (.returned v) σ' → J x w Q pc lv (v.toList ++ st) cs σ' := by
  rintro v σ' ⟨r, hv, h⟩
  cases hv
  exact kk r σ' h
theorem aA {T : Nat → Prop} {K : Nat → Sg → Prop} (kk : ∀ k σ', T k → K k σ' → J x w Q pc lv (.ref (wB w + k) :: st) cs σ') : ∀ v σ', PA w T K (.returned v) σ' → J x w Q pc lv (v.toList ++ st) cs σ' := by
  rintro v σ' ⟨r, hv, h1, h⟩
  cases hv
  exact kk r σ' h1 h
theorem aS {K : Nat → Sg → Prop} (kk : ∀ k σ', k < nS → K k σ' → J x w Q pc lv (.ref (wK w k) :: st) cs σ') : ∀ v σ', PS w K (.returned v) σ' → J x w Q pc lv (v.toList ++ st) cs σ' := by
  rintro v σ' ⟨r, hv, h1, h⟩
  cases hv
  exact kk r σ' h1 h
/-- what the tables say of a method: code, its class, how many parameters -/
def Mth (y : MethodName) (bytes : ByteArray) (maxL : Nat) (rt : Option FieldType) (n : Nat) : Prop :=
  Cond.code y bytes maxL rt ∈ TBL ∧ Cond.initialized y.cls ∈ TBL ∧ (y.cls ≠ "java/lang/invoke/MethodHandle" ∧ y.cls ≠ "java/lang/invoke/VarHandle") ∧ (parseMethodDescriptor y.desc).map (fun d => d.parameters.length) = some n
theorem Mth.len {y : MethodName} {bytes : ByteArray} {maxL : Nat} {rt : Option FieldType} {n : Nat} (h : Mth y bytes maxL rt n) : ∀ sig, parseMethodDescriptor y.desc = some sig → n = sig.parameters.length := by
  intro sig hs
  have h2 := h.2.2.2
  rw [hs] at h2
  exact (Option.some.inj h2).symm
theorem J_fix (o : Ok x w cc nL own ret rm) : CallFix (xP x) (xM x) (xC x) cc nL (xS x) (xA x) TBL own := ⟨o.1, o.2.1, o.2.2.1, o.2.2.2.1, o.2.2.2.2.1⟩
theorem J_cB (o : Ok x w cc nL own ret rm) {y : MethodName} {bytes : ByteArray} {maxL n idx : Nat} {rt : Option FieldType} {r2 : Room} (hm : Mth y bytes maxL rt n) (hl : Cond.methodLink own idx y ∈ TBL) (hR : r2.frames + 1 ≤ rm.frames ∧ 8 + (maxL + 11) + r2.locals ≤ rm.locals) :
    CallB (xR x) (xS x) (xA x) own idx y bytes maxL rt (.code y bytes maxL rt :: TBL) r2 r2.cells r2.slots n :=
  ⟨rfl, rfl, by rw [o.2.2.2.2.2.2.2.1]; exact hR.1, by rw [o.2.2.2.2.2.2.2.1]; exact hR.2, pay_in o.2.2.2.2.1 (tb_goodL y bytes maxL rt hm.1), List.mem_cons_self, o.2.2.2.2.1 _ hm.1, o.2.2.2.2.1 _ hm.2.1, hm.2.2.1, hm.len, o.2.2.2.2.1 _ hl⟩
theorem J_cN (o : Ok x w cc nL own ret rm) {y : MethodName} {bytes : ByteArray} {maxL n idx : Nat} {rt : Option FieldType} {r2 : Room} {host : String} (hm : Mth y bytes maxL rt n) (hl : (own, idx, y, host) ∈ nestM) (hR : r2.frames + 1 ≤ rm.frames ∧ 8 + (maxL + 11) + r2.locals ≤ rm.locals) :
    va_CN (xR x) (xS x) (xA x) own idx y host bytes maxL rt (.code y bytes maxL rt :: TBL) r2 r2.cells r2.slots n :=
  ⟨⟨rfl, rfl, by rw [o.2.2.2.2.2.2.2.1]; exact hR.1, by rw [o.2.2.2.2.2.2.2.1]; exact hR.2, pay_in o.2.2.2.2.1 (tb_goodL y bytes maxL rt hm.1), List.mem_cons_self⟩, o.2.2.2.2.1 _ hm.1, o.2.2.2.2.1 _ hm.2.1, hm.2.2.1, hm.len, (o.2.2.2.2.2.2.2.2.2.2.2.2.1 _ hl).use rfl⟩
theorem J_pre (o : Ok x w cc nL own ret rm) {H : Heap} {locs : List Loc} {As : List Value} (hS : va_S (Ar w (xS x).heap.size) (xS x).heap H locs) (hW : Wd w σ H) : PreS (xS x) H (PreC w As σ H.size) As :=
  ⟨PreC.blind, fun U hU hWm => ⟨rfl, by rw [hU], by rw [hU]; exact o.2.2.2.2.2.2.2.2.at hS hWm, by rw [hU]; exact hW⟩⟩
theorem J_after {H : Heap} {locs : List Loc} {ls : Array Slot} {st0 : List Value} {mc ms : Nat} {a : Array Value} {P : Outcome → Sg → Prop} (hS : va_S (Ar w (xS x).heap.size) (xS x).heap H locs) (hl : lv_has ls (xC x).maxLocals lv)
    (hr : va_Run (xP x) (xL x) (xE x) (xR x) (xS x) (xM x) (xA x) (xW x) (xY x) (xC x) H locs cs.1 cs.2 mc ms (F0 (xM x) pc ls st0) st (PostC w P a) (Ar w H.size))
    (kk : ∀ v σ', P (.returned v) σ' → J x w Q (pc + 3) lv (v.toList ++ st) (cs.1 + mc, cs.2 + ms) σ') : W (xP x) (xL x) (xE x) (xR x) (xS x) (xM x) (xA x) (xW x) (xY x) (xC x) H locs cs.1 cs.2 Q (F0 (xM x) pc ls st0) := by
  have hA : ∀ q, Ar w H.size q → Ar w (xS x).heap.size q := fun q h => h.imp id (fun z => Nat.le_trans hS.1 z)
  intro T hT X
  obtain ⟨v, st₀, t, T', L, h0, X', hL, e1, e2, ⟨⟨σ', hp, hw⟩, hz, hk⟩, go⟩ := hr T hT X
  rw [h0] at hz hk
  have hS' : va_S (Ar w (xS x).heap.size) (xS x).heap T'.heap (locs ++ L) := ⟨Nat.le_trans hS.1 (by rw [e1]; exact hz), fun q h1 h2 => by rw [e1, hk q (Nat.lt_of_lt_of_le h1 hS.1) (fun z => h2 (hA q z))]; exact hS.2.1 q h1 h2, fun q hq => by
      rcases List.mem_append.mp hq with h | h
      · exact hS.2.2 q h
      · exact hA _ (hL q h)⟩
  obtain ⟨t2, a1, b1⟩ := kk v σ' hp T'.heap (locs ++ L) ls hS' (by rw [e1]; exact hw) hl T' rfl X'
  exact ⟨t2, go t2 a1, b1⟩
theorem J_callS (o : Ok x w cc nL own ret rm) {y : MethodName} {bytes : ByteArray} {maxL n idx : Nat} {rt : Option FieldType} {r2 : Room} {P : Outcome → Sg → Prop} {st0 : List Value} (As : List Value) (hm : Mth y bytes maxL rt n) (hs : Cond.static y ∈ TBL) (hl0 : Cond.methodLink own idx y ∈ TBL) (hR : r2.frames + 1 ≤ rm.frames ∧ 8 + (maxL + 11) + r2.locals ≤ rm.locals)
    (hn : As.length = n) (hstack : st0 = As.reverse ++ st) (hr8 : (st.map fun v => v.category).sum ≤ 8) (hcs : cs.1 + r2.cells ≤ rm.cells ∧ cs.2 + r2.slots ≤ rm.slots) (d : decode cc pc = .ok (.invokestatic idx, 3)) (hC : Ct (xL x) w y bytes maxL rt r2 As σ P)
    (kk : ∀ v σ', P (.returned v) σ' → J x w Q (pc + 3) lv (v.toList ++ st) (cs.1 + r2.cells, cs.2 + r2.slots) σ') : J x w Q pc lv st0 cs σ := by
  intro H locs ls hS hW hl
  subst hstack
  exact J_after hS hl (va_runS (J_fix o) (hC H.size) ⟨J_cB o hm hl0 hR, o.2.2.2.2.1 _ hs⟩ (J_pre o hS hW) rfl hn (hl.1.trans o.2.2.1) rfl (lv_room hr8) d (by rw [o.2.2.2.2.2.2.2.1]; exact hcs)) kk
theorem J_callSN (o : Ok x w cc nL own ret rm) {y : MethodName} {bytes : ByteArray} {maxL n idx : Nat} {rt : Option FieldType} {r2 : Room} {host : String} {P : Outcome → Sg → Prop} {st0 : List Value} (As : List Value) (hm : Mth y bytes maxL rt n) (hs : Cond.static y ∈ TBL) (hl0 : (own, idx, y, host) ∈ nestM) (hR : r2.frames + 1 ≤ rm.frames ∧ 8 + (maxL + 11) + r2.locals ≤ rm.locals)
    (hn : As.length = n) (hstack : st0 = As.reverse ++ st) (hr8 : (st.map fun v => v.category).sum ≤ 8) (hcs : cs.1 + r2.cells ≤ rm.cells ∧ cs.2 + r2.slots ≤ rm.slots) (d : decode cc pc = .ok (.invokestatic idx, 3)) (hC : Ct (xL x) w y bytes maxL rt r2 As σ P)
    (kk : ∀ v σ', P (.returned v) σ' → J x w Q (pc + 3) lv (v.toList ++ st) (cs.1 + r2.cells, cs.2 + r2.slots) σ') : J x w Q pc lv st0 cs σ := by
  intro H locs ls hS hW hl
  subst hstack
  exact J_after hS hl (va_runSN (J_fix o) (hC H.size) ⟨J_cN o hm hl0 hR, o.2.2.2.2.1 _ hs, trivial⟩ (J_pre o hS hW) rfl hn (hl.1.trans o.2.2.1) rfl (lv_room hr8) d (by rw [o.2.2.2.2.2.2.2.1]; exact hcs)) kk
theorem J_recv (o : Ok x w cc nL own ret rm) {H : Heap} {k c : Nat} (hW : Wd w σ H) (hk : kd k = c) (hc : c < 6) (h1 : wLo w ≤ k) (h2 : k < wHi w) : ∃ cellB : Cell, H[wB w + k]? = some cellB ∧ cellB.vm.isStatics = false ∧ (xS x).vm.findClass (tR c) = some cellB.cls := by
  obtain ⟨cell, q1, q2, q3, -⟩ := (hW k h1 h2).obj hk hc
  obtain ⟨-, hfc, -⟩ := o.2.2.2.2.2.2.2.2.2.1.1 c _ (t_cl hc)
  exact ⟨cell, q1, by rw [q3]; rfl, by rw [q2]; exact hfc⟩
theorem J_callV (o : Ok x w cc nL own ret rm) {y : MethodName} {bytes : ByteArray} {maxL n idx k c : Nat} {rt : Option FieldType} {r2 : Room} {P : Outcome → Sg → Prop} {st0 : List Value} (As : List Value) (hk : kd k = c) (hc : c < 6) (h1 : wLo w ≤ k) (h2 : k < wHi w) (hm : Mth y bytes maxL rt n) (hs : Cond.instanceMethod y ∈ TBL ∧ Cond.selects (tR c) y y ∈ TBL) (hl0 : Cond.methodLink own idx y ∈ TBL) (hR : r2.frames + 1 ≤ rm.frames ∧ 8 + (maxL + 11) + r2.locals ≤ rm.locals)
    (hn : As.length = n) (hstack : st0 = As.reverse ++ .ref (wB w + k) :: st) (hr8 : (st.map fun v => v.category).sum ≤ 8) (hcs : cs.1 + r2.cells ≤ rm.cells ∧ cs.2 + r2.slots ≤ rm.slots) (d : decode cc pc = .ok (.invokevirtual idx, 3)) (hC : Ct (xL x) w y bytes maxL rt r2 (.ref (wB w + k) :: As) σ P)
    (kk : ∀ v σ', P (.returned v) σ' → J x w Q (pc + 3) lv (v.toList ++ st) (cs.1 + r2.cells, cs.2 + r2.slots) σ') : J x w Q pc lv st0 cs σ := by
  intro H locs ls hS hW hl
  subst hstack
  have hp := J_pre (As := .ref (wB w + k) :: As) o hS hW
  exact J_after hS hl (va_runV (C := tR c) (b := wB w + k) (J_fix o) (hC H.size) ⟨J_cB o hm hl0 hR, o.2.2.2.2.1 _ hs.1, o.2.2.2.2.1 _ hs.2⟩ ⟨hp.1, J_recv o hW hk hc h1 h2, hp.2⟩ rfl hn (hl.1.trans o.2.2.1) rfl (lv_room hr8) d (by rw [o.2.2.2.2.2.2.2.1]; exact hcs)) kk
/-- a call on a String constant -/
theorem J_callT (o : Ok x w cc nL own ret rm) {y : MethodName} {bytes : ByteArray} {maxL n idx k : Nat} {rt : Option FieldType} {r2 : Room} {P : Outcome → Sg → Prop} {st0 : List Value} (As : List Value) (hk : k < nS) (hm : Mth y bytes maxL rt n) (hs : Cond.instanceMethod y ∈ TBL ∧ Cond.selects "java/lang/String" y y ∈ TBL) (hl0 : Cond.methodLink own idx y ∈ TBL) (hR : r2.frames + 1 ≤ rm.frames ∧ 8 + (maxL + 11) + r2.locals ≤ rm.locals)
    (hn : As.length = n) (hstack : st0 = As.reverse ++ .ref (wK w k) :: st) (hr8 : (st.map fun v => v.category).sum ≤ 8) (hcs : cs.1 + r2.cells ≤ rm.cells ∧ cs.2 + r2.slots ≤ rm.slots) (d : decode cc pc = .ok (.invokevirtual idx, 3)) (hC : Ct (xL x) w y bytes maxL rt r2 (.ref (wK w k) :: As) σ P)
    (kk : ∀ v σ', P (.returned v) σ' → J x w Q (pc + 3) lv (v.toList ++ st) (cs.1 + r2.cells, cs.2 + r2.slots) σ') : J x w Q pc lv st0 cs σ := by
  intro H locs ls hS hW hl
  subst hstack
  have hp := J_pre (As := .ref (wK w k) :: As) o hS hW
  have hB := o.2.2.2.2.2.2.2.2.1
  exact J_after hS hl (va_runV (C := "java/lang/String") (b := wK w k) (J_fix o) (hC H.size) ⟨J_cB o hm hl0 hR, o.2.2.2.2.1 _ hs.1, o.2.2.2.2.1 _ hs.2⟩ ⟨hp.1, vs_recv (o.2.2.2.2.2.2.2.2.2.2.2.2.2.2.2.1.narrow (fun _ h => Ar.lo hB h)) hk hS, hp.2⟩ rfl hn (hl.1.trans o.2.2.1) rfl (lv_room hr8) d (by rw [o.2.2.2.2.2.2.2.1]; exact hcs)) kk
/-! ends -/
theorem J_post {P : Outcome → Sg → Prop} {oc : Outcome} {H : Heap} {locs : List Loc} (hS : va_S (Ar w (xS x).heap.size) (xS x).heap H locs) (hW : Wd w σ H) (h : P oc σ) : ∀ t : State, t.heap = H → (xS x).WarmedH t.vm → PostC w P (xA x) (xS x) oc t :=
  fun t ht _ => ⟨⟨σ, h, by rw [ht]; exact hW⟩, hS.F ht⟩
theorem J_iret (o : Ok x w cc nL own (some .int) rm) {P : Outcome → Sg → Prop} {v : Int32} (d : decode cc pc = .ok (.ireturn, 1)) (h : P (.returned (some (.int v))) σ) : J x w (FinC x w P cs) pc lv [.int v] cs σ :=
  fun H locs ls hS hW hl => W.iret (hlocks := o.2.2.2.2.2.1) o.1 o.2.1 o.2.2.2.2.2.2.1 (J_post hS hW h) hS.2.2 d
theorem J_zret (o : Ok x w cc nL own (some .boolean) rm) {P : Outcome → Sg → Prop} {v : Int32} (hv : v = 0 ∨ v = 1) (d : decode cc pc = .ok (.ireturn, 1)) (h : P (.returned (some (.int v))) σ) : J x w (FinC x w P cs) pc lv [.int v] cs σ :=
  fun H locs ls hS hW hl => W.zret (hlocks := o.2.2.2.2.2.1) o.1 o.2.1 o.2.2.2.2.2.2.1 (by rcases hv with rfl | rfl <;> rfl) (J_post hS hW h) hS.2.2 d
theorem J_vret (o : Ok x w cc nL own none rm) {P : Outcome → Sg → Prop} (d : decode cc pc = .ok (.return_, 1)) (h : P (.returned none) σ) : J x w (FinC x w P cs) pc lv [] cs σ :=
  fun H locs ls hS hW hl => W.vret (hlocks := o.2.2.2.2.2.1) o.1 o.2.1 o.2.2.2.2.2.2.1 (J_post hS hW h) hS.2.2 d
theorem J_lret (o : Ok x w cc nL own (some .long) rm) {P : Outcome → Sg → Prop} {v : Int64} (d : decode cc pc = .ok (.lreturn, 1)) (h : P (.returned (some (.long v))) σ) : J x w (FinC x w P cs) pc lv [.long v] cs σ :=
  fun H locs ls hS hW hl => W.lret (hlocks := o.2.2.2.2.2.1) o.1 o.2.1 o.2.2.2.2.2.2.1 (J_post hS hW h) hS.2.2 d
theorem J_aret {rt : FieldType} (o : Ok x w cc nL own (some rt) rm) {P : Outcome → Sg → Prop} {a : Nat} (hrt : (∃ n, rt = .object n) ∨ ∃ t, rt = .array t) (d : decode cc pc = .ok (.areturn, 1)) (h : P (.returned (some (.ref a))) σ) : J x w (FinC x w P cs) pc lv [.ref a] cs σ :=
  fun H locs ls hS hW hl => W.aret (hlocks := o.2.2.2.2.2.1) o.1 o.2.1 o.2.2.2.2.2.2.1 hrt (Or.inr ⟨_, rfl⟩) (J_post hS hW h) hS.2.2 d
end
