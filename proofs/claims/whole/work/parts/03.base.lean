/-! the flat heap: every cell of the class and of the reference by its offset from the base -/
/-- kind of the cell at an offset: 0 to 5 objects (as in vwCl), 6 int[], 7 Sailing[], 8 World[], 9 int[][], 10 long[] -/
def kd (k : Nat) : Nat :=
  if k = 0 then 4 else if k = 2 then 3 else if k = 10 then 3 else if k = 18 then 2 else if k = 19 then 0
  else if k = 24 then 7 else if k = 25 then 9 else if k = 87 then 9 else if k = 90 then 1 else if k = 91 then 9
  else if k = 154 then 1 else if k = 155 then 9 else if k = 218 then 1 else if k = 219 then 9 else if k = 282 then 8
  else if 283 ≤ k ∧ k < 347 ∧ (k - 283) % 8 = 0 then 3
  else if k = 347 then 5 else if k = 352 then 9 else if k = 363 then 9 else if k = 425 then 9 else if k = 487 then 9 else if k = 549 then 10 else 6
/-- lengths of a World's rows -/
def wl (j : Nat) : Nat := if j = 1 then 3 else if j = 2 then 3 else if j = 3 then 240 else if j = 4 then 240 else if j = 5 then 24 else if j = 6 then 12 else 561
/-- lengths of arrays -/
def ln (k : Nat) : Nat :=
  if k = 1 then 400 else if k < 10 then wl (k - 2) else if k < 18 then wl (k - 10) else if k = 20 then 61 else if k = 21 then 61
  else if k = 22 then 2160 else if k = 23 then 540 else if k = 24 then 3 else if k = 25 then 61 else if k < 87 then 240 else if k = 87 then 2
  else if k < 90 then 240 else if k < 282 then (if (k - 90) % 64 = 1 then 61 else if (k - 90) % 64 = 63 then 60 else 240)
  else if k = 282 then 8 else if k < 347 then wl ((k - 283) % 8) else if k = 348 then 3 else if k = 349 then 400 else if k = 352 then 8
  else if k < 361 then 1098 else if k < 363 then 61 else if k = 363 then 61 else if k = 425 then 61 else if k = 487 then 61 else if k < 549 then 240 else 1
/-- what the references point at, by place -/
def tgt (k j : Nat) : Nat :=
  if k = 0 then (if j = 0 then 1 else if j = 1 then 2 else if j = 2 then 10 else if j = 3 then 18 else if j = 4 then 19 else 282)
  else if k = 18 then (if j = 0 then 1 else 10)
  else if k = 19 then (if j = 0 then 2 else if j = 1 then 20 else if j = 2 then 21 else if j = 3 then 22 else if j = 4 then 23 else if j = 5 then 24 else if j = 6 then 25 else 87)
  else if k = 24 then 90 + 64 * j
  else if k = 282 then 283 + 8 * j
  else if kd k = 1 then (if j = 0 then k + 1 else k + 63)
  else if k = 347 then (if j = 1 then 348 else if j = 8 then 349 else if j = 9 then 350 else if j = 10 then 351 else if j = 11 then 352 else if j = 15 then 361 else if j = 16 then 362 else if j = 17 then 363 else if j = 18 then 425 else 487)
  else if kd k = 3 then k + (j - 9)
  else k + 1 + j
/-- is the j-th field of a class a reference -/
def isR (c j : Nat) : Bool :=
  if c = 0 then decide (j < 8) else if c = 1 then decide (j < 2) else if c = 2 then decide (j < 2) else if c = 3 then decide (10 ≤ j) else if c = 4 then decide (j < 6)
  else decide (j = 1) || decide (j = 8) || decide (j = 9) || decide (j = 10) || decide (j = 11) || decide (15 ≤ j)
def nf (c : Nat) : Nat := if c = 0 then 10 else if c = 1 then 4 else if c = 2 then 15 else if c = 3 then 17 else if c = 4 then 13 else 20
def tR (c : Nat) : String := if c = 0 then RX0 else if c = 1 then RX1 else if c = 2 then RX2 else if c = 3 then RX3 else if c = 4 then RX4 else RX5
def tT (c : Nat) : u_T := if c = 0 then TX0 else if c = 1 then TX1 else if c = 2 then TX2 else if c = 3 then TX3 else if c = 4 then TX4 else TX5
def tY (c : Nat) : Nat → FieldType := if c = 0 then tyX0 else if c = 1 then tyX1 else if c = 2 then tyX2 else if c = 3 then tyX3 else if c = 4 then tyX4 else tyX5
def tyA (i : Nat) : FieldType := if i = 0 then .int else if i = 1 then .object "SeaMeeting$Sailing" else if i = 2 then .object "SeaMeeting$World" else .array .int
theorem lt6 {P : Nat → Prop} (h0 : P 0) (h1 : P 1) (h2 : P 2) (h3 : P 3) (h4 : P 4) (h5 : P 5) {c : Nat} (h : c < 6) : P c := by
  rcases (show c = 0 ∨ c = 1 ∨ c = 2 ∨ c = 3 ∨ c = 4 ∨ c = 5 by omega) with rfl | rfl | rfl | rfl | rfl | rfl <;> assumption
theorem t_cl {c : Nat} (h : c < 6) : vwCl[c]? = some (tR c, tT c, nf c) := lt6 (P := fun c => vwCl[c]? = some (tR c, tT c, nf c)) rfl rfl rfl rfl rfl rfl h
theorem t_ty {c : Nat} (h : c < 6) : ∀ k, k < nf c → parseFieldDescriptor (tT c k).2.2.1 = some (tY c k) := lt6 (P := fun c => ∀ k, k < nf c → parseFieldDescriptor (tT c k).2.2.1 = some (tY c k)) tyX0_ok tyX1_ok tyX2_ok tyX3_ok tyX4_ok tyX5_ok h
theorem t_nm {c : Nat} (h : c < 6) : ∀ a, a < nf c → ∀ b, b < nf c → a ≠ b → (tT c a).2.1 ≠ (tT c b).2.1 := lt6 (P := fun c => ∀ a, a < nf c → ∀ b, b < nf c → a ≠ b → (tT c a).2.1 ≠ (tT c b).2.1) nmX0 nmX1 nmX2 nmX3 nmX4 nmX5 h
abbrev Sg : Type := Nat → Nat → Int32
/-- a world's frame: from, to, base; the classes' numbers and slots; the array classes; the String constants' addresses -/
abbrev Wx : Type := (Nat × Nat × Nat) × va_G × (Nat → ClassId) × (Nat → Nat) × (Nat → Nat)
abbrev wLo (w : Wx) : Nat := w.1.1
abbrev wHi (w : Wx) : Nat := w.1.2.1
abbrev wB (w : Wx) : Nat := w.1.2.2
abbrev wD (w : Wx) : va_G := w.2.1
abbrev wT (w : Wx) : Nat → ClassId := w.2.2.1
abbrev wK (w : Wx) : Nat → Nat := w.2.2.2.1
abbrev wV (w : Wx) : Nat → Nat := w.2.2.2.2
def fv (B : Nat) (σ : Sg) (k j : Nat) : Value := if isR (kd k) j = true then .ref (B + tgt k j) else .int (σ k j)
def Cl (w : Wx) (σ : Sg) (H : Heap) (k : Nat) : Prop :=
  if kd k < 6 then t_OB (wB w + k) ((wD w).1 (kd k)) (nf (kd k)) ((wD w).2 (kd k)) H (fv (wB w) σ k)
  else if kd k = 6 then H[wB w + k]? = some (arrV (wT w 0) (ln k) (fun j => .int (σ k j)))
  else H[wB w + k]? = some (arrV (wT w (kd k - 6)) (ln k) (fun j => .ref (wB w + tgt k j)))
def Wd (w : Wx) (σ : Sg) (H : Heap) : Prop := ∀ k, wLo w ≤ k → k < wHi w → Cl w σ H k
theorem Cl.obj {w : Wx} {σ : Sg} {H : Heap} {k c : Nat} (h : Cl w σ H k) (hk : kd k = c) (hc : c < 6) : t_OB (wB w + k) ((wD w).1 c) (nf c) ((wD w).2 c) H (fv (wB w) σ k) := by
  unfold Cl at h
  rw [hk, if_pos hc] at h
  exact h
theorem Cl.ints {w : Wx} {σ : Sg} {H : Heap} {k : Nat} (h : Cl w σ H k) (hk : kd k = 6) : H[wB w + k]? = some (arrV (wT w 0) (ln k) (fun j => .int (σ k j))) := by
  unfold Cl at h
  rw [hk, if_neg (by decide), if_pos rfl] at h
  exact h
theorem Cl.refs {w : Wx} {σ : Sg} {H : Heap} {k i : Nat} (h : Cl w σ H k) (hk : kd k = 6 + i) (hi : 0 < i) : H[wB w + k]? = some (arrV (wT w i) (ln k) (fun j => .ref (wB w + tgt k j))) := by
  unfold Cl at h
  rw [hk, if_neg (by omega), if_neg (by omega)] at h
  rw [show 6 + i - 6 = i by omega] at h
  exact h
theorem Cl.kept {w : Wx} {σ σ' : Sg} {H H1 : Heap} {k : Nat} (h : Cl w σ H k) (hq : H1[wB w + k]? = H[wB w + k]?) (hs : ∀ j, σ' k j = σ k j) : Cl w σ' H1 k := by
  have e : fv (wB w) σ' k = fv (wB w) σ k := funext fun j => by unfold fv; rw [hs]
  have e2 : (fun j => Value.int (σ' k j)) = fun j => Value.int (σ k j) := funext fun j => by rw [hs]
  unfold Cl at h ⊢
  rw [e, e2, hq]
  split at h
  · next hk => rw [if_pos hk]; exact t_OB.kept h hq
  · next hk => rw [if_neg hk]; exact h
/-- one place of the ints put anew -/
def st2 (σ : Sg) (k j : Nat) (v : Int32) : Sg := fun a i => if a = k ∧ i = j then v else σ a i
theorem st2_same (σ : Sg) (k j : Nat) (v : Int32) : st2 σ k j v k j = v := if_pos ⟨rfl, rfl⟩
theorem st2_ne {σ : Sg} {k j : Nat} {v : Int32} {a i : Nat} (h : ¬ (a = k ∧ i = j)) : st2 σ k j v a i = σ a i := if_neg h
def nestF : List (String × Nat × String × String × String × String) := [("SeaMeeting", 86, "SeaMeeting$Teller", "faultPlace", "I", "SeaMeeting"), ("SeaMeeting$World", 104, "SeaMeeting", "EAST", "[I", "SeaMeeting"), ("SeaMeeting$World", 110, "SeaMeeting", "NORTH", "[I", "SeaMeeting")]
def nestM : List (String × Nat × MethodName × String) := [("SeaMeeting", 15, ⟨"SeaMeeting$World", "<init>", "()V"⟩, "SeaMeeting"), ("SeaMeeting$Outlook", 50, ⟨"SeaMeeting$Sailing", "<init>", "()V"⟩, "SeaMeeting"), ("SeaMeeting$World", 96, ⟨"SeaMeeting", "write", "([III)V"⟩, "SeaMeeting"), ("SeaMeeting$World", 117, ⟨"SeaMeeting", "read", "([II)I"⟩, "SeaMeeting"), ("SeaMeeting$Outlook", 98, ⟨"SeaMeeting", "read", "([II)I"⟩, "SeaMeeting"), ("SeaMeeting$Outlook", 143, ⟨"SeaMeeting", "write", "([III)V"⟩, "SeaMeeting"), ("SeaMeeting$Teller", 245, ⟨"SeaMeeting", "isIn", "(III)Z"⟩, "SeaMeeting"), ("SeaMeeting$Teller", 162, ⟨"SeaMeeting", "write", "([III)V"⟩, "SeaMeeting"), ("SeaMeeting$Teller", 210, ⟨"SeaMeeting", "read", "([II)I"⟩, "SeaMeeting")]
def nS : Nat := 37
def sLen : List Nat := [14, 3, 4, 7, 1, 2, 1, 2, 1, 2, 1, 2, 1, 4, 7, 6, 4, 4, 24, 14, 3, 4, 7, 1, 1, 2, 1, 2, 1, 2, 1, 2, 4, 7, 4, 4, 6]
def sByt : List (List Int32) := [[97, 110, 111, 116, 104, 101, 114, 32, 110, 117, 109, 98, 101, 114], [115, 101, 97], [108, 97, 110, 100], [99, 117, 114, 114, 101, 110, 116], [110], [110, 101], [101], [115, 101], [115], [115, 119], [119], [110, 119], [111], [119, 105, 110, 100], [100, 114, 105, 102, 116, 101, 114], [104, 101, 108, 112, 101, 114], [112, 111, 114, 116], [116, 97, 110, 107], [116, 104, 105, 115, 32, 104, 111, 117, 114, 32, 99, 97, 110, 39, 116, 32, 103, 111, 32, 98, 121, 32, 115, 111], [110, 111, 32, 115, 117, 99, 104, 32, 104, 101, 108, 112, 101, 114], [115, 101, 97], [108, 97, 110, 100], [99, 117, 114, 114, 101, 110, 116], [111], [110], [110, 101], [101], [115, 101], [115], [115, 119], [119], [110, 119], [119, 105, 110, 100], [100, 114, 105, 102, 116, 101, 114], [112, 111, 114, 116], [116, 97, 110, 107], [104, 101, 108, 112, 101, 114]]
/-- the String constants: class, entry, text, place -/
def sRef : List (String × Nat × String × Nat) := [("SeaMeeting", 238, "another number", 0), ("SeaMeeting$Teller", 95, "sea", 1), ("SeaMeeting$Teller", 113, "land", 2), ("SeaMeeting$Teller", 118, "current", 3), ("SeaMeeting$Teller", 221, "n", 4), ("SeaMeeting$Teller", 223, "ne", 5), ("SeaMeeting$Teller", 225, "e", 6), ("SeaMeeting$Teller", 227, "se", 7), ("SeaMeeting$Teller", 229, "s", 8), ("SeaMeeting$Teller", 231, "sw", 9), ("SeaMeeting$Teller", 233, "w", 10), ("SeaMeeting$Teller", 235, "nw", 11), ("SeaMeeting$Teller", 237, "o", 12), ("SeaMeeting$Teller", 123, "wind", 13), ("SeaMeeting$Teller", 128, "drifter", 14), ("SeaMeeting$Teller", 133, "helper", 15), ("SeaMeeting$Teller", 138, "port", 16), ("SeaMeeting$Teller", 143, "tank", 17), ("SeaMeeting", 243, "this hour can't go by so", 18), ("SeaMeeting", 231, "no such helper", 19), ("SeaMeetingModel", 220, "sea", 20), ("SeaMeetingModel", 181, "land", 21), ("SeaMeetingModel", 186, "current", 22), ("SeaMeetingModel", 137, "o", 23), ("SeaMeetingModel", 139, "n", 24), ("SeaMeetingModel", 141, "ne", 25), ("SeaMeetingModel", 143, "e", 26), ("SeaMeetingModel", 145, "se", 27), ("SeaMeetingModel", 147, "s", 28), ("SeaMeetingModel", 149, "sw", 29), ("SeaMeetingModel", 151, "w", 30), ("SeaMeetingModel", 153, "nw", 31), ("SeaMeetingModel", 191, "wind", 32), ("SeaMeetingModel", 201, "drifter", 33), ("SeaMeetingModel", 203, "port", 34), ("SeaMeetingModel", 205, "tank", 35), ("SeaMeetingModel", 207, "helper", 36)]
def decL : List MethodName := [⟨"java/lang/RuntimeException", "<init>", "(Ljava/lang/String;)V"⟩, ⟨"java/lang/Exception", "<init>", "(Ljava/lang/String;)V"⟩, ⟨"java/lang/Throwable", "<init>", "(Ljava/lang/String;)V"⟩]
def casL : List (String × String) := [("java/lang/IllegalArgumentException", "java/lang/IllegalArgumentException"), ("java/lang/IllegalStateException", "java/lang/IllegalStateException"), ("java/util/NoSuchElementException", "java/util/NoSuchElementException")]
def ncL : List (String × String) := [("java/lang/IllegalArgumentException", "java/lang/IllegalStateException"), ("java/lang/IllegalArgumentException", "java/util/NoSuchElementException"), ("java/lang/IllegalStateException", "java/lang/IllegalArgumentException"), ("java/lang/IllegalStateException", "java/util/NoSuchElementException"), ("java/util/NoSuchElementException", "java/lang/IllegalArgumentException"), ("java/util/NoSuchElementException", "java/lang/IllegalStateException")]
def eastL : List Int32 := [0, 0, 1, 1, 1, 0, -1, -1, -1]
def northL : List Int32 := [0, 1, 1, 0, -1, -1, -1, 0, 1]
def eastT (j : Nat) : Int32 := eastL.getD j 0
def northT (j : Nat) : Int32 := northL.getD j 0
def Lo (w : Wx) : Nat → Prop := fun q => wB w ≤ q
def Ar (w : Wx) (sz : Nat) : Nat → Prop := fun q => (wB w + wLo w ≤ q ∧ q < wB w + wHi w) ∨ sz ≤ q
/-- String constants, not told apart (equal texts are one object) -/
def vs_S (N : Nat) (len : List Nat) (byt : List (List Int32)) (adK adV : Nat → Nat) (A : Nat → Prop) (U : State) (H : Heap) : Prop :=
  ∀ i : Nat, i < N → va_O "java/lang/String" (adK i) A U H ∧ va_OF "java/lang/String" "coder" "B" (.int 0) (adK i) A U H ∧ va_OF "java/lang/String" "value" "[B" (.ref (adV i)) (adK i) A U H ∧ va_T .byte (adV i) (len.getD i 0) (fun j => .int ((byt.getD i []).getD j 0)) A U H
theorem vs_S.moved {N : Nat} {len : List Nat} {byt : List (List Int32)} {adK adV : Nat → Nat} {A : Nat → Prop} {u U : State} {H : Heap} (hvm : u.vm.Alike U.vm) (h : vs_S N len byt adK adV A u H) : vs_S N len byt adK adV A U H :=
  fun i hi => ⟨va_O.moved hvm (h i hi).1, va_OF.moved hvm (h i hi).2.1, va_OF.moved hvm (h i hi).2.2.1, va_T.moved hvm (h i hi).2.2.2⟩
theorem vs_S.kept {N : Nat} {len : List Nat} {byt : List (List Int32)} {adK adV : Nat → Nat} {A : Nat → Prop} {U : State} {H H1 : Heap} (h : vs_S N len byt adK adV A U H) (hq : ∀ a : Nat, a < H.size → ¬ A a → H1[a]? = H[a]?) : vs_S N len byt adK adV A U H1 :=
  fun i hi => ⟨(h i hi).1.kept hq, (h i hi).2.1.kept hq, (h i hi).2.2.1.kept hq, (h i hi).2.2.2.kept hq⟩
theorem vs_S.narrow {N : Nat} {len : List Nat} {byt : List (List Int32)} {adK adV : Nat → Nat} {A B : Nat → Prop} {U : State} {H : Heap} (h : vs_S N len byt adK adV A U H) (hAB : ∀ q, B q → A q) : vs_S N len byt adK adV B U H :=
  fun i hi => ⟨(h i hi).1.narrow hAB, (h i hi).2.1.narrow hAB, (h i hi).2.2.1.narrow hAB, (h i hi).2.2.2.narrow hAB⟩
theorem vs_recv {s : State} {H : Heap} {locs : List Loc} {A : Nat → Prop} {N : Nat} {len : List Nat} {byt : List (List Int32)} {adK adV : Nat → Nat} {i : Nat} (hE : vs_S N len byt adK adV A s s.heap) (hi : i < N) (hS : va_S A s.heap H locs) : ∃ cell : Cell, H[adK i]? = some cell ∧ cell.vm.isStatics = false ∧ s.vm.findClass "java/lang/String" = some cell.cls := by
  obtain ⟨cell, h1, h2, h3, -⟩ := (hE i hi).1.kept hS.2.1
  exact ⟨cell, h1, h2, h3⟩
/-- what a method needs of all else: the classes, the array classes, the nest's links, the tables, the String constants, the exceptions' statics -/
def Ev (w : Wx) (U : State) (H : Heap) : Prop :=
  wB w ≤ H.size ∧ va_K (wD w) vwCl [] U ∧ (∀ i, i < 4 → ArrOfT U (wT w i) (tyA i)) ∧
  (∀ q ∈ nestF, va_Nw (.fieldLinkNest q.1 q.2.1 q.2.2.1 q.2.2.2.1 q.2.2.2.2.1 q.2.2.2.2.2) U) ∧ (∀ q ∈ nestM, va_Nw (.methodLinkNest q.1 q.2.1 q.2.2.1 q.2.2.2) U) ∧
  (∃ t, va_Z "SeaMeeting" "EAST" "[I" (.ref t) (Lo w) U H ∧ va_T .int t 9 (fun j => .int (eastT j)) (Lo w) U H) ∧
  (∃ t, va_Z "SeaMeeting" "NORTH" "[I" (.ref t) (Lo w) U H ∧ va_T .int t 9 (fun j => .int (northT j)) (Lo w) U H) ∧
  vs_S nS sLen sByt (wK w) (wV w) (Lo w) U H ∧ (∀ q ∈ sRef, vk_R q.1 q.2.1 q.2.2.1 (wK w q.2.2.2) U) ∧
  va_Z "java/lang/String" "COMPACT_STRINGS" "Z" (.int 1) (Lo w) U H ∧ va_Zq "jdk/internal/util/Preconditions" "SIOOBE_FORMATTER" "Ljava/util/function/BiFunction;" (Lo w) U H ∧
  vx_Zq Bundle.tN "UNASSIGNED_STACK" Bundle.steD (Lo w) U H ∧ vx_Zq Bundle.tN "SUPPRESSED_SENTINEL" Bundle.listD (Lo w) U H ∧
  (∀ q ∈ decL, va_Nw (.declares q) U) ∧ (∀ q ∈ casL, va_Nw (.castable q.1 q.2) U) ∧ (∀ q ∈ ncL, va_Nc q.1 q.2 U)
theorem Ev.warm {w : Wx} {s U : State} {H : Heap} (hW : s.WarmedH U.vm) (h : Ev w s H) : Ev w U H := by
  obtain ⟨h1, h2, h3, h4, h5, ⟨t, h6, h7⟩, ⟨t2, h8, h9⟩, h10, h11, h12, h13, h14, h15, h16, h17, h18⟩ := h
  have a := hW.alike
  exact ⟨h1, va_K.moved a h2, fun i hi => arrOfT_moved a (h3 i hi), fun q hq => (h4 q hq).warmF hW, fun q hq => (h5 q hq).warmM hW,
    ⟨t, va_Z.moved a h6, va_T.moved a h7⟩, ⟨t2, va_Z.moved a h8, va_T.moved a h9⟩, vs_S.moved a h10, fun q hq => (h11 q hq).warm hW,
    va_Z.moved a h12, va_Zq.moved a h13, vx_Zq.moved a h14, vx_Zq.moved a h15, fun q hq => (h16 q hq).warmD hW, fun q hq => (h17 q hq).warmC hW, fun q hq => (h18 q hq).moved a⟩
theorem Ev.vm {w : Wx} {s U : State} {H : Heap} (hv : U.vm = s.vm) (h : Ev w s H) : Ev w U H := h.warm (by rw [hv]; exact State.WarmedH.refl s)
theorem Ev.kept {w : Wx} {U : State} {H H1 : Heap} (h : Ev w U H) (hz : H.size ≤ H1.size) (hq : ∀ a : Nat, a < H.size → ¬ Lo w a → H1[a]? = H[a]?) : Ev w U H1 := by
  obtain ⟨h1, h2, h3, h4, h5, ⟨t, h6, h7⟩, ⟨t2, h8, h9⟩, h10, h11, h12, h13, h14, h15, h16, h17, h18⟩ := h
  exact ⟨Nat.le_trans h1 hz, h2, h3, h4, h5, ⟨t, h6.kept hq, h7.kept hq⟩, ⟨t2, h8.kept hq, h9.kept hq⟩, h10.kept hq, h11, h12.kept hq, h13.kept hq, h14.kept hq, h15.kept hq, h16, h17, h18⟩
theorem Ar.lo {w : Wx} {sz q : Nat} (hB : wB w ≤ sz) (h : Ar w sz q) : Lo w q := by
  unfold Lo
  rcases h with h | h
  · have := h.1; omega
  · omega
theorem Ev.at {w : Wx} {s U : State} {H : Heap} {locs : List Loc} (h : Ev w s s.heap) (hS : va_S (Ar w s.heap.size) s.heap H locs) (hW : s.WarmedH U.vm) : Ev w U H :=
  (h.kept hS.1 (fun a h1 h2 => hS.2.1 a h1 (fun z => h2 (Ar.lo h.1 z)))).warm hW
/-! contracts -/
def PreC (w : Wx) (As : List Value) (σ : Sg) (sz : Nat) : Array Value → State → Prop := fun a U => a = As.toArray ∧ U.heap.size = sz ∧ Ev w U U.heap ∧ Wd w σ U.heap
def PostC (w : Wx) (P : Outcome → Sg → Prop) : Array Value → State → Outcome → State → Prop := fun _ st o t => (∃ σ', P o σ' ∧ Wd w σ' t.heap) ∧ va_F (Ar w st.heap.size) st t
def Ct (l : Launch) (w : Wx) (y : MethodName) (cc : ByteArray) (nL : Nat) (ret : Option FieldType) (rm : Room) (As : List Value) (σ : Sg) (P : Outcome → Sg → Prop) : Prop :=
  ∀ sz, Met l y (.code y cc nL ret :: TBL) rm (PreC w As σ sz) (PostC w P) rm.cells rm.slots (Ar w sz)
theorem PreC.blind {w : Wx} {As : List Value} {σ : Sg} {sz : Nat} : FrameBlind (PreC w As σ sz) := by
  intro a U g mk h
  exact ⟨h.1, h.2.1, Ev.vm (s := U) rfl h.2.2.1, h.2.2.2⟩
/-- what a method's frame is about -/
abbrev Cx : Type := Program × Launch × Env × Room × State × MethodId × Array Value × List Frame × Method × Code
abbrev xP (x : Cx) := x.1
abbrev xL (x : Cx) := x.2.1
abbrev xE (x : Cx) := x.2.2.1
abbrev xR (x : Cx) := x.2.2.2.1
abbrev xS (x : Cx) := x.2.2.2.2.1
abbrev xM (x : Cx) := x.2.2.2.2.2.1
abbrev xA (x : Cx) := x.2.2.2.2.2.2.1
abbrev xW (x : Cx) := x.2.2.2.2.2.2.2.1
abbrev xY (x : Cx) := x.2.2.2.2.2.2.2.2.1
abbrev xC (x : Cx) := x.2.2.2.2.2.2.2.2.2
def Ok (x : Cx) (w : Wx) (cc : ByteArray) (nL : Nat) (own : String) (ret : Option FieldType) (rm : Room) : Prop :=
  (xP x).tables.exec = Jvm.exec ∧ (xC x).code = cc ∧ (xC x).maxLocals = nL ∧ (xS x).vm.findClass own = some (xM x).cls ∧ (∀ q ∈ TBL, q.before (xA x) (xS x) = true) ∧
  (xY x).locks = false ∧ (xY x).sig.returnType = ret ∧ xR x = rm ∧ Ev w (xS x) (xS x).heap
/-- the judgement: from pc, with these locals, this stack and these ints, the machine comes to Q -/
def J (x : Cx) (w : Wx) (Q : State → Prop) (pc : Nat) (lv : List (Nat × Value)) (st : List Value) (cs : Nat × Nat) (σ : Sg) : Prop :=
  ∀ (H : Heap) (locs : List Loc) (ls : Array Slot), va_S (Ar w (xS x).heap.size) (xS x).heap H locs → Wd w σ H → lv_has ls (xC x).maxLocals lv →
    W (xP x) (xL x) (xE x) (xR x) (xS x) (xM x) (xA x) (xW x) (xY x) (xC x) H locs cs.1 cs.2 Q (F0 (xM x) pc ls st)
/-- the end of a method that only returns -/
def FinC (x : Cx) (w : Wx) (P : Outcome → Sg → Prop) (cs : Nat × Nat) : State → Prop := MQ (xW x) (PostC w P) (xA x) (xS x) cs.1 cs.2 (Ar w (xS x).heap.size)
theorem Ct.of {l : Launch} {w : Wx} {y : MethodName} {cc : ByteArray} {nL : Nat} {own : String} {ret : Option FieldType} {rm : Room} {As : List Value} {σ : Sg} {P : Outcome → Sg → Prop} (hy : plainName y.cls = true) (ho : y.cls = own) (hlen : (lg_sl As).length ≤ nL)
    (body : ∀ x : Cx, xL x = l → Ok x w cc nL own ret rm → J x w (FinC x w P (rm.cells, rm.slots)) 0 (lv_args 0 As) [] (0, 0) σ) : Ct l w y cc nL ret rm As σ P := by
  intro sz
  refine Met.ofW (cc := cc) (maxL := nL) (ret := ret) hy rfl ?_
  intro p e s m args below meth c s₁ B hml hv
  obtain ⟨rfl, hsz, hE, hW⟩ := hv
  have hts := atoms_spec (ws := .code y cc nL ret :: TBL) B.pre
  have hown : s.vm.findClass y.cls = some m.cls := findClass_of_methodNamed B.named
  subst hsz
  have K := body (p, l, e, rm, s, m, As.toArray, below, meth, c) rfl ⟨B.exec, B.bytes, hml, by rw [← ho]; exact hown, fun q hq => hts q (List.mem_cons_of_mem _ hq), B.notSynchronized, B.returns, rfl, hE⟩
  rw [lg_entry_eq]
  exact K s.heap [] _ va_S.rf hW (by rw [show (xC (p, l, e, rm, s, m, As.toArray, below, meth, c)).maxLocals = nL from hml]; exact lv_entry As hlen)
