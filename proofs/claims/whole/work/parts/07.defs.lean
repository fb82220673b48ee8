/-! what each method does, by its bytecode: predicate transformers, printed by program -/
def m_J7_fill_53178_l5 (v0 : Nat) (v1 : Int32) (K : Sg → Prop) : Nat → Int32 → Int32 → Sg → Prop
  | 0, _, _, _ => False
  | n + 1, l2, l3, σ =>
    ((l3 ≤ l2 → K σ) ∧ (¬ (l3 ≤ l2) → (vp_in l2 (ln v0) ∧ ∀ s13, s13 = st2 σ v0 l2.toNatClampNeg v1 → m_J7_fill_53178_l5 v0 v1 K n (l2 + 1) l3 s13)))
def m_J7_fill_53178 (v0 : Nat) (v1 : Int32) (σ : Sg) (K : Sg → Prop) : Prop :=
    (∀ l3_4, l3_4 = (Int32.ofNat (ln v0)) → ∃ n9, m_J7_fill_53178_l5 v0 v1 K n9 0 l3_4 σ)
def m_X3_beginEmpty (v0 : Nat) (σ : Sg) (K : Sg → Prop) : Prop :=
    (∀ s2, s2 = st2 σ v0 0 3 → (∀ s7, s7 = st2 s2 v0 1 3 → (∀ s12, s12 = st2 s7 v0 2 0 → (∀ s19, s19 = st2 s12 v0 3 999 → (∀ s24, s24 = st2 s19 v0 4 0 → (∀ s29, s29 = st2 s24 v0 5 0 → (∀ s34, s34 = st2 s29 v0 6 0 → (∀ s39, s39 = st2 s34 v0 7 0 → (∀ s44, s44 = st2 s39 v0 8 0 → (∀ s49, s49 = st2 s44 v0 9 0 → m_J7_fill_53178 (v0 + 3) 0 s49 (fun s57 => m_J7_fill_53178 (v0 + 4) 0 s57 (fun s65 => m_J7_fill_53178 (v0 + 7) (-1) s65 (fun s73 => K s73)))))))))))))
def m_X3_cellAt (v0 : Nat) (v1 : Int32) (v2 : Int32) (σ : Sg) (K : Int32 → Sg → Prop) : Prop :=
    K (((σ v0 0) * v2) + v1) σ
def m_X4_write (v0 : Nat) (v1 : Int32) (v2 : Int32) (σ : Sg) (K : Sg → Prop) : Prop :=
    ((v1 < 0 → K σ) ∧ (¬ (v1 < 0) → (((Int32.ofNat (ln v0)) ≤ v1 → K σ) ∧ (¬ ((Int32.ofNat (ln v0)) ≤ v1) → (vp_in v1 (ln v0) ∧ ∀ s13, s13 = st2 σ v0 v1.toNatClampNeg v2 → K s13)))))
def m_X3_addHelper (v0 : Nat) (v1 : Int32) (v2 : Int32) (σ : Sg) (K : Sg → Prop) : Prop :=
    m_X4_write (v0 + 1) (σ v0 7) v1 σ (fun s9 => m_X4_write (v0 + 2) (s9 v0 7) v2 s9 (fun s21 => (∀ s31, s31 = st2 s21 v0 7 ((s21 v0 7) + 1) → K s31)))
def m_X3_beginSmall (v0 : Nat) (σ : Sg) (K : Sg → Prop) : Prop :=
    m_X3_beginEmpty v0 σ (fun s1 => m_X3_cellAt v0 1 1 s1 (fun r8 s8 => (∀ s11, s11 = st2 s8 v0 6 r8 → m_X3_cellAt v0 2 2 s11 (fun r18 s18 => m_X3_addHelper v0 r18 10 s18 (fun s23 => K s23)))))
def m_X4_putBytes_l3 (v1 : Int32) (K : Sg → Prop) : Nat → Int32 → Sg → Prop
  | 0, _, _ => False
  | n + 1, l2, σ =>
    ((l2 < 0 → K σ) ∧ (¬ (l2 < 0) → m_X4_write 1 (σ 0 6) (((v1.toUInt32 >>> ((l2 : Int32).toUInt32 &&& Int32.toUInt32 31)).toInt32) &&& 255) σ (fun s22 => (∀ s32, s32 = st2 s22 0 6 ((s22 0 6) + 1) → m_X4_putBytes_l3 v1 K n (l2 + (-8)) s32))))
def m_X4_putBytes (v1 : Int32) (σ : Sg) (K : Sg → Prop) : Prop :=
    ∃ n9, m_X4_putBytes_l3 v1 K n9 24 σ
def m_X4_feed (v1 : Int32) (v2 : Int32) (v3 : Int32) (v4 : Int32) (v5 : Int32) (σ : Sg) (K : Int32 → Sg → Prop) : Prop :=
    ((((σ 0 6) + 20) ≤ 400 → m_X4_putBytes v1 σ (fun s17 => m_X4_putBytes v2 s17 (fun s22 => m_X4_putBytes v3 s22 (fun s27 => m_X4_putBytes v4 s27 (fun s33 => m_X4_putBytes v5 s33 (fun s39 => K (s39 0 6) s39)))))) ∧ (¬ (((σ 0 6) + 20) ≤ 400) → K (-1) σ))
def m_X4_fault  (σ : Sg) (K : Int32 → Sg → Prop) : Prop :=
    K (σ 0 7) σ
def m_X4_keptAt (v1 : Int32) (σ : Sg) (K : Nat → Sg → Prop) : Prop :=
    (vp_in (if 0 < (if ((Int32.ofNat 8) - 1) < v1 then ((Int32.ofNat 8) - 1) else v1) then (if ((Int32.ofNat 8) - 1) < v1 then ((Int32.ofNat 8) - 1) else v1) else 0) 8 ∧ K (283 + 8 * (if 0 < (if ((Int32.ofNat 8) - 1) < v1 then ((Int32.ofNat 8) - 1) else v1) then (if ((Int32.ofNat 8) - 1) < v1 then ((Int32.ofNat 8) - 1) else v1) else 0).toNatClampNeg) σ)
def m_X3_copyRow (v0 : Nat) (v1 : Nat) (σ : Sg) (K : Sg → Prop) : Prop :=
    ((¬ (0 : Int32) < 0 ∧ ¬ (0 : Int32) < 0 ∧ ¬ (if (Int32.ofNat (ln v1)) < (Int32.ofNat (ln v0)) then (Int32.ofNat (ln v1)) else (Int32.ofNat (ln v0))) < 0 ∧ (0 : Int32).toNatClampNeg + (if (Int32.ofNat (ln v1)) < (Int32.ofNat (ln v0)) then (Int32.ofNat (ln v1)) else (Int32.ofNat (ln v0))).toNatClampNeg ≤ ln v0 ∧ (0 : Int32).toNatClampNeg + (if (Int32.ofNat (ln v1)) < (Int32.ofNat (ln v0)) then (Int32.ofNat (ln v1)) else (Int32.ofNat (ln v0))).toNatClampNeg ≤ ln v1) ∧ ∀ s11, s11 = cp2 σ v0 (0 : Int32).toNatClampNeg v1 (0 : Int32).toNatClampNeg (if (Int32.ofNat (ln v1)) < (Int32.ofNat (ln v0)) then (Int32.ofNat (ln v1)) else (Int32.ofNat (ln v0))).toNatClampNeg → K s11)
def m_X3_become (v0 : Nat) (v1 : Nat) (σ : Sg) (K : Sg → Prop) : Prop :=
    (∀ s5, s5 = st2 σ v0 0 (σ v1 0) → (∀ s13, s13 = st2 s5 v0 1 (s5 v1 1) → (∀ s21, s21 = st2 s13 v0 2 (s13 v1 2) → (∀ s29, s29 = st2 s21 v0 3 (s21 v1 3) → (∀ s37, s37 = st2 s29 v0 4 (s29 v1 4) → (∀ s45, s45 = st2 s37 v0 5 (s37 v1 5) → (∀ s53, s53 = st2 s45 v0 6 (s45 v1 6) → (∀ s61, s61 = st2 s53 v0 7 (s53 v1 7) → (∀ s69, s69 = st2 s61 v0 8 (s61 v1 8) → (∀ s77, s77 = st2 s69 v0 9 (s69 v1 9) → m_X3_copyRow (v1 + 1) (v0 + 1) s77 (fun s88 => m_X3_copyRow (v1 + 2) (v0 + 2) s88 (fun s99 => m_X3_copyRow (v1 + 3) (v0 + 3) s99 (fun s110 => m_X3_copyRow (v1 + 4) (v0 + 4) s110 (fun s121 => m_X3_copyRow (v1 + 5) (v0 + 5) s121 (fun s132 => m_X3_copyRow (v1 + 6) (v0 + 6) s132 (fun s143 => m_X3_copyRow (v1 + 7) (v0 + 7) s143 (fun s154 => K s154)))))))))))))))))
def m_X0_forget  (σ : Sg) (K : Sg → Prop) : Prop :=
    (∀ s2, s2 = st2 σ 19 9 0 → K s2)
def m_X4_undo  (σ : Sg) (K : Int32 → Sg → Prop) : Prop :=
    ((¬ (σ 0 9) = 0 → (∀ s16, s16 = st2 σ 0 9 ((σ 0 9) - 1) → (∀ s32, s32 = st2 s16 0 8 ((((s16 0 8) + 8) - 1) - (((s16 0 8) + 8) - 1) / 8 * 8) → m_X4_keptAt (s32 0 8) s32 (fun r44 s44 => m_X3_become 2 r44 s44 (fun s47 => m_X0_forget  s47 (fun s54 => K (s54 0 9) s54)))))) ∧ ((σ 0 9) = 0 → K (-1) σ))
def m_X1_forget (v0 : Nat) (σ : Sg) (K : Sg → Prop) : Prop :=
    (∀ s2, s2 = st2 σ v0 2 0 → (∀ s7, s7 = st2 s2 v0 3 0 → K s7))
def m_X4_read (v0 : Nat) (v1 : Int32) (σ : Sg) (K : Int32 → Sg → Prop) : Prop :=
    ((v1 < 0 → K (-1) σ) ∧ (¬ (v1 < 0) → (((Int32.ofNat (ln v0)) ≤ v1 → K (-1) σ) ∧ (¬ ((Int32.ofNat (ln v0)) ≤ v1) → (vp_in v1 (ln v0) ∧ K (σ v0 v1.toNatClampNeg) σ)))))
def m_X3_xOf (v0 : Nat) (v1 : Int32) (σ : Sg) (K : Int32 → Sg → Prop) : Prop :=
    (((σ v0 0) ≤ 0 → K 0 σ) ∧ (¬ ((σ v0 0) ≤ 0) → (¬ (σ v0 0) = 0 ∧ K (v1 - v1 / (σ v0 0) * (σ v0 0)) σ)))
def m_X3_yOf (v0 : Nat) (v1 : Int32) (σ : Sg) (K : Int32 → Sg → Prop) : Prop :=
    (((σ v0 0) ≤ 0 → K 0 σ) ∧ (¬ ((σ v0 0) ≤ 0) → (¬ (σ v0 0) = 0 ∧ K (v1 / (σ v0 0)) σ)))
def m_X3_isOnSea (v0 : Nat) (v1 : Int32) (v2 : Int32) (σ : Sg) (K : Int32 → Sg → Prop) : Prop :=
    ((v1 < 0 → K 0 σ) ∧ (¬ (v1 < 0) → (((σ v0 0) ≤ v1 → K 0 σ) ∧ (¬ ((σ v0 0) ≤ v1) → ((v2 < 0 → K 0 σ) ∧ (¬ (v2 < 0) → (((σ v0 1) ≤ v2 → K 0 σ) ∧ (¬ ((σ v0 1) ≤ v2) → K 1 σ))))))))
def m_X3_stepFrom (v0 : Nat) (v1 : Int32) (v2 : Int32) (σ : Sg) (K : Int32 → Sg → Prop) : Prop :=
    ((v2 < 1 → K (-1) σ) ∧ (¬ (v2 < 1) → ((v2 < 9 → m_X3_xOf v0 v1 σ (fun r15 s15 => (vp_in v2 9 ∧ (∀ l3_24, l3_24 = (r15 + (eastT v2.toNatClampNeg)) → m_X3_yOf v0 v1 s15 (fun r27 s27 => (vp_in v2 9 ∧ (∀ l4_36, l4_36 = (r27 + (northT v2.toNatClampNeg)) → m_X3_cellAt v0 l3_24 l4_36 s27 (fun r42 s42 => m_X3_isOnSea v0 l3_24 l4_36 s42 (fun r51 s51 => ((r51 = 0 → K (-1) s51) ∧ (¬ (r51 = 0) → m_X4_read (v0 + 3) r42 s51 (fun r63 s63 => ((¬ r63 = 0 → K (-1) s63) ∧ (r63 = 0 → K r42 s63)))))))))))))) ∧ (¬ (v2 < 9) → K (-1) σ))))
def m_X3_carriedFrom (v0 : Nat) (v1 : Int32) (v2 : Int32) (σ : Sg) (K : Int32 → Sg → Prop) : Prop :=
    m_X3_stepFrom v0 v1 v2 σ (fun r3 s3 => ((¬ r3 = (-1) → K r3 s3) ∧ (r3 = (-1) → K v1 s3)))
def m_X3_windOf (v0 : Nat) (v1 : Int32) (σ : Sg) (K : Int32 → Sg → Prop) : Prop :=
    m_X4_read (v0 + 7) v1 σ (fun r5 s5 => ((r5 = (-1) → (((s5 v0 8) ≤ 0 → K 0 s5) ∧ (¬ ((s5 v0 8) ≤ 0) → (¬ (s5 v0 8) = 0 ∧ m_X4_read (v0 + 5) (v1 - v1 / (s5 v0 8) * (s5 v0 8)) s5 (fun r33 s33 => K r33 s33))))) ∧ (¬ (r5 = (-1)) → K r5 s5)))
def m_X3_drifterBehind_j37 (v0 : Nat) (v1 : Int32) (v2 : Int32) (K : Int32 → Sg → Prop) (l3 : Int32) (k0 : Int32) (σ : Sg) : Prop :=
    ((k0 = 0 → K l3 σ) ∧ (¬ (k0 = 0) → m_X3_windOf v0 v2 σ (fun r48 s48 => m_X3_carriedFrom v0 l3 r48 s48 (fun r51 s51 => K r51 s51))))
def m_X3_drifterBehind (v0 : Nat) (v1 : Int32) (v2 : Int32) (σ : Sg) (K : Int32 → Sg → Prop) : Prop :=
    m_X4_read (v0 + 4) v1 σ (fun r7 s7 => m_X3_carriedFrom v0 v1 r7 s7 (fun r10 s10 => (((s10 v0 4) ≤ 0 → m_X3_drifterBehind_j37 v0 v1 v2 K r10 0 s10) ∧ (¬ ((s10 v0 4) ≤ 0) → (¬ (s10 v0 4) = 0 ∧ ((¬ ((v2 + 1) - (v2 + 1) / (s10 v0 4) * (s10 v0 4)) = 0 → m_X3_drifterBehind_j37 v0 v1 v2 K r10 0 s10) ∧ (((v2 + 1) - (v2 + 1) / (s10 v0 4) * (s10 v0 4)) = 0 → m_X3_drifterBehind_j37 v0 v1 v2 K r10 1 s10)))))))
def m_X3_portBehind (v0 : Nat) (v1 : Int32) (v2 : Int32) (σ : Sg) (K : Int32 → Sg → Prop) : Prop :=
    (((σ v0 9) ≤ 0 → K v1 σ) ∧ (¬ ((σ v0 9) ≤ 0) → (¬ (σ v0 9) = 0 ∧ m_X4_read (v0 + 6) (v2 - v2 / (σ v0 9) * (σ v0 9)) σ (fun r19 s19 => m_X3_carriedFrom v0 v1 r19 s19 (fun r22 s22 => K r22 s22)))))
def m_X0_lookAtPaths_l18  (K : Sg → Prop) : Nat → Int32 → Int32 → Int32 → Sg → Prop
  | 0, _, _, _, _ => False
  | n + 1, l1, l2, l3, σ =>
    ((60 < l3 → K σ) ∧ (¬ (60 < l3) → (vp_in l3 61 ∧ ∀ s30, s30 = st2 σ 20 l3.toNatClampNeg l1 → (vp_in l3 61 ∧ ∀ s37, s37 = st2 s30 21 l3.toNatClampNeg l2 → m_X3_drifterBehind 2 l1 ((s37 2 2) + l3) s37 (fun r52 s52 => m_X3_portBehind 2 l2 ((s52 2 2) + l3) s52 (fun r70 s70 => m_X0_lookAtPaths_l18 K n r52 r70 (l3 + 1) s70))))))
def m_X0_lookAtPaths  (σ : Sg) (K : Sg → Prop) : Prop :=
    (∀ l1_7, l1_7 = (σ 2 5) → (∀ l2_15, l2_15 = (σ 2 6) → ∃ n9, m_X0_lookAtPaths_l18 K n9 l1_7 l2_15 0 σ))
def m_X3_helperBehind_j14 (v0 : Nat) (v1 : Int32) (v2 : Int32) (K : Int32 → Sg → Prop) (k0 : Int32) (σ : Sg) : Prop :=
    ((¬ k0 = (-1) → m_X4_read (v0 + 4) k0 σ (fun r31 s31 => m_X3_carriedFrom v0 k0 r31 s31 (fun r34 s34 => K r34 s34))) ∧ (k0 = (-1) → K (-1) σ))
def m_X3_helperBehind (v0 : Nat) (v1 : Int32) (v2 : Int32) (σ : Sg) (K : Int32 → Sg → Prop) : Prop :=
    ((¬ v2 = 0 → m_X3_stepFrom v0 v1 v2 σ (fun r11 s11 => m_X3_helperBehind_j14 v0 v1 v2 K r11 s11)) ∧ (v2 = 0 → m_X3_helperBehind_j14 v0 v1 v2 K v1 σ))
def m_X0_lookAtCourses_l19  (K : Sg → Prop) (KO2 : Int32 → Sg → Prop) : Nat → Int32 → Int32 → Sg → Prop
  | 0, _, _, _ => False
  | n + 1, l1, l2, σ =>
    ((9 ≤ l2 → KO2 (l1 + 1) σ) ∧ (¬ (9 ≤ l2) → m_X3_helperBehind 2 l1 l2 σ (fun r41 s41 => (vp_in ((l1 * 9) + l2) 2160 ∧ ∀ s44, s44 = st2 s41 22 ((l1 * 9) + l2).toNatClampNeg r41 → m_X0_lookAtCourses_l19 K KO2 n l1 (l2 + 1) s44))))
def m_X0_lookAtCourses_l2  (K : Sg → Prop) : Nat → Int32 → Sg → Prop
  | 0, _, _ => False
  | n + 1, l1, σ =>
    (((σ 19 8) ≤ l1 → K σ) ∧ (¬ ((σ 19 8) ≤ l1) → ((240 ≤ l1 → K σ) ∧ (¬ (240 ≤ l1) → ∃ n9, m_X0_lookAtCourses_l19 K (fun l1 σ => m_X0_lookAtCourses_l2 K n l1 σ) n9 l1 0 σ))))
def m_X0_lookAtCourses  (σ : Sg) (K : Sg → Prop) : Prop :=
    ∃ n9, m_X0_lookAtCourses_l2 K n9 0 σ
def m_X3_priceOf (v0 : Nat) (v1 : Int32) (v2 : Int32) (σ : Sg) (K : Int32 → Sg → Prop) : Prop :=
    ((¬ v1 = 0 → m_X3_windOf v0 v2 σ (fun r8 s8 => ((¬ r8 = 0 → (∀ l4_24, l4_24 = (if 0 ≤ (v1 - r8) then (v1 - r8) else 0 - (v1 - r8)) → K (1 + (if (8 - l4_24) < l4_24 then (8 - l4_24) else l4_24)) s8)) ∧ (r8 = 0 → K 3 s8)))) ∧ (v1 = 0 → K 0 σ))
def m_X0_lookAtPrices_l10  (K : Sg → Prop) (KO2 : Int32 → Sg → Prop) : Nat → Int32 → Int32 → Sg → Prop
  | 0, _, _, _ => False
  | n + 1, l1, l2, σ =>
    ((9 ≤ l2 → KO2 (l1 + 1) σ) ∧ (¬ (9 ≤ l2) → m_X3_priceOf 2 l2 ((σ 2 2) + l1) σ (fun r40 s40 => (vp_in ((l1 * 9) + l2) 540 ∧ ∀ s43, s43 = st2 s40 23 ((l1 * 9) + l2).toNatClampNeg r40 → m_X0_lookAtPrices_l10 K KO2 n l1 (l2 + 1) s43))))
def m_X0_lookAtPrices_l2  (K : Sg → Prop) : Nat → Int32 → Sg → Prop
  | 0, _, _ => False
  | n + 1, l1, σ =>
    ((60 ≤ l1 → K σ) ∧ (¬ (60 ≤ l1) → ∃ n9, m_X0_lookAtPrices_l10 K (fun l1 σ => m_X0_lookAtPrices_l2 K n l1 σ) n9 l1 0 σ))
def m_X0_lookAtPrices  (σ : Sg) (K : Sg → Prop) : Prop :=
    ∃ n9, m_X0_lookAtPrices_l2 K n9 0 σ
def m_X0_refresh_l40  (K : Sg → Prop) : Nat → Int32 → Sg → Prop
  | 0, _, _ => False
  | n + 1, l1, σ =>
    (((Int32.ofNat 3) ≤ l1 → m_X0_lookAtPaths  σ (fun s65 => m_X0_lookAtCourses  s65 (fun s69 => m_X0_lookAtPrices  s69 (fun s73 => K s73)))) ∧ (¬ ((Int32.ofNat 3) ≤ l1) → (vp_in l1 3 ∧ m_X1_forget (90 + 64 * l1.toNatClampNeg) σ (fun s55 => m_X0_refresh_l40 K n (l1 + 1) s55))))
def m_X0_refresh  (σ : Sg) (K : Sg → Prop) : Prop :=
    (((σ 19 9) = 0 → (∀ s10, s10 = st2 σ 19 9 1 → (∀ s35, s35 = st2 s10 19 8 (if 240 < ((s10 2 0) * (s10 2 1)) then 240 else ((s10 2 0) * (s10 2 1))) → ∃ n9, m_X0_refresh_l40 K n9 0 s35))) ∧ (¬ ((σ 19 9) = 0) → K σ))
def m_X0_sailingOf (v1 : Int32) (σ : Sg) (K : Nat → Sg → Prop) : Prop :=
    (vp_in (if 0 < (if ((Int32.ofNat 3) - 1) < v1 then ((Int32.ofNat 3) - 1) else v1) then (if ((Int32.ofNat 3) - 1) < v1 then ((Int32.ofNat 3) - 1) else v1) else 0) 3 ∧ K (90 + 64 * (if 0 < (if ((Int32.ofNat 3) - 1) < v1 then ((Int32.ofNat 3) - 1) else v1) then (if ((Int32.ofNat 3) - 1) < v1 then ((Int32.ofNat 3) - 1) else v1) else 0).toNatClampNeg) σ)
def m_X0_begin (v0 : Nat) (v1 : Int32) (v2 : Int32) (σ : Sg) (K : Sg → Prop) : Prop :=
    m_J7_fill_53178 v0 (-1) σ (fun s2 => m_X4_write v0 v1 v2 s2 (fun s8 => K s8))
def m_X0_sailFrom_l53 (v1 : Int32) (v2 : Int32) (v3 : Nat) (v4 : Int32) (v5 : Int32) (K : Sg → Prop) : Nat → Int32 → Int32 → Int32 → Sg → Prop
  | 0, _, _, _, _ => False
  | n + 1, l6, l7, l8, σ =>
    ((9 ≤ l8 → K σ) ∧ (¬ (9 ≤ l8) → (vp_in (l6 + l8) 2160 ∧ (∀ l9_70, l9_70 = (σ 22 (l6 + l8).toNatClampNeg) → (vp_in (l7 + l8) 540 ∧ (∀ l10_87, l10_87 = (v2 - (v5 * (σ 23 (l7 + l8).toNatClampNeg))) → ((l9_70 < 0 → m_X0_sailFrom_l53 v1 v2 v3 v4 v5 K n l6 l7 (l8 + 1) σ) ∧ (¬ (l9_70 < 0) → (((Int32.ofNat (ln v3)) ≤ l9_70 → m_X0_sailFrom_l53 v1 v2 v3 v4 v5 K n l6 l7 (l8 + 1) σ) ∧ (¬ ((Int32.ofNat (ln v3)) ≤ l9_70) → (vp_in l9_70 (ln v3) ∧ ((l10_87 ≤ (σ v3 l9_70.toNatClampNeg) → m_X0_sailFrom_l53 v1 v2 v3 v4 v5 K n l6 l7 (l8 + 1) σ) ∧ (¬ (l10_87 ≤ (σ v3 l9_70.toNatClampNeg)) → (vp_in l9_70 (ln v3) ∧ ∀ s115, s115 = st2 σ v3 l9_70.toNatClampNeg l10_87 → m_X0_sailFrom_l53 v1 v2 v3 v4 v5 K n l6 l7 (l8 + 1) s115))))))))))))))
def m_X0_sailFrom (v1 : Int32) (v2 : Int32) (v3 : Nat) (v4 : Int32) (v5 : Int32) (σ : Sg) (K : Sg → Prop) : Prop :=
    (∀ l6_4, l6_4 = (v1 * 9) → (∀ l7_11, l7_11 = (v4 * 9) → ((l6_4 < 0 → K σ) ∧ (¬ (l6_4 < 0) → (((Int32.ofNat 2160) < (l6_4 + 9) → K σ) ∧ (¬ ((Int32.ofNat 2160) < (l6_4 + 9)) → ((l7_11 < 0 → K σ) ∧ (¬ (l7_11 < 0) → (((l7_11 + 9) ≤ (Int32.ofNat 540) → ∃ n9, m_X0_sailFrom_l53 v1 v2 v3 v4 v5 K n9 l6_4 l7_11 0 σ) ∧ (¬ ((l7_11 + 9) ≤ (Int32.ofNat 540)) → K σ))))))))))
def m_X0_sailHour_l8 (v1 : Nat) (v2 : Nat) (v3 : Int32) (v4 : Int32) (K : Sg → Prop) : Nat → Int32 → Sg → Prop
  | 0, _, _ => False
  | n + 1, l5, σ =>
    (((σ 19 8) ≤ l5 → K σ) ∧ (¬ ((σ 19 8) ≤ l5) → (((Int32.ofNat (ln v1)) ≤ l5 → K σ) ∧ (¬ ((Int32.ofNat (ln v1)) ≤ l5) → (vp_in l5 (ln v1) ∧ (((σ v1 l5.toNatClampNeg) = (-1) → m_X0_sailHour_l8 v1 v2 v3 v4 K n (l5 + 1) σ) ∧ (¬ ((σ v1 l5.toNatClampNeg) = (-1)) → (vp_in l5 (ln v1) ∧ m_X0_sailFrom l5 (σ v1 l5.toNatClampNeg) v2 v3 v4 σ (fun s43 => m_X0_sailHour_l8 v1 v2 v3 v4 K n (l5 + 1) s43)))))))))
def m_X0_sailHour (v1 : Nat) (v2 : Nat) (v3 : Int32) (v4 : Int32) (σ : Sg) (K : Sg → Prop) : Prop :=
    m_J7_fill_53178 v2 (-1) σ (fun s2 => ∃ n9, m_X0_sailHour_l8 v1 v2 v3 v4 K n9 0 s2)
def m_X0_mostsOf_j93 (v1 : Int32) (v2 : Int32) (K : Nat → Sg → Prop) (KO16 : Nat → Int32 → Sg → Prop) (l3 : Nat) (l4 : Int32) (σ : Sg) : Prop :=
    (∀ s98, s98 = st2 σ l3 2 (l4 + 1) → KO16 l3 (l4 + 1) s98)
def m_X0_mostsOf_l16 (v1 : Int32) (v2 : Int32) (K : Nat → Sg → Prop) : Nat → Nat → Int32 → Sg → Prop
  | 0, _, _, _ => False
  | n + 1, l3, l4, σ =>
    ((v2 < l4 → (vp_in (if 0 < (if 60 < v2 then 60 else v2) then (if 60 < v2 then 60 else v2) else 0) 61 ∧ K (l3 + 2 + (if 0 < (if 60 < v2 then 60 else v2) then (if 60 < v2 then 60 else v2) else 0).toNatClampNeg) σ)) ∧ (¬ (v2 < l4) → ((60 < l4 → (vp_in (if 0 < (if 60 < v2 then 60 else v2) then (if 60 < v2 then 60 else v2) else 0) 61 ∧ K (l3 + 2 + (if 0 < (if 60 < v2 then 60 else v2) then (if 60 < v2 then 60 else v2) else 0).toNatClampNeg) σ)) ∧ (¬ (60 < l4) → ((¬ l4 = 0 → (vp_in (l4 - 1) 61 ∧ (vp_in l4 61 ∧ m_X0_sailHour (l3 + 2 + (l4 - 1).toNatClampNeg) (l3 + 2 + l4.toNatClampNeg) (l4 - 1) 1 σ (fun s90 => m_X0_mostsOf_j93 v1 v2 K (fun l3 l4 σ => m_X0_mostsOf_l16 v1 v2 K n l3 l4 σ) l3 l4 s90)))) ∧ (l4 = 0 → (vp_in 0 61 ∧ m_X4_read (2 + 1) v1 σ (fun r48 s48 => m_X4_read (2 + 2) v1 s48 (fun r59 s59 => m_X0_begin (l3 + 2 + (0 : Int32).toNatClampNeg) r48 r59 s59 (fun s62 => m_X0_mostsOf_j93 v1 v2 K (fun l3 l4 σ => m_X0_mostsOf_l16 v1 v2 K n l3 l4 σ) l3 l4 s62))))))))))
def m_X0_mostsOf (v1 : Int32) (v2 : Int32) (σ : Sg) (K : Nat → Sg → Prop) : Prop :=
    m_X0_sailingOf v1 σ (fun r2 s2 => (∀ l4_14, l4_14 = (if 0 < (s2 r2 2) then (s2 r2 2) else 0) → ∃ n9, m_X0_mostsOf_l16 v1 v2 K n9 r2 l4_14 s2))
def m_X0_earliestOf_l2 (v1 : Int32) (K : Int32 → Sg → Prop) : Nat → Int32 → Sg → Prop
  | 0, _, _ => False
  | n + 1, l2, σ =>
    ((60 < l2 → K (-1) σ) ∧ (¬ (60 < l2) → m_X0_mostsOf v1 l2 σ (fun r11 s11 => (vp_in l2 61 ∧ m_X4_read r11 (s11 20 l2.toNatClampNeg) s11 (fun r20 s20 => ((r20 = (-1) → m_X0_earliestOf_l2 v1 K n (l2 + 1) s20) ∧ (¬ (r20 = (-1)) → K l2 s20)))))))
def m_X0_earliestOf (v1 : Int32) (σ : Sg) (K : Int32 → Sg → Prop) : Prop :=
    ∃ n9, m_X0_earliestOf_l2 v1 K n9 0 σ
def m_X4_first_l14  (K : Int32 → Sg → Prop) : Nat → Int32 → Int32 → Int32 → Sg → Prop
  | 0, _, _, _, _ => False
  | n + 1, l1, l2, l3, σ =>
    (((σ 2 7) ≤ l3 → K l1 σ) ∧ (¬ ((σ 2 7) ≤ l3) → m_X0_earliestOf l3 σ (fun r30 s30 => ((r30 < 0 → m_X4_first_l14 K n l1 l2 (l3 + 1) s30) ∧ (¬ (r30 < 0) → ((l2 ≤ r30 → m_X4_first_l14 K n l1 l2 (l3 + 1) s30) ∧ (¬ (l2 ≤ r30) → m_X4_first_l14 K n l3 r30 (l3 + 1) s30)))))))
def m_X4_first  (σ : Sg) (K : Int32 → Sg → Prop) : Prop :=
    m_X0_refresh  σ (fun s4 => ∃ n9, m_X4_first_l14 K n9 (-1) 61 0 s4)
def m_X4_print_l24  (K : Int64 → Sg → Prop) : Nat → Int64 → Int32 → Sg → Prop
  | 0, _, _, _ => False
  | n + 1, l1, l3, σ =>
    (((σ 2 7) ≤ l3 → K l1 σ) ∧ (¬ ((σ 2 7) ≤ l3) → m_X4_read (2 + 1) l3 σ (fun r48 s48 => m_X4_read (2 + 2) l3 s48 (fun r67 s67 => m_X4_print_l24 K n ((31 * ((31 * l1) + r48.toInt64)) + r67.toInt64) (l3 + 1) s67))))
def m_X4_print  (σ : Sg) (K : Int64 → Sg → Prop) : Prop :=
    ∃ n9, m_X4_print_l24 K n9 ((31 * (σ 2 5).toInt64) + (σ 2 6).toInt64) 0 σ
def m_X4_status (v1 : Int32) (σ : Sg) (K : Int32 → Sg → Prop) : Prop :=
    (((v1 < 0 ∨ 2 < v1) → K (-1) σ) ∧ (v1 = 0 → K (σ 0 10) σ) ∧ (v1 = 1 → K (σ 0 11) σ) ∧ (v1 = 2 → K (σ 0 12) σ))
def m_X4_isIn (v0 : Int32) (v1 : Int32) (v2 : Int32) (σ : Sg) (K : Int32 → Sg → Prop) : Prop :=
    ((v0 < v1 → K 0 σ) ∧ (¬ (v0 < v1) → ((v2 < v0 → K 0 σ) ∧ (¬ (v2 < v0) → K 1 σ))))
def m_X4_needNumber (v1 : Int32) (σ : Sg) (K : Sg → Prop) (X : String → Sg → Prop) : Prop :=
    ((¬ v1 = 0 → K σ) ∧ (v1 = 0 → (∀ s11, s11 = st2 σ 0 11 ((σ 0 11) + 1) → X "java/lang/IllegalArgumentException" s11)))
def m_X2_begin (v1 : Int32) (σ : Sg) (K : Sg → Prop) : Prop :=
    m_X3_beginEmpty 10 σ (fun s4 => (∀ s17, s17 = st2 s4 18 2 (if (Int32.ofNat 400) < v1 then (Int32.ofNat 400) else v1) → (∀ s22, s22 = st2 s17 18 3 0 → (∀ s27, s27 = st2 s22 18 9 0 → (∀ s32, s32 = st2 s27 18 10 (-1) → (∀ s37, s37 = st2 s32 18 11 0 → (∀ s42, s42 = st2 s37 18 12 0 → (∀ s47, s47 = st2 s42 18 13 0 → (∀ s52, s52 = st2 s47 18 14 0 → K s52)))))))))
def m_X2_skipBlanks_l0  (K : Sg → Prop) : Nat → Sg → Prop
  | 0, _ => False
  | n + 1, σ =>
    (((σ 18 3) < 0 → K σ) ∧ (¬ ((σ 18 3) < 0) → (((σ 18 2) ≤ (σ 18 3) → K σ) ∧ (¬ ((σ 18 2) ≤ (σ 18 3)) → (((Int32.ofNat 400) ≤ (σ 18 3) → K σ) ∧ (¬ ((Int32.ofNat 400) ≤ (σ 18 3)) → (vp_in (σ 18 3) 400 ∧ ((¬ (σ 1 (σ 18 3).toNatClampNeg) = 32 → K σ) ∧ ((σ 1 (σ 18 3).toNatClampNeg) = 32 → (∀ s51, s51 = st2 σ 18 3 ((σ 18 3) + 1) → m_X2_skipBlanks_l0 K n s51))))))))))
def m_X2_skipBlanks  (σ : Sg) (K : Sg → Prop) : Prop :=
    ∃ n9, m_X2_skipBlanks_l0 K n9 σ
def m_X2_byteAt (v1 : Int32) (σ : Sg) (K : Int32 → Sg → Prop) : Prop :=
    ((v1 < 0 → K (-1) σ) ∧ (¬ (v1 < 0) → (((σ 18 2) ≤ v1 → K (-1) σ) ∧ (¬ ((σ 18 2) ≤ v1) → (((Int32.ofNat 400) ≤ v1 → K (-1) σ) ∧ (¬ ((Int32.ofNat 400) ≤ v1) → (vp_in v1 400 ∧ K (σ 1 v1.toNatClampNeg) σ)))))))
def m_X2_fail (v1 : Int32) (v2 : Int32) (σ : Sg) (K : Int32 → Sg → Prop) : Prop :=
    (∀ s2, s2 = st2 σ 18 9 v1 → (∀ s7, s7 = st2 s2 18 10 v2 → K 0 s7))
def m_X2_readWord_j54  (K : Int32 → Sg → Prop)  (σ : Sg) : Prop :=
    (((σ 18 4) < (σ 18 3) → K 1 σ) ∧ (¬ ((σ 18 4) < (σ 18 3)) → m_X2_fail 1 (σ 18 4) σ (fun r71 s71 => ((r71 = 0 → K 0 s71) ∧ (¬ (r71 = 0) → K 1 s71)))))
def m_X2_readWord_l12  (K : Int32 → Sg → Prop) : Nat → Sg → Prop
  | 0, _ => False
  | n + 1, σ =>
    (((σ 18 2) ≤ (σ 18 3) → m_X2_readWord_j54 K σ) ∧ (¬ ((σ 18 2) ≤ (σ 18 3)) → m_X2_byteAt (σ 18 3) σ (fun r28 s28 => m_X4_isIn r28 97 122 s28 (fun r35 s35 => ((r35 = 0 → m_X2_readWord_j54 K s35) ∧ (¬ (r35 = 0) → (∀ s48, s48 = st2 s35 18 3 ((s35 18 3) + 1) → m_X2_readWord_l12 K n s48)))))))
def m_X2_readWord  (σ : Sg) (K : Int32 → Sg → Prop) : Prop :=
    m_X2_skipBlanks  σ (fun s1 => (∀ s9, s9 = st2 s1 18 4 (s1 18 3) → ∃ n9, m_X2_readWord_l12 K n9 s9))
def m_X2_isWord_l20 (v1 : Nat) (K : Int32 → Sg → Prop) : Nat → Int32 → Sg → Prop
  | 0, _, _ => False
  | n + 1, l2, σ =>
    (((Int32.ofNat (sLen.getD v1 0)) ≤ l2 → K 1 σ) ∧ (¬ ((Int32.ofNat (sLen.getD v1 0)) ≤ l2) → (∀ l3_34, l3_34 = ((σ 18 4) + l2) → ((l3_34 < 0 → K 0 σ) ∧ (¬ (l3_34 < 0) → (((Int32.ofNat 400) ≤ l3_34 → K 0 σ) ∧ (¬ ((Int32.ofNat 400) ≤ l3_34) → (vp_in l3_34 400 ∧ (vp_in l2 (sLen.getD v1 0) ∧ (((σ 1 l3_34.toNatClampNeg) = ((sByt.getD v1 []).getD l2.toNatClampNeg 0) → m_X2_isWord_l20 v1 K n (l2 + 1) σ) ∧ (¬ ((σ 1 l3_34.toNatClampNeg) = ((sByt.getD v1 []).getD l2.toNatClampNeg 0)) → K 0 σ)))))))))))
def m_X2_isWord (v1 : Nat) (σ : Sg) (K : Int32 → Sg → Prop) : Prop :=
    (((Int32.ofNat (sLen.getD v1 0)) = ((σ 18 3) - (σ 18 4)) → ∃ n9, m_X2_isWord_l20 v1 K n9 0 σ) ∧ (¬ ((Int32.ofNat (sLen.getD v1 0)) = ((σ 18 3) - (σ 18 4))) → K 0 σ))
def m_X2_readNumber_j88 (v1 : Int32) (v2 : Int32) (K : Int32 → Sg → Prop)  (σ : Sg) : Prop :=
    ((¬ (σ 18 3) = (σ 18 4) → m_X4_isIn (σ 18 5) v1 v2 σ (fun r115 s115 => ((¬ r115 = 0 → K 1 s115) ∧ (r115 = 0 → m_X2_fail 2 (s115 18 4) s115 (fun r127 s127 => ((r127 = 0 → K 0 s127) ∧ (¬ (r127 = 0) → K 1 s127))))))) ∧ ((σ 18 3) = (σ 18 4) → m_X2_fail 1 (σ 18 4) σ (fun r105 s105 => K r105 s105)))
def m_X2_readNumber_l17 (v1 : Int32) (v2 : Int32) (K : Int32 → Sg → Prop) : Nat → Sg → Prop
  | 0, _ => False
  | n + 1, σ =>
    (((σ 18 2) ≤ (σ 18 3) → m_X2_readNumber_j88 v1 v2 K σ) ∧ (¬ ((σ 18 2) ≤ (σ 18 3)) → m_X2_byteAt (σ 18 3) σ (fun r33 s33 => m_X4_isIn r33 48 57 s33 (fun r40 s40 => ((r40 = 0 → m_X2_readNumber_j88 v1 v2 K s40) ∧ (¬ (r40 = 0) → m_X2_byteAt (s40 18 3) s40 (fun r59 s59 => (∀ s72, s72 = st2 s59 18 5 (if 1000 < ((((s40 18 5) * 10) + r59) - 48) then 1000 else ((((s40 18 5) * 10) + r59) - 48)) → (∀ s82, s82 = st2 s72 18 3 ((s72 18 3) + 1) → m_X2_readNumber_l17 v1 v2 K n s82)))))))))
def m_X2_readNumber (v1 : Int32) (v2 : Int32) (σ : Sg) (K : Int32 → Sg → Prop) : Prop :=
    m_X2_skipBlanks  σ (fun s1 => (∀ s9, s9 = st2 s1 18 4 (s1 18 3) → (∀ s14, s14 = st2 s9 18 5 0 → ∃ n9, m_X2_readNumber_l17 v1 v2 K n9 s14)))
def m_X2_isEnd  (σ : Sg) (K : Int32 → Sg → Prop) : Prop :=
    m_X2_skipBlanks  σ (fun s1 => m_X2_byteAt (s1 18 3) s1 (fun r9 s9 => ((r9 = 59 → (∀ s26, s26 = st2 s9 18 3 ((s9 18 3) + 1) → K 1 s26)) ∧ (¬ (r9 = 59) → K 0 s9))))
def m_X2_readEnd  (σ : Sg) (K : Int32 → Sg → Prop) : Prop :=
    m_X2_isEnd  σ (fun r1 s1 => ((¬ r1 = 0 → K 1 s1) ∧ (r1 = 0 → m_X2_fail 1 (s1 18 3) s1 (fun r13 s13 => ((r13 = 0 → K 0 s13) ∧ (¬ (r13 = 0) → K 1 s13))))))
def m_X2_readSea  (σ : Sg) (K : Int32 → Sg → Prop) : Prop :=
    m_X2_readWord  σ (fun r1 s1 => ((¬ r1 = 0 → m_X2_isWord 1 s1 (fun r12 s12 => ((¬ r12 = 0 → m_X2_readNumber 3 20 s12 (fun r32 s32 => ((¬ r32 = 0 → (∀ s48, s48 = st2 s32 10 0 (s32 18 5) → m_X2_readNumber 3 12 s48 (fun r55 s55 => ((¬ r55 = 0 → (∀ s71, s71 = st2 s55 10 1 (s55 18 5) → m_X2_readEnd  s71 (fun r75 s75 => K r75 s75))) ∧ (r55 = 0 → K 0 s55))))) ∧ (r32 = 0 → K 0 s32)))) ∧ (r12 = 0 → m_X2_fail 1 (s12 18 4) s12 (fun r24 s24 => K r24 s24))))) ∧ (r1 = 0 → K 0 s1)))
def m_X2_isMore  (σ : Sg) (K : Int32 → Sg → Prop) : Prop :=
    m_X2_skipBlanks  σ (fun s1 => (((s1 18 2) ≤ (s1 18 3) → K 0 s1) ∧ (¬ ((s1 18 2) ≤ (s1 18 3)) → K 1 s1)))
def m_X2_readCell  (σ : Sg) (K : Int32 → Sg → Prop) : Prop :=
    m_X2_readNumber 0 ((σ 10 0) - 1) σ (fun r11 s11 => ((¬ r11 = 0 → (∀ l1_23, l1_23 = (s11 18 5) → (∀ s29, s29 = st2 s11 18 7 (s11 18 4) → m_X2_readNumber 0 ((s29 10 1) - 1) s29 (fun r43 s43 => ((¬ r43 = 0 → m_X3_cellAt 10 l1_23 (s43 18 5) s43 (fun r61 s61 => (∀ s64, s64 = st2 s61 18 6 r61 → K 1 s64))) ∧ (r43 = 0 → K 0 s43)))))) ∧ (r11 = 0 → K 0 s11)))
def m_X3_isTaken_l2 (v0 : Nat) (v1 : Int32) (K : Int32 → Sg → Prop) : Nat → Int32 → Sg → Prop
  | 0, _, _ => False
  | n + 1, l2, σ =>
    (((σ v0 7) ≤ l2 → K 0 σ) ∧ (¬ ((σ v0 7) ≤ l2) → m_X4_read (v0 + 1) l2 σ (fun r15 s15 => ((¬ r15 = v1 → m_X3_isTaken_l2 v0 v1 K n (l2 + 1) s15) ∧ (r15 = v1 → K 1 s15)))))
def m_X3_isTaken (v0 : Nat) (v1 : Int32) (σ : Sg) (K : Int32 → Sg → Prop) : Prop :=
    ∃ n9, m_X3_isTaken_l2 v0 v1 K n9 0 σ
def m_X2_readLand_j62  (K : Int32 → Sg → Prop) (l1 : Int32) (k0 : Int32) (σ : Sg) : Prop :=
    ((¬ l1 = 0 → m_X2_fail 3 (σ 18 7) σ (fun r91 s91 => K r91 s91)) ∧ (l1 = 0 → ((¬ k0 = 0 → m_X2_fail 3 (σ 18 7) σ (fun r91 s91 => K r91 s91)) ∧ (k0 = 0 → m_X3_isTaken 10 (σ 18 6) σ (fun r79 s79 => ((r79 = 0 → m_X4_write (10 + 3) (s79 18 6) 1 s79 (fun s107 => m_X2_readEnd  s107 (fun r111 s111 => K r111 s111))) ∧ (¬ (r79 = 0) → m_X2_fail 3 (s79 18 7) s79 (fun r91 s91 => K r91 s91))))))))
def m_X2_readLand_j35  (K : Int32 → Sg → Prop) (k0 : Int32) (σ : Sg) : Prop :=
    (((σ 18 12) = 0 → m_X2_readLand_j62 K k0 0 σ) ∧ (¬ ((σ 18 12) = 0) → ((¬ (σ 10 6) = (σ 18 6) → m_X2_readLand_j62 K k0 0 σ) ∧ ((σ 10 6) = (σ 18 6) → m_X2_readLand_j62 K k0 1 σ))))
def m_X2_readLand  (σ : Sg) (K : Int32 → Sg → Prop) : Prop :=
    m_X2_readCell  σ (fun r1 s1 => ((¬ r1 = 0 → (((s1 18 11) = 0 → m_X2_readLand_j35 K 0 s1) ∧ (¬ ((s1 18 11) = 0) → ((¬ (s1 10 5) = (s1 18 6) → m_X2_readLand_j35 K 0 s1) ∧ ((s1 10 5) = (s1 18 6) → m_X2_readLand_j35 K 1 s1))))) ∧ (r1 = 0 → K 0 s1)))
def m_X2_wordOf (v0 : Int32) (σ : Sg) (K : Nat → Sg → Prop) : Prop :=
    (((v0 < 1 ∨ 8 < v0) → K 12 σ) ∧ (v0 = 1 → K 4 σ) ∧ (v0 = 2 → K 5 σ) ∧ (v0 = 3 → K 6 σ) ∧ (v0 = 4 → K 7 σ) ∧ (v0 = 5 → K 8 σ) ∧ (v0 = 6 → K 9 σ) ∧ (v0 = 7 → K 10 σ) ∧ (v0 = 8 → K 11 σ))
def m_X2_isDirection_l2  (K : Int32 → Sg → Prop) : Nat → Int32 → Sg → Prop
  | 0, _, _ => False
  | n + 1, l1, σ =>
    ((9 ≤ l1 → m_X2_fail 1 (σ 18 4) σ (fun r38 s38 => K r38 s38)) ∧ (¬ (9 ≤ l1) → m_X2_wordOf l1 σ (fun r10 s10 => m_X2_isWord r10 s10 (fun r13 s13 => ((r13 = 0 → m_X2_isDirection_l2 K n (l1 + 1) s13) ∧ (¬ (r13 = 0) → (∀ s21, s21 = st2 s13 18 5 l1 → K 1 s21)))))))
def m_X2_isDirection  (σ : Sg) (K : Int32 → Sg → Prop) : Prop :=
    ∃ n9, m_X2_isDirection_l2 K n9 0 σ
def m_X2_readCurrent_l111  (K : Int32 → Sg → Prop) (KO101 : Int32 → Int32 → Int32 → Int32 → Sg → Prop) : Nat → Int32 → Int32 → Int32 → Int32 → Int32 → Sg → Prop
  | 0, _, _, _, _, _, _ => False
  | n + 1, l1, l3, l4, l5, l6, σ =>
    ((l3 < l6 → KO101 l1 l3 l4 (l5 + 1) σ) ∧ (¬ (l3 < l6) → m_X3_cellAt 10 l6 l5 σ (fun r132 s132 => m_X4_write (10 + 4) r132 (s132 18 5) s132 (fun s139 => m_X2_readCurrent_l111 K KO101 n l1 l3 l4 l5 (l6 + 1) s139))))
def m_X2_readCurrent_l101  (K : Int32 → Sg → Prop) : Nat → Int32 → Int32 → Int32 → Int32 → Sg → Prop
  | 0, _, _, _, _, _ => False
  | n + 1, l1, l3, l4, l5, σ =>
    ((l4 < l5 → m_X2_readEnd  σ (fun r155 s155 => K r155 s155)) ∧ (¬ (l4 < l5) → ∃ n9, m_X2_readCurrent_l111 K (fun l1 l3 l4 l5 σ => m_X2_readCurrent_l101 K n l1 l3 l4 l5 σ) n9 l1 l3 l4 l5 l1 σ))
def m_X2_readCurrent  (σ : Sg) (K : Int32 → Sg → Prop) : Prop :=
    m_X2_readCell  σ (fun r1 s1 => ((¬ r1 = 0 → m_X3_xOf 10 (s1 18 6) s1 (fun r17 s17 => m_X3_yOf 10 (s17 18 6) s17 (fun r29 s29 => m_X2_readNumber r17 ((s29 10 0) - 1) s29 (fun r44 s44 => ((¬ r44 = 0 → (∀ l3_56, l3_56 = (s44 18 5) → m_X2_readNumber r29 ((s44 10 1) - 1) s44 (fun r68 s68 => ((¬ r68 = 0 → (∀ l4_80, l4_80 = (s68 18 5) → m_X2_readWord  s68 (fun r83 s83 => ((r83 = 0 → K 0 s83) ∧ (¬ (r83 = 0) → m_X2_isDirection  s83 (fun r90 s90 => ((¬ r90 = 0 → ∃ n9, m_X2_readCurrent_l101 K n9 r17 l3_56 l4_80 r29 s90) ∧ (r90 = 0 → K 0 s90)))))))) ∧ (r68 = 0 → K 0 s68))))) ∧ (r44 = 0 → K 0 s44)))))) ∧ (r1 = 0 → K 0 s1)))
def m_X2_readDirections_j27 (v1 : Nat) (v2 : Int32) (K : Int32 → Sg → Prop) (KO2 : Int32 → Sg → Prop) (l3 : Int32) (σ : Sg) : Prop :=
    m_X2_readWord  σ (fun r28 s28 => ((r28 = 0 → K 0 s28) ∧ (¬ (r28 = 0) → m_X2_isDirection  s28 (fun r35 s35 => ((¬ r35 = 0 → (vp_in l3 (ln v1) ∧ ∀ s49, s49 = st2 s35 v1 l3.toNatClampNeg (s35 18 5) → KO2 (l3 + 1) s49)) ∧ (r35 = 0 → K 0 s35))))))
def m_X2_readDirections_l2 (v1 : Nat) (v2 : Int32) (K : Int32 → Sg → Prop) : Nat → Int32 → Sg → Prop
  | 0, _, _ => False
  | n + 1, l3, σ =>
    (((Int32.ofNat (ln v1)) ≤ l3 → (∀ s59, s59 = st2 σ 18 8 (Int32.ofNat (ln v1)) → m_X2_isEnd  s59 (fun r63 s63 => ((¬ r63 = 0 → K 1 s63) ∧ (r63 = 0 → m_X2_fail 1 (s63 18 3) s63 (fun r75 s75 => ((r75 = 0 → K 0 s75) ∧ (¬ (r75 = 0) → K 1 s75)))))))) ∧ (¬ ((Int32.ofNat (ln v1)) ≤ l3) → ((l3 < v2 → m_X2_readDirections_j27 v1 v2 K (fun l3 σ => m_X2_readDirections_l2 v1 v2 K n l3 σ) l3 σ) ∧ (¬ (l3 < v2) → m_X2_isEnd  σ (fun r14 s14 => ((r14 = 0 → m_X2_readDirections_j27 v1 v2 K (fun l3 σ => m_X2_readDirections_l2 v1 v2 K n l3 σ) l3 s14) ∧ (¬ (r14 = 0) → (∀ s22, s22 = st2 s14 18 8 l3 → K 1 s22))))))))
def m_X2_readDirections (v1 : Nat) (v2 : Int32) (σ : Sg) (K : Int32 → Sg → Prop) : Prop :=
    ∃ n9, m_X2_readDirections_l2 v1 v2 K n9 0 σ
def m_X2_readWind  (σ : Sg) (K : Int32 → Sg → Prop) : Prop :=
    (((σ 18 13) = 0 → (∀ s19, s19 = st2 σ 18 13 1 → m_X2_readDirections (10 + 5) 1 s19 (fun r31 s31 => ((¬ r31 = 0 → (∀ s47, s47 = st2 s31 10 8 (s31 18 8) → K 1 s47)) ∧ (r31 = 0 → K 0 s31))))) ∧ (¬ ((σ 18 13) = 0) → m_X2_fail 1 (σ 18 4) σ (fun r13 s13 => K r13 s13)))
def m_X2_isWater  (σ : Sg) (K : Int32 → Sg → Prop) : Prop :=
    m_X4_read (10 + 3) (σ 18 6) σ (fun r11 s11 => ((r11 = 0 → K 1 s11) ∧ (¬ (r11 = 0) → m_X2_fail 3 (s11 18 7) s11 (fun r23 s23 => ((r23 = 0 → K 0 s23) ∧ (¬ (r23 = 0) → K 1 s23))))))
def m_X2_readDrifter  (σ : Sg) (K : Int32 → Sg → Prop) : Prop :=
    (((σ 18 11) = 0 → m_X2_readCell  σ (fun r18 s18 => ((r18 = 0 → K 0 s18) ∧ (¬ (r18 = 0) → m_X2_isWater  s18 (fun r25 s25 => ((¬ r25 = 0 → (∀ s35, s35 = st2 s25 18 11 1 → (∀ s46, s46 = st2 s35 10 5 (s35 18 6) → m_X2_readNumber 0 9 s46 (fun r53 s53 => ((¬ r53 = 0 → (∀ s69, s69 = st2 s53 10 4 (s53 18 5) → m_X2_readEnd  s69 (fun r73 s73 => K r73 s73))) ∧ (r53 = 0 → K 0 s53)))))) ∧ (r25 = 0 → K 0 s25))))))) ∧ (¬ ((σ 18 11) = 0) → m_X2_fail 1 (σ 18 4) σ (fun r13 s13 => K r13 s13)))
def m_X2_readHelper_j57  (K : Int32 → Sg → Prop) (k1 : Int32) (k2 : Int32) (σ : Sg) : Prop :=
    m_X2_readNumber k1 k2 σ (fun r57 s57 => ((¬ r57 = 0 → m_X3_addHelper 10 (s57 18 6) (s57 18 5) s57 (fun s77 => m_X2_readEnd  s77 (fun r81 s81 => K r81 s81))) ∧ (r57 = 0 → K 0 s57)))
def m_X2_readHelper  (σ : Sg) (K : Int32 → Sg → Prop) : Prop :=
    (((σ 10 7) < 3 → m_X2_readCell  σ (fun r22 s22 => ((r22 = 0 → K 0 s22) ∧ (¬ (r22 = 0) → m_X2_isWater  s22 (fun r29 s29 => ((r29 = 0 → K 0 s29) ∧ (¬ (r29 = 0) → (((s29 18 14) = 0 → m_X2_readHelper_j57 K 0 999 s29) ∧ (¬ ((s29 18 14) = 0) → m_X2_readHelper_j57 K 0 (s29 10 3) s29))))))))) ∧ (¬ ((σ 10 7) < 3) → m_X2_fail 4 (σ 18 4) σ (fun r17 s17 => K r17 s17)))
def m_X2_readPort  (σ : Sg) (K : Int32 → Sg → Prop) : Prop :=
    (((σ 18 12) = 0 → m_X2_readCell  σ (fun r18 s18 => ((r18 = 0 → K 0 s18) ∧ (¬ (r18 = 0) → m_X2_isWater  s18 (fun r25 s25 => ((¬ r25 = 0 → (∀ s35, s35 = st2 s25 18 12 1 → (∀ s46, s46 = st2 s35 10 6 (s35 18 6) → m_X2_readDirections (10 + 6) 0 s46 (fun r58 s58 => ((¬ r58 = 0 → (∀ s74, s74 = st2 s58 10 9 (s58 18 8) → K 1 s74)) ∧ (r58 = 0 → K 0 s58)))))) ∧ (r25 = 0 → K 0 s25))))))) ∧ (¬ ((σ 18 12) = 0) → m_X2_fail 1 (σ 18 4) σ (fun r13 s13 => K r13 s13)))
def m_X2_readTank  (σ : Sg) (K : Int32 → Sg → Prop) : Prop :=
    (((σ 18 14) = 0 → (∀ s19, s19 = st2 σ 18 14 1 → m_X2_readNumber 1 999 s19 (fun r27 s27 => ((¬ r27 = 0 → (∀ s43, s43 = st2 s27 10 3 (s27 18 5) → m_X2_readEnd  s43 (fun r47 s47 => K r47 s47))) ∧ (r27 = 0 → K 0 s27))))) ∧ (¬ ((σ 18 14) = 0) → m_X2_fail 1 (σ 18 4) σ (fun r13 s13 => K r13 s13)))
def m_X2_readSentence  (σ : Sg) (K : Int32 → Sg → Prop) : Prop :=
    m_X2_readWord  σ (fun r1 s1 => ((¬ r1 = 0 → m_X2_isWord 2 s1 (fun r12 s12 => ((r12 = 0 → m_X2_isWord 3 s12 (fun r26 s26 => ((r26 = 0 → m_X2_isWord 13 s26 (fun r40 s40 => ((r40 = 0 → m_X2_isWord 14 s40 (fun r54 s54 => ((r54 = 0 → m_X2_isWord 15 s54 (fun r68 s68 => ((r68 = 0 → m_X2_isWord 16 s68 (fun r82 s82 => ((r82 = 0 → m_X2_isWord 17 s82 (fun r96 s96 => ((r96 = 0 → m_X2_fail 1 (s96 18 4) s96 (fun r113 s113 => K r113 s113)) ∧ (¬ (r96 = 0) → m_X2_readTank  s96 (fun r103 s103 => K r103 s103))))) ∧ (¬ (r82 = 0) → m_X2_readPort  s82 (fun r89 s89 => K r89 s89))))) ∧ (¬ (r68 = 0) → m_X2_readHelper  s68 (fun r75 s75 => K r75 s75))))) ∧ (¬ (r54 = 0) → m_X2_readDrifter  s54 (fun r61 s61 => K r61 s61))))) ∧ (¬ (r40 = 0) → m_X2_readWind  s40 (fun r47 s47 => K r47 s47))))) ∧ (¬ (r26 = 0) → m_X2_readCurrent  s26 (fun r33 s33 => K r33 s33))))) ∧ (¬ (r12 = 0) → m_X2_readLand  s12 (fun r19 s19 => K r19 s19))))) ∧ (r1 = 0 → K 0 s1)))
def m_X2_readText_j42 (v1 : Int32) (K : Int32 → Sg → Prop) (l2 : Int32) (σ : Sg) : Prop :=
    ((l2 = 0 → K (σ 18 9) σ) ∧ (¬ (l2 = 0) → (((σ 18 11) = 0 → m_X2_fail 5 (σ 18 2) σ (fun r76 s76 => K (s76 18 9) s76)) ∧ (¬ ((σ 18 11) = 0) → (((σ 18 12) = 0 → m_X2_fail 5 (σ 18 2) σ (fun r76 s76 => K (s76 18 9) s76)) ∧ (¬ ((σ 18 12) = 0) → ((0 < (σ 10 7) → K (σ 18 9) σ) ∧ (¬ (0 < (σ 10 7)) → m_X2_fail 5 (σ 18 2) σ (fun r76 s76 => K (s76 18 9) s76)))))))))
def m_X2_readText_l12 (v1 : Int32) (K : Int32 → Sg → Prop) : Nat → Int32 → Int32 → Sg → Prop
  | 0, _, _, _ => False
  | n + 1, l2, l3, σ =>
    (((σ 18 2) ≤ l3 → m_X2_readText_j42 v1 K l2 σ) ∧ (¬ ((σ 18 2) ≤ l3) → ((l2 = 0 → m_X2_readText_j42 v1 K l2 σ) ∧ (¬ (l2 = 0) → m_X2_isMore  σ (fun r25 s25 => ((r25 = 0 → m_X2_readText_j42 v1 K l2 s25) ∧ (¬ (r25 = 0) → m_X2_readSentence  s25 (fun r32 s32 => m_X2_readText_l12 v1 K n r32 (l3 + 1) s32))))))))
def m_X2_readText (v1 : Int32) (σ : Sg) (K : Int32 → Sg → Prop) : Prop :=
    m_X2_begin v1 σ (fun s2 => m_X2_readSea  s2 (fun r6 s6 => ∃ n9, m_X2_readText_l12 v1 K n9 r6 0 s6))
def m_X4_keepWorld  (σ : Sg) (K : Sg → Prop) : Prop :=
    m_X4_keptAt (σ 0 8) σ (fun r5 s5 => m_X3_become r5 2 s5 (fun s12 => (∀ s25, s25 = st2 s12 0 8 (((s12 0 8) + 1) - ((s12 0 8) + 1) / 8 * 8) → (∀ s40, s40 = st2 s25 0 9 (if 8 < ((s25 0 9) + 1) then 8 else ((s25 0 9) + 1)) → m_X0_forget  s40 (fun s47 => K s47)))))
def m_X4_text (v1 : Int32) (σ : Sg) (K : Int32 → Sg → Prop) (X : String → Sg → Prop) : Prop :=
    m_X4_isIn v1 0 (σ 0 6) σ (fun r7 s7 => m_X4_needNumber r7 s7 (fun s10 => (∀ s15, s15 = st2 s10 0 6 0 → m_X2_readText v1 s15 (fun r23 s23 => (∀ s35, s35 = st2 s23 0 7 (s23 18 10) → ((r23 = 0 → m_X4_keepWorld  s35 (fun s48 => m_X3_become 2 10 s48 (fun s59 => K (s59 2 7) s59))) ∧ (¬ (r23 = 0) → K (r23 - 10) s35)))))) X)
def m_X4_isCourseOf (v1 : Int32) (v2 : Int32) (σ : Sg) (K : Int32 → Sg → Prop) : Prop :=
    (((σ 2 7) ≤ v1 → ((¬ v2 = 0 → K 0 σ) ∧ (v2 = 0 → K 1 σ))) ∧ (¬ ((σ 2 7) ≤ v1) → m_X4_isIn v2 0 8 σ (fun r15 s15 => K r15 s15)))
def m_X3_canSail_j31 (v0 : Nat) (v1 : Int32) (v2 : Int32) (K : Int32 → Sg → Prop) (k0 : Int32) (σ : Sg) : Prop :=
    ((k0 = 0 → K 0 σ) ∧ (¬ (k0 = 0) → m_X4_read (v0 + 1) v1 σ (fun r42 s42 => m_X3_helperBehind v0 r42 v2 s42 (fun r46 s46 => ((r46 = (-1) → K 0 s46) ∧ (¬ (r46 = (-1)) → K 1 s46))))))
def m_X3_canSail (v0 : Nat) (v1 : Int32) (v2 : Int32) (σ : Sg) (K : Int32 → Sg → Prop) : Prop :=
    ((¬ v2 = 0 → m_X3_priceOf v0 v2 (σ v0 2) σ (fun r12 s12 => m_X4_read (v0 + 2) v1 s12 (fun r20 s20 => ((r20 < r12 → m_X3_canSail_j31 v0 v1 v2 K 0 s20) ∧ (¬ (r20 < r12) → m_X3_canSail_j31 v0 v1 v2 K 1 s20))))) ∧ (v2 = 0 → K 1 σ))
def m_X4_needState (v1 : Int32) (σ : Sg) (K : Sg → Prop) (X : String → Sg → Prop) : Prop :=
    ((¬ v1 = 0 → K σ) ∧ (v1 = 0 → (∀ s11, s11 = st2 σ 0 12 ((σ 0 12) + 1) → X "java/lang/IllegalStateException" s11)))
def m_X3_sail (v0 : Nat) (v1 : Int32) (v2 : Int32) (σ : Sg) (K : Sg → Prop) : Prop :=
    ((v1 < (σ v0 7) → m_X4_read (v0 + 2) v1 σ (fun r19 s19 => m_X3_priceOf v0 v2 (s19 v0 2) s19 (fun r28 s28 => m_X4_write (v0 + 2) v1 (r19 - r28) s28 (fun s32 => m_X4_read (v0 + 1) v1 s32 (fun r46 s46 => m_X3_helperBehind v0 r46 v2 s46 (fun r50 s50 => m_X4_write (v0 + 1) v1 r50 s50 (fun s53 => K s53))))))) ∧ (¬ (v1 < (σ v0 7)) → K σ))
def m_X3_passHour (v0 : Nat) (σ : Sg) (K : Sg → Prop) : Prop :=
    m_X3_drifterBehind v0 (σ v0 5) (σ v0 2) σ (fun r10 s10 => (∀ s13, s13 = st2 s10 v0 5 r10 → m_X3_portBehind v0 (s13 v0 6) (s13 v0 2) s13 (fun r26 s26 => (∀ s29, s29 = st2 s26 v0 6 r26 → (∀ s39, s39 = st2 s29 v0 2 ((s29 v0 2) + 1) → K s39)))))
def m_X3_meetingBits_l4 (v0 : Nat) (K : Int32 → Sg → Prop) : Nat → Int32 → Int32 → Sg → Prop
  | 0, _, _, _ => False
  | n + 1, l1, l2, σ =>
    (((σ v0 7) ≤ l2 → K l1 σ) ∧ (¬ ((σ v0 7) ≤ l2) → m_X4_read (v0 + 1) l2 σ (fun r17 s17 => ((¬ r17 = (s17 v0 5) → m_X3_meetingBits_l4 v0 K n l1 (l2 + 1) s17) ∧ (r17 = (s17 v0 5) → (∀ l1_32, l1_32 = (l1 ||| (1 <<< (l2 &&& 31))) → m_X3_meetingBits_l4 v0 K n l1_32 (l2 + 1) s17))))))
def m_X3_meetingBits (v0 : Nat) (σ : Sg) (K : Int32 → Sg → Prop) : Prop :=
    ∃ n9, m_X3_meetingBits_l4 v0 K n9 0 0 σ
def m_X4_hour_j100 (v1 : Int32) (v2 : Int32) (v3 : Int32) (K : Int32 → Sg → Prop) (X : String → Sg → Prop) (k1 : Int32) (σ : Sg) : Prop :=
    m_X4_needState k1 σ (fun s100 => m_X4_keepWorld  s100 (fun s104 => m_X3_sail 2 0 v1 s104 (fun s113 => m_X3_sail 2 1 v2 s113 (fun s122 => m_X3_sail 2 2 v3 s122 (fun s131 => m_X3_passHour 2 s131 (fun s138 => m_X3_meetingBits 2 s138 (fun r145 s145 => K r145 s145))))))) X
def m_X4_hour_j78 (v1 : Int32) (v2 : Int32) (v3 : Int32) (K : Int32 → Sg → Prop) (X : String → Sg → Prop) (k1 : Int32) (σ : Sg) : Prop :=
    m_X4_needState k1 σ (fun s78 => ((500 ≤ (s78 2 2) → m_X4_hour_j100 v1 v2 v3 K X 0 s78) ∧ (¬ (500 ≤ (s78 2 2)) → m_X4_hour_j100 v1 v2 v3 K X 1 s78))) X
def m_X4_hour_j33 (v1 : Int32) (v2 : Int32) (v3 : Int32) (K : Int32 → Sg → Prop) (X : String → Sg → Prop) (k1 : Int32) (σ : Sg) : Prop :=
    m_X4_needNumber k1 σ (fun s33 => m_X3_canSail 2 0 v1 s33 (fun r43 s43 => ((r43 = 0 → m_X4_hour_j78 v1 v2 v3 K X 0 s43) ∧ (¬ (r43 = 0) → m_X3_canSail 2 1 v2 s43 (fun r55 s55 => ((r55 = 0 → m_X4_hour_j78 v1 v2 v3 K X 0 s55) ∧ (¬ (r55 = 0) → m_X3_canSail 2 2 v3 s55 (fun r67 s67 => ((r67 = 0 → m_X4_hour_j78 v1 v2 v3 K X 0 s67) ∧ (¬ (r67 = 0) → m_X4_hour_j78 v1 v2 v3 K X 1 s67)))))))))) X
def m_X4_hour (v1 : Int32) (v2 : Int32) (v3 : Int32) (σ : Sg) (K : Int32 → Sg → Prop) (X : String → Sg → Prop) : Prop :=
    m_X4_isCourseOf 0 v1 σ (fun r4 s4 => ((r4 = 0 → m_X4_hour_j33 v1 v2 v3 K X 0 s4) ∧ (¬ (r4 = 0) → m_X4_isCourseOf 1 v2 s4 (fun r13 s13 => ((r13 = 0 → m_X4_hour_j33 v1 v2 v3 K X 0 s13) ∧ (¬ (r13 = 0) → m_X4_isCourseOf 2 v3 s13 (fun r22 s22 => ((r22 = 0 → m_X4_hour_j33 v1 v2 v3 K X 0 s22) ∧ (¬ (r22 = 0) → m_X4_hour_j33 v1 v2 v3 K X 1 s22)))))))))
def m_X4_needHelper_j15 (v1 : Int32) (K : Sg → Prop) (X : String → Sg → Prop)  (σ : Sg) : Prop :=
    (∀ s22, s22 = st2 σ 0 10 ((σ 0 10) + 1) → X "java/util/NoSuchElementException" s22)
def m_X4_needHelper (v1 : Int32) (σ : Sg) (K : Sg → Prop) (X : String → Sg → Prop) : Prop :=
    ((v1 < 0 → m_X4_needHelper_j15 v1 K X σ) ∧ (¬ (v1 < 0) → ((v1 < (σ 2 7) → K σ) ∧ (¬ (v1 < (σ 2 7)) → m_X4_needHelper_j15 v1 K X σ))))
def m_X4_fuel (v1 : Int32) (v2 : Int32) (σ : Sg) (K : Int32 → Sg → Prop) (X : String → Sg → Prop) : Prop :=
    m_X4_needHelper v1 σ (fun s2 => m_X4_isIn v2 0 (s2 2 3) s2 (fun r15 s15 => m_X4_needNumber r15 s15 (fun s18 => m_X4_read (2 + 2) v1 s18 (fun r29 s29 => m_X4_keepWorld  s29 (fun s34 => m_X4_write (2 + 2) v1 v2 s34 (fun s46 => K r29 s46)))) X)) X
def m_X4_wind_j33 (v1 : Int32) (v2 : Int32) (K : Int32 → Sg → Prop) (X : String → Sg → Prop) (k1 : Int32) (σ : Sg) : Prop :=
    m_X4_needNumber k1 σ (fun s33 => m_X3_windOf 2 v1 s33 (fun r41 s41 => m_X4_keepWorld  s41 (fun s46 => m_X4_write (2 + 7) v1 v2 s46 (fun s58 => K r41 s58)))) X
def m_X4_wind (v1 : Int32) (v2 : Int32) (σ : Sg) (K : Int32 → Sg → Prop) (X : String → Sg → Prop) : Prop :=
    m_X4_isIn v1 (σ 2 2) 560 σ (fun r12 s12 => ((r12 = 0 → m_X4_wind_j33 v1 v2 K X 0 s12) ∧ (¬ (r12 = 0) → m_X4_isIn v2 0 8 s12 (fun r22 s22 => ((r22 = 0 → m_X4_wind_j33 v1 v2 K X 0 s22) ∧ (¬ (r22 = 0) → m_X4_wind_j33 v1 v2 K X 1 s22))))))
def m_X3_countLand_l4 (v0 : Nat) (K : Int32 → Sg → Prop) : Nat → Int32 → Int32 → Sg → Prop
  | 0, _, _, _ => False
  | n + 1, l1, l2, σ =>
    (((Int32.ofNat 240) ≤ l2 → K l1 σ) ∧ (¬ ((Int32.ofNat 240) ≤ l2) → (vp_in l2 240 ∧ (∀ l1_21, l1_21 = (l1 + (σ (v0 + 3) l2.toNatClampNeg)) → m_X3_countLand_l4 v0 K n l1_21 (l2 + 1) σ))))
def m_X3_countLand (v0 : Nat) (σ : Sg) (K : Int32 → Sg → Prop) : Prop :=
    ∃ n9, m_X3_countLand_l4 v0 K n9 0 0 σ
def m_X4_told (v1 : Int32) (σ : Sg) (K : Int32 → Sg → Prop) (X : String → Sg → Prop) : Prop :=
    m_X4_isIn v1 0 12 σ (fun r5 s5 => m_X4_needNumber r5 s5 (fun s8 => (((v1 < 0 ∨ 11 < v1) → K (s8 0 9) s8) ∧ (v1 = 0 → K (s8 2 0) s8) ∧ (v1 = 1 → K (s8 2 1) s8) ∧ (v1 = 2 → K (s8 2 2) s8) ∧ (v1 = 3 → K (s8 2 7) s8) ∧ (v1 = 4 → K (s8 2 3) s8) ∧ (v1 = 5 → K (s8 2 4) s8) ∧ (v1 = 6 → m_X3_countLand 2 s8 (fun r128 s128 => K r128 s128)) ∧ (v1 = 7 → m_X3_xOf 2 (s8 2 5) s8 (fun r143 s143 => K r143 s143)) ∧ (v1 = 8 → m_X3_yOf 2 (s8 2 5) s8 (fun r158 s158 => K r158 s158)) ∧ (v1 = 9 → m_X3_xOf 2 (s8 2 6) s8 (fun r173 s173 => K r173 s173)) ∧ (v1 = 10 → m_X3_yOf 2 (s8 2 6) s8 (fun r188 s188 => K r188 s188)) ∧ (v1 = 11 → K (s8 0 6) s8))) X)
def m_X4_cell_j27 (v1 : Int32) (v2 : Int32) (v3 : Int32) (K : Int32 → Sg → Prop) (X : String → Sg → Prop) (k1 : Int32) (σ : Sg) : Prop :=
    m_X4_needNumber k1 σ (fun s27 => m_X3_cellAt 2 v1 v2 s27 (fun r36 s36 => ((¬ v3 = 0 → m_X4_read (2 + 4) r36 s36 (fun r69 s69 => K r69 s69)) ∧ (v3 = 0 → m_X4_read (2 + 3) r36 s36 (fun r54 s54 => K r54 s54))))) X
def m_X4_cell (v1 : Int32) (v2 : Int32) (v3 : Int32) (σ : Sg) (K : Int32 → Sg → Prop) (X : String → Sg → Prop) : Prop :=
    m_X3_isOnSea 2 v1 v2 σ (fun r7 s7 => ((r7 = 0 → m_X4_cell_j27 v1 v2 v3 K X 0 s7) ∧ (¬ (r7 = 0) → m_X4_isIn v3 0 1 s7 (fun r16 s16 => ((r16 = 0 → m_X4_cell_j27 v1 v2 v3 K X 0 s16) ∧ (¬ (r16 = 0) → m_X4_cell_j27 v1 v2 v3 K X 1 s16))))))
def m_X4_blows (v1 : Int32) (σ : Sg) (K : Int32 → Sg → Prop) (X : String → Sg → Prop) : Prop :=
    m_X4_isIn v1 0 560 σ (fun r6 s6 => m_X4_needNumber r6 s6 (fun s9 => m_X3_windOf 2 v1 s9 (fun r17 s17 => K r17 s17)) X)
def m_X4_helper (v1 : Int32) (v2 : Int32) (σ : Sg) (K : Int32 → Sg → Prop) (X : String → Sg → Prop) : Prop :=
    m_X4_needHelper v1 σ (fun s2 => m_X4_isIn v2 0 3 s2 (fun r9 s9 => m_X4_needNumber r9 s9 (fun s12 => m_X4_read (2 + 1) v1 s12 (fun r23 s23 => (((v2 < 0 ∨ 2 < v2) → ((¬ r23 = (s23 2 5) → K 0 s23) ∧ (r23 = (s23 2 5) → K 1 s23))) ∧ (v2 = 0 → m_X3_xOf 2 r23 s23 (fun r61 s61 => K r61 s61)) ∧ (v2 = 1 → m_X3_yOf 2 r23 s23 (fun r70 s70 => K r70 s70)) ∧ (v2 = 2 → m_X4_read (2 + 2) v1 s23 (fun r82 s82 => K r82 s82))))) X)) X
def m_X0_drifterIn (v1 : Int32) (σ : Sg) (K : Int32 → Sg → Prop) : Prop :=
    m_X4_read 20 v1 σ (fun r5 s5 => K r5 s5)
def m_X0_portIn (v1 : Int32) (σ : Sg) (K : Int32 → Sg → Prop) : Prop :=
    m_X4_read 21 v1 σ (fun r5 s5 => K r5 s5)
def m_X4_drift_j59 (v1 : Int32) (v2 : Int32) (K : Int32 → Sg → Prop) (X : String → Sg → Prop) (k0 : Int32) (σ : Sg) : Prop :=
    ((¬ (v2 - v2 / 2 * 2) = 0 → m_X3_yOf 2 k0 σ (fun r82 s82 => K r82 s82)) ∧ ((v2 - v2 / 2 * 2) = 0 → m_X3_xOf 2 k0 σ (fun r71 s71 => K r71 s71)))
def m_X4_drift_j25 (v1 : Int32) (v2 : Int32) (K : Int32 → Sg → Prop) (X : String → Sg → Prop) (k1 : Int32) (σ : Sg) : Prop :=
    m_X4_needNumber k1 σ (fun s25 => m_X0_refresh  s25 (fun s32 => ((2 ≤ v2 → m_X0_portIn v1 s32 (fun r56 s56 => m_X4_drift_j59 v1 v2 K X r56 s56)) ∧ (¬ (2 ≤ v2) → m_X0_drifterIn v1 s32 (fun r45 s45 => m_X4_drift_j59 v1 v2 K X r45 s45))))) X
def m_X4_drift (v1 : Int32) (v2 : Int32) (σ : Sg) (K : Int32 → Sg → Prop) (X : String → Sg → Prop) : Prop :=
    m_X4_isIn v1 0 60 σ (fun r5 s5 => ((r5 = 0 → m_X4_drift_j25 v1 v2 K X 0 s5) ∧ (¬ (r5 = 0) → m_X4_isIn v2 0 3 s5 (fun r14 s14 => ((r14 = 0 → m_X4_drift_j25 v1 v2 K X 0 s14) ∧ (¬ (r14 = 0) → m_X4_drift_j25 v1 v2 K X 1 s14))))))
def m_X4_cost_j26 (v1 : Int32) (v2 : Int32) (K : Int32 → Sg → Prop) (X : String → Sg → Prop) (k1 : Int32) (σ : Sg) : Prop :=
    m_X4_needNumber k1 σ (fun s26 => m_X3_priceOf 2 v1 ((s26 2 2) + v2) s26 (fun r43 s43 => K r43 s43)) X
def m_X4_cost (v1 : Int32) (v2 : Int32) (σ : Sg) (K : Int32 → Sg → Prop) (X : String → Sg → Prop) : Prop :=
    m_X4_isIn v1 1 8 σ (fun r5 s5 => ((r5 = 0 → m_X4_cost_j26 v1 v2 K X 0 s5) ∧ (¬ (r5 = 0) → m_X4_isIn v2 0 59 s5 (fun r15 s15 => ((r15 = 0 → m_X4_cost_j26 v1 v2 K X 0 s15) ∧ (¬ (r15 = 0) → m_X4_cost_j26 v1 v2 K X 1 s15))))))
def m_X0_mostMeeting (v1 : Int32) (v2 : Int32) (σ : Sg) (K : Int32 → Sg → Prop) : Prop :=
    ((¬ v2 = (-1) → m_X0_mostsOf v1 v2 σ (fun r12 s12 => m_X0_drifterIn v2 s12 (fun r17 s17 => m_X4_read r12 r17 s17 (fun r20 s20 => K r20 s20)))) ∧ (v2 = (-1) → K (-1) σ))
def m_X4_meet (v1 : Int32) (v2 : Int32) (σ : Sg) (K : Int32 → Sg → Prop) (X : String → Sg → Prop) : Prop :=
    m_X4_needHelper v1 σ (fun s2 => m_X4_isIn v2 0 1 s2 (fun r9 s9 => m_X4_needNumber r9 s9 (fun s12 => m_X0_refresh  s12 (fun s19 => m_X0_earliestOf v1 s19 (fun r27 s27 => ((¬ v2 = 0 → m_X0_mostMeeting v1 r27 s27 (fun r45 s45 => K r45 s45)) ∧ (v2 = 0 → K r27 s27))))) X)) X
def m_X0_needBy (v1 : Int32) (v2 : Int32) (v3 : Int32) (σ : Sg) (K : Int32 → Sg → Prop) : Prop :=
    ((v3 < 0 → K (-1) σ) ∧ (¬ (v3 < 0) → ((v3 < 60 → (vp_in (v3 + 1) 61 ∧ m_X4_read 22 ((v1 * 9) + v2) σ (fun r30 s30 => m_X4_read (26 + (v3 + 1).toNatClampNeg) r30 s30 (fun r33 s33 => ((¬ r33 = (-1) → m_X4_read 23 ((v3 * 9) + v2) s33 (fun r60 s60 => K (r33 + r60) s60)) ∧ (r33 = (-1) → K (-1) s33)))))) ∧ (¬ (v3 < 60) → K (-1) σ))))
def m_X0_needFrom_l5 (v1 : Int32) (v2 : Int32) (K : Int32 → Sg → Prop) : Nat → Int32 → Int32 → Sg → Prop
  | 0, _, _, _ => False
  | n + 1, l3, l4, σ =>
    ((9 ≤ l4 → K l3 σ) ∧ (¬ (9 ≤ l4) → m_X0_needBy v1 l4 v2 σ (fun r17 s17 => ((r17 = (-1) → m_X0_needFrom_l5 v1 v2 K n l3 (l4 + 1) s17) ∧ (¬ (r17 = (-1)) → ((l3 = (-1) → m_X0_needFrom_l5 v1 v2 K n r17 (l4 + 1) s17) ∧ (¬ (l3 = (-1)) → ((l3 ≤ r17 → m_X0_needFrom_l5 v1 v2 K n l3 (l4 + 1) s17) ∧ (¬ (l3 ≤ r17) → m_X0_needFrom_l5 v1 v2 K n r17 (l4 + 1) s17)))))))))
def m_X0_needFrom (v1 : Int32) (v2 : Int32) (σ : Sg) (K : Int32 → Sg → Prop) : Prop :=
    ∃ n9, m_X0_needFrom_l5 v1 v2 K n9 (-1) 0 σ
def m_X0_lookAtNeeds_l37 (v1 : Int32) (K : Sg → Prop) (KO31 : Int32 → Sg → Prop) : Nat → Int32 → Int32 → Sg → Prop
  | 0, _, _, _ => False
  | n + 1, l2, l3, σ =>
    (((σ 19 8) ≤ l3 → KO31 (l2 + (-1)) σ) ∧ (¬ ((σ 19 8) ≤ l3) → ((240 ≤ l3 → KO31 (l2 + (-1)) σ) ∧ (¬ (240 ≤ l3) → (vp_in l2 61 ∧ m_X0_needFrom l3 l2 σ (fun r62 s62 => (vp_in l3 240 ∧ ∀ s65, s65 = st2 s62 (26 + l2.toNatClampNeg) l3.toNatClampNeg r62 → m_X0_lookAtNeeds_l37 v1 K KO31 n l2 (l3 + 1) s65)))))))
def m_X0_lookAtNeeds_l31 (v1 : Int32) (K : Sg → Prop) : Nat → Int32 → Sg → Prop
  | 0, _, _ => False
  | n + 1, l2, σ =>
    ((l2 < 0 → K σ) ∧ (¬ (l2 < 0) → ∃ n9, m_X0_lookAtNeeds_l37 v1 K (fun l2 σ => m_X0_lookAtNeeds_l31 v1 K n l2 σ) n9 l2 0 σ))
def m_X0_lookAtNeeds (v1 : Int32) (σ : Sg) (K : Sg → Prop) : Prop :=
    ((v1 < 0 → K σ) ∧ (¬ (v1 < 0) → ((v1 ≤ 60 → (vp_in v1 61 ∧ (vp_in v1 61 ∧ m_X0_begin (26 + v1.toNatClampNeg) (σ 20 v1.toNatClampNeg) 0 σ (fun s24 => (∀ l2_30, l2_30 = (v1 - 1) → ∃ n9, m_X0_lookAtNeeds_l31 v1 K n9 l2_30 s24))))) ∧ (¬ (v1 ≤ 60) → K σ))))
def m_X0_firstNeeding_l3 (v1 : Int32) (v2 : Int32) (v3 : Int32) (K : Int32 → Sg → Prop) : Nat → Int32 → Sg → Prop
  | 0, _, _ => False
  | n + 1, l4, σ =>
    ((9 ≤ l4 → K 0 σ) ∧ (¬ (9 ≤ l4) → m_X0_needBy v2 l4 v3 σ (fun r15 s15 => ((¬ r15 = v1 → m_X0_firstNeeding_l3 v1 v2 v3 K n (l4 + 1) s15) ∧ (r15 = v1 → K l4 s15)))))
def m_X0_firstNeeding (v1 : Int32) (v2 : Int32) (v3 : Int32) (σ : Sg) (K : Int32 → Sg → Prop) : Prop :=
    ∃ n9, m_X0_firstNeeding_l3 v1 v2 v3 K n9 0 σ
def m_X0_walk_l6 (v1 : Nat) (v2 : Int32) (v3 : Int32) (K : Sg → Prop) : Nat → Int32 → Int32 → Sg → Prop
  | 0, _, _, _ => False
  | n + 1, l4, l5, σ =>
    ((v3 ≤ l5 → K σ) ∧ (¬ (v3 ≤ l5) → (((Int32.ofNat (ln v1)) ≤ l5 → K σ) ∧ (¬ ((Int32.ofNat (ln v1)) ≤ l5) → (vp_in l5 61 ∧ m_X4_read (26 + l5.toNatClampNeg) l4 σ (fun r32 s32 => m_X0_firstNeeding r32 l4 l5 s32 (fun r39 s39 => (vp_in l5 (ln v1) ∧ ∀ s42, s42 = st2 s39 v1 l5.toNatClampNeg r39 → (vp_in l5 (ln v1) ∧ m_X4_read 22 ((l4 * 9) + (s42 v1 l5.toNatClampNeg)) s42 (fun r57 s57 => m_X0_walk_l6 v1 v2 v3 K n r57 (l5 + 1) s57))))))))))
def m_X0_walk (v1 : Nat) (v2 : Int32) (v3 : Int32) (σ : Sg) (K : Sg → Prop) : Prop :=
    ∃ n9, m_X0_walk_l6 v1 v2 v3 K n9 v2 0 σ
def m_X0_courseOf (v1 : Int32) (v2 : Int32) (σ : Sg) (K : Int32 → Sg → Prop) : Prop :=
    m_X0_earliestOf v1 σ (fun r2 s2 => ((v2 < 0 → K (-1) s2) ∧ (¬ (v2 < 0) → ((v2 < r2 → m_X0_sailingOf v1 s2 (fun r19 s19 => ((¬ (s19 r19 3) = 0 → m_X4_read (r19 + 63) v2 s19 (fun r70 s70 => K r70 s70)) ∧ ((s19 r19 3) = 0 → m_X0_lookAtNeeds r2 s19 (fun s34 => m_X4_read (2 + 1) v1 s34 (fun r51 s51 => m_X0_walk (r19 + 63) r51 r2 s51 (fun s55 => (∀ s61, s61 = st2 s55 r19 3 1 → m_X4_read (r19 + 63) v2 s61 (fun r70 s70 => K r70 s70))))))))) ∧ (¬ (v2 < r2) → K (-1) s2)))))
def m_X4_route (v1 : Int32) (v2 : Int32) (σ : Sg) (K : Int32 → Sg → Prop) (X : String → Sg → Prop) : Prop :=
    m_X4_needHelper v1 σ (fun s2 => m_X0_refresh  s2 (fun s9 => m_X0_courseOf v1 v2 s9 (fun r18 s18 => K r18 s18))) X
def m_X0_leastOf_j79 (v1 : Int32) (v2 : Int32) (K : Int32 → Sg → Prop) (KO28 : Int32 → Int32 → Sg → Prop) (l3 : Int32) (l4 : Int32) (σ : Sg) : Prop :=
    (vp_in (l4 - l4 / 2 * 2) 2 ∧ (vp_in l4 61 ∧ m_X4_read (88 + (l4 - l4 / 2 * 2).toNatClampNeg) (σ 20 l4.toNatClampNeg) σ (fun r95 s95 => ((r95 = (-1) → KO28 l3 (l4 + 1) s95) ∧ (¬ (r95 = (-1)) → ((l3 = (-1) → (∀ l3_127, l3_127 = (1000 - r95) → KO28 l3_127 (l4 + 1) s95)) ∧ (¬ (l3 = (-1)) → ((l3 ≤ (1000 - r95) → KO28 l3 (l4 + 1) s95) ∧ (¬ (l3 ≤ (1000 - r95)) → (∀ l3_127, l3_127 = (1000 - r95) → KO28 l3_127 (l4 + 1) s95))))))))))
def m_X0_leastOf_l28 (v1 : Int32) (v2 : Int32) (K : Int32 → Sg → Prop) : Nat → Int32 → Int32 → Sg → Prop
  | 0, _, _, _ => False
  | n + 1, l3, l4, σ =>
    ((v2 < l4 → K l3 σ) ∧ (¬ (v2 < l4) → ((60 < l4 → K l3 σ) ∧ (¬ (60 < l4) → ((l3 = 0 → K l3 σ) ∧ (¬ (l3 = 0) → ((l4 ≤ 0 → m_X0_leastOf_j79 v1 v2 K (fun l3 l4 σ => m_X0_leastOf_l28 v1 v2 K n l3 l4 σ) l3 l4 σ) ∧ (¬ (l4 ≤ 0) → (vp_in ((l4 - 1) - (l4 - 1) / 2 * 2) 2 ∧ (vp_in (l4 - l4 / 2 * 2) 2 ∧ m_X0_sailHour (88 + ((l4 - 1) - (l4 - 1) / 2 * 2).toNatClampNeg) (88 + (l4 - l4 / 2 * 2).toNatClampNeg) (l4 - 1) 1 σ (fun s76 => m_X0_leastOf_j79 v1 v2 K (fun l3 l4 σ => m_X0_leastOf_l28 v1 v2 K n l3 l4 σ) l3 l4 s76)))))))))))
def m_X0_leastOf (v1 : Int32) (v2 : Int32) (σ : Sg) (K : Int32 → Sg → Prop) : Prop :=
    (vp_in 0 2 ∧ m_X4_read (2 + 1) v1 σ (fun r16 s16 => m_X0_begin (88 + (0 : Int32).toNatClampNeg) r16 1000 s16 (fun s22 => ∃ n9, m_X0_leastOf_l28 v1 v2 K n9 (-1) 0 s22)))
def m_X4_least (v1 : Int32) (v2 : Int32) (σ : Sg) (K : Int32 → Sg → Prop) (X : String → Sg → Prop) : Prop :=
    m_X4_needHelper v1 σ (fun s2 => m_X4_isIn v2 0 60 s2 (fun r10 s10 => m_X4_needNumber r10 s10 (fun s13 => m_X0_refresh  s13 (fun s20 => m_X0_leastOf v1 v2 s20 (fun r29 s29 => K r29 s29))) X)) X
def m_X0_reachOf_l13 (v1 : Int32) (v2 : Int32) (K : Int32 → Sg → Prop) : Nat → Nat → Int32 → Int32 → Sg → Prop
  | 0, _, _, _, _ => False
  | n + 1, l3, l4, l5, σ =>
    (((σ 19 8) ≤ l5 → K l4 σ) ∧ (¬ ((σ 19 8) ≤ l5) → (((Int32.ofNat (ln l3)) ≤ l5 → K l4 σ) ∧ (¬ ((Int32.ofNat (ln l3)) ≤ l5) → (vp_in l5 (ln l3) ∧ (((σ l3 l5.toNatClampNeg) = (-1) → m_X0_reachOf_l13 v1 v2 K n l3 l4 (l5 + 1) σ) ∧ (¬ ((σ l3 l5.toNatClampNeg) = (-1)) → m_X0_reachOf_l13 v1 v2 K n l3 (l4 + 1) (l5 + 1) σ)))))))
def m_X0_reachOf (v1 : Int32) (v2 : Int32) (σ : Sg) (K : Int32 → Sg → Prop) : Prop :=
    m_X0_mostsOf v1 v2 σ (fun r3 s3 => ∃ n9, m_X0_reachOf_l13 v1 v2 K n9 r3 0 0 s3)
def m_X4_reach (v1 : Int32) (v2 : Int32) (σ : Sg) (K : Int32 → Sg → Prop) (X : String → Sg → Prop) : Prop :=
    m_X4_needHelper v1 σ (fun s2 => m_X4_isIn v2 0 60 s2 (fun r10 s10 => m_X4_needNumber r10 s10 (fun s13 => m_X0_refresh  s13 (fun s20 => m_X0_reachOf v1 v2 s20 (fun r29 s29 => K r29 s29))) X)) X
def m_X0_mostOf (v1 : Int32) (v2 : Int32) (v3 : Int32) (σ : Sg) (K : Int32 → Sg → Prop) : Prop :=
    m_X0_mostsOf v1 v2 σ (fun r3 s3 => m_X4_read r3 v3 s3 (fun r7 s7 => K r7 s7))
def m_X4_most_j34 (v1 : Int32) (v2 : Int32) (v3 : Int32) (v4 : Int32) (K : Int32 → Sg → Prop) (X : String → Sg → Prop) (k1 : Int32) (σ : Sg) : Prop :=
    m_X4_needNumber k1 σ (fun s34 => m_X0_refresh  s34 (fun s41 => m_X3_cellAt 2 v3 v4 s41 (fun r57 s57 => m_X0_mostOf v1 v2 r57 s57 (fun r60 s60 => K r60 s60)))) X
def m_X4_most (v1 : Int32) (v2 : Int32) (v3 : Int32) (v4 : Int32) (σ : Sg) (K : Int32 → Sg → Prop) (X : String → Sg → Prop) : Prop :=
    m_X4_needHelper v1 σ (fun s2 => m_X4_isIn v2 0 60 s2 (fun r10 s10 => ((r10 = 0 → m_X4_most_j34 v1 v2 v3 v4 K X 0 s10) ∧ (¬ (r10 = 0) → m_X3_isOnSea 2 v3 v4 s10 (fun r23 s23 => ((r23 = 0 → m_X4_most_j34 v1 v2 v3 v4 K X 0 s23) ∧ (¬ (r23 = 0) → m_X4_most_j34 v1 v2 v3 v4 K X 1 s23))))))) X
def m_X0_giveFuel_l3 (v1 : Nat) (v2 : Nat) (v3 : Nat) (K : Sg → Prop) : Nat → Int32 → Sg → Prop
  | 0, _, _ => False
  | n + 1, l4, σ =>
    (((σ 19 8) ≤ l4 → K σ) ∧ (¬ ((σ 19 8) ≤ l4) → m_X4_read v1 l4 σ (fun r15 s15 => m_X4_read v2 l4 s15 (fun r23 s23 => ((r15 = (-1) → m_X0_giveFuel_l3 v1 v2 v3 K n (l4 + 1) s23) ∧ (¬ (r15 = (-1)) → ((r23 = (-1) → m_X0_giveFuel_l3 v1 v2 v3 K n (l4 + 1) s23) ∧ (¬ (r23 = (-1)) → (∀ l7_55, l7_55 = (if (s23 2 3) < (r15 + r23) then (s23 2 3) else (r15 + r23)) → m_X4_read v3 l4 s23 (fun r63 s63 => m_X4_write v3 l4 (if r63 < l7_55 then l7_55 else r63) s63 (fun s71 => m_X0_giveFuel_l3 v1 v2 v3 K n (l4 + 1) s71)))))))))))
def m_X0_giveFuel (v1 : Nat) (v2 : Nat) (v3 : Nat) (σ : Sg) (K : Sg → Prop) : Prop :=
    ∃ n9, m_X0_giveFuel_l3 v1 v2 v3 K n9 0 σ
def m_X0_relayOf_j52 (v1 : Int32) (v2 : Int32) (K : Int32 → Sg → Prop) (KO12 : Int32 → Sg → Prop) (l3 : Int32) (l4 : Nat) (σ : Sg) : Prop :=
    m_X0_mostsOf v1 l3 σ (fun r56 s56 => m_X0_mostsOf v2 l3 s56 (fun r62 s62 => m_X0_giveFuel r56 r62 l4 s62 (fun s67 => (vp_in l3 61 ∧ m_X4_read l4 (s67 20 l3.toNatClampNeg) s67 (fun r78 s78 => ((r78 = (-1) → KO12 (l3 + 1) s78) ∧ (¬ (r78 = (-1)) → K l3 s78)))))))
def m_X0_relayOf_l12 (v1 : Int32) (v2 : Int32) (K : Int32 → Sg → Prop) : Nat → Int32 → Sg → Prop
  | 0, _, _ => False
  | n + 1, l3, σ =>
    ((60 < l3 → K (-1) σ) ∧ (¬ (60 < l3) → (vp_in (l3 - l3 / 2 * 2) 2 ∧ ((l3 ≤ 0 → m_X0_relayOf_j52 v1 v2 K (fun l3 σ => m_X0_relayOf_l12 v1 v2 K n l3 σ) l3 (88 + (l3 - l3 / 2 * 2).toNatClampNeg) σ) ∧ (¬ (l3 ≤ 0) → (vp_in ((l3 - 1) - (l3 - 1) / 2 * 2) 2 ∧ m_X0_sailHour (88 + ((l3 - 1) - (l3 - 1) / 2 * 2).toNatClampNeg) (88 + (l3 - l3 / 2 * 2).toNatClampNeg) (l3 - 1) 1 σ (fun s49 => m_X0_relayOf_j52 v1 v2 K (fun l3 σ => m_X0_relayOf_l12 v1 v2 K n l3 σ) l3 (88 + (l3 - l3 / 2 * 2).toNatClampNeg) s49)))))))
def m_X0_relayOf (v1 : Int32) (v2 : Int32) (σ : Sg) (K : Int32 → Sg → Prop) : Prop :=
    (vp_in 0 2 ∧ m_J7_fill_53178 (88 + (0 : Int32).toNatClampNeg) (-1) σ (fun s7 => ∃ n9, m_X0_relayOf_l12 v1 v2 K n9 0 s7))
def m_X4_relay_j21 (v1 : Int32) (v2 : Int32) (K : Int32 → Sg → Prop) (X : String → Sg → Prop) (k1 : Int32) (σ : Sg) : Prop :=
    m_X4_needNumber k1 σ (fun s21 => m_X0_refresh  s21 (fun s28 => m_X0_relayOf v1 v2 s28 (fun r37 s37 => K r37 s37))) X
def m_X4_relay (v1 : Int32) (v2 : Int32) (σ : Sg) (K : Int32 → Sg → Prop) (X : String → Sg → Prop) : Prop :=
    m_X4_needHelper v1 σ (fun s2 => m_X4_needHelper v2 s2 (fun s7 => ((v1 = v2 → m_X4_relay_j21 v1 v2 K X 0 s7) ∧ (¬ (v1 = v2) → m_X4_relay_j21 v1 v2 K X 1 s7))) X) X
def m_X0_homeOf_j79 (v1 : Int32) (v2 : Int32) (K : Int32 → Sg → Prop) (KO37 : Int32 → Int32 → Sg → Prop) (l3 : Int32) (l4 : Int32) (σ : Sg) : Prop :=
    (vp_in (l4 - l4 / 2 * 2) 2 ∧ m_X0_portIn l4 σ (fun r91 s91 => m_X4_read (88 + (l4 - l4 / 2 * 2).toNatClampNeg) r91 s91 (fun r94 s94 => ((r94 = (-1) → KO37 l3 (l4 + 1) s94) ∧ (¬ (r94 = (-1)) → ((¬ v2 = 0 → K r94 s94) ∧ (v2 = 0 → K l4 s94)))))))
def m_X0_homeOf_l37 (v1 : Int32) (v2 : Int32) (K : Int32 → Sg → Prop) : Nat → Int32 → Int32 → Sg → Prop
  | 0, _, _, _ => False
  | n + 1, l3, l4, σ =>
    ((60 < l4 → K (-1) σ) ∧ (¬ (60 < l4) → ((l4 ≤ l3 → m_X0_homeOf_j79 v1 v2 K (fun l3 l4 σ => m_X0_homeOf_l37 v1 v2 K n l3 l4 σ) l3 l4 σ) ∧ (¬ (l4 ≤ l3) → (vp_in ((l4 - 1) - (l4 - 1) / 2 * 2) 2 ∧ (vp_in (l4 - l4 / 2 * 2) 2 ∧ m_X0_sailHour (88 + ((l4 - 1) - (l4 - 1) / 2 * 2).toNatClampNeg) (88 + (l4 - l4 / 2 * 2).toNatClampNeg) (l4 - 1) 2 σ (fun s76 => m_X0_homeOf_j79 v1 v2 K (fun l3 l4 σ => m_X0_homeOf_l37 v1 v2 K n l3 l4 σ) l3 l4 s76)))))))
def m_X0_homeOf (v1 : Int32) (v2 : Int32) (σ : Sg) (K : Int32 → Sg → Prop) : Prop :=
    m_X0_earliestOf v1 σ (fun r2 s2 => ((0 ≤ r2 → (vp_in (r2 - r2 / 2 * 2) 2 ∧ m_X0_drifterIn r2 s2 (fun r22 s22 => m_X0_mostMeeting v1 r2 s22 (fun r28 s28 => m_X0_begin (88 + (r2 - r2 / 2 * 2).toNatClampNeg) r22 r28 s28 (fun s31 => ∃ n9, m_X0_homeOf_l37 v1 v2 K n9 r2 r2 s31))))) ∧ (¬ (0 ≤ r2) → K (-1) s2)))
def m_X4_home (v1 : Int32) (v2 : Int32) (σ : Sg) (K : Int32 → Sg → Prop) (X : String → Sg → Prop) : Prop :=
    m_X4_needHelper v1 σ (fun s2 => m_X4_isIn v2 0 1 s2 (fun r9 s9 => m_X4_needNumber r9 s9 (fun s12 => m_X0_refresh  s12 (fun s19 => m_X0_homeOf v1 v2 s19 (fun r28 s28 => K r28 s28))) X)) X
def m_X5_begins_l21 (v0 : Nat) (K : Sg → Prop) : Nat → Int32 → Sg → Prop
  | 0, _, _ => False
  | n + 1, l1, σ =>
    ((560 < l1 → (vp_in 4 (ln v0) ∧ ∀ s46, s46 = st2 σ v0 (4 : Int32).toNatClampNeg 999 → K s46)) ∧ (¬ (560 < l1) → (vp_in (48 + l1) (ln v0) ∧ ∀ s34, s34 = st2 σ v0 (48 + l1).toNatClampNeg (-1) → m_X5_begins_l21 v0 K n (l1 + 1) s34)))
def m_X5_begins_l2 (v0 : Nat) (K : Sg → Prop) : Nat → Int32 → Sg → Prop
  | 0, _, _ => False
  | n + 1, l1, σ =>
    ((1098 ≤ l1 → ∃ n9, m_X5_begins_l21 v0 K n9 0 σ) ∧ (¬ (1098 ≤ l1) → (vp_in l1 (ln v0) ∧ ∀ s12, s12 = st2 σ v0 l1.toNatClampNeg 0 → m_X5_begins_l2 v0 K n (l1 + 1) s12)))
def m_X5_begins (v0 : Nat) (σ : Sg) (K : Sg → Prop) : Prop :=
    ∃ n9, m_X5_begins_l2 v0 K n9 0 σ
def m_X5_thrown  (σ : Sg) (K : Int32 → Sg → Prop) : Prop :=
    K (σ 347 0) σ
def m_X5_feed_j76 (v1 : Int32) (v2 : Int32) (v3 : Int32) (v4 : Int32) (v5 : Int32) (K : Int32 → Sg → Prop) (KO23 : Int32 → Sg → Prop) (l6 : Int32) (k0 : Int32) (σ : Sg) : Prop :=
    (vp_in (σ 347 2) 400 ∧ ∀ s103, s103 = st2 σ 349 (σ 347 2).toNatClampNeg ((k0 >>> ((24 - (8 * (l6 - l6 / 4 * 4))) &&& 31)) &&& 255) → (∀ s111, s111 = st2 s103 347 2 ((s103 347 2) + 1) → KO23 (l6 + 1) s111))
def m_X5_feed_l23 (v1 : Int32) (v2 : Int32) (v3 : Int32) (v4 : Int32) (v5 : Int32) (K : Int32 → Sg → Prop) : Nat → Int32 → Sg → Prop
  | 0, _, _ => False
  | n + 1, l6, σ =>
    ((20 ≤ l6 → K (σ 347 2) σ) ∧ (¬ (20 ≤ l6) → ((4 ≤ l6 → ((8 ≤ l6 → ((12 ≤ l6 → ((16 ≤ l6 → m_X5_feed_j76 v1 v2 v3 v4 v5 K (fun l6 σ => m_X5_feed_l23 v1 v2 v3 v4 v5 K n l6 σ) l6 v5 σ) ∧ (¬ (16 ≤ l6) → m_X5_feed_j76 v1 v2 v3 v4 v5 K (fun l6 σ => m_X5_feed_l23 v1 v2 v3 v4 v5 K n l6 σ) l6 v4 σ))) ∧ (¬ (12 ≤ l6) → m_X5_feed_j76 v1 v2 v3 v4 v5 K (fun l6 σ => m_X5_feed_l23 v1 v2 v3 v4 v5 K n l6 σ) l6 v3 σ))) ∧ (¬ (8 ≤ l6) → m_X5_feed_j76 v1 v2 v3 v4 v5 K (fun l6 σ => m_X5_feed_l23 v1 v2 v3 v4 v5 K n l6 σ) l6 v2 σ))) ∧ (¬ (4 ≤ l6) → m_X5_feed_j76 v1 v2 v3 v4 v5 K (fun l6 σ => m_X5_feed_l23 v1 v2 v3 v4 v5 K n l6 σ) l6 v1 σ))))
def m_X5_feed (v1 : Int32) (v2 : Int32) (v3 : Int32) (v4 : Int32) (v5 : Int32) (σ : Sg) (K : Int32 → Sg → Prop) : Prop :=
    (∀ s2, s2 = st2 σ 347 0 0 → ((((s2 347 2) + 20) ≤ 400 → ∃ n9, m_X5_feed_l23 v1 v2 v3 v4 v5 K n9 0 s2) ∧ (¬ (((s2 347 2) + 20) ≤ 400) → K (-1) s2)))
def m_X5_in (v0 : Int32) (v1 : Int32) (v2 : Int32) (σ : Sg) (K : Int32 → Sg → Prop) : Prop :=
    ((v0 < v1 → K 0 σ) ∧ (¬ (v0 < v1) → ((v2 < v0 → K 0 σ) ∧ (¬ (v2 < v0) → K 1 σ))))
def m_X5_bad (v1 : Int32) (v2 : Int32) (v3 : Int32) (σ : Sg) (K : Int32 → Sg → Prop) : Prop :=
    ((v1 = 0 → (((σ 347 0) = 0 → K 0 σ) ∧ (¬ ((σ 347 0) = 0) → K 1 σ))) ∧ (¬ (v1 = 0) → ((¬ (σ 347 0) = 0 → (((σ 347 0) = 0 → K 0 σ) ∧ (¬ ((σ 347 0) = 0) → K 1 σ))) ∧ ((σ 347 0) = 0 → (∀ s13, s13 = st2 σ 347 0 v2 → (vp_in v3 3 ∧ (vp_in v3 3 ∧ ∀ s25, s25 = st2 s13 348 v3.toNatClampNeg ((s13 348 v3.toNatClampNeg) + 1) → (((s25 347 0) = 0 → K 0 s25) ∧ (¬ ((s25 347 0) = 0) → K 1 s25)))))))))
def m_X5_fine  (σ : Sg) (K : Int32 → Sg → Prop) : Prop :=
    ((¬ (σ 347 6) = 0 → K 0 σ) ∧ ((σ 347 6) = 0 → K 1 σ))
def m_X5_byteAt (v1 : Int32) (σ : Sg) (K : Int32 → Sg → Prop) : Prop :=
    ((v1 < (σ 347 3) → (vp_in v1 400 ∧ K (σ 349 v1.toNatClampNeg) σ)) ∧ (¬ (v1 < (σ 347 3)) → K (-1) σ))
def m_X5_here_l0  (K : Int32 → Sg → Prop) : Nat → Sg → Prop
  | 0, _ => False
  | n + 1, σ =>
    m_X5_byteAt (σ 347 4) σ (fun r5 s5 => ((¬ r5 = 32 → m_X5_byteAt (s5 347 4) s5 (fun r31 s31 => K r31 s31)) ∧ (r5 = 32 → (∀ s20, s20 = st2 s5 347 4 ((s5 347 4) + 1) → m_X5_here_l0 K n s20))))
def m_X5_here  (σ : Sg) (K : Int32 → Sg → Prop) : Prop :=
    ∃ n9, m_X5_here_l0 K n9 σ
def m_X5_isSmall (v0 : Int32) (σ : Sg) (K : Int32 → Sg → Prop) : Prop :=
    ((v0 < 97 → K 0 σ) ∧ (¬ (v0 < 97) → ((122 < v0 → K 0 σ) ∧ (¬ (122 < v0) → K 1 σ))))
def m_X5_isWord_j39 (v1 : Nat) (K : Int32 → Sg → Prop) (l2 : Int32) (σ : Sg) : Prop :=
    ((¬ l2 = (Int32.ofNat (sLen.getD v1 0)) → K 0 σ) ∧ (l2 = (Int32.ofNat (sLen.getD v1 0)) → m_X5_byteAt ((σ 347 4) + l2) σ (fun r54 s54 => m_X5_isSmall r54 s54 (fun r57 s57 => ((¬ r57 = 0 → K 0 s57) ∧ (r57 = 0 → K 1 s57))))))
def m_X5_isWord_l7 (v1 : Nat) (K : Int32 → Sg → Prop) : Nat → Int32 → Sg → Prop
  | 0, _, _ => False
  | n + 1, l2, σ =>
    (((Int32.ofNat (sLen.getD v1 0)) ≤ l2 → m_X5_isWord_j39 v1 K l2 σ) ∧ (¬ ((Int32.ofNat (sLen.getD v1 0)) ≤ l2) → m_X5_byteAt ((σ 347 4) + l2) σ (fun r22 s22 => (vp_in l2 (sLen.getD v1 0) ∧ ((¬ r22 = ((sByt.getD v1 []).getD l2.toNatClampNeg 0) → m_X5_isWord_j39 v1 K l2 s22) ∧ (r22 = ((sByt.getD v1 []).getD l2.toNatClampNeg 0) → m_X5_isWord_l7 v1 K n (l2 + 1) s22))))))
def m_X5_isWord (v1 : Nat) (σ : Sg) (K : Int32 → Sg → Prop) : Prop :=
    m_X5_here  σ (fun r1 s1 => ∃ n9, m_X5_isWord_l7 v1 K n9 0 s1)
def m_X5_takes (v1 : Nat) (σ : Sg) (K : Int32 → Sg → Prop) : Prop :=
    m_X5_fine  σ (fun r1 s1 => ((r1 = 0 → K 0 s1) ∧ (¬ (r1 = 0) → m_X5_isWord v1 s1 (fun r9 s9 => ((¬ r9 = 0 → (∀ s27, s27 = st2 s9 347 4 ((s9 347 4) + (Int32.ofNat (sLen.getD v1 0))) → K 1 s27)) ∧ (r9 = 0 → K 0 s9))))))
def m_X5_wrong (v1 : Int32) (v2 : Int32) (σ : Sg) (K : Sg → Prop) : Prop :=
    ((¬ (σ 347 6) = 0 → K σ) ∧ ((σ 347 6) = 0 → (∀ s9, s9 = st2 σ 347 6 v1 → (∀ s14, s14 = st2 s9 347 7 v2 → K s14))))
def m_X5_isDigit (v0 : Int32) (σ : Sg) (K : Int32 → Sg → Prop) : Prop :=
    ((v0 < 48 → K 0 σ) ∧ (¬ (v0 < 48) → ((57 < v0 → K 0 σ) ∧ (¬ (57 < v0) → K 1 σ))))
def m_X5_less (v0 : Int32) (v1 : Int32) (σ : Sg) (K : Int32 → Sg → Prop) : Prop :=
    ((v1 ≤ v0 → K v1 σ) ∧ (¬ (v1 ≤ v0) → K v0 σ))
def m_X5_number_l38 (v1 : Int32) (v2 : Int32) (K : Int32 → Sg → Prop) : Nat → Int32 → Int32 → Sg → Prop
  | 0, _, _, _ => False
  | n + 1, l3, l4, σ =>
    m_X5_byteAt (σ 347 4) σ (fun r43 s43 => m_X5_isDigit r43 s43 (fun r46 s46 => ((r46 = 0 → m_X5_in l4 v1 v2 s46 (fun r93 s93 => ((¬ r93 = 0 → K l4 s93) ∧ (r93 = 0 → m_X5_wrong 2 l3 s93 (fun s102 => K l4 s102))))) ∧ (¬ (r46 = 0) → m_X5_byteAt (s46 347 4) s46 (fun r64 s64 => m_X5_less 100000 (((10 * l4) + r64) - 48) s64 (fun r71 s71 => (∀ s83, s83 = st2 s71 347 4 ((s71 347 4) + 1) → m_X5_number_l38 v1 v2 K n l3 r71 s83)))))))
def m_X5_number (v1 : Int32) (v2 : Int32) (σ : Sg) (K : Int32 → Sg → Prop) : Prop :=
    m_X5_fine  σ (fun r1 s1 => ((¬ r1 = 0 → m_X5_here  s1 (fun r10 s10 => m_X5_isDigit r10 s10 (fun r13 s13 => ((¬ r13 = 0 → (∀ l3_34, l3_34 = (s13 347 4) → ∃ n9, m_X5_number_l38 v1 v2 K n9 l3_34 0 s13)) ∧ (r13 = 0 → m_X5_wrong 1 (s13 347 4) s13 (fun s25 => K 0 s25)))))) ∧ (r1 = 0 → K 0 s1)))
def m_X5_must (v1 : Int32) (σ : Sg) (K : Sg → Prop) : Prop :=
    m_X5_fine  σ (fun r1 s1 => ((¬ r1 = 0 → m_X5_here  s1 (fun r9 s9 => ((¬ r9 = v1 → m_X5_wrong 1 (s9 347 4) s9 (fun s35 => K s35)) ∧ (r9 = v1 → (∀ s23, s23 = st2 s9 347 4 ((s9 347 4) + 1) → K s23))))) ∧ (r1 = 0 → K s1)))
def m_X5_cellAt (v0 : Int32) (v1 : Int32) (σ : Sg) (K : Int32 → Sg → Prop) : Prop :=
    K ((20 * v1) + v0) σ
def m_X5_readsCell_j57 (v1 : Int32) (K : Sg → Prop) (l2 : Int32) (k1 : Int32) (σ : Sg) : Prop :=
    (∀ s57, s57 = st2 σ 347 13 k1 → m_X5_fine  s57 (fun r61 s61 => ((r61 = 0 → K s61) ∧ (¬ (r61 = 0) → ((¬ v1 = 0 → K s61) ∧ (v1 = 0 → (vp_in (609 + (s61 347 13)) 1098 ∧ ((¬ (s61 351 (609 + (s61 347 13)).toNatClampNeg) = 1 → K s61) ∧ ((s61 351 (609 + (s61 347 13)).toNatClampNeg) = 1 → m_X5_wrong 3 l2 s61 (fun s91 => K s91))))))))))
def m_X5_readsCell (v1 : Int32) (σ : Sg) (K : Sg → Prop) : Prop :=
    m_X5_here  σ (fun r1 s1 => (∀ l2_9, l2_9 = (s1 347 4) → (vp_in 0 1098 ∧ m_X5_number 0 ((s1 351 (0 : Int32).toNatClampNeg) - 1) s1 (fun r20 s20 => (vp_in 1 1098 ∧ m_X5_number 0 ((s20 351 (1 : Int32).toNatClampNeg) - 1) s20 (fun r34 s34 => m_X5_fine  s34 (fun r41 s41 => ((r41 = 0 → m_X5_readsCell_j57 v1 K l2_9 0 s41) ∧ (¬ (r41 = 0) → m_X5_cellAt r20 r34 s41 (fun r50 s50 => m_X5_readsCell_j57 v1 K l2_9 r50 s50))))))))))
def m_X5_isTold (v1 : Int32) (σ : Sg) (K : Int32 → Sg → Prop) : Prop :=
    ((¬ (((σ 347 14) >>> (v1 &&& 31)) &&& 1) = 1 → K 0 σ) ∧ ((((σ 347 14) >>> (v1 &&& 31)) &&& 1) = 1 → K 1 σ))
def m_X5_readsLand_l95  (K : Sg → Prop) : Nat → Int32 → Int32 → Int32 → Sg → Prop
  | 0, _, _, _, _ => False
  | n + 1, l1, l2, l3, σ =>
    (vp_in 3 1098 ∧ (((σ 351 (3 : Int32).toNatClampNeg) ≤ l3 → ((l2 = 0 → (vp_in (609 + (σ 347 13)) 1098 ∧ ∀ s183, s183 = st2 σ 351 (609 + (σ 347 13)).toNatClampNeg 1 → K s183)) ∧ (¬ (l2 = 0) → m_X5_wrong 3 l1 σ (fun s164 => K s164)))) ∧ (¬ ((σ 351 (3 : Int32).toNatClampNeg) ≤ l3) → ((¬ l2 = 0 → m_X5_readsLand_l95 K n l1 1 (l3 + 1) σ) ∧ (l2 = 0 → (vp_in (1089 + (3 * l3)) 1098 ∧ (vp_in ((1089 + (3 * l3)) + 1) 1098 ∧ m_X5_cellAt (σ 351 (1089 + (3 * l3)).toNatClampNeg) (σ 351 ((1089 + (3 * l3)) + 1).toNatClampNeg) σ (fun r135 s135 => ((¬ r135 = (s135 347 13) → m_X5_readsLand_l95 K n l1 0 (l3 + 1) s135) ∧ (r135 = (s135 347 13) → m_X5_readsLand_l95 K n l1 1 (l3 + 1) s135))))))))))
def m_X5_readsLand_j55  (K : Sg → Prop) (l1 : Int32) (σ : Sg) : Prop :=
    m_X5_isTold 2 σ (fun r57 s57 => ((r57 = 0 → ∃ n9, m_X5_readsLand_l95 K n9 l1 0 0 s57) ∧ (¬ (r57 = 0) → (vp_in 8 1098 ∧ (vp_in 9 1098 ∧ m_X5_cellAt (s57 351 (8 : Int32).toNatClampNeg) (s57 351 (9 : Int32).toNatClampNeg) s57 (fun r77 s77 => ((¬ r77 = (s77 347 13) → ∃ n9, m_X5_readsLand_l95 K n9 l1 0 0 s77) ∧ (r77 = (s77 347 13) → ∃ n9, m_X5_readsLand_l95 K n9 l1 1 0 s77))))))))
def m_X5_readsLand  (σ : Sg) (K : Sg → Prop) : Prop :=
    m_X5_here  σ (fun r1 s1 => (∀ l1_9, l1_9 = (s1 347 4) → m_X5_readsCell 1 s1 (fun s12 => m_X5_fine  s12 (fun r16 s16 => ((¬ r16 = 0 → m_X5_isTold 1 s16 (fun r25 s25 => ((r25 = 0 → m_X5_readsLand_j55 K l1_9 s25) ∧ (¬ (r25 = 0) → (vp_in 6 1098 ∧ (vp_in 7 1098 ∧ m_X5_cellAt (s25 351 (6 : Int32).toNatClampNeg) (s25 351 (7 : Int32).toNatClampNeg) s25 (fun r45 s45 => ((r45 = (s45 347 13) → ∃ n9, m_X5_readsLand_l95 K n9 l1_9 1 0 s45) ∧ (¬ (r45 = (s45 347 13)) → m_X5_readsLand_j55 K l1_9 s45))))))))) ∧ (r16 = 0 → K s16))))))
def m_X5_wordOf (v0 : Int32) (σ : Sg) (K : Nat → Sg → Prop) : Prop :=
    (((v0 < 0 ∨ 7 < v0) → K 31 σ) ∧ (v0 = 0 → K 23 σ) ∧ (v0 = 1 → K 24 σ) ∧ (v0 = 2 → K 25 σ) ∧ (v0 = 3 → K 26 σ) ∧ (v0 = 4 → K 27 σ) ∧ (v0 = 5 → K 28 σ) ∧ (v0 = 6 → K 29 σ) ∧ (v0 = 7 → K 30 σ))
def m_X5_direction_l2  (K : Int32 → Sg → Prop) : Nat → Int32 → Sg → Prop
  | 0, _, _ => False
  | n + 1, l1, σ =>
    ((9 ≤ l1 → m_X5_wrong 1 (σ 347 4) σ (fun s33 => K 0 s33)) ∧ (¬ (9 ≤ l1) → m_X5_wordOf l1 σ (fun r10 s10 => m_X5_takes r10 s10 (fun r13 s13 => ((r13 = 0 → m_X5_direction_l2 K n (l1 + 1) s13) ∧ (¬ (r13 = 0) → K l1 s13))))))
def m_X5_direction  (σ : Sg) (K : Int32 → Sg → Prop) : Prop :=
    ∃ n9, m_X5_direction_l2 K n9 0 σ
def m_X5_readsCurrent_l82  (K : Sg → Prop) (KO66 : Int32 → Int32 → Int32 → Int32 → Int32 → Sg → Prop) : Nat → Int32 → Int32 → Int32 → Int32 → Int32 → Int32 → Sg → Prop
  | 0, _, _, _, _, _, _, _ => False
  | n + 1, l2, l3, l4, l5, l6, l7, σ =>
    ((l4 < l7 → KO66 l2 l3 l4 l5 (l6 + 1) σ) ∧ (¬ (l4 < l7) → m_X5_cellAt l6 l7 σ (fun r100 s100 => (vp_in (849 + r100) 1098 ∧ ∀ s106, s106 = st2 s100 351 (849 + r100).toNatClampNeg l5 → m_X5_readsCurrent_l82 K KO66 n l2 l3 l4 l5 l6 (l7 + 1) s106))))
def m_X5_readsCurrent_l66  (K : Sg → Prop) : Nat → Int32 → Int32 → Int32 → Int32 → Int32 → Sg → Prop
  | 0, _, _, _, _, _, _ => False
  | n + 1, l2, l3, l4, l5, l6, σ =>
    ((l3 < l6 → K σ) ∧ (¬ (l3 < l6) → m_X5_fine  σ (fun r73 s73 => ((r73 = 0 → K s73) ∧ (¬ (r73 = 0) → ∃ n9, m_X5_readsCurrent_l82 K (fun l2 l3 l4 l5 l6 σ => m_X5_readsCurrent_l66 K n l2 l3 l4 l5 l6 σ) n9 l2 l3 l4 l5 l6 l2 s73)))))
def m_X5_readsCurrent  (σ : Sg) (K : Sg → Prop) : Prop :=
    (vp_in 0 1098 ∧ m_X5_number 0 ((σ 351 (0 : Int32).toNatClampNeg) - 1) σ (fun r10 s10 => (vp_in 1 1098 ∧ m_X5_number 0 ((s10 351 (1 : Int32).toNatClampNeg) - 1) s10 (fun r24 s24 => (vp_in 0 1098 ∧ m_X5_number r10 ((s24 351 (0 : Int32).toNatClampNeg) - 1) s24 (fun r38 s38 => (vp_in 1 1098 ∧ m_X5_number r24 ((s38 351 (1 : Int32).toNatClampNeg) - 1) s38 (fun r52 s52 => m_X5_direction  s52 (fun r58 s58 => ∃ n9, m_X5_readsCurrent_l66 K n9 r24 r38 r52 r58 r10 s58)))))))))
def m_X5_takesOnce (v1 : Nat) (v2 : Int32) (σ : Sg) (K : Int32 → Sg → Prop) : Prop :=
    (((((σ 347 14) >>> (v2 &&& 31)) &&& 1) = 1 → K 0 σ) ∧ (¬ ((((σ 347 14) >>> (v2 &&& 31)) &&& 1) = 1) → m_X5_takes v1 σ (fun r14 s14 => ((¬ r14 = 0 → (∀ s31, s31 = st2 s14 347 14 ((s14 347 14) ||| (1 <<< (v2 &&& 31))) → K 1 s31)) ∧ (r14 = 0 → K 0 s14)))))
def m_X5_directions_j56 (v1 : Int32) (v2 : Int32) (v3 : Int32) (K : Int32 → Sg → Prop) (KO3 : Int32 → Sg → Prop) (l4 : Int32) (l6 : Int32) (σ : Sg) : Prop :=
    m_X5_fine  σ (fun r57 s57 => ((¬ r57 = 0 → (vp_in (v1 + l4) 1098 ∧ ∀ s76, s76 = st2 s57 351 (v1 + l4).toNatClampNeg l6 → KO3 (l4 + 1) s76)) ∧ (r57 = 0 → K l4 s57)))
def m_X5_directions_j26 (v1 : Int32) (v2 : Int32) (v3 : Int32) (K : Int32 → Sg → Prop) (KO3 : Int32 → Sg → Prop) (l4 : Int32) (σ : Sg) : Prop :=
    m_X5_here  σ (fun r27 s27 => (∀ l5_35, l5_35 = (s27 347 4) → m_X5_direction  s27 (fun r38 s38 => ((¬ l4 = v3 → m_X5_directions_j56 v1 v2 v3 K KO3 l4 r38 s38) ∧ (l4 = v3 → m_X5_wrong 1 l5_35 s38 (fun s53 => m_X5_directions_j56 v1 v2 v3 K KO3 l4 r38 s53))))))
def m_X5_directions_l3 (v1 : Int32) (v2 : Int32) (v3 : Int32) (K : Int32 → Sg → Prop) : Nat → Int32 → Sg → Prop
  | 0, _, _ => False
  | n + 1, l4, σ =>
    m_X5_fine  σ (fun r4 s4 => ((r4 = 0 → K l4 s4) ∧ (¬ (r4 = 0) → ((l4 < v2 → m_X5_directions_j26 v1 v2 v3 K (fun l4 σ => m_X5_directions_l3 v1 v2 v3 K n l4 σ) l4 s4) ∧ (¬ (l4 < v2) → m_X5_here  s4 (fun r17 s17 => m_X5_isSmall r17 s17 (fun r20 s20 => ((r20 = 0 → K l4 s20) ∧ (¬ (r20 = 0) → m_X5_directions_j26 v1 v2 v3 K (fun l4 σ => m_X5_directions_l3 v1 v2 v3 K n l4 σ) l4 s20)))))))))
def m_X5_directions (v1 : Int32) (v2 : Int32) (v3 : Int32) (σ : Sg) (K : Int32 → Sg → Prop) : Prop :=
    ∃ n9, m_X5_directions_l3 v1 v2 v3 K n9 0 σ
def m_X5_readsHelper_j16 (v1 : Int32) (K : Sg → Prop)  (σ : Sg) : Prop :=
    m_X5_readsCell 0 σ (fun s18 => (vp_in 4 1098 ∧ m_X5_number 0 (s18 351 (4 : Int32).toNatClampNeg) s18 (fun r29 s29 => m_X5_fine  s29 (fun r34 s34 => ((¬ r34 = 0 → (vp_in 3 1098 ∧ (∀ l3_53, l3_53 = (1089 + (3 * (s34 351 (3 : Int32).toNatClampNeg))) → (vp_in l3_53 1098 ∧ ∀ s66, s66 = st2 s34 351 l3_53.toNatClampNeg ((s34 347 13) - (s34 347 13) / 20 * 20) → (vp_in (l3_53 + 1) 1098 ∧ ∀ s81, s81 = st2 s66 351 (l3_53 + 1).toNatClampNeg ((s66 347 13) / 20) → (vp_in (l3_53 + 2) 1098 ∧ ∀ s90, s90 = st2 s81 351 (l3_53 + 2).toNatClampNeg r29 → (vp_in 3 1098 ∧ (vp_in 3 1098 ∧ ∀ s100, s100 = st2 s90 351 (3 : Int32).toNatClampNeg ((s90 351 (3 : Int32).toNatClampNeg) + 1) → K s100)))))))) ∧ (r34 = 0 → K s34))))))
def m_X5_readsHelper (v1 : Int32) (σ : Sg) (K : Sg → Prop) : Prop :=
    (vp_in 3 1098 ∧ ((¬ (σ 351 (3 : Int32).toNatClampNeg) = 3 → m_X5_readsHelper_j16 v1 K σ) ∧ ((σ 351 (3 : Int32).toNatClampNeg) = 3 → m_X5_wrong 4 v1 σ (fun s13 => m_X5_readsHelper_j16 v1 K s13))))
def m_X5_readsLine  (σ : Sg) (K : Sg → Prop) : Prop :=
    m_X5_here  σ (fun r1 s1 => (∀ l1_9, l1_9 = (s1 347 4) → m_X5_takes 21 s1 (fun r13 s13 => ((r13 = 0 → m_X5_takes 22 s13 (fun r29 s29 => ((r29 = 0 → m_X5_takesOnce 32 0 s29 (fun r46 s46 => ((r46 = 0 → m_X5_takesOnce 33 1 s46 (fun r75 s75 => ((r75 = 0 → m_X5_takesOnce 34 2 s75 (fun r134 s134 => ((r134 = 0 → m_X5_takesOnce 35 3 s134 (fun r196 s196 => ((r196 = 0 → m_X5_takes 36 s196 (fun r222 s222 => ((r222 = 0 → m_X5_wrong 1 l1_9 s222 (fun s239 => m_X5_must 59 s239 (fun s245 => K s245))) ∧ (¬ (r222 = 0) → m_X5_readsHelper l1_9 s222 (fun s230 => m_X5_must 59 s230 (fun s245 => K s245)))))) ∧ (¬ (r196 = 0) → m_X5_number 1 999 s196 (fun r212 s212 => (vp_in 4 1098 ∧ ∀ s215, s215 = st2 s212 351 (4 : Int32).toNatClampNeg r212 → m_X5_must 59 s215 (fun s245 => K s245))))))) ∧ (¬ (r134 = 0) → m_X5_readsCell 0 s134 (fun s142 => (vp_in 8 1098 ∧ ∀ s158, s158 = st2 s142 351 (8 : Int32).toNatClampNeg ((s142 347 13) - (s142 347 13) / 20 * 20) → (vp_in 9 1098 ∧ ∀ s172, s172 = st2 s158 351 (9 : Int32).toNatClampNeg ((s158 347 13) / 20) → m_X5_directions 36 0 12 s172 (fun r185 s185 => (vp_in 11 1098 ∧ ∀ s188, s188 = st2 s185 351 (11 : Int32).toNatClampNeg r185 → m_X5_must 59 s188 (fun s245 => K s245)))))))))) ∧ (¬ (r75 = 0) → m_X5_readsCell 0 s75 (fun s83 => (vp_in 6 1098 ∧ ∀ s99, s99 = st2 s83 351 (6 : Int32).toNatClampNeg ((s83 347 13) - (s83 347 13) / 20 * 20) → (vp_in 7 1098 ∧ ∀ s113, s113 = st2 s99 351 (7 : Int32).toNatClampNeg ((s99 347 13) / 20) → m_X5_number 0 9 s113 (fun r123 s123 => (vp_in 5 1098 ∧ ∀ s126, s126 = st2 s123 351 (5 : Int32).toNatClampNeg r123 → m_X5_must 59 s126 (fun s245 => K s245)))))))))) ∧ (¬ (r46 = 0) → m_X5_directions 12 1 24 s46 (fun r64 s64 => (vp_in 10 1098 ∧ ∀ s67, s67 = st2 s64 351 (10 : Int32).toNatClampNeg r64 → m_X5_must 59 s67 (fun s245 => K s245))))))) ∧ (¬ (r29 = 0) → m_X5_readsCurrent  s29 (fun s36 => m_X5_must 59 s36 (fun s245 => K s245)))))) ∧ (¬ (r13 = 0) → m_X5_readsLand  s13 (fun s20 => m_X5_must 59 s20 (fun s245 => K s245)))))))
def m_X5_copies_l2 (v0 : Nat) (v1 : Nat) (K : Sg → Prop) : Nat → Int32 → Sg → Prop
  | 0, _, _ => False
  | n + 1, l2, σ =>
    ((1098 ≤ l2 → K σ) ∧ (¬ (1098 ≤ l2) → (vp_in l2 (ln v0) ∧ (vp_in l2 (ln v1) ∧ ∀ s14, s14 = st2 σ v1 l2.toNatClampNeg (σ v0 l2.toNatClampNeg) → m_X5_copies_l2 v0 v1 K n (l2 + 1) s14))))
def m_X5_copies (v0 : Nat) (v1 : Nat) (σ : Sg) (K : Sg → Prop) : Prop :=
    ∃ n9, m_X5_copies_l2 v0 v1 K n9 0 σ
def m_X5_remembers_j50  (K : Sg → Prop)  (σ : Sg) : Prop :=
    (vp_in (σ 347 12) 8 ∧ m_X5_copies 350 (353 + (σ 347 12).toNatClampNeg) σ (fun s63 => (∀ s73, s73 = st2 s63 347 12 ((s63 347 12) + 1) → K s73)))
def m_X5_remembers_l11  (K : Sg → Prop) : Nat → Int32 → Sg → Prop
  | 0, _, _ => False
  | n + 1, l1, σ =>
    ((8 ≤ l1 → (∀ s47, s47 = st2 σ 347 12 ((σ 347 12) - 1) → m_X5_remembers_j50 K s47)) ∧ (¬ (8 ≤ l1) → (vp_in l1 8 ∧ (vp_in (l1 - 1) 8 ∧ m_X5_copies (353 + l1.toNatClampNeg) (353 + (l1 - 1).toNatClampNeg) σ (fun s31 => m_X5_remembers_l11 K n (l1 + 1) s31)))))
def m_X5_remembers  (σ : Sg) (K : Sg → Prop) : Prop :=
    ((¬ (σ 347 12) = 8 → m_X5_remembers_j50 K σ) ∧ ((σ 347 12) = 8 → ∃ n9, m_X5_remembers_l11 K n9 1 σ))
def m_X5_text_j183 (v1 : Int32) (K : Int32 → Sg → Prop)  (σ : Sg) : Prop :=
    (∀ s188, s188 = st2 σ 347 5 (σ 347 7) → m_X5_fine  s188 (fun r192 s192 => ((¬ r192 = 0 → m_X5_remembers  s192 (fun s207 => m_X5_copies 351 350 s207 (fun s218 => (vp_in 3 1098 ∧ K (s218 350 (3 : Int32).toNatClampNeg) s218)))) ∧ (r192 = 0 → K ((s192 347 6) - 10) s192))))
def m_X5_text_j142 (v1 : Int32) (K : Int32 → Sg → Prop)  (σ : Sg) : Prop :=
    m_X5_fine  σ (fun r143 s143 => ((r143 = 0 → m_X5_text_j183 v1 K s143) ∧ (¬ (r143 = 0) → m_X5_isTold 1 s143 (fun r151 s151 => ((r151 = 0 → m_X5_wrong 5 (s151 347 3) s151 (fun s180 => m_X5_text_j183 v1 K s180)) ∧ (¬ (r151 = 0) → m_X5_isTold 2 s151 (fun r159 s159 => ((r159 = 0 → m_X5_wrong 5 (s159 347 3) s159 (fun s180 => m_X5_text_j183 v1 K s180)) ∧ (¬ (r159 = 0) → (vp_in 3 1098 ∧ ((¬ (s159 351 (3 : Int32).toNatClampNeg) = 0 → m_X5_text_j183 v1 K s159) ∧ ((s159 351 (3 : Int32).toNatClampNeg) = 0 → m_X5_wrong 5 (s159 347 3) s159 (fun s180 => m_X5_text_j183 v1 K s180)))))))))))))
def m_X5_text_l120 (v1 : Int32) (K : Int32 → Sg → Prop) : Nat → Sg → Prop
  | 0, _ => False
  | n + 1, σ =>
    m_X5_fine  σ (fun r121 s121 => ((r121 = 0 → m_X5_text_j142 v1 K s121) ∧ (¬ (r121 = 0) → m_X5_here  s121 (fun r128 s128 => ((r128 = (-1) → m_X5_text_j142 v1 K s128) ∧ (¬ (r128 = (-1)) → m_X5_readsLine  s128 (fun s136 => m_X5_text_l120 v1 K n s136)))))))
def m_X5_text_j88 (v1 : Int32) (K : Int32 → Sg → Prop)  (σ : Sg) : Prop :=
    m_X5_number 3 20 σ (fun r97 s97 => (vp_in 0 1098 ∧ ∀ s100, s100 = st2 s97 351 (0 : Int32).toNatClampNeg r97 → m_X5_number 3 12 s100 (fun r110 s110 => (vp_in 1 1098 ∧ ∀ s113, s113 = st2 s110 351 (1 : Int32).toNatClampNeg r110 → m_X5_must 59 s113 (fun s117 => ∃ n9, m_X5_text_l120 v1 K n9 s117)))))
def m_X5_text_j23 (v1 : Int32) (K : Int32 → Sg → Prop) (k1 : Int32) (σ : Sg) : Prop :=
    m_X5_bad k1 1 1 σ (fun r25 s25 => ((r25 = 0 → (∀ s35, s35 = st2 s25 347 2 0 → (∀ s40, s40 = st2 s35 347 3 v1 → (∀ s45, s45 = st2 s40 347 4 0 → (∀ s50, s50 = st2 s45 347 6 0 → (∀ s55, s55 = st2 s50 347 7 (-1) → (∀ s60, s60 = st2 s55 347 14 0 → m_X5_begins 351 s60 (fun s67 => m_X5_takes 20 s67 (fun r73 s73 => ((¬ r73 = 0 → m_X5_text_j88 v1 K s73) ∧ (r73 = 0 → m_X5_wrong 1 (s73 347 4) s73 (fun s85 => m_X5_text_j88 v1 K s85)))))))))))) ∧ (¬ (r25 = 0) → K 0 s25)))
def m_X5_text (v1 : Int32) (σ : Sg) (K : Int32 → Sg → Prop) : Prop :=
    (∀ s2, s2 = st2 σ 347 0 0 → m_X5_in v1 0 (s2 347 2) s2 (fun r12 s12 => ((¬ r12 = 0 → m_X5_text_j23 v1 K 0 s12) ∧ (r12 = 0 → m_X5_text_j23 v1 K 1 s12))))
def m_X5_fault  (σ : Sg) (K : Int32 → Sg → Prop) : Prop :=
    (∀ s2, s2 = st2 σ 347 0 0 → K (s2 347 5) s2)
def m_X5_undo  (σ : Sg) (K : Int32 → Sg → Prop) : Prop :=
    (∀ s2, s2 = st2 σ 347 0 0 → ((¬ (s2 347 12) = 0 → (∀ s21, s21 = st2 s2 347 12 ((s2 347 12) - 1) → (vp_in (s21 347 12) 8 ∧ m_X5_copies (353 + (s21 347 12).toNatClampNeg) 350 s21 (fun s37 => K (s37 347 12) s37)))) ∧ ((s2 347 12) = 0 → K (-1) s2)))
def m_X5_isHelper (v1 : Int32) (σ : Sg) (K : Int32 → Sg → Prop) : Prop :=
    (vp_in 3 1098 ∧ m_X5_in v1 0 ((σ 350 (3 : Int32).toNatClampNeg) - 1) σ (fun r10 s10 => K r10 s10))
def m_X5_isCourse (v1 : Int32) (v2 : Int32) (σ : Sg) (K : Int32 → Sg → Prop) : Prop :=
    m_X5_isHelper v1 σ (fun r4 s4 => ((r4 = 0 → m_X5_in v2 0 0 s4 (fun r16 s16 => K r16 s16)) ∧ (¬ (r4 = 0) → m_X5_in v2 0 8 s4 (fun r16 s16 => K r16 s16))))
def m_X5_helperCell (v1 : Int32) (σ : Sg) (K : Int32 → Sg → Prop) : Prop :=
    (vp_in (1089 + (3 * v1)) 1098 ∧ (vp_in ((1089 + (3 * v1)) + 1) 1098 ∧ m_X5_cellAt (σ 350 (1089 + (3 * v1)).toNatClampNeg) (σ 350 ((1089 + (3 * v1)) + 1).toNatClampNeg) σ (fun r26 s26 => K r26 s26)))
def m_X5_eastOf (v0 : Int32) (σ : Sg) (K : Int32 → Sg → Prop) : Prop :=
    ((v0 = 0 → K 0 σ) ∧ (¬ (v0 = 0) → ((v0 = 1 → K 0 σ) ∧ (¬ (v0 = 1) → ((¬ v0 = 5 → ((5 ≤ v0 → K (-1) σ) ∧ (¬ (5 ≤ v0) → K 1 σ))) ∧ (v0 = 5 → K 0 σ))))))
def m_X5_northOf (v0 : Int32) (σ : Sg) (K : Int32 → Sg → Prop) : Prop :=
    ((v0 = 0 → K 0 σ) ∧ (¬ (v0 = 0) → ((v0 = 3 → K 0 σ) ∧ (¬ (v0 = 3) → ((¬ v0 = 7 → ((v0 ≤ 3 → K 1 σ) ∧ (¬ (v0 ≤ 3) → ((7 ≤ v0 → K 1 σ) ∧ (¬ (7 ≤ v0) → K (-1) σ))))) ∧ (v0 = 7 → K 0 σ))))))
def m_X5_isOn (v0 : Nat) (v1 : Int32) (v2 : Int32) (σ : Sg) (K : Int32 → Sg → Prop) : Prop :=
    (vp_in 0 (ln v0) ∧ m_X5_in v1 0 ((σ v0 (0 : Int32).toNatClampNeg) - 1) σ (fun r7 s7 => ((r7 = 0 → K 0 s7) ∧ (¬ (r7 = 0) → (vp_in 1 (ln v0) ∧ m_X5_in v2 0 ((s7 v0 (1 : Int32).toNatClampNeg) - 1) s7 (fun r20 s20 => ((r20 = 0 → K 0 s20) ∧ (¬ (r20 = 0) → K 1 s20))))))))
def m_X5_goes (v0 : Nat) (v1 : Int32) (v2 : Int32) (σ : Sg) (K : Int32 → Sg → Prop) : Prop :=
    m_X5_eastOf v2 σ (fun r5 s5 => (∀ l3_9, l3_9 = ((v1 - v1 / 20 * 20) + r5) → m_X5_northOf v2 s5 (fun r15 s15 => (∀ l4_19, l4_19 = ((v1 / 20) + r15) → ((v2 ≤ 0 → K 0 s15) ∧ (¬ (v2 ≤ 0) → m_X5_isOn v0 l3_9 l4_19 s15 (fun r29 s29 => ((r29 = 0 → K 0 s29) ∧ (¬ (r29 = 0) → m_X5_cellAt l3_9 l4_19 s29 (fun r42 s42 => (vp_in (609 + r42) (ln v0) ∧ ((¬ (s42 v0 (609 + r42).toNatClampNeg) = 0 → K 0 s42) ∧ ((s42 v0 (609 + r42).toNatClampNeg) = 0 → K 1 s42)))))))))))))
def m_X5_windOf (v0 : Nat) (v1 : Int32) (σ : Sg) (K : Int32 → Sg → Prop) : Prop :=
    (vp_in (48 + v1) (ln v0) ∧ (((σ v0 (48 + v1).toNatClampNeg) = (-1) → (vp_in 10 (ln v0) ∧ ((¬ (σ v0 (10 : Int32).toNatClampNeg) = 0 → (vp_in 10 (ln v0) ∧ (¬ (σ v0 (10 : Int32).toNatClampNeg) = 0 ∧ (vp_in (12 + (v1 - v1 / (σ v0 (10 : Int32).toNatClampNeg) * (σ v0 (10 : Int32).toNatClampNeg))) (ln v0) ∧ K (σ v0 (12 + (v1 - v1 / (σ v0 (10 : Int32).toNatClampNeg) * (σ v0 (10 : Int32).toNatClampNeg))).toNatClampNeg) σ)))) ∧ ((σ v0 (10 : Int32).toNatClampNeg) = 0 → K 0 σ)))) ∧ (¬ ((σ v0 (48 + v1).toNatClampNeg) = (-1)) → (vp_in (48 + v1) (ln v0) ∧ K (σ v0 (48 + v1).toNatClampNeg) σ))))
def m_X5_costBy (v0 : Int32) (v1 : Int32) (σ : Sg) (K : Int32 → Sg → Prop) : Prop :=
    ((¬ v0 = 0 → ((¬ v1 = 0 → ((v0 ≤ v1 → (∀ l2_26, l2_26 = (v1 - v0) → m_X5_less l2_26 (8 - l2_26) σ (fun r33 s33 => K (1 + r33) s33))) ∧ (¬ (v0 ≤ v1) → (∀ l2_26, l2_26 = (v0 - v1) → m_X5_less l2_26 (8 - l2_26) σ (fun r33 s33 => K (1 + r33) s33))))) ∧ (v1 = 0 → K 3 σ))) ∧ (v0 = 0 → K 0 σ))
def m_X5_fuelOf (v1 : Int32) (σ : Sg) (K : Int32 → Sg → Prop) : Prop :=
    (vp_in ((1089 + (3 * v1)) + 2) 1098 ∧ K (σ 350 ((1089 + (3 * v1)) + 2).toNatClampNeg) σ)
def m_X5_canGo (v1 : Int32) (v2 : Int32) (σ : Sg) (K : Int32 → Sg → Prop) : Prop :=
    m_X5_isHelper v1 σ (fun r2 s2 => ((r2 = 0 → K 1 s2) ∧ (¬ (r2 = 0) → ((v2 = 0 → K 1 s2) ∧ (¬ (v2 = 0) → m_X5_helperCell v1 s2 (fun r18 s18 => m_X5_goes 350 r18 v2 s18 (fun r22 s22 => ((r22 = 0 → K 0 s22) ∧ (¬ (r22 = 0) → (vp_in 2 1098 ∧ m_X5_windOf 350 (s22 350 (2 : Int32).toNatClampNeg) s22 (fun r39 s39 => m_X5_costBy v2 r39 s39 (fun r42 s42 => m_X5_fuelOf v1 s42 (fun r47 s47 => ((r47 < r42 → K 0 s47) ∧ (¬ (r47 < r42) → K 1 s47)))))))))))))))
def m_X5_behind (v0 : Nat) (v1 : Int32) (v2 : Int32) (σ : Sg) (K : Int32 → Sg → Prop) : Prop :=
    m_X5_goes v0 v1 v2 σ (fun r3 s3 => ((r3 = 0 → K v1 s3) ∧ (¬ (r3 = 0) → m_X5_northOf v2 s3 (fun r13 s13 => m_X5_eastOf v2 s13 (fun r19 s19 => K ((v1 + (20 * r13)) + r19) s19)))))
def m_X5_carried (v0 : Nat) (v1 : Int32) (v2 : Int32) (σ : Sg) (K : Int32 → Sg → Prop) : Prop :=
    m_X5_behind v0 v1 v2 σ (fun r3 s3 => (vp_in (849 + r3) (ln v0) ∧ m_X5_behind v0 r3 (s3 v0 (849 + r3).toNatClampNeg) s3 (fun r16 s16 => K r16 s16)))
def m_X5_helperGoes (v1 : Int32) (v2 : Int32) (σ : Sg) (K : Sg → Prop) : Prop :=
    m_X5_helperCell v1 σ (fun r6 s6 => m_X5_carried 350 r6 v2 s6 (fun r10 s10 => (vp_in (1089 + (3 * v1)) 1098 ∧ ∀ s29, s29 = st2 s10 350 (1089 + (3 * v1)).toNatClampNeg (r10 - r10 / 20 * 20) → (vp_in ((1089 + (3 * v1)) + 1) 1098 ∧ ∀ s47, s47 = st2 s29 350 ((1089 + (3 * v1)) + 1).toNatClampNeg (r10 / 20) → (vp_in ((1089 + (3 * v1)) + 2) 1098 ∧ (vp_in 2 1098 ∧ m_X5_windOf 350 (s47 350 (2 : Int32).toNatClampNeg) s47 (fun r74 s74 => m_X5_costBy v2 r74 s74 (fun r77 s77 => (vp_in ((1089 + (3 * v1)) + 2) 1098 ∧ ∀ s81, s81 = st2 s77 350 ((1089 + (3 * v1)) + 2).toNatClampNeg ((s47 350 ((1089 + (3 * v1)) + 2).toNatClampNeg) - r77) → K s81)))))))))
def m_X5_drifterCell  (σ : Sg) (K : Int32 → Sg → Prop) : Prop :=
    (vp_in 6 1098 ∧ (vp_in 7 1098 ∧ m_X5_cellAt (σ 350 (6 : Int32).toNatClampNeg) (σ 350 (7 : Int32).toNatClampNeg) σ (fun r14 s14 => K r14 s14)))
def m_X5_drifted (v0 : Nat) (v1 : Int32) (v2 : Int32) (σ : Sg) (K : Int32 → Sg → Prop) : Prop :=
    (vp_in (849 + v1) (ln v0) ∧ m_X5_behind v0 v1 (σ v0 (849 + v1).toNatClampNeg) σ (fun r9 s9 => (vp_in 5 (ln v0) ∧ (((s9 v0 (5 : Int32).toNatClampNeg) ≤ 0 → K r9 s9) ∧ (¬ ((s9 v0 (5 : Int32).toNatClampNeg) ≤ 0) → (vp_in 5 (ln v0) ∧ (¬ (s9 v0 (5 : Int32).toNatClampNeg) = 0 ∧ ((¬ ((v2 + 1) - (v2 + 1) / (s9 v0 (5 : Int32).toNatClampNeg) * (s9 v0 (5 : Int32).toNatClampNeg)) = 0 → K r9 s9) ∧ (((v2 + 1) - (v2 + 1) / (s9 v0 (5 : Int32).toNatClampNeg) * (s9 v0 (5 : Int32).toNatClampNeg)) = 0 → m_X5_windOf v0 v2 s9 (fun r33 s33 => m_X5_behind v0 r9 r33 s33 (fun r36 s36 => K r36 s36)))))))))))
def m_X5_portBehind (v0 : Nat) (v1 : Int32) (v2 : Int32) (σ : Sg) (K : Int32 → Sg → Prop) : Prop :=
    (vp_in 11 (ln v0) ∧ ((¬ (σ v0 (11 : Int32).toNatClampNeg) = 0 → (vp_in 11 (ln v0) ∧ (¬ (σ v0 (11 : Int32).toNatClampNeg) = 0 ∧ (vp_in (36 + (v2 - v2 / (σ v0 (11 : Int32).toNatClampNeg) * (σ v0 (11 : Int32).toNatClampNeg))) (ln v0) ∧ m_X5_behind v0 v1 (σ v0 (36 + (v2 - v2 / (σ v0 (11 : Int32).toNatClampNeg) * (σ v0 (11 : Int32).toNatClampNeg))).toNatClampNeg) σ (fun r24 s24 => K r24 s24))))) ∧ ((σ v0 (11 : Int32).toNatClampNeg) = 0 → K v1 σ)))
def m_X5_hour_l266 (v1 : Int32) (v2 : Int32) (v3 : Int32) (K : Int32 → Sg → Prop) : Nat → Int32 → Int32 → Int32 → Sg → Prop
  | 0, _, _, _, _ => False
  | n + 1, l4, l5, l7, σ =>
    (vp_in 3 1098 ∧ (((σ 350 (3 : Int32).toNatClampNeg) ≤ l7 → K l4 σ) ∧ (¬ ((σ 350 (3 : Int32).toNatClampNeg) ≤ l7) → m_X5_helperCell l7 σ (fun r282 s282 => ((¬ r282 = l5 → (∀ l4_299, l4_299 = (l4 ||| 0) → m_X5_hour_l266 v1 v2 v3 K n l4_299 l5 (l7 + 1) s282)) ∧ (r282 = l5 → (∀ l4_299, l4_299 = (l4 ||| (1 <<< (l7 &&& 31))) → m_X5_hour_l266 v1 v2 v3 K n l4_299 l5 (l7 + 1) s282)))))))
def m_X5_hour_l111 (v1 : Int32) (v2 : Int32) (v3 : Int32) (K : Int32 → Sg → Prop) : Nat → Int32 → Int32 → Sg → Prop
  | 0, _, _, _ => False
  | n + 1, l4, l5, σ =>
    (vp_in 3 1098 ∧ (((σ 350 (3 : Int32).toNatClampNeg) ≤ l5 → m_X5_drifterCell  σ (fun r159 s159 => (vp_in 2 1098 ∧ m_X5_drifted 350 r159 (s159 350 (2 : Int32).toNatClampNeg) s159 (fun r168 s168 => (vp_in 8 1098 ∧ (vp_in 9 1098 ∧ m_X5_cellAt (s168 350 (8 : Int32).toNatClampNeg) (s168 350 (9 : Int32).toNatClampNeg) s168 (fun r191 s191 => (vp_in 2 1098 ∧ m_X5_portBehind 350 r191 (s191 350 (2 : Int32).toNatClampNeg) s191 (fun r200 s200 => (vp_in 6 1098 ∧ ∀ s216, s216 = st2 s200 350 (6 : Int32).toNatClampNeg (r168 - r168 / 20 * 20) → (vp_in 7 1098 ∧ ∀ s228, s228 = st2 s216 350 (7 : Int32).toNatClampNeg (r168 / 20) → (vp_in 8 1098 ∧ ∀ s240, s240 = st2 s228 350 (8 : Int32).toNatClampNeg (r200 - r200 / 20 * 20) → (vp_in 9 1098 ∧ ∀ s252, s252 = st2 s240 350 (9 : Int32).toNatClampNeg (r200 / 20) → (vp_in 2 1098 ∧ (vp_in 2 1098 ∧ ∀ s262, s262 = st2 s252 350 (2 : Int32).toNatClampNeg ((s252 350 (2 : Int32).toNatClampNeg) + 1) → ∃ n9, m_X5_hour_l266 v1 v2 v3 K n9 l4 r168 0 s262))))))))))))))) ∧ (¬ ((σ 350 (3 : Int32).toNatClampNeg) ≤ l5) → ((¬ l5 = 0 → ((¬ l5 = 1 → m_X5_helperGoes l5 v3 σ (fun s145 => m_X5_hour_l111 v1 v2 v3 K n l4 (l5 + 1) s145)) ∧ (l5 = 1 → m_X5_helperGoes l5 v2 σ (fun s145 => m_X5_hour_l111 v1 v2 v3 K n l4 (l5 + 1) s145)))) ∧ (l5 = 0 → m_X5_helperGoes l5 v1 σ (fun s145 => m_X5_hour_l111 v1 v2 v3 K n l4 (l5 + 1) s145))))))
def m_X5_hour_j91 (v1 : Int32) (v2 : Int32) (v3 : Int32) (K : Int32 → Sg → Prop) (k1 : Int32) (σ : Sg) : Prop :=
    m_X5_bad k1 2 2 σ (fun r93 s93 => ((r93 = 0 → m_X5_remembers  s93 (fun s102 => ∃ n9, m_X5_hour_l111 v1 v2 v3 K n9 0 0 s102)) ∧ (¬ (r93 = 0) → K 0 s93)))
def m_X5_hour_j38 (v1 : Int32) (v2 : Int32) (v3 : Int32) (K : Int32 → Sg → Prop) (k1 : Int32) (σ : Sg) : Prop :=
    m_X5_bad k1 1 1 σ (fun r40 s40 => ((¬ r40 = 0 → K 0 s40) ∧ (r40 = 0 → (vp_in 2 1098 ∧ (((s40 350 (2 : Int32).toNatClampNeg) = 500 → m_X5_hour_j91 v1 v2 v3 K 1 s40) ∧ (¬ ((s40 350 (2 : Int32).toNatClampNeg) = 500) → m_X5_canGo 0 v1 s40 (fun r62 s62 => ((r62 = 0 → m_X5_hour_j91 v1 v2 v3 K 1 s62) ∧ (¬ (r62 = 0) → m_X5_canGo 1 v2 s62 (fun r71 s71 => ((r71 = 0 → m_X5_hour_j91 v1 v2 v3 K 1 s71) ∧ (¬ (r71 = 0) → m_X5_canGo 2 v3 s71 (fun r80 s80 => ((¬ r80 = 0 → m_X5_hour_j91 v1 v2 v3 K 0 s80) ∧ (r80 = 0 → m_X5_hour_j91 v1 v2 v3 K 1 s80)))))))))))))))
def m_X5_hour (v1 : Int32) (v2 : Int32) (v3 : Int32) (σ : Sg) (K : Int32 → Sg → Prop) : Prop :=
    (∀ s2, s2 = st2 σ 347 0 0 → m_X5_isCourse 0 v1 s2 (fun r9 s9 => ((r9 = 0 → m_X5_hour_j38 v1 v2 v3 K 1 s9) ∧ (¬ (r9 = 0) → m_X5_isCourse 1 v2 s9 (fun r18 s18 => ((r18 = 0 → m_X5_hour_j38 v1 v2 v3 K 1 s18) ∧ (¬ (r18 = 0) → m_X5_isCourse 2 v3 s18 (fun r27 s27 => ((¬ r27 = 0 → m_X5_hour_j38 v1 v2 v3 K 0 s27) ∧ (r27 = 0 → m_X5_hour_j38 v1 v2 v3 K 1 s27))))))))))
def m_X5_fuel_j47 (v1 : Int32) (v2 : Int32) (K : Int32 → Sg → Prop) (k1 : Int32) (σ : Sg) : Prop :=
    m_X5_bad k1 2 1 σ (fun r49 s49 => ((r49 = 0 → m_X5_remembers  s49 (fun s58 => m_X5_fuelOf v1 s58 (fun r63 s63 => (vp_in ((1089 + (3 * v1)) + 2) 1098 ∧ ∀ s81, s81 = st2 s63 350 ((1089 + (3 * v1)) + 2).toNatClampNeg v2 → K r63 s81)))) ∧ (¬ (r49 = 0) → K 0 s49)))
def m_X5_fuel_j19 (v1 : Int32) (v2 : Int32) (K : Int32 → Sg → Prop) (k1 : Int32) (σ : Sg) : Prop :=
    m_X5_bad k1 1 0 σ (fun r21 s21 => ((¬ r21 = 0 → K 0 s21) ∧ (r21 = 0 → (vp_in 4 1098 ∧ m_X5_in v2 0 (s21 350 (4 : Int32).toNatClampNeg) s21 (fun r36 s36 => ((¬ r36 = 0 → m_X5_fuel_j47 v1 v2 K 0 s36) ∧ (r36 = 0 → m_X5_fuel_j47 v1 v2 K 1 s36)))))))
def m_X5_fuel (v1 : Int32) (v2 : Int32) (σ : Sg) (K : Int32 → Sg → Prop) : Prop :=
    (∀ s2, s2 = st2 σ 347 0 0 → m_X5_isHelper v1 s2 (fun r8 s8 => ((¬ r8 = 0 → m_X5_fuel_j19 v1 v2 K 0 s8) ∧ (r8 = 0 → m_X5_fuel_j19 v1 v2 K 1 s8))))
def m_X5_wind_j37 (v1 : Int32) (v2 : Int32) (K : Int32 → Sg → Prop) (k1 : Int32) (σ : Sg) : Prop :=
    m_X5_bad k1 1 1 σ (fun r39 s39 => ((r39 = 0 → m_X5_remembers  s39 (fun s48 => m_X5_windOf 350 v1 s48 (fun r56 s56 => (vp_in (48 + v1) 1098 ∧ ∀ s69, s69 = st2 s56 350 (48 + v1).toNatClampNeg v2 → K r56 s69)))) ∧ (¬ (r39 = 0) → K 0 s39)))
def m_X5_wind (v1 : Int32) (v2 : Int32) (σ : Sg) (K : Int32 → Sg → Prop) : Prop :=
    (∀ s2, s2 = st2 σ 347 0 0 → (vp_in 2 1098 ∧ m_X5_in v1 (s2 350 (2 : Int32).toNatClampNeg) 560 s2 (fun r16 s16 => ((r16 = 0 → m_X5_wind_j37 v1 v2 K 1 s16) ∧ (¬ (r16 = 0) → m_X5_in v2 0 8 s16 (fun r26 s26 => ((¬ r26 = 0 → m_X5_wind_j37 v1 v2 K 0 s26) ∧ (r26 = 0 → m_X5_wind_j37 v1 v2 K 1 s26))))))))
def m_X5_told_l35 (v1 : Int32) (K : Int32 → Sg → Prop) : Nat → Int32 → Int32 → Sg → Prop
  | 0, _, _, _ => False
  | n + 1, l2, l3, σ =>
    ((240 ≤ l3 → ((6 ≤ v1 → ((¬ v1 = 6 → ((11 ≤ v1 → ((¬ v1 = 11 → K (σ 347 12) σ) ∧ (v1 = 11 → K (σ 347 2) σ))) ∧ (¬ (11 ≤ v1) → (vp_in ((6 + v1) - 7) 1098 ∧ K (σ 350 ((6 + v1) - 7).toNatClampNeg) σ)))) ∧ (v1 = 6 → K l2 σ))) ∧ (¬ (6 ≤ v1) → (vp_in v1 1098 ∧ K (σ 350 v1.toNatClampNeg) σ)))) ∧ (¬ (240 ≤ l3) → (vp_in (609 + l3) 1098 ∧ (∀ l2_54, l2_54 = (l2 + (σ 350 (609 + l3).toNatClampNeg)) → m_X5_told_l35 v1 K n l2_54 (l3 + 1) σ))))
def m_X5_told_j21 (v1 : Int32) (K : Int32 → Sg → Prop) (k1 : Int32) (σ : Sg) : Prop :=
    m_X5_bad k1 1 1 σ (fun r23 s23 => ((r23 = 0 → ∃ n9, m_X5_told_l35 v1 K n9 0 0 s23) ∧ (¬ (r23 = 0) → K 0 s23)))
def m_X5_told (v1 : Int32) (σ : Sg) (K : Int32 → Sg → Prop) : Prop :=
    (∀ s2, s2 = st2 σ 347 0 0 → m_X5_in v1 0 12 s2 (fun r10 s10 => ((¬ r10 = 0 → m_X5_told_j21 v1 K 0 s10) ∧ (r10 = 0 → m_X5_told_j21 v1 K 1 s10))))
def m_X5_cell_j32 (v1 : Int32) (v2 : Int32) (v3 : Int32) (K : Int32 → Sg → Prop) (k1 : Int32) (σ : Sg) : Prop :=
    m_X5_bad k1 1 1 σ (fun r34 s34 => ((r34 = 0 → ((¬ v3 = 0 → m_X5_cellAt v1 v2 s34 (fun r61 s61 => (vp_in (849 + r61) 1098 ∧ K (s61 350 (849 + r61).toNatClampNeg) s61))) ∧ (v3 = 0 → m_X5_cellAt v1 v2 s34 (fun r61 s61 => (vp_in (609 + r61) 1098 ∧ K (s61 350 (609 + r61).toNatClampNeg) s61))))) ∧ (¬ (r34 = 0) → K 0 s34)))
def m_X5_cell (v1 : Int32) (v2 : Int32) (v3 : Int32) (σ : Sg) (K : Int32 → Sg → Prop) : Prop :=
    (∀ s2, s2 = st2 σ 347 0 0 → m_X5_isOn 350 v1 v2 s2 (fun r12 s12 => ((r12 = 0 → m_X5_cell_j32 v1 v2 v3 K 1 s12) ∧ (¬ (r12 = 0) → m_X5_in v3 0 1 s12 (fun r21 s21 => ((¬ r21 = 0 → m_X5_cell_j32 v1 v2 v3 K 0 s21) ∧ (r21 = 0 → m_X5_cell_j32 v1 v2 v3 K 1 s21)))))))
def m_X5_blows_j22 (v1 : Int32) (K : Int32 → Sg → Prop) (k1 : Int32) (σ : Sg) : Prop :=
    m_X5_bad k1 1 1 σ (fun r24 s24 => ((r24 = 0 → m_X5_windOf 350 v1 s24 (fun r39 s39 => K r39 s39)) ∧ (¬ (r24 = 0) → K 0 s24)))
def m_X5_blows (v1 : Int32) (σ : Sg) (K : Int32 → Sg → Prop) : Prop :=
    (∀ s2, s2 = st2 σ 347 0 0 → m_X5_in v1 0 560 s2 (fun r11 s11 => ((¬ r11 = 0 → m_X5_blows_j22 v1 K 0 s11) ∧ (r11 = 0 → m_X5_blows_j22 v1 K 1 s11))))
def m_X5_helper_j42 (v1 : Int32) (v2 : Int32) (K : Int32 → Sg → Prop) (k1 : Int32) (σ : Sg) : Prop :=
    m_X5_bad k1 2 1 σ (fun r44 s44 => ((r44 = 0 → ((3 ≤ v2 → m_X5_helperCell v1 s44 (fun r76 s76 => m_X5_drifterCell  s76 (fun r80 s80 => ((¬ r76 = r80 → K 0 s80) ∧ (r76 = r80 → K 1 s80))))) ∧ (¬ (3 ≤ v2) → (vp_in ((1089 + (3 * v1)) + v2) 1098 ∧ K (s44 350 ((1089 + (3 * v1)) + v2).toNatClampNeg) s44)))) ∧ (¬ (r44 = 0) → K 0 s44)))
def m_X5_helper_j19 (v1 : Int32) (v2 : Int32) (K : Int32 → Sg → Prop) (k1 : Int32) (σ : Sg) : Prop :=
    m_X5_bad k1 1 0 σ (fun r21 s21 => ((¬ r21 = 0 → K 0 s21) ∧ (r21 = 0 → m_X5_in v2 0 3 s21 (fun r31 s31 => ((¬ r31 = 0 → m_X5_helper_j42 v1 v2 K 0 s31) ∧ (r31 = 0 → m_X5_helper_j42 v1 v2 K 1 s31))))))
def m_X5_helper (v1 : Int32) (v2 : Int32) (σ : Sg) (K : Int32 → Sg → Prop) : Prop :=
    (∀ s2, s2 = st2 σ 347 0 0 → m_X5_isHelper v1 s2 (fun r8 s8 => ((¬ r8 = 0 → m_X5_helper_j19 v1 v2 K 0 s8) ∧ (r8 = 0 → m_X5_helper_j19 v1 v2 K 1 s8))))
def m_X5_looksAhead_l35  (K : Sg → Prop) : Nat → Int32 → Sg → Prop
  | 0, _, _ => False
  | n + 1, l1, σ =>
    ((60 ≤ l1 → K σ) ∧ (¬ (60 ≤ l1) → (vp_in l1 61 ∧ (vp_in 2 1098 ∧ m_X5_drifted 350 (σ 361 l1.toNatClampNeg) ((σ 350 (2 : Int32).toNatClampNeg) + l1) σ (fun r66 s66 => (vp_in (l1 + 1) 61 ∧ ∀ s69, s69 = st2 s66 361 (l1 + 1).toNatClampNeg r66 → (vp_in l1 61 ∧ (vp_in 2 1098 ∧ m_X5_portBehind 350 (s69 362 l1.toNatClampNeg) ((s69 350 (2 : Int32).toNatClampNeg) + l1) s69 (fun r95 s95 => (vp_in (l1 + 1) 61 ∧ ∀ s98, s98 = st2 s95 362 (l1 + 1).toNatClampNeg r95 → m_X5_looksAhead_l35 K n (l1 + 1) s98))))))))))
def m_X5_looksAhead  (σ : Sg) (K : Sg → Prop) : Prop :=
    m_X5_drifterCell  σ (fun r6 s6 => (vp_in 0 61 ∧ ∀ s9, s9 = st2 s6 361 (0 : Int32).toNatClampNeg r6 → (vp_in 8 1098 ∧ (vp_in 9 1098 ∧ m_X5_cellAt (s9 350 (8 : Int32).toNatClampNeg) (s9 350 (9 : Int32).toNatClampNeg) s9 (fun r29 s29 => (vp_in 0 61 ∧ ∀ s32, s32 = st2 s29 362 (0 : Int32).toNatClampNeg r29 → ∃ n9, m_X5_looksAhead_l35 K n9 0 s32))))))
def m_X5_drift_j64 (v1 : Int32) (v2 : Int32) (K : Int32 → Sg → Prop) (k0 : Int32) (σ : Sg) : Prop :=
    ((¬ (v2 - v2 / 2 * 2) = 0 → K (k0 / 20) σ) ∧ ((v2 - v2 / 2 * 2) = 0 → K (k0 - k0 / 20 * 20) σ))
def m_X5_drift_j30 (v1 : Int32) (v2 : Int32) (K : Int32 → Sg → Prop) (k1 : Int32) (σ : Sg) : Prop :=
    m_X5_bad k1 1 1 σ (fun r32 s32 => ((r32 = 0 → m_X5_looksAhead  s32 (fun s41 => ((2 ≤ v2 → (vp_in v1 61 ∧ m_X5_drift_j64 v1 v2 K (s41 362 v1.toNatClampNeg) s41)) ∧ (¬ (2 ≤ v2) → (vp_in v1 61 ∧ m_X5_drift_j64 v1 v2 K (s41 361 v1.toNatClampNeg) s41))))) ∧ (¬ (r32 = 0) → K 0 s32)))
def m_X5_drift (v1 : Int32) (v2 : Int32) (σ : Sg) (K : Int32 → Sg → Prop) : Prop :=
    (∀ s2, s2 = st2 σ 347 0 0 → m_X5_in v1 0 60 s2 (fun r10 s10 => ((r10 = 0 → m_X5_drift_j30 v1 v2 K 1 s10) ∧ (¬ (r10 = 0) → m_X5_in v2 0 3 s10 (fun r19 s19 => ((¬ r19 = 0 → m_X5_drift_j30 v1 v2 K 0 s19) ∧ (r19 = 0 → m_X5_drift_j30 v1 v2 K 1 s19)))))))
def m_X5_cost_j31 (v1 : Int32) (v2 : Int32) (K : Int32 → Sg → Prop) (k1 : Int32) (σ : Sg) : Prop :=
    m_X5_bad k1 1 1 σ (fun r33 s33 => ((r33 = 0 → (vp_in 2 1098 ∧ m_X5_windOf 350 ((s33 350 (2 : Int32).toNatClampNeg) + v2) s33 (fun r54 s54 => m_X5_costBy v1 r54 s54 (fun r57 s57 => K r57 s57)))) ∧ (¬ (r33 = 0) → K 0 s33)))
def m_X5_cost (v1 : Int32) (v2 : Int32) (σ : Sg) (K : Int32 → Sg → Prop) : Prop :=
    (∀ s2, s2 = st2 σ 347 0 0 → m_X5_in v1 1 8 s2 (fun r10 s10 => ((r10 = 0 → m_X5_cost_j31 v1 v2 K 1 s10) ∧ (¬ (r10 = 0) → m_X5_in v2 0 59 s10 (fun r20 s20 => ((¬ r20 = 0 → m_X5_cost_j31 v1 v2 K 0 s20) ∧ (r20 = 0 → m_X5_cost_j31 v1 v2 K 1 s20)))))))
def m_X5_empties_l2 (v1 : Nat) (K : Sg → Prop) : Nat → Int32 → Sg → Prop
  | 0, _, _ => False
  | n + 1, l2, σ =>
    ((240 ≤ l2 → K σ) ∧ (¬ (240 ≤ l2) → (vp_in l2 (ln v1) ∧ ∀ s14, s14 = st2 σ v1 l2.toNatClampNeg 1048576 → m_X5_empties_l2 v1 K n (l2 + 1) s14)))
def m_X5_empties (v1 : Nat) (σ : Sg) (K : Sg → Prop) : Prop :=
    ∃ n9, m_X5_empties_l2 v1 K n9 0 σ
def m_X5_spreads_j117 (v1 : Nat) (v2 : Int32) (v3 : Int32) (K : Sg → Prop) (KO33 : Int32 → Sg → Prop) (KO61 : Int32 → Int32 → Int32 → Sg → Prop) (KO88 : Int32 → Int32 → Int32 → Int32 → Sg → Prop) (l4 : Int32) (l5 : Int32) (l6 : Int32) (l7 : Int32) (σ : Sg) : Prop :=
    m_X5_carried 350 l6 l7 σ (fun r125 s125 => (vp_in (l4 + 1) 61 ∧ (vp_in (l4 + 1) 61 ∧ (vp_in r125 240 ∧ (vp_in l4 61 ∧ (vp_in l6 240 ∧ m_X5_costBy l7 l5 s125 (fun r158 s158 => m_X5_less (s125 (v1 + 1 + (l4 + 1).toNatClampNeg) r125.toNatClampNeg) ((s125 (v1 + 1 + l4.toNatClampNeg) l6.toNatClampNeg) + r158) s158 (fun r162 s162 => (vp_in r125 240 ∧ ∀ s165, s165 = st2 s162 (v1 + 1 + (l4 + 1).toNatClampNeg) r125.toNatClampNeg r162 → KO88 l4 l5 l6 (l7 + 1) s165)))))))))
def m_X5_spreads_l88 (v1 : Nat) (v2 : Int32) (v3 : Int32) (K : Sg → Prop) (KO33 : Int32 → Sg → Prop) (KO61 : Int32 → Int32 → Int32 → Sg → Prop) : Nat → Int32 → Int32 → Int32 → Int32 → Sg → Prop
  | 0, _, _, _, _, _ => False
  | n + 1, l4, l5, l6, l7, σ =>
    ((9 ≤ l7 → KO61 l4 l5 (l6 + 1) σ) ∧ (¬ (9 ≤ l7) → ((l7 ≤ 0 → m_X5_spreads_j117 v1 v2 v3 K KO33 KO61 (fun l4 l5 l6 l7 σ => m_X5_spreads_l88 v1 v2 v3 K KO33 KO61 n l4 l5 l6 l7 σ) l4 l5 l6 l7 σ) ∧ (¬ (l7 ≤ 0) → m_X5_goes 350 l6 l7 σ (fun r108 s108 => ((¬ r108 = 0 → m_X5_spreads_j117 v1 v2 v3 K KO33 KO61 (fun l4 l5 l6 l7 σ => m_X5_spreads_l88 v1 v2 v3 K KO33 KO61 n l4 l5 l6 l7 σ) l4 l5 l6 l7 s108) ∧ (r108 = 0 → m_X5_spreads_l88 v1 v2 v3 K KO33 KO61 n l4 l5 l6 (l7 + 1) s108)))))))
def m_X5_spreads_l61 (v1 : Nat) (v2 : Int32) (v3 : Int32) (K : Sg → Prop) (KO33 : Int32 → Sg → Prop) : Nat → Int32 → Int32 → Int32 → Sg → Prop
  | 0, _, _, _, _ => False
  | n + 1, l4, l5, l6, σ =>
    ((240 ≤ l6 → KO33 (l4 + 1) σ) ∧ (¬ (240 ≤ l6) → (vp_in l4 61 ∧ (vp_in l6 240 ∧ ((¬ (σ (v1 + 1 + l4.toNatClampNeg) l6.toNatClampNeg) = 1048576 → ∃ n9, m_X5_spreads_l88 v1 v2 v3 K KO33 (fun l4 l5 l6 σ => m_X5_spreads_l61 v1 v2 v3 K KO33 n l4 l5 l6 σ) n9 l4 l5 l6 0 σ) ∧ ((σ (v1 + 1 + l4.toNatClampNeg) l6.toNatClampNeg) = 1048576 → m_X5_spreads_l61 v1 v2 v3 K KO33 n l4 l5 (l6 + 1) σ))))))
def m_X5_spreads_l33 (v1 : Nat) (v2 : Int32) (v3 : Int32) (K : Sg → Prop) : Nat → Int32 → Sg → Prop
  | 0, _, _ => False
  | n + 1, l4, σ =>
    ((60 ≤ l4 → K σ) ∧ (¬ (60 ≤ l4) → (vp_in 2 1098 ∧ m_X5_windOf 350 ((σ 350 (2 : Int32).toNatClampNeg) + l4) σ (fun r53 s53 => ∃ n9, m_X5_spreads_l61 v1 v2 v3 K (fun l4 σ => m_X5_spreads_l33 v1 v2 v3 K n l4 σ) n9 l4 r53 0 s53))))
def m_X5_spreads_l3 (v1 : Nat) (v2 : Int32) (v3 : Int32) (K : Sg → Prop) : Nat → Int32 → Sg → Prop
  | 0, _, _ => False
  | n + 1, l4, σ =>
    ((60 < l4 → (vp_in v2 61 ∧ (vp_in v3 240 ∧ ∀ s29, s29 = st2 σ (v1 + 1 + v2.toNatClampNeg) v3.toNatClampNeg 0 → ∃ n9, m_X5_spreads_l33 v1 v2 v3 K n9 v2 s29))) ∧ (¬ (60 < l4) → (vp_in l4 61 ∧ m_X5_empties (v1 + 1 + l4.toNatClampNeg) σ (fun s15 => m_X5_spreads_l3 v1 v2 v3 K n (l4 + 1) s15))))
def m_X5_spreads (v1 : Nat) (v2 : Int32) (v3 : Int32) (σ : Sg) (K : Sg → Prop) : Prop :=
    ∃ n9, m_X5_spreads_l3 v1 v2 v3 K n9 0 σ
def m_X5_earliest_l20 (v1 : Int32) (K : Int32 → Sg → Prop) : Nat → Int32 → Sg → Prop
  | 0, _, _ => False
  | n + 1, l2, σ =>
    ((60 < l2 → K (-1) σ) ∧ (¬ (60 < l2) → (vp_in l2 61 ∧ (vp_in l2 61 ∧ (vp_in (σ 361 l2.toNatClampNeg) 240 ∧ m_X5_fuelOf v1 σ (fun r41 s41 => ((r41 < (σ (363 + 1 + l2.toNatClampNeg) (σ 361 l2.toNatClampNeg).toNatClampNeg) → m_X5_earliest_l20 v1 K n (l2 + 1) s41) ∧ (¬ (r41 < (σ (363 + 1 + l2.toNatClampNeg) (σ 361 l2.toNatClampNeg).toNatClampNeg)) → K l2 s41))))))))
def m_X5_earliest (v1 : Int32) (σ : Sg) (K : Int32 → Sg → Prop) : Prop :=
    m_X5_looksAhead  σ (fun s1 => m_X5_helperCell v1 s1 (fun r12 s12 => m_X5_spreads 363 0 r12 s12 (fun s15 => ∃ n9, m_X5_earliest_l20 v1 K n9 0 s15)))
def m_X5_meet_j42 (v1 : Int32) (v2 : Int32) (K : Int32 → Sg → Prop) (k1 : Int32) (σ : Sg) : Prop :=
    m_X5_bad k1 2 1 σ (fun r44 s44 => ((r44 = 0 → m_X5_earliest v1 s44 (fun r54 s54 => ((r54 = (-1) → K r54 s54) ∧ (¬ (r54 = (-1)) → ((¬ v2 = 0 → m_X5_fuelOf v1 s54 (fun r73 s73 => (vp_in r54 61 ∧ (vp_in r54 61 ∧ (vp_in (s73 361 r54.toNatClampNeg) 240 ∧ K (r73 - (s73 (363 + 1 + r54.toNatClampNeg) (s73 361 r54.toNatClampNeg).toNatClampNeg)) s73))))) ∧ (v2 = 0 → K r54 s54)))))) ∧ (¬ (r44 = 0) → K 0 s44)))
def m_X5_meet_j19 (v1 : Int32) (v2 : Int32) (K : Int32 → Sg → Prop) (k1 : Int32) (σ : Sg) : Prop :=
    m_X5_bad k1 1 0 σ (fun r21 s21 => ((¬ r21 = 0 → K 0 s21) ∧ (r21 = 0 → m_X5_in v2 0 1 s21 (fun r31 s31 => ((¬ r31 = 0 → m_X5_meet_j42 v1 v2 K 0 s31) ∧ (r31 = 0 → m_X5_meet_j42 v1 v2 K 1 s31))))))
def m_X5_meet (v1 : Int32) (v2 : Int32) (σ : Sg) (K : Int32 → Sg → Prop) : Prop :=
    (∀ s2, s2 = st2 σ 347 0 0 → m_X5_isHelper v1 s2 (fun r8 s8 => ((¬ r8 = 0 → m_X5_meet_j19 v1 v2 K 0 s8) ∧ (r8 = 0 → m_X5_meet_j19 v1 v2 K 1 s8))))
def m_X5_leads_j135 (v1 : Int32) (v2 : Int32) (K : Sg → Prop) (KO23 : Int32 → Sg → Prop) (KO57 : Int32 → Int32 → Int32 → Sg → Prop) (KO106 : Int32 → Int32 → Int32 → Int32 → Sg → Prop) (l3 : Int32) (l4 : Int32) (l5 : Int32) (l6 : Int32) (σ : Sg) : Prop :=
    (vp_in l3 61 ∧ (vp_in l3 61 ∧ (vp_in l5 240 ∧ m_X5_costBy l6 l4 σ (fun r156 s156 => (vp_in (l3 + 1) 61 ∧ m_X5_carried 350 l5 l6 s156 (fun r175 s175 => (vp_in r175 240 ∧ m_X5_less (σ (487 + 1 + l3.toNatClampNeg) l5.toNatClampNeg) (r156 + (s175 (487 + 1 + (l3 + 1).toNatClampNeg) r175.toNatClampNeg)) s175 (fun r180 s180 => (vp_in l5 240 ∧ ∀ s183, s183 = st2 s180 (487 + 1 + l3.toNatClampNeg) l5.toNatClampNeg r180 → KO106 l3 l4 l5 (l6 + 1) s183)))))))))
def m_X5_leads_l106 (v1 : Int32) (v2 : Int32) (K : Sg → Prop) (KO23 : Int32 → Sg → Prop) (KO57 : Int32 → Int32 → Int32 → Sg → Prop) : Nat → Int32 → Int32 → Int32 → Int32 → Sg → Prop
  | 0, _, _, _, _, _ => False
  | n + 1, l3, l4, l5, l6, σ =>
    ((9 ≤ l6 → KO57 l3 l4 (l5 + 1) σ) ∧ (¬ (9 ≤ l6) → ((l6 ≤ 0 → m_X5_leads_j135 v1 v2 K KO23 KO57 (fun l3 l4 l5 l6 σ => m_X5_leads_l106 v1 v2 K KO23 KO57 n l3 l4 l5 l6 σ) l3 l4 l5 l6 σ) ∧ (¬ (l6 ≤ 0) → m_X5_goes 350 l5 l6 σ (fun r126 s126 => ((¬ r126 = 0 → m_X5_leads_j135 v1 v2 K KO23 KO57 (fun l3 l4 l5 l6 σ => m_X5_leads_l106 v1 v2 K KO23 KO57 n l3 l4 l5 l6 σ) l3 l4 l5 l6 s126) ∧ (r126 = 0 → m_X5_leads_l106 v1 v2 K KO23 KO57 n l3 l4 l5 (l6 + 1) s126)))))))
def m_X5_leads_l57 (v1 : Int32) (v2 : Int32) (K : Sg → Prop) (KO23 : Int32 → Sg → Prop) : Nat → Int32 → Int32 → Int32 → Sg → Prop
  | 0, _, _, _, _ => False
  | n + 1, l3, l4, l5, σ =>
    ((240 ≤ l5 → KO23 (l3 + (-1)) σ) ∧ (¬ (240 ≤ l5) → m_X5_isOn 350 (l5 - l5 / 20 * 20) (l5 / 20) σ (fun r79 s79 => ((r79 = 0 → m_X5_leads_l57 v1 v2 K KO23 n l3 l4 (l5 + 1) s79) ∧ (¬ (r79 = 0) → (vp_in (609 + l5) 1098 ∧ ((¬ (s79 350 (609 + l5).toNatClampNeg) = 1 → ∃ n9, m_X5_leads_l106 v1 v2 K KO23 (fun l3 l4 l5 σ => m_X5_leads_l57 v1 v2 K KO23 n l3 l4 l5 σ) n9 l3 l4 l5 0 s79) ∧ ((s79 350 (609 + l5).toNatClampNeg) = 1 → m_X5_leads_l57 v1 v2 K KO23 n l3 l4 (l5 + 1) s79))))))))
def m_X5_leads_l23 (v1 : Int32) (v2 : Int32) (K : Sg → Prop) : Nat → Int32 → Sg → Prop
  | 0, _, _ => False
  | n + 1, l3, σ =>
    ((l3 < 0 → K σ) ∧ (¬ (l3 < 0) → (vp_in 2 1098 ∧ m_X5_windOf 350 ((σ 350 (2 : Int32).toNatClampNeg) + l3) σ (fun r39 s39 => (vp_in l3 61 ∧ m_X5_empties (487 + 1 + l3.toNatClampNeg) s39 (fun s51 => ∃ n9, m_X5_leads_l57 v1 v2 K (fun l3 σ => m_X5_leads_l23 v1 v2 K n l3 σ) n9 l3 r39 0 s51))))))
def m_X5_leads (v1 : Int32) (v2 : Int32) (σ : Sg) (K : Sg → Prop) : Prop :=
    (vp_in v1 61 ∧ m_X5_empties (487 + 1 + v1.toNatClampNeg) σ (fun s7 => (vp_in v1 61 ∧ (vp_in v2 240 ∧ ∀ s18, s18 = st2 s7 (487 + 1 + v1.toNatClampNeg) v2.toNatClampNeg 0 → (∀ l3_22, l3_22 = (v1 - 1) → ∃ n9, m_X5_leads_l23 v1 v2 K n9 l3_22 s18)))))
def m_X5_route_j123 (v1 : Int32) (v2 : Int32) (K : Int32 → Sg → Prop) (KO77 : Int32 → Int32 → Int32 → Sg → Prop) (KO104 : Int32 → Int32 → Int32 → Int32 → Sg → Prop) (l4 : Int32) (l5 : Int32) (l6 : Int32) (l7 : Int32) (σ : Sg) : Prop :=
    m_X5_costBy l5 l7 σ (fun r127 s127 => (vp_in (l6 + 1) 61 ∧ m_X5_carried 350 l4 l5 s127 (fun r147 s147 => (vp_in r147 240 ∧ (vp_in l6 61 ∧ (vp_in l4 240 ∧ (((r127 + (s147 (487 + 1 + (l6 + 1).toNatClampNeg) r147.toNatClampNeg)) = (s147 (487 + 1 + l6.toNatClampNeg) l4.toNatClampNeg) → m_X5_carried 350 l4 l5 s147 (fun r179 s179 => KO77 r179 l5 (l6 + 1) s179)) ∧ (¬ ((r127 + (s147 (487 + 1 + (l6 + 1).toNatClampNeg) r147.toNatClampNeg)) = (s147 (487 + 1 + l6.toNatClampNeg) l4.toNatClampNeg)) → KO104 l4 (l5 + 1) l6 l7 s147))))))))
def m_X5_route_l104 (v1 : Int32) (v2 : Int32) (K : Int32 → Sg → Prop) (KO77 : Int32 → Int32 → Int32 → Sg → Prop) : Nat → Int32 → Int32 → Int32 → Int32 → Sg → Prop
  | 0, _, _, _, _, _ => False
  | n + 1, l4, l5, l6, l7, σ =>
    ((l5 ≤ 0 → m_X5_route_j123 v1 v2 K KO77 (fun l4 l5 l6 l7 σ => m_X5_route_l104 v1 v2 K KO77 n l4 l5 l6 l7 σ) l4 l5 l6 l7 σ) ∧ (¬ (l5 ≤ 0) → m_X5_goes 350 l4 l5 σ (fun r117 s117 => ((r117 = 0 → m_X5_route_l104 v1 v2 K KO77 n l4 (l5 + 1) l6 l7 s117) ∧ (¬ (r117 = 0) → m_X5_route_j123 v1 v2 K KO77 (fun l4 l5 l6 l7 σ => m_X5_route_l104 v1 v2 K KO77 n l4 l5 l6 l7 σ) l4 l5 l6 l7 s117)))))
def m_X5_route_l77 (v1 : Int32) (v2 : Int32) (K : Int32 → Sg → Prop) : Nat → Int32 → Int32 → Int32 → Sg → Prop
  | 0, _, _, _, _ => False
  | n + 1, l4, l5, l6, σ =>
    ((v2 < l6 → K l5 σ) ∧ (¬ (v2 < l6) → (vp_in 2 1098 ∧ m_X5_windOf 350 ((σ 350 (2 : Int32).toNatClampNeg) + l6) σ (fun r96 s96 => ∃ n9, m_X5_route_l104 v1 v2 K (fun l4 l5 l6 σ => m_X5_route_l77 v1 v2 K n l4 l5 l6 σ) n9 l4 0 l6 r96 s96))))
def m_X5_route_j19 (v1 : Int32) (v2 : Int32) (K : Int32 → Sg → Prop) (k1 : Int32) (σ : Sg) : Prop :=
    m_X5_bad k1 1 0 σ (fun r21 s21 => ((r21 = 0 → m_X5_earliest v1 s21 (fun r31 s31 => ((r31 = (-1) → K (-1) s31) ∧ (¬ (r31 = (-1)) → m_X5_in v2 0 (r31 - 1) s31 (fun r45 s45 => ((¬ r45 = 0 → (vp_in r31 61 ∧ m_X5_leads r31 (s45 361 r31.toNatClampNeg) s45 (fun s61 => m_X5_helperCell v1 s61 (fun r66 s66 => ∃ n9, m_X5_route_l77 v1 v2 K n9 r66 0 0 s66)))) ∧ (r45 = 0 → K (-1) s45))))))) ∧ (¬ (r21 = 0) → K 0 s21)))
def m_X5_route (v1 : Int32) (v2 : Int32) (σ : Sg) (K : Int32 → Sg → Prop) : Prop :=
    (∀ s2, s2 = st2 σ 347 0 0 → m_X5_isHelper v1 s2 (fun r8 s8 => ((¬ r8 = 0 → m_X5_route_j19 v1 v2 K 0 s8) ∧ (r8 = 0 → m_X5_route_j19 v1 v2 K 1 s8))))
def m_X5_first_l11  (K : Int32 → Sg → Prop) : Nat → Int32 → Int32 → Int32 → Sg → Prop
  | 0, _, _, _, _ => False
  | n + 1, l1, l2, l3, σ =>
    (vp_in 3 1098 ∧ (((σ 350 (3 : Int32).toNatClampNeg) ≤ l3 → K l1 σ) ∧ (¬ ((σ 350 (3 : Int32).toNatClampNeg) ≤ l3) → m_X5_earliest l3 σ (fun r23 s23 => ((r23 = (-1) → m_X5_first_l11 K n l1 l2 (l3 + 1) s23) ∧ (¬ (r23 = (-1)) → ((l1 = (-1) → m_X5_first_l11 K n l3 r23 (l3 + 1) s23) ∧ (¬ (l1 = (-1)) → ((r23 < l2 → m_X5_first_l11 K n l3 r23 (l3 + 1) s23) ∧ (¬ (r23 < l2) → m_X5_first_l11 K n l1 l2 (l3 + 1) s23))))))))))
def m_X5_first  (σ : Sg) (K : Int32 → Sg → Prop) : Prop :=
    (∀ s2, s2 = st2 σ 347 0 0 → ∃ n9, m_X5_first_l11 K n9 (-1) 0 0 s2)
def m_X5_least_l67 (v1 : Int32) (v2 : Int32) (K : Int32 → Sg → Prop) : Nat → Int32 → Int32 → Sg → Prop
  | 0, _, _, _ => False
  | n + 1, l4, l5, σ =>
    ((v2 < l5 → ((¬ l4 = 1048576 → K l4 σ) ∧ (l4 = 1048576 → K (-1) σ))) ∧ (¬ (v2 < l5) → (vp_in l5 61 ∧ (vp_in l5 61 ∧ (vp_in (σ 361 l5.toNatClampNeg) 240 ∧ m_X5_less l4 (σ (363 + 1 + l5.toNatClampNeg) (σ 361 l5.toNatClampNeg).toNatClampNeg) σ (fun r90 s90 => m_X5_least_l67 v1 v2 K n r90 (l5 + 1) s90))))))
def m_X5_least_j43 (v1 : Int32) (v2 : Int32) (K : Int32 → Sg → Prop) (k1 : Int32) (σ : Sg) : Prop :=
    m_X5_bad k1 2 1 σ (fun r45 s45 => ((r45 = 0 → m_X5_earliest v1 s45 (fun r55 s55 => ∃ n9, m_X5_least_l67 v1 v2 K n9 1048576 0 s55)) ∧ (¬ (r45 = 0) → K 0 s45)))
def m_X5_least_j19 (v1 : Int32) (v2 : Int32) (K : Int32 → Sg → Prop) (k1 : Int32) (σ : Sg) : Prop :=
    m_X5_bad k1 1 0 σ (fun r21 s21 => ((¬ r21 = 0 → K 0 s21) ∧ (r21 = 0 → m_X5_in v2 0 60 s21 (fun r32 s32 => ((¬ r32 = 0 → m_X5_least_j43 v1 v2 K 0 s32) ∧ (r32 = 0 → m_X5_least_j43 v1 v2 K 1 s32))))))
def m_X5_least (v1 : Int32) (v2 : Int32) (σ : Sg) (K : Int32 → Sg → Prop) : Prop :=
    (∀ s2, s2 = st2 σ 347 0 0 → m_X5_isHelper v1 s2 (fun r8 s8 => ((¬ r8 = 0 → m_X5_least_j19 v1 v2 K 0 s8) ∧ (r8 = 0 → m_X5_least_j19 v1 v2 K 1 s8))))
def m_X5_reach_l65 (v1 : Int32) (v2 : Int32) (K : Int32 → Sg → Prop) : Nat → Int32 → Int32 → Sg → Prop
  | 0, _, _, _ => False
  | n + 1, l4, l5, σ =>
    ((240 ≤ l5 → K l4 σ) ∧ (¬ (240 ≤ l5) → (vp_in v2 61 ∧ (vp_in l5 240 ∧ m_X5_fuelOf v1 σ (fun r86 s86 => ((r86 < (σ (363 + 1 + v2.toNatClampNeg) l5.toNatClampNeg) → (∀ l4_98, l4_98 = (l4 + 0) → m_X5_reach_l65 v1 v2 K n l4_98 (l5 + 1) s86)) ∧ (¬ (r86 < (σ (363 + 1 + v2.toNatClampNeg) l5.toNatClampNeg)) → (∀ l4_98, l4_98 = (l4 + 1) → m_X5_reach_l65 v1 v2 K n l4_98 (l5 + 1) s86))))))))
def m_X5_reach_j43 (v1 : Int32) (v2 : Int32) (K : Int32 → Sg → Prop) (k1 : Int32) (σ : Sg) : Prop :=
    m_X5_bad k1 2 1 σ (fun r45 s45 => ((r45 = 0 → m_X5_earliest v1 s45 (fun r55 s55 => ∃ n9, m_X5_reach_l65 v1 v2 K n9 0 0 s55)) ∧ (¬ (r45 = 0) → K 0 s45)))
def m_X5_reach_j19 (v1 : Int32) (v2 : Int32) (K : Int32 → Sg → Prop) (k1 : Int32) (σ : Sg) : Prop :=
    m_X5_bad k1 1 0 σ (fun r21 s21 => ((¬ r21 = 0 → K 0 s21) ∧ (r21 = 0 → m_X5_in v2 0 60 s21 (fun r32 s32 => ((¬ r32 = 0 → m_X5_reach_j43 v1 v2 K 0 s32) ∧ (r32 = 0 → m_X5_reach_j43 v1 v2 K 1 s32))))))
def m_X5_reach (v1 : Int32) (v2 : Int32) (σ : Sg) (K : Int32 → Sg → Prop) : Prop :=
    (∀ s2, s2 = st2 σ 347 0 0 → m_X5_isHelper v1 s2 (fun r8 s8 => ((¬ r8 = 0 → m_X5_reach_j19 v1 v2 K 0 s8) ∧ (r8 = 0 → m_X5_reach_j19 v1 v2 K 1 s8))))
def m_X5_most_j56 (v1 : Int32) (v2 : Int32) (v3 : Int32) (v4 : Int32) (K : Int32 → Sg → Prop) (k1 : Int32) (σ : Sg) : Prop :=
    m_X5_bad k1 2 1 σ (fun r58 s58 => ((r58 = 0 → m_X5_earliest v1 s58 (fun r68 s68 => (vp_in v2 61 ∧ m_X5_cellAt v3 v4 s68 (fun r82 s82 => (vp_in r82 240 ∧ (∀ l6_86, l6_86 = (s82 (363 + 1 + v2.toNatClampNeg) r82.toNatClampNeg) → m_X5_fuelOf v1 s82 (fun r92 s92 => ((r92 < l6_86 → K (-1) s92) ∧ (¬ (r92 < l6_86) → m_X5_fuelOf v1 s92 (fun r100 s100 => K (r100 - l6_86) s100)))))))))) ∧ (¬ (r58 = 0) → K 0 s58)))
def m_X5_most_j19 (v1 : Int32) (v2 : Int32) (v3 : Int32) (v4 : Int32) (K : Int32 → Sg → Prop) (k1 : Int32) (σ : Sg) : Prop :=
    m_X5_bad k1 1 0 σ (fun r21 s21 => ((¬ r21 = 0 → K 0 s21) ∧ (r21 = 0 → m_X5_in v2 0 60 s21 (fun r32 s32 => ((r32 = 0 → m_X5_most_j56 v1 v2 v3 v4 K 1 s32) ∧ (¬ (r32 = 0) → m_X5_isOn 350 v3 v4 s32 (fun r45 s45 => ((¬ r45 = 0 → m_X5_most_j56 v1 v2 v3 v4 K 0 s45) ∧ (r45 = 0 → m_X5_most_j56 v1 v2 v3 v4 K 1 s45)))))))))
def m_X5_most (v1 : Int32) (v2 : Int32) (v3 : Int32) (v4 : Int32) (σ : Sg) (K : Int32 → Sg → Prop) : Prop :=
    (∀ s2, s2 = st2 σ 347 0 0 → m_X5_isHelper v1 s2 (fun r8 s8 => ((¬ r8 = 0 → m_X5_most_j19 v1 v2 v3 v4 K 0 s8) ∧ (r8 = 0 → m_X5_most_j19 v1 v2 v3 v4 K 1 s8))))
def m_X5_relay_l119 (v1 : Int32) (v2 : Int32) (K : Int32 → Sg → Prop) (KO90 : Int32 → Sg → Prop) (KO110 : Int32 → Int32 → Sg → Prop) : Nat → Int32 → Int32 → Int32 → Sg → Prop
  | 0, _, _, _, _ => False
  | n + 1, l3, l4, l5, σ =>
    ((240 ≤ l5 → KO110 l3 (l4 + 1) σ) ∧ (¬ (240 ≤ l5) → (vp_in l4 61 ∧ (vp_in l5 240 ∧ m_X5_fuelOf v1 σ (fun r139 s139 => ((r139 < (σ (363 + 1 + l4.toNatClampNeg) l5.toNatClampNeg) → m_X5_relay_l119 v1 v2 K KO90 KO110 n l3 l4 (l5 + 1) s139) ∧ (¬ (r139 < (σ (363 + 1 + l4.toNatClampNeg) l5.toNatClampNeg)) → (vp_in l4 61 ∧ (vp_in l5 240 ∧ m_X5_fuelOf v2 s139 (fun r157 s157 => (((s139 (425 + 1 + l4.toNatClampNeg) l5.toNatClampNeg) ≤ r157 → (vp_in l4 61 ∧ (vp_in l5 240 ∧ (vp_in 4 1098 ∧ m_X5_fuelOf v1 s157 (fun r184 s184 => (vp_in l4 61 ∧ (vp_in l5 240 ∧ m_X5_fuelOf v2 s184 (fun r200 s200 => (vp_in l4 61 ∧ (vp_in l5 240 ∧ m_X5_less (s157 350 (4 : Int32).toNatClampNeg) (((r184 - (s184 (363 + 1 + l4.toNatClampNeg) l5.toNatClampNeg)) + r200) - (s200 (425 + 1 + l4.toNatClampNeg) l5.toNatClampNeg)) s200 (fun r215 s215 => ((r215 < (s157 (487 + 1 + l4.toNatClampNeg) l5.toNatClampNeg) → m_X5_relay_l119 v1 v2 K KO90 KO110 n l3 l4 (l5 + 1) s215) ∧ (¬ (r215 < (s157 (487 + 1 + l4.toNatClampNeg) l5.toNatClampNeg)) → K l3 s215))))))))))))) ∧ (¬ ((s139 (425 + 1 + l4.toNatClampNeg) l5.toNatClampNeg) ≤ r157) → m_X5_relay_l119 v1 v2 K KO90 KO110 n l3 l4 (l5 + 1) s157))))))))))))
def m_X5_relay_l110 (v1 : Int32) (v2 : Int32) (K : Int32 → Sg → Prop) (KO90 : Int32 → Sg → Prop) : Nat → Int32 → Int32 → Sg → Prop
  | 0, _, _, _ => False
  | n + 1, l3, l4, σ =>
    ((l3 < l4 → KO90 (l3 + 1) σ) ∧ (¬ (l3 < l4) → ∃ n9, m_X5_relay_l119 v1 v2 K KO90 (fun l3 l4 σ => m_X5_relay_l110 v1 v2 K KO90 n l3 l4 σ) n9 l3 l4 0 σ))
def m_X5_relay_l90 (v1 : Int32) (v2 : Int32) (K : Int32 → Sg → Prop) : Nat → Int32 → Sg → Prop
  | 0, _, _ => False
  | n + 1, l3, σ =>
    ((60 < l3 → K (-1) σ) ∧ (¬ (60 < l3) → (vp_in l3 61 ∧ m_X5_leads l3 (σ 361 l3.toNatClampNeg) σ (fun s104 => ∃ n9, m_X5_relay_l110 v1 v2 K (fun l3 σ => m_X5_relay_l90 v1 v2 K n l3 σ) n9 l3 0 s104))))
def m_X5_relay_j46 (v1 : Int32) (v2 : Int32) (K : Int32 → Sg → Prop) (k1 : Int32) (σ : Sg) : Prop :=
    m_X5_bad k1 2 1 σ (fun r48 s48 => ((r48 = 0 → m_X5_looksAhead  s48 (fun s57 => m_X5_helperCell v1 s57 (fun r68 s68 => m_X5_spreads 363 0 r68 s68 (fun s71 => m_X5_helperCell v2 s71 (fun r82 s82 => m_X5_spreads 425 0 r82 s82 (fun s85 => ∃ n9, m_X5_relay_l90 v1 v2 K n9 0 s85)))))) ∧ (¬ (r48 = 0) → K 0 s48)))
def m_X5_relay_j27 (v1 : Int32) (v2 : Int32) (K : Int32 → Sg → Prop) (k1 : Int32) (σ : Sg) : Prop :=
    m_X5_bad k1 1 0 σ (fun r29 s29 => ((¬ r29 = 0 → K 0 s29) ∧ (r29 = 0 → ((¬ v1 = v2 → m_X5_relay_j46 v1 v2 K 0 s29) ∧ (v1 = v2 → m_X5_relay_j46 v1 v2 K 1 s29)))))
def m_X5_relay (v1 : Int32) (v2 : Int32) (σ : Sg) (K : Int32 → Sg → Prop) : Prop :=
    (∀ s2, s2 = st2 σ 347 0 0 → m_X5_isHelper v1 s2 (fun r8 s8 => ((r8 = 0 → m_X5_relay_j27 v1 v2 K 1 s8) ∧ (¬ (r8 = 0) → m_X5_isHelper v2 s8 (fun r16 s16 => ((¬ r16 = 0 → m_X5_relay_j27 v1 v2 K 0 s16) ∧ (r16 = 0 → m_X5_relay_j27 v1 v2 K 1 s16)))))))
def m_X5_home_l104 (v1 : Int32) (v2 : Int32) (K : Int32 → Sg → Prop) : Nat → Int32 → Int32 → Sg → Prop
  | 0, _, _, _ => False
  | n + 1, l4, l5, σ =>
    ((60 < l5 → K (-1) σ) ∧ (¬ (60 < l5) → (vp_in l5 61 ∧ (vp_in l5 61 ∧ (vp_in (σ 362 l5.toNatClampNeg) 240 ∧ ((l4 < (2 * (σ (425 + 1 + l5.toNatClampNeg) (σ 362 l5.toNatClampNeg).toNatClampNeg)) → m_X5_home_l104 v1 v2 K n l4 (l5 + 1) σ) ∧ (¬ (l4 < (2 * (σ (425 + 1 + l5.toNatClampNeg) (σ 362 l5.toNatClampNeg).toNatClampNeg))) → ((¬ v2 = 0 → (vp_in l5 61 ∧ (vp_in l5 61 ∧ (vp_in (σ 362 l5.toNatClampNeg) 240 ∧ K (l4 - (2 * (σ (425 + 1 + l5.toNatClampNeg) (σ 362 l5.toNatClampNeg).toNatClampNeg))) σ)))) ∧ (v2 = 0 → K l5 σ)))))))))
def m_X5_home_j42 (v1 : Int32) (v2 : Int32) (K : Int32 → Sg → Prop) (k1 : Int32) (σ : Sg) : Prop :=
    m_X5_bad k1 2 1 σ (fun r44 s44 => ((r44 = 0 → m_X5_earliest v1 s44 (fun r54 s54 => ((¬ r54 = (-1) → m_X5_fuelOf v1 s54 (fun r67 s67 => (vp_in r54 61 ∧ (vp_in r54 61 ∧ (vp_in (s67 361 r54.toNatClampNeg) 240 ∧ (∀ l4_84, l4_84 = (r67 - (s67 (363 + 1 + r54.toNatClampNeg) (s67 361 r54.toNatClampNeg).toNatClampNeg)) → (vp_in r54 61 ∧ m_X5_spreads 425 r54 (s67 361 r54.toNatClampNeg) s67 (fun s98 => ∃ n9, m_X5_home_l104 v1 v2 K n9 l4_84 r54 s98)))))))) ∧ (r54 = (-1) → K (-1) s54)))) ∧ (¬ (r44 = 0) → K 0 s44)))
def m_X5_home_j19 (v1 : Int32) (v2 : Int32) (K : Int32 → Sg → Prop) (k1 : Int32) (σ : Sg) : Prop :=
    m_X5_bad k1 1 0 σ (fun r21 s21 => ((¬ r21 = 0 → K 0 s21) ∧ (r21 = 0 → m_X5_in v2 0 1 s21 (fun r31 s31 => ((¬ r31 = 0 → m_X5_home_j42 v1 v2 K 0 s31) ∧ (r31 = 0 → m_X5_home_j42 v1 v2 K 1 s31))))))
def m_X5_home (v1 : Int32) (v2 : Int32) (σ : Sg) (K : Int32 → Sg → Prop) : Prop :=
    (∀ s2, s2 = st2 σ 347 0 0 → m_X5_isHelper v1 s2 (fun r8 s8 => ((¬ r8 = 0 → m_X5_home_j19 v1 v2 K 0 s8) ∧ (r8 = 0 → m_X5_home_j19 v1 v2 K 1 s8))))
def m_X5_numberOf (v0 : Nat) (v1 : Int32) (v2 : Int32) (σ : Sg) (K : Int32 → Sg → Prop) : Prop :=
    (vp_in 0 (ln v0) ∧ K (((σ v0 (0 : Int32).toNatClampNeg) * v2) + v1) σ)
def m_X5_print_l57  (K : Int64 → Sg → Prop) : Nat → Int64 → Int32 → Sg → Prop
  | 0, _, _, _ => False
  | n + 1, l1, l3, σ =>
    (vp_in 3 1098 ∧ (((σ 350 (3 : Int32).toNatClampNeg) ≤ l3 → K l1 σ) ∧ (¬ ((σ 350 (3 : Int32).toNatClampNeg) ≤ l3) → (vp_in (1089 + (3 * l3)) 1098 ∧ (vp_in ((1089 + (3 * l3)) + 1) 1098 ∧ m_X5_numberOf 350 (σ 350 (1089 + (3 * l3)).toNatClampNeg) (σ 350 ((1089 + (3 * l3)) + 1).toNatClampNeg) σ (fun r105 s105 => m_X5_fuelOf l3 s105 (fun r113 s113 => m_X5_print_l57 K n ((31 * ((31 * l1) + r105.toInt64)) + r113.toInt64) (l3 + 1) s113)))))))
def m_X5_print  (σ : Sg) (K : Int64 → Sg → Prop) : Prop :=
    (∀ s2, s2 = st2 σ 347 0 0 → (vp_in 6 1098 ∧ (vp_in 7 1098 ∧ m_X5_numberOf 350 (s2 350 (6 : Int32).toNatClampNeg) (s2 350 (7 : Int32).toNatClampNeg) s2 (fun r26 s26 => (vp_in 8 1098 ∧ (vp_in 9 1098 ∧ m_X5_numberOf 350 (s26 350 (8 : Int32).toNatClampNeg) (s26 350 (9 : Int32).toNatClampNeg) s26 (fun r49 s49 => ∃ n9, m_X5_print_l57 K n9 ((31 * r26.toInt64) + r49.toInt64) 0 s49)))))))
def m_X5_status (v1 : Int32) (σ : Sg) (K : Int32 → Sg → Prop) : Prop :=
    (∀ s2, s2 = st2 σ 347 0 0 → m_X5_in v1 0 2 s2 (fun r8 s8 => ((r8 = 0 → K (-1) s8) ∧ (¬ (r8 = 0) → (vp_in v1 3 ∧ K (s8 348 v1.toNatClampNeg) s8)))))
