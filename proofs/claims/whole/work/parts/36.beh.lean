/-! ===== machines as numbers, and the orbit behind a way ===== -/
/-- states, registers; the next state and the register (2: none) of each step; the good states -/
abbrev TM : Type := (Nat × Nat) × ((Nat → Nat) × ((Nat → Nat) × (Nat → Bool)))
def kI (k : Nat) : Int32 := if k = 2 then NO else nI k
def WFT (T : TM) : Prop := 1 ≤ T.1.1 ∧ T.1.1 ≤ 6 ∧ T.1.2 ≤ 2 ∧ (∀ j, j / 9 < T.1.1 → T.2.1 j < T.1.1) ∧ (∀ j, T.2.2.1 j = 2 ∨ T.2.2.1 j < T.1.2)
/-- the reference's machine m is T -/
def isT (A : Nat → Nat → Int32) (m : Nat) (T : TM) : Prop := A 4 m = nI T.1.1 ∧ A 5 m = nI T.1.2 ∧ (∀ j, j < 54 → A 7 (54 * m + j) = nI (T.2.1 j)) ∧ (∀ j, j < 54 → A 8 (54 * m + j) = kI (T.2.2.1 j)) ∧ (∀ j, j < 6 → A 6 (6 * m + j) = bI (T.2.2.2 j))
theorem isT.n {A : Nat → Nat → Int32} {m : Nat} {T : TM} (hT : isT A m T) {i j : Nat} (hj : j < 54) (hi : i = 54 * m + j) : A 7 i = nI (T.2.1 j) := by subst hi; exact hT.2.2.1 j hj
theorem isT.k {A : Nat → Nat → Int32} {m : Nat} {T : TM} (hT : isT A m T) {i j : Nat} (hj : j < 54) (hi : i = 54 * m + j) : A 8 i = kI (T.2.2.1 j) := by subst hi; exact hT.2.2.2.1 j hj
theorem isT.g {A : Nat → Nat → Int32} {m : Nat} {T : TM} (hT : isT A m T) {i j : Nat} (hj : j < 6) (hi : i = 6 * m + j) : A 6 i = bI (T.2.2.2 j) := by subst hi; exact hT.2.2.2.2 j hj
theorem isT.cg {A B : Nat → Nat → Int32} {m : Nat} {T : TM} (hT : isT A m T) (h4 : B 4 = A 4) (h5 : B 5 = A 5) (h6 : B 6 = A 6) (h7 : B 7 = A 7) (h8 : B 8 = A 8) : isT B m T := by
  unfold isT
  rw [h4, h5, h6, h7, h8]
  exact hT
theorem isT.sm {A B : Nat → Nat → Int32} {ks : List Nat} {m : Nat} {T : TM} (hT : isT A m T) (hs : sameA A B ks) (hk : 4 ∉ ks ∧ 5 ∉ ks ∧ 6 ∉ ks ∧ 7 ∉ ks ∧ 8 ∉ ks) : isT B m T := hT.cg (hs 4 hk.1).symm (hs 5 hk.2.1).symm (hs 6 hk.2.2.1).symm (hs 7 hk.2.2.2.1).symm (hs 8 hk.2.2.2.2).symm
/-- the case of a label: base 0 or 2 -/
def cs (l : Nat → Nat) (b v : Nat) : Nat := if l b = v then 0 else if l (b + 1) = v then 1 else 2
theorem cs_le (l : Nat → Nat) (b v : Nat) : cs l b v ≤ 2 := by
  unfold cs
  split
  · omega
  · split <;> omega
def asg (l : Nat → Nat) (b k v : Nat) : Nat → Nat := if k = 2 then l else updN l (b + k) v
theorem kI_2 : kI 2 = NO := rfl
theorem kI_n {k : Nat} (h : k ≠ 2) : kI k = nI k := if_neg h
theorem kI_NO {k : Nat} (h : k < 100) : kI k = NO ↔ k = 2 := by
  unfold kI
  by_cases h2 : k = 2
  · simp [h2]
  · rw [if_neg h2, eq_NO (by omega)]
    simp [h2]
section BH
variable {d a : Nat} {h : AH} {I : Nat → Int32} {A : Nat → Nat → Int32}
theorem R_goesOn {m : Nat} {T : TM} (hT : isT A m T) (hw : WFT T) (hm : m < 6) (f : Nat → Int32) (lv : Nat → Nat) (s b l v : Nat) (hs : s < 6) (hb : b = 0 ∨ b = 2) (hl : l < 3) (hv : v < 8) (hlv : ∀ j, j < 4 → lv j < 100) : call (d + 2) 137 [.ref a, .int (nI m), .int (nI s), .int (nI b), .int (nI l), .int (nI v)] (mkR h a I (updA A 25 (qL f lv))) = some (some (.int (nI (T.2.1 (9 * s + 3 * l + cs lv b v)))), mkR h a I (updA A 25 (qL f (asg lv b (T.2.2.1 (9 * s + 3 * l + cs lv b v)) v)))) := by
  have q0 := hlv b (by omega)
  have q1 := hlv (b + 1) (by omega)
  have hc := cs_le lv b v
  have fin : run (d + 1) mt_137 33 [some (.ref a), some (.int (nI m)), some (.int (nI s)), some (.int (nI b)), some (.int (nI l)), some (.int (nI v)), none, none] [.int (nI (cs lv b v))] (mkR h a I (updA A 25 (qL f lv))) = some (some (.int (nI (T.2.1 (9 * s + 3 * l + cs lv b v)))), mkR h a I (updA A 25 (qL f (asg lv b (T.2.2.1 (9 * s + 3 * l + cs lv b v)) v)))) := by
    generalize cs lv b v = w at hc
    have e7 := hT.n (i := 54 * m + 9 * s + 3 * l + w) (j := 9 * s + 3 * l + w) (by omega) (by omega)
    have e8 := hT.k (i := 54 * m + 9 * s + 3 * l + w) (j := 9 * s + 3 * l + w) (by omega) (by omega)
    have hk := hw.2.2.2.2 (9 * s + 3 * l + w)
    have hrg := hw.2.2.1
    rw [nd_137_33 (St_run (d + 1) mt_137)]
    by_cases h2 : T.2.2.1 (9 * s + 3 * l + w) = 2
    · rw [h2, kI_2] at e8
      simp (disch := omega) only [r_stepAt, nd_137_74 (St_run (d + 1) mt_137), ↓L_m4, ↓L_m1, L_0, L_1, L_2, L_3, L_4, L_5, L_6, L_8, L_9, L_15, L_20, L_30, L_40, L_54, L_60, L_120, L_1872, L_4320, L_22500, le_t, le_f, lt_t, lt_f, eq_t, eq_f, eq_NO, NO_eq, NO_neg, MO_neg, bI_0, nI_add, pk_mul, pk_ds, rem_, nI_MO, nI_0MO, ↓reduceIte, isZn0, isZn1, isZb, bind_some', rI_some, rV_some, rQ_some, rQ_null, updA_at, updA_ne, pk_us, pk_un, ne_eq, not_false_eq_true, Nat.reduceEqDiff, updA_updA, Nat.reduceSub, Nat.reduceAdd, Nat.reduceMul, Nat.reduceDiv, Nat.zero_add, Nat.add_zero, mkR_o, mkR_g0, mkR_p0, mkR_g1, mkR_l1, mkR_n1, mkR_s1, mkR_g2, mkR_l2, mkR_n2, mkR_s2, mkR_g3, mkR_p3, mkR_g4, mkR_l4, mkR_n4, mkR_s4, mkR_g5, mkR_l5, mkR_n5, mkR_s5, mkR_g6, mkR_l6, mkR_n6, mkR_s6, mkR_t6, mkR_f6, mkR_g7, mkR_l7, mkR_n7, mkR_s7, mkR_g8, mkR_l8, mkR_n8, mkR_s8, mkR_g9, mkR_l9, mkR_n9, mkR_s9, mkR_g10, mkR_l10, mkR_n10, mkR_s10, mkR_g11, mkR_l11, mkR_n11, mkR_s11, mkR_g12, mkR_p12, mkR_g13, mkR_l13, mkR_n13, mkR_s13, mkR_t13, mkR_f13, mkR_g14, mkR_l14, mkR_n14, mkR_s14, mkR_g15, mkR_l15, mkR_n15, mkR_s15, mkR_g16, mkR_p16, mkR_g17, mkR_l17, mkR_n17, mkR_s17, mkR_t17, mkR_f17, mkR_g18, mkR_l18, mkR_n18, mkR_s18, mkR_t18, mkR_f18, mkR_g19, mkR_l19, mkR_n19, mkR_s19, mkR_g20, mkR_l20, mkR_n20, mkR_s20, mkR_g21, mkR_l21, mkR_n21, mkR_s21, mkR_g22, mkR_p22, mkR_g23, mkR_p23, mkR_g24, mkR_p24, mkR_g25, mkR_l25, mkR_n25, mkR_s25, mkR_g26, mkR_l26, mkR_n26, mkR_s26, mkR_g27, mkR_l27, mkR_n27, mkR_s27, mkR_g28, mkR_p28, mkR_g29, mkR_p29, mkR_g30, mkR_l30, mkR_n30, mkR_s30, mkR_g31, mkR_p31, mkR_g32, mkR_l32, mkR_n32, mkR_s32, mkR_g33, mkR_l33, mkR_n33, mkR_s33, mkR_g34, mkR_l34, mkR_n34, mkR_s34, mkR_t34, mkR_f34, mkR_g35, mkR_l35, mkR_n35, mkR_s35, mkR_g36, mkR_l36, mkR_n36, mkR_s36, mkR_g37, mkR_l37, mkR_n37, mkR_s37, mkR_g38, mkR_l38, mkR_n38, mkR_s38, mkR_g39, mkR_l39, mkR_n39, mkR_s39, mkR_g40, mkR_l40, mkR_n40, mkR_s40, mkR_g41, mkR_l41, mkR_n41, mkR_s41, e7, e8, h2]
      rfl
    · rw [kI_n h2] at e8
      have hk2 : T.2.2.1 (9 * s + 3 * l + w) < 2 := by omega
      simp (disch := omega) only [r_stepAt, nd_137_74 (St_run (d + 1) mt_137), ↓L_m4, ↓L_m1, L_0, L_1, L_2, L_3, L_4, L_5, L_6, L_8, L_9, L_15, L_20, L_30, L_40, L_54, L_60, L_120, L_1872, L_4320, L_22500, le_t, le_f, lt_t, lt_f, eq_t, eq_f, eq_NO, NO_eq, NO_neg, MO_neg, bI_0, nI_add, pk_mul, pk_ds, rem_, nI_MO, nI_0MO, ↓reduceIte, isZn0, isZn1, isZb, bind_some', rI_some, rV_some, rQ_some, rQ_null, updA_at, updA_ne, pk_us, pk_un, ne_eq, not_false_eq_true, Nat.reduceEqDiff, updA_updA, Nat.reduceSub, Nat.reduceAdd, Nat.reduceMul, Nat.reduceDiv, Nat.zero_add, Nat.add_zero, mkR_o, mkR_g0, mkR_p0, mkR_g1, mkR_l1, mkR_n1, mkR_s1, mkR_g2, mkR_l2, mkR_n2, mkR_s2, mkR_g3, mkR_p3, mkR_g4, mkR_l4, mkR_n4, mkR_s4, mkR_g5, mkR_l5, mkR_n5, mkR_s5, mkR_g6, mkR_l6, mkR_n6, mkR_s6, mkR_t6, mkR_f6, mkR_g7, mkR_l7, mkR_n7, mkR_s7, mkR_g8, mkR_l8, mkR_n8, mkR_s8, mkR_g9, mkR_l9, mkR_n9, mkR_s9, mkR_g10, mkR_l10, mkR_n10, mkR_s10, mkR_g11, mkR_l11, mkR_n11, mkR_s11, mkR_g12, mkR_p12, mkR_g13, mkR_l13, mkR_n13, mkR_s13, mkR_t13, mkR_f13, mkR_g14, mkR_l14, mkR_n14, mkR_s14, mkR_g15, mkR_l15, mkR_n15, mkR_s15, mkR_g16, mkR_p16, mkR_g17, mkR_l17, mkR_n17, mkR_s17, mkR_t17, mkR_f17, mkR_g18, mkR_l18, mkR_n18, mkR_s18, mkR_t18, mkR_f18, mkR_g19, mkR_l19, mkR_n19, mkR_s19, mkR_g20, mkR_l20, mkR_n20, mkR_s20, mkR_g21, mkR_l21, mkR_n21, mkR_s21, mkR_g22, mkR_p22, mkR_g23, mkR_p23, mkR_g24, mkR_p24, mkR_g25, mkR_l25, mkR_n25, mkR_s25, mkR_g26, mkR_l26, mkR_n26, mkR_s26, mkR_g27, mkR_l27, mkR_n27, mkR_s27, mkR_g28, mkR_p28, mkR_g29, mkR_p29, mkR_g30, mkR_l30, mkR_n30, mkR_s30, mkR_g31, mkR_p31, mkR_g32, mkR_l32, mkR_n32, mkR_s32, mkR_g33, mkR_l33, mkR_n33, mkR_s33, mkR_g34, mkR_l34, mkR_n34, mkR_s34, mkR_t34, mkR_f34, mkR_g35, mkR_l35, mkR_n35, mkR_s35, mkR_g36, mkR_l36, mkR_n36, mkR_s36, mkR_g37, mkR_l37, mkR_n37, mkR_s37, mkR_g38, mkR_l38, mkR_n38, mkR_s38, mkR_g39, mkR_l39, mkR_n39, mkR_s39, mkR_g40, mkR_l40, mkR_n40, mkR_s40, mkR_g41, mkR_l41, mkR_n41, mkR_s41, e7, e8, qL_upd]
      unfold asg
      rw [if_neg h2]
  rw [call_at mt_137 [some (.ref a), some (.int (nI m)), some (.int (nI s)), some (.int (nI b)), some (.int (nI l)), some (.int (nI v)), none, none] rfl rfl rfl, nd_137_0 (St_run (d + 1) mt_137)]
  unfold cs at fin
  by_cases h0 : lv b = v
  · simp only [h0, if_true] at fin
    simp (disch := omega) only [↓L_m4, ↓L_m1, L_0, L_1, L_2, L_3, L_4, L_5, L_6, L_8, L_9, L_15, L_20, L_30, L_40, L_54, L_60, L_120, L_1872, L_4320, L_22500, le_t, le_f, lt_t, lt_f, eq_t, eq_f, eq_NO, NO_eq, NO_neg, MO_neg, bI_0, nI_add, pk_mul, pk_ds, rem_, nI_MO, nI_0MO, ↓reduceIte, isZn0, isZn1, isZb, bind_some', rI_some, rV_some, rQ_some, rQ_null, updA_at, updA_ne, pk_us, pk_un, ne_eq, not_false_eq_true, Nat.reduceEqDiff, updA_updA, Nat.reduceSub, Nat.reduceAdd, Nat.reduceMul, Nat.reduceDiv, Nat.zero_add, Nat.add_zero, mkR_o, mkR_g0, mkR_p0, mkR_g1, mkR_l1, mkR_n1, mkR_s1, mkR_g2, mkR_l2, mkR_n2, mkR_s2, mkR_g3, mkR_p3, mkR_g4, mkR_l4, mkR_n4, mkR_s4, mkR_g5, mkR_l5, mkR_n5, mkR_s5, mkR_g6, mkR_l6, mkR_n6, mkR_s6, mkR_t6, mkR_f6, mkR_g7, mkR_l7, mkR_n7, mkR_s7, mkR_g8, mkR_l8, mkR_n8, mkR_s8, mkR_g9, mkR_l9, mkR_n9, mkR_s9, mkR_g10, mkR_l10, mkR_n10, mkR_s10, mkR_g11, mkR_l11, mkR_n11, mkR_s11, mkR_g12, mkR_p12, mkR_g13, mkR_l13, mkR_n13, mkR_s13, mkR_t13, mkR_f13, mkR_g14, mkR_l14, mkR_n14, mkR_s14, mkR_g15, mkR_l15, mkR_n15, mkR_s15, mkR_g16, mkR_p16, mkR_g17, mkR_l17, mkR_n17, mkR_s17, mkR_t17, mkR_f17, mkR_g18, mkR_l18, mkR_n18, mkR_s18, mkR_t18, mkR_f18, mkR_g19, mkR_l19, mkR_n19, mkR_s19, mkR_g20, mkR_l20, mkR_n20, mkR_s20, mkR_g21, mkR_l21, mkR_n21, mkR_s21, mkR_g22, mkR_p22, mkR_g23, mkR_p23, mkR_g24, mkR_p24, mkR_g25, mkR_l25, mkR_n25, mkR_s25, mkR_g26, mkR_l26, mkR_n26, mkR_s26, mkR_g27, mkR_l27, mkR_n27, mkR_s27, mkR_g28, mkR_p28, mkR_g29, mkR_p29, mkR_g30, mkR_l30, mkR_n30, mkR_s30, mkR_g31, mkR_p31, mkR_g32, mkR_l32, mkR_n32, mkR_s32, mkR_g33, mkR_l33, mkR_n33, mkR_s33, mkR_g34, mkR_l34, mkR_n34, mkR_s34, mkR_t34, mkR_f34, mkR_g35, mkR_l35, mkR_n35, mkR_s35, mkR_g36, mkR_l36, mkR_n36, mkR_s36, mkR_g37, mkR_l37, mkR_n37, mkR_s37, mkR_g38, mkR_l38, mkR_n38, mkR_s38, mkR_g39, mkR_l39, mkR_n39, mkR_s39, mkR_g40, mkR_l40, mkR_n40, mkR_s40, mkR_g41, mkR_l41, mkR_n41, mkR_s41, qL_at, h0]
    unfold cs
    simp only [h0, if_true]
    exact fin
  · by_cases h1 : lv (b + 1) = v
    · simp only [h0, h1, if_true, if_false] at fin
      simp (disch := omega) only [↓L_m4, ↓L_m1, L_0, L_1, L_2, L_3, L_4, L_5, L_6, L_8, L_9, L_15, L_20, L_30, L_40, L_54, L_60, L_120, L_1872, L_4320, L_22500, le_t, le_f, lt_t, lt_f, eq_t, eq_f, eq_NO, NO_eq, NO_neg, MO_neg, bI_0, nI_add, pk_mul, pk_ds, rem_, nI_MO, nI_0MO, ↓reduceIte, isZn0, isZn1, isZb, bind_some', rI_some, rV_some, rQ_some, rQ_null, updA_at, updA_ne, pk_us, pk_un, ne_eq, not_false_eq_true, Nat.reduceEqDiff, updA_updA, Nat.reduceSub, Nat.reduceAdd, Nat.reduceMul, Nat.reduceDiv, Nat.zero_add, Nat.add_zero, mkR_o, mkR_g0, mkR_p0, mkR_g1, mkR_l1, mkR_n1, mkR_s1, mkR_g2, mkR_l2, mkR_n2, mkR_s2, mkR_g3, mkR_p3, mkR_g4, mkR_l4, mkR_n4, mkR_s4, mkR_g5, mkR_l5, mkR_n5, mkR_s5, mkR_g6, mkR_l6, mkR_n6, mkR_s6, mkR_t6, mkR_f6, mkR_g7, mkR_l7, mkR_n7, mkR_s7, mkR_g8, mkR_l8, mkR_n8, mkR_s8, mkR_g9, mkR_l9, mkR_n9, mkR_s9, mkR_g10, mkR_l10, mkR_n10, mkR_s10, mkR_g11, mkR_l11, mkR_n11, mkR_s11, mkR_g12, mkR_p12, mkR_g13, mkR_l13, mkR_n13, mkR_s13, mkR_t13, mkR_f13, mkR_g14, mkR_l14, mkR_n14, mkR_s14, mkR_g15, mkR_l15, mkR_n15, mkR_s15, mkR_g16, mkR_p16, mkR_g17, mkR_l17, mkR_n17, mkR_s17, mkR_t17, mkR_f17, mkR_g18, mkR_l18, mkR_n18, mkR_s18, mkR_t18, mkR_f18, mkR_g19, mkR_l19, mkR_n19, mkR_s19, mkR_g20, mkR_l20, mkR_n20, mkR_s20, mkR_g21, mkR_l21, mkR_n21, mkR_s21, mkR_g22, mkR_p22, mkR_g23, mkR_p23, mkR_g24, mkR_p24, mkR_g25, mkR_l25, mkR_n25, mkR_s25, mkR_g26, mkR_l26, mkR_n26, mkR_s26, mkR_g27, mkR_l27, mkR_n27, mkR_s27, mkR_g28, mkR_p28, mkR_g29, mkR_p29, mkR_g30, mkR_l30, mkR_n30, mkR_s30, mkR_g31, mkR_p31, mkR_g32, mkR_l32, mkR_n32, mkR_s32, mkR_g33, mkR_l33, mkR_n33, mkR_s33, mkR_g34, mkR_l34, mkR_n34, mkR_s34, mkR_t34, mkR_f34, mkR_g35, mkR_l35, mkR_n35, mkR_s35, mkR_g36, mkR_l36, mkR_n36, mkR_s36, mkR_g37, mkR_l37, mkR_n37, mkR_s37, mkR_g38, mkR_l38, mkR_n38, mkR_s38, mkR_g39, mkR_l39, mkR_n39, mkR_s39, mkR_g40, mkR_l40, mkR_n40, mkR_s40, mkR_g41, mkR_l41, mkR_n41, mkR_s41, qL_at, h1]
      unfold cs
      simp only [h0, h1, if_true, if_false]
      exact fin
    · simp only [h0, h1, if_false] at fin
      simp (disch := omega) only [↓L_m4, ↓L_m1, L_0, L_1, L_2, L_3, L_4, L_5, L_6, L_8, L_9, L_15, L_20, L_30, L_40, L_54, L_60, L_120, L_1872, L_4320, L_22500, le_t, le_f, lt_t, lt_f, eq_t, eq_f, eq_NO, NO_eq, NO_neg, MO_neg, bI_0, nI_add, pk_mul, pk_ds, rem_, nI_MO, nI_0MO, ↓reduceIte, isZn0, isZn1, isZb, bind_some', rI_some, rV_some, rQ_some, rQ_null, updA_at, updA_ne, pk_us, pk_un, ne_eq, not_false_eq_true, Nat.reduceEqDiff, updA_updA, Nat.reduceSub, Nat.reduceAdd, Nat.reduceMul, Nat.reduceDiv, Nat.zero_add, Nat.add_zero, mkR_o, mkR_g0, mkR_p0, mkR_g1, mkR_l1, mkR_n1, mkR_s1, mkR_g2, mkR_l2, mkR_n2, mkR_s2, mkR_g3, mkR_p3, mkR_g4, mkR_l4, mkR_n4, mkR_s4, mkR_g5, mkR_l5, mkR_n5, mkR_s5, mkR_g6, mkR_l6, mkR_n6, mkR_s6, mkR_t6, mkR_f6, mkR_g7, mkR_l7, mkR_n7, mkR_s7, mkR_g8, mkR_l8, mkR_n8, mkR_s8, mkR_g9, mkR_l9, mkR_n9, mkR_s9, mkR_g10, mkR_l10, mkR_n10, mkR_s10, mkR_g11, mkR_l11, mkR_n11, mkR_s11, mkR_g12, mkR_p12, mkR_g13, mkR_l13, mkR_n13, mkR_s13, mkR_t13, mkR_f13, mkR_g14, mkR_l14, mkR_n14, mkR_s14, mkR_g15, mkR_l15, mkR_n15, mkR_s15, mkR_g16, mkR_p16, mkR_g17, mkR_l17, mkR_n17, mkR_s17, mkR_t17, mkR_f17, mkR_g18, mkR_l18, mkR_n18, mkR_s18, mkR_t18, mkR_f18, mkR_g19, mkR_l19, mkR_n19, mkR_s19, mkR_g20, mkR_l20, mkR_n20, mkR_s20, mkR_g21, mkR_l21, mkR_n21, mkR_s21, mkR_g22, mkR_p22, mkR_g23, mkR_p23, mkR_g24, mkR_p24, mkR_g25, mkR_l25, mkR_n25, mkR_s25, mkR_g26, mkR_l26, mkR_n26, mkR_s26, mkR_g27, mkR_l27, mkR_n27, mkR_s27, mkR_g28, mkR_p28, mkR_g29, mkR_p29, mkR_g30, mkR_l30, mkR_n30, mkR_s30, mkR_g31, mkR_p31, mkR_g32, mkR_l32, mkR_n32, mkR_s32, mkR_g33, mkR_l33, mkR_n33, mkR_s33, mkR_g34, mkR_l34, mkR_n34, mkR_s34, mkR_t34, mkR_f34, mkR_g35, mkR_l35, mkR_n35, mkR_s35, mkR_g36, mkR_l36, mkR_n36, mkR_s36, mkR_g37, mkR_l37, mkR_n37, mkR_s37, mkR_g38, mkR_l38, mkR_n38, mkR_s38, mkR_g39, mkR_l39, mkR_n39, mkR_s39, mkR_g40, mkR_l40, mkR_n40, mkR_s40, mkR_g41, mkR_l41, mkR_n41, mkR_s41, qL_at]
      unfold cs
      simp only [h0, h1, if_false]
      exact fin
/-- the labels behind a step of both -/
def nxP (p v kA kB : Nat) : Nat := nrm (asg (asg (lb p) 0 kA v) 2 kB v)
/-- the code behind a way -/
def chd (T U : TM) (c l v : Nat) : Nat := 625 * (6 * T.2.1 (9 * (c / 625 / 6) + 3 * l + cs (lb c) 0 v) + U.2.1 (9 * (c / 625 % 6) + 3 * l + cs (lb c) 2 v)) + nxP c v (T.2.2.1 (9 * (c / 625 / 6) + 3 * l + cs (lb c) 0 v)) (U.2.2.1 (9 * (c / 625 % 6) + 3 * l + cs (lb c) 2 v))
def T0 : TM := ((1, 0), ((fun j => j / 9), ((fun _ => 2), (fun _ => false))))
/-- b is U, or b is none and U is the silent one -/
def isTo (A : Nat → Nat → Int32) (b : Int32) (U : TM) : Prop := (∃ m, m < 6 ∧ b = nI m ∧ isT A m U) ∨ (b = NO ∧ U = T0)
theorem T0_wf : WFT T0 := ⟨by decide, by decide, by decide, fun j h => h, fun _ => Or.inl rfl⟩
theorem lb_lt (c j : Nat) : lb c j < 5 := Nat.mod_lt _ (by decide)
theorem asg_lt {l : Nat → Nat} {b k v : Nat} (hl : ∀ j, l j < 100) (hv : v < 100) : ∀ j, asg l b k v j < 100 := by
  intro j
  unfold asg
  split
  · exact hl j
  · unfold updN
    split
    · exact hv
    · exact hl j
theorem cs_asg (l : Nat → Nat) (k v : Nat) (hk : k = 2 ∨ k < 2) : cs (asg l 0 k v) 2 v = cs l 2 v := by
  unfold cs asg
  by_cases h2 : k = 2
  · rw [if_pos h2]
  · rw [if_neg h2, updN_ne (by omega), updN_ne (by omega)]
theorem R_behind {m : Nat} {b : Int32} {T U : TM} (hT : isT A m T) (hw : WFT T) (hm : m < 6) (hU : isTo A b U) (hu : WFT U) (c l v : Nat) (hc : c < 22500) (hB : b = NO → c / 625 % 6 = 0) (hl : l < 3) (hv : v < 8) : ∃ I' A', call (d + 3) 138 [.ref a, .int (nI m), .int b, .int (nI c), .int (nI (8 * l + v))] (mkR h a I A) = some (some (.int (nI (chd T U c l v))), mkR h a I' A') ∧ sameA A A' [25, 26] ∧ (∀ k, k ≠ 23 → k ≠ 24 → I' k = I k) := by
  have d1 : (8 * l + v) / 8 = l := by omega
  have d2 : nI (8 * l + v) - nI (l * 8) = nI v := by
    rw [pk_sub (by omega)]
    congr 1
    omega
  have hlb : ∀ j, lb c j < 100 := fun j => by have := lb_lt c j; omega
  have hkA := hw.2.2.2.2 (9 * (c / 625 / 6) + 3 * l + cs (lb c) 0 v)
  have hrA := hw.2.2.1
  have g1 := R_goesOn (d := d) (a := a) (h := h) (I := upd (upd I 24 (nI (c / 625 % 6))) 23 (nI (c / 625 / 6))) hT hw hm (A 25) (lb c) (c / 625 / 6) 0 l v (by omega) (Or.inl rfl) hl hv (fun j _ => hlb j)
  rcases hU with ⟨mb, hmb, rfl, hU⟩ | ⟨rfl, rfl⟩
  · have g2 := R_goesOn (d := d) (a := a) (h := h) (I := upd (upd (upd I 24 (nI (c / 625 % 6))) 23 (nI (c / 625 / 6))) 23 (nI (T.2.1 (9 * (c / 625 / 6) + 3 * l + cs (lb c) 0 v)))) hU hu hmb (A 25) (asg (lb c) 0 (T.2.2.1 (9 * (c / 625 / 6) + 3 * l + cs (lb c) 0 v)) v) (c / 625 % 6) 2 l v (by omega) (Or.inr rfl) hl hv (fun j _ => asg_lt hlb (by omega) j)
    rw [cs_asg _ _ _ (by omega)] at g2
    obtain ⟨g, g3⟩ := R_put (d := d + 1) (a := a) (h := h) (I := upd (upd (upd (upd I 24 (nI (c / 625 % 6))) 23 (nI (c / 625 / 6))) 23 (nI (T.2.1 (9 * (c / 625 / 6) + 3 * l + cs (lb c) 0 v)))) 24 (nI (U.2.1 (9 * (c / 625 % 6) + 3 * l + cs (lb c) 2 v)))) (A := updA A 25 (qL (A 25) (asg (asg (lb c) 0 (T.2.2.1 (9 * (c / 625 / 6) + 3 * l + cs (lb c) 0 v)) v) 2 (U.2.2.1 (9 * (c / 625 % 6) + 3 * l + cs (lb c) 2 v)) v))) (asg (asg (lb c) 0 (T.2.2.1 (9 * (c / 625 / 6) + 3 * l + cs (lb c) 0 v)) v) 2 (U.2.2.1 (9 * (c / 625 % 6) + 3 * l + cs (lb c) 2 v)) v) (T.2.1 (9 * (c / 625 / 6) + 3 * l + cs (lb c) 0 v)) (U.2.1 (9 * (c / 625 % 6) + 3 * l + cs (lb c) 2 v)) (fun j hj => ⟨by rw [updA_at, qL_at hj], asg_lt (fun j => asg_lt hlb (by omega) j) (by omega) j⟩) rfl rfl
    apply Exists.intro
    apply Exists.intro
    refine ⟨?_, ?_, ?_⟩
    · rw [call_at mt_138 [some (.ref a), some (.int (nI m)), some (.int (nI mb)), some (.int (nI c)), some (.int (nI (8 * l + v)))] rfl rfl rfl, nd_138_0 (St_run (d + 2) mt_138)]
      simp (disch := omega) only [R_apart, nd_138_59 (St_run (d + 2) mt_138), ↓L_m4, ↓L_m1, L_0, L_1, L_2, L_3, L_4, L_5, L_6, L_8, L_9, L_15, L_20, L_30, L_40, L_54, L_60, L_120, L_1872, L_4320, L_22500, le_t, le_f, lt_t, lt_f, eq_t, eq_f, eq_NO, NO_eq, NO_neg, MO_neg, bI_0, nI_add, pk_mul, pk_ds, rem_, nI_MO, nI_0MO, ↓reduceIte, isZn0, isZn1, isZb, bind_some', rI_some, rV_some, rQ_some, rQ_null, updA_at, updA_ne, pk_us, pk_un, ne_eq, not_false_eq_true, Nat.reduceEqDiff, updA_updA, Nat.reduceSub, Nat.reduceAdd, Nat.reduceMul, Nat.reduceDiv, Nat.zero_add, Nat.add_zero, mkR_o, mkR_g0, mkR_p0, mkR_g1, mkR_l1, mkR_n1, mkR_s1, mkR_g2, mkR_l2, mkR_n2, mkR_s2, mkR_g3, mkR_p3, mkR_g4, mkR_l4, mkR_n4, mkR_s4, mkR_g5, mkR_l5, mkR_n5, mkR_s5, mkR_g6, mkR_l6, mkR_n6, mkR_s6, mkR_t6, mkR_f6, mkR_g7, mkR_l7, mkR_n7, mkR_s7, mkR_g8, mkR_l8, mkR_n8, mkR_s8, mkR_g9, mkR_l9, mkR_n9, mkR_s9, mkR_g10, mkR_l10, mkR_n10, mkR_s10, mkR_g11, mkR_l11, mkR_n11, mkR_s11, mkR_g12, mkR_p12, mkR_g13, mkR_l13, mkR_n13, mkR_s13, mkR_t13, mkR_f13, mkR_g14, mkR_l14, mkR_n14, mkR_s14, mkR_g15, mkR_l15, mkR_n15, mkR_s15, mkR_g16, mkR_p16, mkR_g17, mkR_l17, mkR_n17, mkR_s17, mkR_t17, mkR_f17, mkR_g18, mkR_l18, mkR_n18, mkR_s18, mkR_t18, mkR_f18, mkR_g19, mkR_l19, mkR_n19, mkR_s19, mkR_g20, mkR_l20, mkR_n20, mkR_s20, mkR_g21, mkR_l21, mkR_n21, mkR_s21, mkR_g22, mkR_p22, mkR_g23, mkR_p23, mkR_g24, mkR_p24, mkR_g25, mkR_l25, mkR_n25, mkR_s25, mkR_g26, mkR_l26, mkR_n26, mkR_s26, mkR_g27, mkR_l27, mkR_n27, mkR_s27, mkR_g28, mkR_p28, mkR_g29, mkR_p29, mkR_g30, mkR_l30, mkR_n30, mkR_s30, mkR_g31, mkR_p31, mkR_g32, mkR_l32, mkR_n32, mkR_s32, mkR_g33, mkR_l33, mkR_n33, mkR_s33, mkR_g34, mkR_l34, mkR_n34, mkR_s34, mkR_t34, mkR_f34, mkR_g35, mkR_l35, mkR_n35, mkR_s35, mkR_g36, mkR_l36, mkR_n36, mkR_s36, mkR_g37, mkR_l37, mkR_n37, mkR_s37, mkR_g38, mkR_l38, mkR_n38, mkR_s38, mkR_g39, mkR_l39, mkR_n39, mkR_s39, mkR_g40, mkR_l40, mkR_n40, mkR_s40, mkR_g41, mkR_l41, mkR_n41, mkR_s41, d1, d2, g1, g2, g3]
      rfl
    · intro k hk
      rw [updA_ne (fun e => hk (by simp [e])), updA_ne (fun e => hk (by simp [e]))]
    · intro k h3 h4
      rw [pk_un h4, pk_un h3, pk_un h3, pk_un h4]
  · have hB := hB rfl
    obtain ⟨g, g3⟩ := R_put (d := d + 1) (a := a) (h := h) (I := upd (upd (upd I 24 (nI (c / 625 % 6))) 23 (nI (c / 625 / 6))) 23 (nI (T.2.1 (9 * (c / 625 / 6) + 3 * l + cs (lb c) 0 v)))) (A := updA A 25 (qL (A 25) (asg (lb c) 0 (T.2.2.1 (9 * (c / 625 / 6) + 3 * l + cs (lb c) 0 v)) v))) (asg (lb c) 0 (T.2.2.1 (9 * (c / 625 / 6) + 3 * l + cs (lb c) 0 v)) v) (T.2.1 (9 * (c / 625 / 6) + 3 * l + cs (lb c) 0 v)) 0 (fun j hj => ⟨by rw [updA_at, qL_at hj], asg_lt hlb (by omega) j⟩) rfl (by rw [pk_un (by decide), pk_un (by decide), pk_us, hB])
    have hcs := cs_le (lb c) 2 v
    have e0 : chd T T0 c l v = 625 * (6 * T.2.1 (9 * (c / 625 / 6) + 3 * l + cs (lb c) 0 v) + 0) + nrm (asg (lb c) 0 (T.2.2.1 (9 * (c / 625 / 6) + 3 * l + cs (lb c) 0 v)) v) := by
      unfold chd nxP
      rw [hB]
      have : T0.2.1 (9 * 0 + 3 * l + cs (lb c) 2 v) = 0 := by
        show (9 * 0 + 3 * l + cs (lb c) 2 v) / 9 = 0
        omega
      rw [this]
      rfl
    apply Exists.intro
    apply Exists.intro
    refine ⟨?_, ?_, ?_⟩
    · rw [call_at mt_138 [some (.ref a), some (.int (nI m)), some (.int NO), some (.int (nI c)), some (.int (nI (8 * l + v)))] rfl rfl rfl, nd_138_0 (St_run (d + 2) mt_138), e0]
      simp (disch := omega) only [R_apart, nd_138_59 (St_run (d + 2) mt_138), ↓L_m4, ↓L_m1, L_0, L_1, L_2, L_3, L_4, L_5, L_6, L_8, L_9, L_15, L_20, L_30, L_40, L_54, L_60, L_120, L_1872, L_4320, L_22500, le_t, le_f, lt_t, lt_f, eq_t, eq_f, eq_NO, NO_eq, NO_neg, MO_neg, bI_0, nI_add, pk_mul, pk_ds, rem_, nI_MO, nI_0MO, ↓reduceIte, isZn0, isZn1, isZb, bind_some', rI_some, rV_some, rQ_some, rQ_null, updA_at, updA_ne, pk_us, pk_un, ne_eq, not_false_eq_true, Nat.reduceEqDiff, updA_updA, Nat.reduceSub, Nat.reduceAdd, Nat.reduceMul, Nat.reduceDiv, Nat.zero_add, Nat.add_zero, mkR_o, mkR_g0, mkR_p0, mkR_g1, mkR_l1, mkR_n1, mkR_s1, mkR_g2, mkR_l2, mkR_n2, mkR_s2, mkR_g3, mkR_p3, mkR_g4, mkR_l4, mkR_n4, mkR_s4, mkR_g5, mkR_l5, mkR_n5, mkR_s5, mkR_g6, mkR_l6, mkR_n6, mkR_s6, mkR_t6, mkR_f6, mkR_g7, mkR_l7, mkR_n7, mkR_s7, mkR_g8, mkR_l8, mkR_n8, mkR_s8, mkR_g9, mkR_l9, mkR_n9, mkR_s9, mkR_g10, mkR_l10, mkR_n10, mkR_s10, mkR_g11, mkR_l11, mkR_n11, mkR_s11, mkR_g12, mkR_p12, mkR_g13, mkR_l13, mkR_n13, mkR_s13, mkR_t13, mkR_f13, mkR_g14, mkR_l14, mkR_n14, mkR_s14, mkR_g15, mkR_l15, mkR_n15, mkR_s15, mkR_g16, mkR_p16, mkR_g17, mkR_l17, mkR_n17, mkR_s17, mkR_t17, mkR_f17, mkR_g18, mkR_l18, mkR_n18, mkR_s18, mkR_t18, mkR_f18, mkR_g19, mkR_l19, mkR_n19, mkR_s19, mkR_g20, mkR_l20, mkR_n20, mkR_s20, mkR_g21, mkR_l21, mkR_n21, mkR_s21, mkR_g22, mkR_p22, mkR_g23, mkR_p23, mkR_g24, mkR_p24, mkR_g25, mkR_l25, mkR_n25, mkR_s25, mkR_g26, mkR_l26, mkR_n26, mkR_s26, mkR_g27, mkR_l27, mkR_n27, mkR_s27, mkR_g28, mkR_p28, mkR_g29, mkR_p29, mkR_g30, mkR_l30, mkR_n30, mkR_s30, mkR_g31, mkR_p31, mkR_g32, mkR_l32, mkR_n32, mkR_s32, mkR_g33, mkR_l33, mkR_n33, mkR_s33, mkR_g34, mkR_l34, mkR_n34, mkR_s34, mkR_t34, mkR_f34, mkR_g35, mkR_l35, mkR_n35, mkR_s35, mkR_g36, mkR_l36, mkR_n36, mkR_s36, mkR_g37, mkR_l37, mkR_n37, mkR_s37, mkR_g38, mkR_l38, mkR_n38, mkR_s38, mkR_g39, mkR_l39, mkR_n39, mkR_s39, mkR_g40, mkR_l40, mkR_n40, mkR_s40, mkR_g41, mkR_l41, mkR_n41, mkR_s41, d1, d2, g1, g3, if_true]
      rfl
    · intro k hk
      rw [updA_ne (fun e => hk (by simp [e])), updA_ne (fun e => hk (by simp [e]))]
    · intro k h3 h4
      rw [pk_un h3, pk_un h3, pk_un h4]
end BH
