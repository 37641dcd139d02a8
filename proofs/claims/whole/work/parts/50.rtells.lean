/-! ===== the reference: lines, tells, lengthOf, atOf ===== -/
section RT
variable {d a : Nat} {h : AH}
theorem l_lines1 {I : Nat → Int32} {A : Nat → Nat → Int32} {T U : TM} (hT : WFT T) (hU : WFT U) {B : BS} (g : GB T U B) (r : RB I A B) (e : Nat) (he : e < B.1) : ∀ (k x : Nat), x + k = wn B e → run d mt_144 4 [some (.ref a), some (.int (nI e)), some (.int (nI x)), some (.int (nI (wX B e k))), none] [] (mkR h a I A) = run d mt_144 33 [some (.ref a), none, some (.int (nI (wn B e))), some (.int (nI (wn B e))), some (.int (nI e))] [] (mkR h a I A) := by
  have hn := GB_most hT hU g
  obtain ⟨x0, xn, xl, xk⟩ := wX_ok g he
  have r20 := r.2.2.1
  intro k
  induction k with
  | zero =>
    intro x hx
    have : x = wn B e := by omega
    subst this
    rw [nd_144_4 (St_run d mt_144), x0]
    simp (disch := omega) only [↓L_m4, ↓L_m1, L_0, L_1, L_2, L_3, L_4, L_5, L_6, L_8, L_9, L_15, L_20, L_30, L_40, L_54, L_60, L_120, L_1872, L_4320, L_22500, le_t, le_f, lt_t, lt_f, eq_t, eq_f, eq_NO, NO_eq, NO_neg, MO_neg, bI_0, nI_add, pk_mul, pk_ds, rem_, nI_MO, nI_0MO, ↓reduceIte, eq_self, reduceCtorEq, Bool.true_eq_false, Bool.false_eq_true, isZn0, isZn1, isZb, bind_some', rI_some, rV_some, rQ_some, rQ_null, updA_at, updA_ne, pk_us, pk_un, ne_eq, not_false_eq_true, Nat.reduceEqDiff, updA_updA, Nat.reduceSub, Nat.reduceAdd, Nat.reduceMul, Nat.reduceDiv, Nat.zero_add, Nat.add_zero, mkR_o, mkR_g0, mkR_p0, mkR_g1, mkR_l1, mkR_n1, mkR_s1, mkR_g2, mkR_l2, mkR_n2, mkR_s2, mkR_g3, mkR_p3, mkR_g4, mkR_l4, mkR_n4, mkR_s4, mkR_g5, mkR_l5, mkR_n5, mkR_s5, mkR_g6, mkR_l6, mkR_n6, mkR_s6, mkR_t6, mkR_f6, mkR_g7, mkR_l7, mkR_n7, mkR_s7, mkR_g8, mkR_l8, mkR_n8, mkR_s8, mkR_g9, mkR_l9, mkR_n9, mkR_s9, mkR_g10, mkR_l10, mkR_n10, mkR_s10, mkR_g11, mkR_l11, mkR_n11, mkR_s11, mkR_g12, mkR_p12, mkR_g13, mkR_l13, mkR_n13, mkR_s13, mkR_t13, mkR_f13, mkR_g14, mkR_l14, mkR_n14, mkR_s14, mkR_g15, mkR_l15, mkR_n15, mkR_s15, mkR_g16, mkR_p16, mkR_g17, mkR_l17, mkR_n17, mkR_s17, mkR_t17, mkR_f17, mkR_g18, mkR_l18, mkR_n18, mkR_s18, mkR_t18, mkR_f18, mkR_g19, mkR_l19, mkR_n19, mkR_s19, mkR_g20, mkR_l20, mkR_n20, mkR_s20, mkR_g21, mkR_l21, mkR_n21, mkR_s21, mkR_g22, mkR_p22, mkR_g23, mkR_p23, mkR_g24, mkR_p24, mkR_g25, mkR_l25, mkR_n25, mkR_s25, mkR_g26, mkR_l26, mkR_n26, mkR_s26, mkR_g27, mkR_l27, mkR_n27, mkR_s27, mkR_g28, mkR_p28, mkR_g29, mkR_p29, mkR_g30, mkR_l30, mkR_n30, mkR_s30, mkR_g31, mkR_p31, mkR_g32, mkR_l32, mkR_n32, mkR_s32, mkR_g33, mkR_l33, mkR_n33, mkR_s33, mkR_g34, mkR_l34, mkR_n34, mkR_s34, mkR_t34, mkR_f34, mkR_g35, mkR_l35, mkR_n35, mkR_s35, mkR_g36, mkR_l36, mkR_n36, mkR_s36, mkR_g37, mkR_l37, mkR_n37, mkR_s37, mkR_g38, mkR_l38, mkR_n38, mkR_s38, mkR_g39, mkR_l39, mkR_n39, mkR_s39, mkR_g40, mkR_l40, mkR_n40, mkR_s40, mkR_g41, mkR_l41, mkR_n41, mkR_s41, r20]
  | succ k ih =>
    intro x hx
    obtain ⟨k1, k2, k3⟩ := xk k (by omega)
    have r2 := (r.2.2.2.1 _ k1 k2).1
    rw [k3] at r2
    have hlt : wX B e k < wX B e (k + 1) := by rw [← k3]; exact (g.2.2.2.2 _ k1 k2).1
    rw [nd_144_4 (St_run d mt_144)]
    simp (disch := omega) only [↓L_m4, ↓L_m1, L_0, L_1, L_2, L_3, L_4, L_5, L_6, L_8, L_9, L_15, L_20, L_30, L_40, L_54, L_60, L_120, L_1872, L_4320, L_22500, le_t, le_f, lt_t, lt_f, eq_t, eq_f, eq_NO, NO_eq, NO_neg, MO_neg, bI_0, nI_add, pk_mul, pk_ds, rem_, nI_MO, nI_0MO, ↓reduceIte, eq_self, reduceCtorEq, Bool.true_eq_false, Bool.false_eq_true, isZn0, isZn1, isZb, bind_some', rI_some, rV_some, rQ_some, rQ_null, updA_at, updA_ne, pk_us, pk_un, ne_eq, not_false_eq_true, Nat.reduceEqDiff, updA_updA, Nat.reduceSub, Nat.reduceAdd, Nat.reduceMul, Nat.reduceDiv, Nat.zero_add, Nat.add_zero, mkR_o, mkR_g0, mkR_p0, mkR_g1, mkR_l1, mkR_n1, mkR_s1, mkR_g2, mkR_l2, mkR_n2, mkR_s2, mkR_g3, mkR_p3, mkR_g4, mkR_l4, mkR_n4, mkR_s4, mkR_g5, mkR_l5, mkR_n5, mkR_s5, mkR_g6, mkR_l6, mkR_n6, mkR_s6, mkR_t6, mkR_f6, mkR_g7, mkR_l7, mkR_n7, mkR_s7, mkR_g8, mkR_l8, mkR_n8, mkR_s8, mkR_g9, mkR_l9, mkR_n9, mkR_s9, mkR_g10, mkR_l10, mkR_n10, mkR_s10, mkR_g11, mkR_l11, mkR_n11, mkR_s11, mkR_g12, mkR_p12, mkR_g13, mkR_l13, mkR_n13, mkR_s13, mkR_t13, mkR_f13, mkR_g14, mkR_l14, mkR_n14, mkR_s14, mkR_g15, mkR_l15, mkR_n15, mkR_s15, mkR_g16, mkR_p16, mkR_g17, mkR_l17, mkR_n17, mkR_s17, mkR_t17, mkR_f17, mkR_g18, mkR_l18, mkR_n18, mkR_s18, mkR_t18, mkR_f18, mkR_g19, mkR_l19, mkR_n19, mkR_s19, mkR_g20, mkR_l20, mkR_n20, mkR_s20, mkR_g21, mkR_l21, mkR_n21, mkR_s21, mkR_g22, mkR_p22, mkR_g23, mkR_p23, mkR_g24, mkR_p24, mkR_g25, mkR_l25, mkR_n25, mkR_s25, mkR_g26, mkR_l26, mkR_n26, mkR_s26, mkR_g27, mkR_l27, mkR_n27, mkR_s27, mkR_g28, mkR_p28, mkR_g29, mkR_p29, mkR_g30, mkR_l30, mkR_n30, mkR_s30, mkR_g31, mkR_p31, mkR_g32, mkR_l32, mkR_n32, mkR_s32, mkR_g33, mkR_l33, mkR_n33, mkR_s33, mkR_g34, mkR_l34, mkR_n34, mkR_s34, mkR_t34, mkR_f34, mkR_g35, mkR_l35, mkR_n35, mkR_s35, mkR_g36, mkR_l36, mkR_n36, mkR_s36, mkR_g37, mkR_l37, mkR_n37, mkR_s37, mkR_g38, mkR_l38, mkR_n38, mkR_s38, mkR_g39, mkR_l39, mkR_n39, mkR_s39, mkR_g40, mkR_l40, mkR_n40, mkR_s40, mkR_g41, mkR_l41, mkR_n41, mkR_s41, r2]
    exact ih (x + 1) (by omega)
theorem l_lines2 {I : Nat → Int32} {T U : TM} (hT : WFT T) (hU : WFT U) {B : BS} (g : GB T U B) (e : Nat) (he : e < B.1) (x2 : Int32) : ∀ (k : Nat) (A : Nat → Nat → Int32), RB I A B → k ≤ wn B e → ∃ A', run d mt_144 33 [some (.ref a), none, some (.int x2), some (.int (nI k)), some (.int (nI (wX B e k)))] [] (mkR h a I A) = some (some (.int x2), mkR h a I A') ∧ (∀ j, j < k → A' 27 j = nI (wX B e (j + 1))) ∧ (∀ j, k ≤ j → A' 27 j = A 27 j) ∧ fra I I A A' [] [27] := by
  have hn := GB_most hT hU g
  obtain ⟨x0, xn, xl, xk⟩ := wX_ok g he
  intro k
  induction k with
  | zero =>
    intro A r hk
    have r20 := r.2.2.1
    refine ⟨A, ?_, fun j hj => by omega, fun _ _ => rfl, fra.rf _ _ _ _⟩
    rw [nd_144_33 (St_run d mt_144), x0]
    simp (disch := omega) only [↓L_m4, ↓L_m1, L_0, L_1, L_2, L_3, L_4, L_5, L_6, L_8, L_9, L_15, L_20, L_30, L_40, L_54, L_60, L_120, L_1872, L_4320, L_22500, le_t, le_f, lt_t, lt_f, eq_t, eq_f, eq_NO, NO_eq, NO_neg, MO_neg, bI_0, nI_add, pk_mul, pk_ds, rem_, nI_MO, nI_0MO, ↓reduceIte, eq_self, reduceCtorEq, Bool.true_eq_false, Bool.false_eq_true, isZn0, isZn1, isZb, bind_some', rI_some, rV_some, rQ_some, rQ_null, updA_at, updA_ne, pk_us, pk_un, ne_eq, not_false_eq_true, Nat.reduceEqDiff, updA_updA, Nat.reduceSub, Nat.reduceAdd, Nat.reduceMul, Nat.reduceDiv, Nat.zero_add, Nat.add_zero, mkR_o, mkR_g0, mkR_p0, mkR_g1, mkR_l1, mkR_n1, mkR_s1, mkR_g2, mkR_l2, mkR_n2, mkR_s2, mkR_g3, mkR_p3, mkR_g4, mkR_l4, mkR_n4, mkR_s4, mkR_g5, mkR_l5, mkR_n5, mkR_s5, mkR_g6, mkR_l6, mkR_n6, mkR_s6, mkR_t6, mkR_f6, mkR_g7, mkR_l7, mkR_n7, mkR_s7, mkR_g8, mkR_l8, mkR_n8, mkR_s8, mkR_g9, mkR_l9, mkR_n9, mkR_s9, mkR_g10, mkR_l10, mkR_n10, mkR_s10, mkR_g11, mkR_l11, mkR_n11, mkR_s11, mkR_g12, mkR_p12, mkR_g13, mkR_l13, mkR_n13, mkR_s13, mkR_t13, mkR_f13, mkR_g14, mkR_l14, mkR_n14, mkR_s14, mkR_g15, mkR_l15, mkR_n15, mkR_s15, mkR_g16, mkR_p16, mkR_g17, mkR_l17, mkR_n17, mkR_s17, mkR_t17, mkR_f17, mkR_g18, mkR_l18, mkR_n18, mkR_s18, mkR_t18, mkR_f18, mkR_g19, mkR_l19, mkR_n19, mkR_s19, mkR_g20, mkR_l20, mkR_n20, mkR_s20, mkR_g21, mkR_l21, mkR_n21, mkR_s21, mkR_g22, mkR_p22, mkR_g23, mkR_p23, mkR_g24, mkR_p24, mkR_g25, mkR_l25, mkR_n25, mkR_s25, mkR_g26, mkR_l26, mkR_n26, mkR_s26, mkR_g27, mkR_l27, mkR_n27, mkR_s27, mkR_g28, mkR_p28, mkR_g29, mkR_p29, mkR_g30, mkR_l30, mkR_n30, mkR_s30, mkR_g31, mkR_p31, mkR_g32, mkR_l32, mkR_n32, mkR_s32, mkR_g33, mkR_l33, mkR_n33, mkR_s33, mkR_g34, mkR_l34, mkR_n34, mkR_s34, mkR_t34, mkR_f34, mkR_g35, mkR_l35, mkR_n35, mkR_s35, mkR_g36, mkR_l36, mkR_n36, mkR_s36, mkR_g37, mkR_l37, mkR_n37, mkR_s37, mkR_g38, mkR_l38, mkR_n38, mkR_s38, mkR_g39, mkR_l39, mkR_n39, mkR_s39, mkR_g40, mkR_l40, mkR_n40, mkR_s40, mkR_g41, mkR_l41, mkR_n41, mkR_s41, r20]
  | succ k ih =>
    intro A r hk
    obtain ⟨k1, k2, k3⟩ := xk k (by omega)
    have r2 := (r.2.2.2.1 _ k1 k2).1
    rw [k3] at r2
    have hlt : wX B e k < wX B e (k + 1) := by rw [← k3]; exact (g.2.2.2.2 _ k1 k2).1
    have p1 : fra I I A (updA A 27 (upd (A 27) k (nI (wX B e (k + 1))))) [] [27] := (fra.rf _ _ _ _).w _ (by decide)
    obtain ⟨A', e1, e2, e3, e4⟩ := ih _ (r.fa p1 (by decide) (by decide)) (by omega)
    refine ⟨A', ?_, fun j hj => ?_, fun j hj => ?_, p1.tr e4⟩
    · rw [nd_144_33 (St_run d mt_144)]
      simp (disch := omega) only [↓L_m4, ↓L_m1, L_0, L_1, L_2, L_3, L_4, L_5, L_6, L_8, L_9, L_15, L_20, L_30, L_40, L_54, L_60, L_120, L_1872, L_4320, L_22500, le_t, le_f, lt_t, lt_f, eq_t, eq_f, eq_NO, NO_eq, NO_neg, MO_neg, bI_0, nI_add, pk_mul, pk_ds, rem_, nI_MO, nI_0MO, ↓reduceIte, eq_self, reduceCtorEq, Bool.true_eq_false, Bool.false_eq_true, isZn0, isZn1, isZb, bind_some', rI_some, rV_some, rQ_some, rQ_null, updA_at, updA_ne, pk_us, pk_un, ne_eq, not_false_eq_true, Nat.reduceEqDiff, updA_updA, Nat.reduceSub, Nat.reduceAdd, Nat.reduceMul, Nat.reduceDiv, Nat.zero_add, Nat.add_zero, mkR_o, mkR_g0, mkR_p0, mkR_g1, mkR_l1, mkR_n1, mkR_s1, mkR_g2, mkR_l2, mkR_n2, mkR_s2, mkR_g3, mkR_p3, mkR_g4, mkR_l4, mkR_n4, mkR_s4, mkR_g5, mkR_l5, mkR_n5, mkR_s5, mkR_g6, mkR_l6, mkR_n6, mkR_s6, mkR_t6, mkR_f6, mkR_g7, mkR_l7, mkR_n7, mkR_s7, mkR_g8, mkR_l8, mkR_n8, mkR_s8, mkR_g9, mkR_l9, mkR_n9, mkR_s9, mkR_g10, mkR_l10, mkR_n10, mkR_s10, mkR_g11, mkR_l11, mkR_n11, mkR_s11, mkR_g12, mkR_p12, mkR_g13, mkR_l13, mkR_n13, mkR_s13, mkR_t13, mkR_f13, mkR_g14, mkR_l14, mkR_n14, mkR_s14, mkR_g15, mkR_l15, mkR_n15, mkR_s15, mkR_g16, mkR_p16, mkR_g17, mkR_l17, mkR_n17, mkR_s17, mkR_t17, mkR_f17, mkR_g18, mkR_l18, mkR_n18, mkR_s18, mkR_t18, mkR_f18, mkR_g19, mkR_l19, mkR_n19, mkR_s19, mkR_g20, mkR_l20, mkR_n20, mkR_s20, mkR_g21, mkR_l21, mkR_n21, mkR_s21, mkR_g22, mkR_p22, mkR_g23, mkR_p23, mkR_g24, mkR_p24, mkR_g25, mkR_l25, mkR_n25, mkR_s25, mkR_g26, mkR_l26, mkR_n26, mkR_s26, mkR_g27, mkR_l27, mkR_n27, mkR_s27, mkR_g28, mkR_p28, mkR_g29, mkR_p29, mkR_g30, mkR_l30, mkR_n30, mkR_s30, mkR_g31, mkR_p31, mkR_g32, mkR_l32, mkR_n32, mkR_s32, mkR_g33, mkR_l33, mkR_n33, mkR_s33, mkR_g34, mkR_l34, mkR_n34, mkR_s34, mkR_t34, mkR_f34, mkR_g35, mkR_l35, mkR_n35, mkR_s35, mkR_g36, mkR_l36, mkR_n36, mkR_s36, mkR_g37, mkR_l37, mkR_n37, mkR_s37, mkR_g38, mkR_l38, mkR_n38, mkR_s38, mkR_g39, mkR_l39, mkR_n39, mkR_s39, mkR_g40, mkR_l40, mkR_n40, mkR_s40, mkR_g41, mkR_l41, mkR_n41, mkR_s41, r2, Nat.add_sub_cancel]
      exact e1
    · by_cases hjk : j < k
      · exact e2 j hjk
      · have : j = k := by omega
        subst this
        rw [e3 j (Nat.le_refl _), updA_at, pk_us]
    · rw [e3 j (by omega), updA_at, pk_un (by omega)]
theorem R_lines {I : Nat → Int32} {A : Nat → Nat → Int32} {T U : TM} (hT : WFT T) (hU : WFT U) {B : BS} (g : GB T U B) (r : RB I A B) (e : Nat) (he : e < B.1) : ∃ A', call (d + 1) 144 [.ref a, .int (nI e)] (mkR h a I A) = some (some (.int (nI (wn B e))), mkR h a I A') ∧ (∀ j, j < wn B e → A' 27 j = nI (wX B e (j + 1))) ∧ fra I I A A' [] [27] := by
  obtain ⟨x0, xn, xl, xk⟩ := wX_ok g he
  have l1 := l_lines1 (d := d) (a := a) (h := h) hT hU g r e he (wn B e) 0 (by omega)
  obtain ⟨A', e1, e2, e3, e4⟩ := l_lines2 (d := d) (a := a) (h := h) hT hU g e he (nI (wn B e)) (wn B e) A r (Nat.le_refl _)
  rw [xn] at l1 e1
  refine ⟨A', ?_, e2, e4⟩
  rw [call_at mt_144 [some (.ref a), some (.int (nI e)), none, none, none] rfl rfl rfl, nd_144_0 (St_run d mt_144)]
  exact l1.trans e1
theorem R_keepsReal {m : Nat} {T : TM} {I : Nat → Int32} {A : Nat → Nat → Int32} (hT : isT A m T) (hw : WFT T) (hm : m < 6) (lv : Nat → Nat) (s b l v y : Nat) (hs : s < 6) (hb : b = 0 ∨ b = 2) (hl : l < 3) (hv : v < 8) (hlv : ∀ j, j < 4 → A 25 j = nI (lv j) ∧ lv j < 100) (h28 : I 28 = nI l) (h29 : I 29 = nI y) : call (d + 2) 146 [.ref a, .int (nI m), .int (nI s), .int (nI b), .int (nI v)] (mkR h a I A) = some (none, mkR h a I (updA A 30 (asgI (A 30) b (T.2.2.1 (9 * s + 3 * l + cs lv b v)) (nI y)))) := by
  unfold asgI
  obtain ⟨q0, z0⟩ := hlv b (by omega)
  obtain ⟨q1, z1⟩ := hlv (b + 1) (by omega)
  have hc := cs_le lv b v
  have fin : ∀ w, w ≤ 2 → run (d + 1) mt_146 33 [some (.ref a), some (.int (nI m)), some (.int (nI s)), some (.int (nI b)), none, none, none] [.int (nI w)] (mkR h a I A) = some (none, mkR h a I (updA A 30 (if T.2.2.1 (9 * s + 3 * l + w) = 2 then A 30 else upd (A 30) (b + T.2.2.1 (9 * s + 3 * l + w)) (nI y)))) := by
    intro w hw2
    have e8 := hT.k (i := 54 * m + 9 * s + 3 * l + w) (j := 9 * s + 3 * l + w) (by omega) (by omega)
    have hk := hw.2.2.2.2 (9 * s + 3 * l + w)
    have hrg := hw.2.2.1
    rw [nd_146_33 (St_run (d + 1) mt_146)]
    by_cases h2 : T.2.2.1 (9 * s + 3 * l + w) = 2
    · rw [h2, kI_2] at e8
      rw [if_pos h2, updA_id]
      simp (disch := omega) only [r_stepAt, nd_146_73 (St_run (d + 1) mt_146), ↓L_m4, ↓L_m1, L_0, L_1, L_2, L_3, L_4, L_5, L_6, L_8, L_9, L_15, L_20, L_30, L_40, L_54, L_60, L_120, L_1872, L_4320, L_22500, le_t, le_f, lt_t, lt_f, eq_t, eq_f, eq_NO, NO_eq, NO_neg, MO_neg, bI_0, nI_add, pk_mul, pk_ds, rem_, nI_MO, nI_0MO, ↓reduceIte, eq_self, reduceCtorEq, Bool.true_eq_false, Bool.false_eq_true, isZn0, isZn1, isZb, bind_some', rI_some, rV_some, rQ_some, rQ_null, updA_at, updA_ne, pk_us, pk_un, ne_eq, not_false_eq_true, Nat.reduceEqDiff, updA_updA, Nat.reduceSub, Nat.reduceAdd, Nat.reduceMul, Nat.reduceDiv, Nat.zero_add, Nat.add_zero, mkR_o, mkR_g0, mkR_p0, mkR_g1, mkR_l1, mkR_n1, mkR_s1, mkR_g2, mkR_l2, mkR_n2, mkR_s2, mkR_g3, mkR_p3, mkR_g4, mkR_l4, mkR_n4, mkR_s4, mkR_g5, mkR_l5, mkR_n5, mkR_s5, mkR_g6, mkR_l6, mkR_n6, mkR_s6, mkR_t6, mkR_f6, mkR_g7, mkR_l7, mkR_n7, mkR_s7, mkR_g8, mkR_l8, mkR_n8, mkR_s8, mkR_g9, mkR_l9, mkR_n9, mkR_s9, mkR_g10, mkR_l10, mkR_n10, mkR_s10, mkR_g11, mkR_l11, mkR_n11, mkR_s11, mkR_g12, mkR_p12, mkR_g13, mkR_l13, mkR_n13, mkR_s13, mkR_t13, mkR_f13, mkR_g14, mkR_l14, mkR_n14, mkR_s14, mkR_g15, mkR_l15, mkR_n15, mkR_s15, mkR_g16, mkR_p16, mkR_g17, mkR_l17, mkR_n17, mkR_s17, mkR_t17, mkR_f17, mkR_g18, mkR_l18, mkR_n18, mkR_s18, mkR_t18, mkR_f18, mkR_g19, mkR_l19, mkR_n19, mkR_s19, mkR_g20, mkR_l20, mkR_n20, mkR_s20, mkR_g21, mkR_l21, mkR_n21, mkR_s21, mkR_g22, mkR_p22, mkR_g23, mkR_p23, mkR_g24, mkR_p24, mkR_g25, mkR_l25, mkR_n25, mkR_s25, mkR_g26, mkR_l26, mkR_n26, mkR_s26, mkR_g27, mkR_l27, mkR_n27, mkR_s27, mkR_g28, mkR_p28, mkR_g29, mkR_p29, mkR_g30, mkR_l30, mkR_n30, mkR_s30, mkR_g31, mkR_p31, mkR_g32, mkR_l32, mkR_n32, mkR_s32, mkR_g33, mkR_l33, mkR_n33, mkR_s33, mkR_g34, mkR_l34, mkR_n34, mkR_s34, mkR_t34, mkR_f34, mkR_g35, mkR_l35, mkR_n35, mkR_s35, mkR_g36, mkR_l36, mkR_n36, mkR_s36, mkR_g37, mkR_l37, mkR_n37, mkR_s37, mkR_g38, mkR_l38, mkR_n38, mkR_s38, mkR_g39, mkR_l39, mkR_n39, mkR_s39, mkR_g40, mkR_l40, mkR_n40, mkR_s40, mkR_g41, mkR_l41, mkR_n41, mkR_s41, e8, h28]
    · rw [kI_n h2] at e8
      rw [if_neg h2]
      have hk2 : T.2.2.1 (9 * s + 3 * l + w) < 2 := by omega
      simp (disch := omega) only [r_stepAt, nd_146_73 (St_run (d + 1) mt_146), ↓L_m4, ↓L_m1, L_0, L_1, L_2, L_3, L_4, L_5, L_6, L_8, L_9, L_15, L_20, L_30, L_40, L_54, L_60, L_120, L_1872, L_4320, L_22500, le_t, le_f, lt_t, lt_f, eq_t, eq_f, eq_NO, NO_eq, NO_neg, MO_neg, bI_0, nI_add, pk_mul, pk_ds, rem_, nI_MO, nI_0MO, ↓reduceIte, eq_self, reduceCtorEq, Bool.true_eq_false, Bool.false_eq_true, isZn0, isZn1, isZb, bind_some', rI_some, rV_some, rQ_some, rQ_null, updA_at, updA_ne, pk_us, pk_un, ne_eq, not_false_eq_true, Nat.reduceEqDiff, updA_updA, Nat.reduceSub, Nat.reduceAdd, Nat.reduceMul, Nat.reduceDiv, Nat.zero_add, Nat.add_zero, mkR_o, mkR_g0, mkR_p0, mkR_g1, mkR_l1, mkR_n1, mkR_s1, mkR_g2, mkR_l2, mkR_n2, mkR_s2, mkR_g3, mkR_p3, mkR_g4, mkR_l4, mkR_n4, mkR_s4, mkR_g5, mkR_l5, mkR_n5, mkR_s5, mkR_g6, mkR_l6, mkR_n6, mkR_s6, mkR_t6, mkR_f6, mkR_g7, mkR_l7, mkR_n7, mkR_s7, mkR_g8, mkR_l8, mkR_n8, mkR_s8, mkR_g9, mkR_l9, mkR_n9, mkR_s9, mkR_g10, mkR_l10, mkR_n10, mkR_s10, mkR_g11, mkR_l11, mkR_n11, mkR_s11, mkR_g12, mkR_p12, mkR_g13, mkR_l13, mkR_n13, mkR_s13, mkR_t13, mkR_f13, mkR_g14, mkR_l14, mkR_n14, mkR_s14, mkR_g15, mkR_l15, mkR_n15, mkR_s15, mkR_g16, mkR_p16, mkR_g17, mkR_l17, mkR_n17, mkR_s17, mkR_t17, mkR_f17, mkR_g18, mkR_l18, mkR_n18, mkR_s18, mkR_t18, mkR_f18, mkR_g19, mkR_l19, mkR_n19, mkR_s19, mkR_g20, mkR_l20, mkR_n20, mkR_s20, mkR_g21, mkR_l21, mkR_n21, mkR_s21, mkR_g22, mkR_p22, mkR_g23, mkR_p23, mkR_g24, mkR_p24, mkR_g25, mkR_l25, mkR_n25, mkR_s25, mkR_g26, mkR_l26, mkR_n26, mkR_s26, mkR_g27, mkR_l27, mkR_n27, mkR_s27, mkR_g28, mkR_p28, mkR_g29, mkR_p29, mkR_g30, mkR_l30, mkR_n30, mkR_s30, mkR_g31, mkR_p31, mkR_g32, mkR_l32, mkR_n32, mkR_s32, mkR_g33, mkR_l33, mkR_n33, mkR_s33, mkR_g34, mkR_l34, mkR_n34, mkR_s34, mkR_t34, mkR_f34, mkR_g35, mkR_l35, mkR_n35, mkR_s35, mkR_g36, mkR_l36, mkR_n36, mkR_s36, mkR_g37, mkR_l37, mkR_n37, mkR_s37, mkR_g38, mkR_l38, mkR_n38, mkR_s38, mkR_g39, mkR_l39, mkR_n39, mkR_s39, mkR_g40, mkR_l40, mkR_n40, mkR_s40, mkR_g41, mkR_l41, mkR_n41, mkR_s41, e8, h28, h29]
  rw [call_at mt_146 [some (.ref a), some (.int (nI m)), some (.int (nI s)), some (.int (nI b)), some (.int (nI v)), none, none] rfl rfl rfl, nd_146_0 (St_run (d + 1) mt_146)]
  have ecs : cs lv b v = if lv b = v then 0 else if lv (b + 1) = v then 1 else 2 := rfl
  by_cases h0 : lv b = v
  · rw [ecs, if_pos h0]
    simp (disch := omega) only [↓L_m4, ↓L_m1, L_0, L_1, L_2, L_3, L_4, L_5, L_6, L_8, L_9, L_15, L_20, L_30, L_40, L_54, L_60, L_120, L_1872, L_4320, L_22500, le_t, le_f, lt_t, lt_f, eq_t, eq_f, eq_NO, NO_eq, NO_neg, MO_neg, bI_0, nI_add, pk_mul, pk_ds, rem_, nI_MO, nI_0MO, ↓reduceIte, eq_self, reduceCtorEq, Bool.true_eq_false, Bool.false_eq_true, isZn0, isZn1, isZb, bind_some', rI_some, rV_some, rQ_some, rQ_null, updA_at, updA_ne, pk_us, pk_un, ne_eq, not_false_eq_true, Nat.reduceEqDiff, updA_updA, Nat.reduceSub, Nat.reduceAdd, Nat.reduceMul, Nat.reduceDiv, Nat.zero_add, Nat.add_zero, mkR_o, mkR_g0, mkR_p0, mkR_g1, mkR_l1, mkR_n1, mkR_s1, mkR_g2, mkR_l2, mkR_n2, mkR_s2, mkR_g3, mkR_p3, mkR_g4, mkR_l4, mkR_n4, mkR_s4, mkR_g5, mkR_l5, mkR_n5, mkR_s5, mkR_g6, mkR_l6, mkR_n6, mkR_s6, mkR_t6, mkR_f6, mkR_g7, mkR_l7, mkR_n7, mkR_s7, mkR_g8, mkR_l8, mkR_n8, mkR_s8, mkR_g9, mkR_l9, mkR_n9, mkR_s9, mkR_g10, mkR_l10, mkR_n10, mkR_s10, mkR_g11, mkR_l11, mkR_n11, mkR_s11, mkR_g12, mkR_p12, mkR_g13, mkR_l13, mkR_n13, mkR_s13, mkR_t13, mkR_f13, mkR_g14, mkR_l14, mkR_n14, mkR_s14, mkR_g15, mkR_l15, mkR_n15, mkR_s15, mkR_g16, mkR_p16, mkR_g17, mkR_l17, mkR_n17, mkR_s17, mkR_t17, mkR_f17, mkR_g18, mkR_l18, mkR_n18, mkR_s18, mkR_t18, mkR_f18, mkR_g19, mkR_l19, mkR_n19, mkR_s19, mkR_g20, mkR_l20, mkR_n20, mkR_s20, mkR_g21, mkR_l21, mkR_n21, mkR_s21, mkR_g22, mkR_p22, mkR_g23, mkR_p23, mkR_g24, mkR_p24, mkR_g25, mkR_l25, mkR_n25, mkR_s25, mkR_g26, mkR_l26, mkR_n26, mkR_s26, mkR_g27, mkR_l27, mkR_n27, mkR_s27, mkR_g28, mkR_p28, mkR_g29, mkR_p29, mkR_g30, mkR_l30, mkR_n30, mkR_s30, mkR_g31, mkR_p31, mkR_g32, mkR_l32, mkR_n32, mkR_s32, mkR_g33, mkR_l33, mkR_n33, mkR_s33, mkR_g34, mkR_l34, mkR_n34, mkR_s34, mkR_t34, mkR_f34, mkR_g35, mkR_l35, mkR_n35, mkR_s35, mkR_g36, mkR_l36, mkR_n36, mkR_s36, mkR_g37, mkR_l37, mkR_n37, mkR_s37, mkR_g38, mkR_l38, mkR_n38, mkR_s38, mkR_g39, mkR_l39, mkR_n39, mkR_s39, mkR_g40, mkR_l40, mkR_n40, mkR_s40, mkR_g41, mkR_l41, mkR_n41, mkR_s41, q0, h0]
    exact fin 0 (by omega)
  · by_cases h1 : lv (b + 1) = v
    · rw [ecs, if_neg h0, if_pos h1]
      simp (disch := omega) only [↓L_m4, ↓L_m1, L_0, L_1, L_2, L_3, L_4, L_5, L_6, L_8, L_9, L_15, L_20, L_30, L_40, L_54, L_60, L_120, L_1872, L_4320, L_22500, le_t, le_f, lt_t, lt_f, eq_t, eq_f, eq_NO, NO_eq, NO_neg, MO_neg, bI_0, nI_add, pk_mul, pk_ds, rem_, nI_MO, nI_0MO, ↓reduceIte, eq_self, reduceCtorEq, Bool.true_eq_false, Bool.false_eq_true, isZn0, isZn1, isZb, bind_some', rI_some, rV_some, rQ_some, rQ_null, updA_at, updA_ne, pk_us, pk_un, ne_eq, not_false_eq_true, Nat.reduceEqDiff, updA_updA, Nat.reduceSub, Nat.reduceAdd, Nat.reduceMul, Nat.reduceDiv, Nat.zero_add, Nat.add_zero, mkR_o, mkR_g0, mkR_p0, mkR_g1, mkR_l1, mkR_n1, mkR_s1, mkR_g2, mkR_l2, mkR_n2, mkR_s2, mkR_g3, mkR_p3, mkR_g4, mkR_l4, mkR_n4, mkR_s4, mkR_g5, mkR_l5, mkR_n5, mkR_s5, mkR_g6, mkR_l6, mkR_n6, mkR_s6, mkR_t6, mkR_f6, mkR_g7, mkR_l7, mkR_n7, mkR_s7, mkR_g8, mkR_l8, mkR_n8, mkR_s8, mkR_g9, mkR_l9, mkR_n9, mkR_s9, mkR_g10, mkR_l10, mkR_n10, mkR_s10, mkR_g11, mkR_l11, mkR_n11, mkR_s11, mkR_g12, mkR_p12, mkR_g13, mkR_l13, mkR_n13, mkR_s13, mkR_t13, mkR_f13, mkR_g14, mkR_l14, mkR_n14, mkR_s14, mkR_g15, mkR_l15, mkR_n15, mkR_s15, mkR_g16, mkR_p16, mkR_g17, mkR_l17, mkR_n17, mkR_s17, mkR_t17, mkR_f17, mkR_g18, mkR_l18, mkR_n18, mkR_s18, mkR_t18, mkR_f18, mkR_g19, mkR_l19, mkR_n19, mkR_s19, mkR_g20, mkR_l20, mkR_n20, mkR_s20, mkR_g21, mkR_l21, mkR_n21, mkR_s21, mkR_g22, mkR_p22, mkR_g23, mkR_p23, mkR_g24, mkR_p24, mkR_g25, mkR_l25, mkR_n25, mkR_s25, mkR_g26, mkR_l26, mkR_n26, mkR_s26, mkR_g27, mkR_l27, mkR_n27, mkR_s27, mkR_g28, mkR_p28, mkR_g29, mkR_p29, mkR_g30, mkR_l30, mkR_n30, mkR_s30, mkR_g31, mkR_p31, mkR_g32, mkR_l32, mkR_n32, mkR_s32, mkR_g33, mkR_l33, mkR_n33, mkR_s33, mkR_g34, mkR_l34, mkR_n34, mkR_s34, mkR_t34, mkR_f34, mkR_g35, mkR_l35, mkR_n35, mkR_s35, mkR_g36, mkR_l36, mkR_n36, mkR_s36, mkR_g37, mkR_l37, mkR_n37, mkR_s37, mkR_g38, mkR_l38, mkR_n38, mkR_s38, mkR_g39, mkR_l39, mkR_n39, mkR_s39, mkR_g40, mkR_l40, mkR_n40, mkR_s40, mkR_g41, mkR_l41, mkR_n41, mkR_s41, q0, q1, h1]
      exact fin 1 (by omega)
    · rw [ecs, if_neg h0, if_neg h1]
      simp (disch := omega) only [↓L_m4, ↓L_m1, L_0, L_1, L_2, L_3, L_4, L_5, L_6, L_8, L_9, L_15, L_20, L_30, L_40, L_54, L_60, L_120, L_1872, L_4320, L_22500, le_t, le_f, lt_t, lt_f, eq_t, eq_f, eq_NO, NO_eq, NO_neg, MO_neg, bI_0, nI_add, pk_mul, pk_ds, rem_, nI_MO, nI_0MO, ↓reduceIte, eq_self, reduceCtorEq, Bool.true_eq_false, Bool.false_eq_true, isZn0, isZn1, isZb, bind_some', rI_some, rV_some, rQ_some, rQ_null, updA_at, updA_ne, pk_us, pk_un, ne_eq, not_false_eq_true, Nat.reduceEqDiff, updA_updA, Nat.reduceSub, Nat.reduceAdd, Nat.reduceMul, Nat.reduceDiv, Nat.zero_add, Nat.add_zero, mkR_o, mkR_g0, mkR_p0, mkR_g1, mkR_l1, mkR_n1, mkR_s1, mkR_g2, mkR_l2, mkR_n2, mkR_s2, mkR_g3, mkR_p3, mkR_g4, mkR_l4, mkR_n4, mkR_s4, mkR_g5, mkR_l5, mkR_n5, mkR_s5, mkR_g6, mkR_l6, mkR_n6, mkR_s6, mkR_t6, mkR_f6, mkR_g7, mkR_l7, mkR_n7, mkR_s7, mkR_g8, mkR_l8, mkR_n8, mkR_s8, mkR_g9, mkR_l9, mkR_n9, mkR_s9, mkR_g10, mkR_l10, mkR_n10, mkR_s10, mkR_g11, mkR_l11, mkR_n11, mkR_s11, mkR_g12, mkR_p12, mkR_g13, mkR_l13, mkR_n13, mkR_s13, mkR_t13, mkR_f13, mkR_g14, mkR_l14, mkR_n14, mkR_s14, mkR_g15, mkR_l15, mkR_n15, mkR_s15, mkR_g16, mkR_p16, mkR_g17, mkR_l17, mkR_n17, mkR_s17, mkR_t17, mkR_f17, mkR_g18, mkR_l18, mkR_n18, mkR_s18, mkR_t18, mkR_f18, mkR_g19, mkR_l19, mkR_n19, mkR_s19, mkR_g20, mkR_l20, mkR_n20, mkR_s20, mkR_g21, mkR_l21, mkR_n21, mkR_s21, mkR_g22, mkR_p22, mkR_g23, mkR_p23, mkR_g24, mkR_p24, mkR_g25, mkR_l25, mkR_n25, mkR_s25, mkR_g26, mkR_l26, mkR_n26, mkR_s26, mkR_g27, mkR_l27, mkR_n27, mkR_s27, mkR_g28, mkR_p28, mkR_g29, mkR_p29, mkR_g30, mkR_l30, mkR_n30, mkR_s30, mkR_g31, mkR_p31, mkR_g32, mkR_l32, mkR_n32, mkR_s32, mkR_g33, mkR_l33, mkR_n33, mkR_s33, mkR_g34, mkR_l34, mkR_n34, mkR_s34, mkR_t34, mkR_f34, mkR_g35, mkR_l35, mkR_n35, mkR_s35, mkR_g36, mkR_l36, mkR_n36, mkR_s36, mkR_g37, mkR_l37, mkR_n37, mkR_s37, mkR_g38, mkR_l38, mkR_n38, mkR_s38, mkR_g39, mkR_l39, mkR_n39, mkR_s39, mkR_g40, mkR_l40, mkR_n40, mkR_s40, mkR_g41, mkR_l41, mkR_n41, mkR_s41, q0, q1]
      exact fin 2 (by omega)
/-- the name among the registers -/
theorem l_tell4 {A : Nat → Nat → Int32} (c v y : Nat) (hy : y < 5000) (hv : v < 8) (x1 x2 x3 x4 x5 x7 : Int32) (hlv : ∀ j, j < 4 → A 25 j = nI (lb c j)) (hr : ∀ r, r < 4 → lb c r = v → A 30 r = nI y) : ∀ (m r : Nat) (I : Nat → Int32) (b : Bool), r + m = 4 → I 29 = (if b then nI y else NO) → (b = true ↔ ∃ q, q < r ∧ lb c q = v) → ∃ (I' : Nat → Int32) (b' : Bool), run d mt_145 76 [some (.ref a), some (.int x1), some (.int x2), some (.int x3), some (.int x4), some (.int x5), none, some (.int x7), some (.int (nI v)), some (.int (nI r))] [] (mkR h a I A) = run d mt_145 76 [some (.ref a), some (.int x1), some (.int x2), some (.int x3), some (.int x4), some (.int x5), none, some (.int x7), some (.int (nI v)), some (.int (nI 4))] [] (mkR h a I' A) ∧ I' 29 = (if b' then nI y else NO) ∧ (b' = true ↔ ∃ q, q < 4 ∧ lb c q = v) ∧ (∀ k, k ≠ 29 → I' k = I k) := by
  intro m
  induction m with
  | zero =>
    intro r I b hr4 hI hb
    have : r = 4 := by omega
    subst this
    exact ⟨I, b, rfl, hI, hb, fun _ _ => rfl⟩
  | succ m ih =>
    intro r I b hr4 hI hb
    have q := hlv r (by omega)
    have z := lb_lt c r
    rw [nd_145_76 (St_run d mt_145)]
    by_cases h0 : lb c r = v
    · have q30 := hr r (by omega) h0
      obtain ⟨I', b', e1, e2, e3, e4⟩ := ih (r + 1) (upd I 29 (nI y)) true (by omega) (by rw [pk_us]; rfl) ⟨fun _ => ⟨r, by omega, h0⟩, fun _ => rfl⟩
      refine ⟨I', b', ?_, e2, e3, fun k hk => (e4 k hk).trans (pk_un hk)⟩
      simp (disch := omega) only [nd_145_109 (St_run d mt_145), ↓L_m4, ↓L_m1, L_0, L_1, L_2, L_3, L_4, L_5, L_6, L_8, L_9, L_15, L_20, L_30, L_40, L_54, L_60, L_120, L_1872, L_4320, L_22500, le_t, le_f, lt_t, lt_f, eq_t, eq_f, eq_NO, NO_eq, NO_neg, MO_neg, bI_0, nI_add, pk_mul, pk_ds, rem_, nI_MO, nI_0MO, ↓reduceIte, eq_self, reduceCtorEq, Bool.true_eq_false, Bool.false_eq_true, isZn0, isZn1, isZb, bind_some', rI_some, rV_some, rQ_some, rQ_null, updA_at, updA_ne, pk_us, pk_un, ne_eq, not_false_eq_true, Nat.reduceEqDiff, updA_updA, Nat.reduceSub, Nat.reduceAdd, Nat.reduceMul, Nat.reduceDiv, Nat.zero_add, Nat.add_zero, mkR_o, mkR_g0, mkR_p0, mkR_g1, mkR_l1, mkR_n1, mkR_s1, mkR_g2, mkR_l2, mkR_n2, mkR_s2, mkR_g3, mkR_p3, mkR_g4, mkR_l4, mkR_n4, mkR_s4, mkR_g5, mkR_l5, mkR_n5, mkR_s5, mkR_g6, mkR_l6, mkR_n6, mkR_s6, mkR_t6, mkR_f6, mkR_g7, mkR_l7, mkR_n7, mkR_s7, mkR_g8, mkR_l8, mkR_n8, mkR_s8, mkR_g9, mkR_l9, mkR_n9, mkR_s9, mkR_g10, mkR_l10, mkR_n10, mkR_s10, mkR_g11, mkR_l11, mkR_n11, mkR_s11, mkR_g12, mkR_p12, mkR_g13, mkR_l13, mkR_n13, mkR_s13, mkR_t13, mkR_f13, mkR_g14, mkR_l14, mkR_n14, mkR_s14, mkR_g15, mkR_l15, mkR_n15, mkR_s15, mkR_g16, mkR_p16, mkR_g17, mkR_l17, mkR_n17, mkR_s17, mkR_t17, mkR_f17, mkR_g18, mkR_l18, mkR_n18, mkR_s18, mkR_t18, mkR_f18, mkR_g19, mkR_l19, mkR_n19, mkR_s19, mkR_g20, mkR_l20, mkR_n20, mkR_s20, mkR_g21, mkR_l21, mkR_n21, mkR_s21, mkR_g22, mkR_p22, mkR_g23, mkR_p23, mkR_g24, mkR_p24, mkR_g25, mkR_l25, mkR_n25, mkR_s25, mkR_g26, mkR_l26, mkR_n26, mkR_s26, mkR_g27, mkR_l27, mkR_n27, mkR_s27, mkR_g28, mkR_p28, mkR_g29, mkR_p29, mkR_g30, mkR_l30, mkR_n30, mkR_s30, mkR_g31, mkR_p31, mkR_g32, mkR_l32, mkR_n32, mkR_s32, mkR_g33, mkR_l33, mkR_n33, mkR_s33, mkR_g34, mkR_l34, mkR_n34, mkR_s34, mkR_t34, mkR_f34, mkR_g35, mkR_l35, mkR_n35, mkR_s35, mkR_g36, mkR_l36, mkR_n36, mkR_s36, mkR_g37, mkR_l37, mkR_n37, mkR_s37, mkR_g38, mkR_l38, mkR_n38, mkR_s38, mkR_g39, mkR_l39, mkR_n39, mkR_s39, mkR_g40, mkR_l40, mkR_n40, mkR_s40, mkR_g41, mkR_l41, mkR_n41, mkR_s41, q, q30, h0]
      exact e1
    · obtain ⟨I', b', e1, e2, e3, e4⟩ := ih (r + 1) (upd I 29 (I 29)) b (by omega) (by rw [pk_us]; exact hI) (hb.trans ⟨fun ⟨q, h1, h2⟩ => ⟨q, by omega, h2⟩, fun ⟨q, h1, h2⟩ => ⟨q, by
        by_cases hq : q = r
        · rw [hq] at h2; exact absurd h2 h0
        · omega, h2⟩⟩)
      refine ⟨I', b', ?_, e2, e3, fun k hk => (e4 k hk).trans (pk_un hk)⟩
      simp (disch := omega) only [nd_145_109 (St_run d mt_145), ↓L_m4, ↓L_m1, L_0, L_1, L_2, L_3, L_4, L_5, L_6, L_8, L_9, L_15, L_20, L_30, L_40, L_54, L_60, L_120, L_1872, L_4320, L_22500, le_t, le_f, lt_t, lt_f, eq_t, eq_f, eq_NO, NO_eq, NO_neg, MO_neg, bI_0, nI_add, pk_mul, pk_ds, rem_, nI_MO, nI_0MO, ↓reduceIte, eq_self, reduceCtorEq, Bool.true_eq_false, Bool.false_eq_true, isZn0, isZn1, isZb, bind_some', rI_some, rV_some, rQ_some, rQ_null, updA_at, updA_ne, pk_us, pk_un, ne_eq, not_false_eq_true, Nat.reduceEqDiff, updA_updA, Nat.reduceSub, Nat.reduceAdd, Nat.reduceMul, Nat.reduceDiv, Nat.zero_add, Nat.add_zero, mkR_o, mkR_g0, mkR_p0, mkR_g1, mkR_l1, mkR_n1, mkR_s1, mkR_g2, mkR_l2, mkR_n2, mkR_s2, mkR_g3, mkR_p3, mkR_g4, mkR_l4, mkR_n4, mkR_s4, mkR_g5, mkR_l5, mkR_n5, mkR_s5, mkR_g6, mkR_l6, mkR_n6, mkR_s6, mkR_t6, mkR_f6, mkR_g7, mkR_l7, mkR_n7, mkR_s7, mkR_g8, mkR_l8, mkR_n8, mkR_s8, mkR_g9, mkR_l9, mkR_n9, mkR_s9, mkR_g10, mkR_l10, mkR_n10, mkR_s10, mkR_g11, mkR_l11, mkR_n11, mkR_s11, mkR_g12, mkR_p12, mkR_g13, mkR_l13, mkR_n13, mkR_s13, mkR_t13, mkR_f13, mkR_g14, mkR_l14, mkR_n14, mkR_s14, mkR_g15, mkR_l15, mkR_n15, mkR_s15, mkR_g16, mkR_p16, mkR_g17, mkR_l17, mkR_n17, mkR_s17, mkR_t17, mkR_f17, mkR_g18, mkR_l18, mkR_n18, mkR_s18, mkR_t18, mkR_f18, mkR_g19, mkR_l19, mkR_n19, mkR_s19, mkR_g20, mkR_l20, mkR_n20, mkR_s20, mkR_g21, mkR_l21, mkR_n21, mkR_s21, mkR_g22, mkR_p22, mkR_g23, mkR_p23, mkR_g24, mkR_p24, mkR_g25, mkR_l25, mkR_n25, mkR_s25, mkR_g26, mkR_l26, mkR_n26, mkR_s26, mkR_g27, mkR_l27, mkR_n27, mkR_s27, mkR_g28, mkR_p28, mkR_g29, mkR_p29, mkR_g30, mkR_l30, mkR_n30, mkR_s30, mkR_g31, mkR_p31, mkR_g32, mkR_l32, mkR_n32, mkR_s32, mkR_g33, mkR_l33, mkR_n33, mkR_s33, mkR_g34, mkR_l34, mkR_n34, mkR_s34, mkR_t34, mkR_f34, mkR_g35, mkR_l35, mkR_n35, mkR_s35, mkR_g36, mkR_l36, mkR_n36, mkR_s36, mkR_g37, mkR_l37, mkR_n37, mkR_s37, mkR_g38, mkR_l38, mkR_n38, mkR_s38, mkR_g39, mkR_l39, mkR_n39, mkR_s39, mkR_g40, mkR_l40, mkR_n40, mkR_s40, mkR_g41, mkR_l41, mkR_n41, mkR_s41, q]
      exact e1
theorem asgI_lo (x : Nat → Int32) {kA kB r : Nat} {y : Int32} (hA : kA = 2 ∨ kA < 2) (hr : r < 2) : asgI (asgI x 0 kA y) 2 kB y r = if r = kA then y else x r := by
  have : asgI (asgI x 0 kA y) 2 kB y r = asgI x 0 kA y r := by
    unfold asgI
    by_cases h : kB = 2
    · rw [if_pos h]
    · rw [if_neg h, pk_un (by omega)]
  rw [this]
  unfold asgI
  by_cases h : kA = 2
  · rw [if_pos h, if_neg (by omega)]
  · rw [if_neg h]
    by_cases e : r = kA
    · rw [if_pos e, e, Nat.zero_add, pk_us]
    · rw [if_neg e, pk_un (by omega)]
theorem asgI_hi (x : Nat → Int32) {kA kB r : Nat} {y : Int32} (hA : kA = 2 ∨ kA < 2) (hB : kB = 2 ∨ kB < 2) (hr : r < 2) : asgI (asgI x 0 kA y) 2 kB y (2 + r) = if r = kB then y else x (2 + r) := by
  have hA' : asgI x 0 kA y (2 + r) = x (2 + r) := by
    unfold asgI
    by_cases h : kA = 2
    · rw [if_pos h]
    · rw [if_neg h, pk_un (by omega)]
  by_cases h : kB = 2
  · rw [if_neg (by omega), ← hA']
    unfold asgI
    rw [if_pos h]
  · by_cases e : r = kB
    · rw [if_pos e, e]
      unfold asgI
      rw [if_neg h, pk_us]
    · rw [if_neg e, ← hA']
      unfold asgI
      rw [if_neg h, pk_un (by omega)]
theorem l_tells {m0 : Nat} {b : Int32} {T U : TM} (hT : WFT T) (hm : m0 < 6) (hU : WFT U) (hbU : b = NO → U = T0) {B : BS} (g : GB T U B) (e : Nat) (he : e < B.1) (i : Nat) (hi : i < wn B e) : ∀ (m k : Nat) (I : Nat → Int32) (A : Nat → Nat → Int32), k + m = i + 1 → isT A m0 T → isTo A b U → RB I A B → (∀ j, j < wn B e → A 27 j = nI (wX B e (j + 1))) → (∀ r, r < 4 → lb (wC B e k) r ≠ 0 → A 30 r = nI ((tls T U (wC B e) (wL B e) (wV B e) k).1 r)) → (0 < k → I 28 = nI (wL B e (k - 1)) ∧ I 29 = nI (tlx T U (wC B e) (wL B e) (wV B e) (k - 1))) → ∃ I' A', run (d + 2) mt_145 6 [some (.ref a), some (.int (nI m0)), some (.int b), some (.int (nI i)), some (.int (nI (tls T U (wC B e) (wL B e) (wV B e) k).2)), some (.int (nI k)), none, none, none, none] [] (mkR h a I A) = some (none, mkR h a I' A') ∧ I' 28 = nI (wL B e i) ∧ I' 29 = nI (tlx T U (wC B e) (wL B e) (wV B e) i) ∧ fra I I' A A' [23, 24, 28, 29] [25, 30] := by
  have hn := GB_most hT hU g
  obtain ⟨x0, xn, xl, xk⟩ := wX_ok g he
  obtain ⟨hW, hW2⟩ := wW hT hU g he
  generalize hC : wC B e = C at *
  generalize hL : wL B e = L at *
  generalize hV : wV B e = V at *
  intro m
  induction m with
  | zero =>
    intro k I A hk iT iU r l27 l30 hI
    have hki : k = i + 1 := by omega
    obtain ⟨y1, y2⟩ := hI (by omega)
    rw [show k - 1 = i by omega] at y1 y2
    refine ⟨I, A, ?_, y1, y2, fra.rf _ _ _ _⟩
    rw [nd_145_6 (St_run (d + 2) mt_145)]
    simp (disch := omega) only [↓L_m4, ↓L_m1, L_0, L_1, L_2, L_3, L_4, L_5, L_6, L_8, L_9, L_15, L_20, L_30, L_40, L_54, L_60, L_120, L_1872, L_4320, L_22500, le_t, le_f, lt_t, lt_f, eq_t, eq_f, eq_NO, NO_eq, NO_neg, MO_neg, bI_0, nI_add, pk_mul, pk_ds, rem_, nI_MO, nI_0MO, ↓reduceIte, eq_self, reduceCtorEq, Bool.true_eq_false, Bool.false_eq_true, isZn0, isZn1, isZb, bind_some', rI_some, rV_some, rQ_some, rQ_null, updA_at, updA_ne, pk_us, pk_un, ne_eq, not_false_eq_true, Nat.reduceEqDiff, updA_updA, Nat.reduceSub, Nat.reduceAdd, Nat.reduceMul, Nat.reduceDiv, Nat.zero_add, Nat.add_zero, mkR_o, mkR_g0, mkR_p0, mkR_g1, mkR_l1, mkR_n1, mkR_s1, mkR_g2, mkR_l2, mkR_n2, mkR_s2, mkR_g3, mkR_p3, mkR_g4, mkR_l4, mkR_n4, mkR_s4, mkR_g5, mkR_l5, mkR_n5, mkR_s5, mkR_g6, mkR_l6, mkR_n6, mkR_s6, mkR_t6, mkR_f6, mkR_g7, mkR_l7, mkR_n7, mkR_s7, mkR_g8, mkR_l8, mkR_n8, mkR_s8, mkR_g9, mkR_l9, mkR_n9, mkR_s9, mkR_g10, mkR_l10, mkR_n10, mkR_s10, mkR_g11, mkR_l11, mkR_n11, mkR_s11, mkR_g12, mkR_p12, mkR_g13, mkR_l13, mkR_n13, mkR_s13, mkR_t13, mkR_f13, mkR_g14, mkR_l14, mkR_n14, mkR_s14, mkR_g15, mkR_l15, mkR_n15, mkR_s15, mkR_g16, mkR_p16, mkR_g17, mkR_l17, mkR_n17, mkR_s17, mkR_t17, mkR_f17, mkR_g18, mkR_l18, mkR_n18, mkR_s18, mkR_t18, mkR_f18, mkR_g19, mkR_l19, mkR_n19, mkR_s19, mkR_g20, mkR_l20, mkR_n20, mkR_s20, mkR_g21, mkR_l21, mkR_n21, mkR_s21, mkR_g22, mkR_p22, mkR_g23, mkR_p23, mkR_g24, mkR_p24, mkR_g25, mkR_l25, mkR_n25, mkR_s25, mkR_g26, mkR_l26, mkR_n26, mkR_s26, mkR_g27, mkR_l27, mkR_n27, mkR_s27, mkR_g28, mkR_p28, mkR_g29, mkR_p29, mkR_g30, mkR_l30, mkR_n30, mkR_s30, mkR_g31, mkR_p31, mkR_g32, mkR_l32, mkR_n32, mkR_s32, mkR_g33, mkR_l33, mkR_n33, mkR_s33, mkR_g34, mkR_l34, mkR_n34, mkR_s34, mkR_t34, mkR_f34, mkR_g35, mkR_l35, mkR_n35, mkR_s35, mkR_g36, mkR_l36, mkR_n36, mkR_s36, mkR_g37, mkR_l37, mkR_n37, mkR_s37, mkR_g38, mkR_l38, mkR_n38, mkR_s38, mkR_g39, mkR_l39, mkR_n39, mkR_s39, mkR_g40, mkR_l40, mkR_n40, mkR_s40, mkR_g41, mkR_l41, mkR_n41, mkR_s41]
  | succ m ih =>
    intro k I A hk iT iU r l27 l30 hI
    have hkn : k < wn B e := by omega
    obtain ⟨k1, k2, k3⟩ := xk k hkn
    obtain ⟨w1, w2, w3, w4, w5⟩ := hW.2 k hkn
    obtain ⟨n1, n2⟩ := tls_ok hT hU hW k (by omega)
    have n3 := tlx_le hT hU hW hkn
    have ht := top_le w1
    have hc5 := w1.1
    have a27 := l27 k hkn
    obtain ⟨a20, a21⟩ := r.2.2.2.1 _ k1 k2
    rw [k3] at a20
    have a21' : A 21 (wX B e (k + 1)) = nI (8 * L k + V k) := by rw [a21, hW2 k hkn]
    have hlt : wX B e k < wX B e (k + 1) := by rw [← k3]; exact (g.2.2.2.2 _ k1 k2).1
    have a19 : A 19 (wX B e k) = nI (C k) := by rw [r.2.1 _ (by omega), ← hC]; rfl
    have kA := hT.2.2.2.2 (9 * (C k / 625 / 6) + 3 * L k + cs (lb (C k)) 0 (V k))
    have kB := hU.2.2.2.2 (9 * (C k / 625 % 6) + 3 * L k + cs (lb (C k)) 2 (V k))
    have rA := hT.2.2.1
    have rB := hU.2.2.1
    obtain ⟨lA, lB⟩ := chd_lb hT hU w1 w2 w3 w4
    rw [← w5] at lA lB
    have et : (tls T U C L V (k + 1)).1 = asg (asg (tls T U C L V k).1 0 (T.2.2.1 (9 * (C k / 625 / 6) + 3 * L k + cs (lb (C k)) 0 (V k))) (tlx T U C L V k)) 2 (U.2.2.1 (9 * (C k / 625 % 6) + 3 * L k + cs (lb (C k)) 2 (V k))) (tlx T U C L V k) := rfl
    have en : (tls T U C L V (k + 1)).2 = nxn (C k) (V k) (tls T U C L V k).2 := rfl
    have hlb : ∀ j, j < 4 → lb (C k) j < 100 := fun j _ => by have := lb_lt (C k) j; omega
    have d1 : (8 * L k + V k) / 8 = L k := by omega
    have d2 : nI (8 * L k + V k) - nI (L k * 8) = nI (V k) := by
      rw [pk_sub (by omega)]
      congr 1
      omega
    have d3 : (8 * L k + V k) % 8 = V k := by omega
    -- behind the name
    have fin : ∀ (J : Nat → Int32) (D : Nat → Nat → Int32), fra I J A D [23, 24, 28, 29] [25, 30] → D 30 = A 30 → (∀ j, j < 4 → D 25 j = nI (lb (C k) j)) → J 28 = nI (L k) → J 29 = nI (tlx T U C L V k) → J 23 = nI (C k / 625 / 6) → ∃ I' A', run (d + 2) mt_145 136 [some (.ref a), some (.int (nI m0)), some (.int b), some (.int (nI i)), some (.int (nI (tls T U C L V (k + 1)).2)), some (.int (nI k)), none, some (.int (nI (C k))), some (.int (nI (V k))), none] [] (mkR h a J D) = some (none, mkR h a I' A') ∧ I' 28 = nI (L i) ∧ I' 29 = nI (tlx T U C L V i) ∧ fra I I' A A' [23, 24, 28, 29] [25, 30] := by
      intro J D p hD30 hD25 j28 j29 j23
      have c1 := R_keepsReal (d := d) (a := a) (h := h) (I := J) (iT.fa p (by decide)) hT hm (lb (C k)) (C k / 625 / 6) 0 (L k) (V k) (tlx T U C L V k) (by omega) (Or.inl rfl) w2 (by omega) (fun j hj => ⟨hD25 j hj, hlb j hj⟩) j28 j29
      have p1 := p.w (asgI (D 30) 0 (T.2.2.1 (9 * (C k / 625 / 6) + 3 * L k + cs (lb (C k)) 0 (V k))) (nI (tlx T U C L V k))) (show 30 ∈ [25, 30] by decide)
      have last : ∀ (J2 : Nat → Int32) (D2 : Nat → Nat → Int32), fra I J2 A D2 [23, 24, 28, 29] [25, 30] → D2 30 = asgI (asgI (A 30) 0 (T.2.2.1 (9 * (C k / 625 / 6) + 3 * L k + cs (lb (C k)) 0 (V k))) (nI (tlx T U C L V k))) 2 (U.2.2.1 (9 * (C k / 625 % 6) + 3 * L k + cs (lb (C k)) 2 (V k))) (nI (tlx T U C L V k)) → J2 28 = nI (L k) → J2 29 = nI (tlx T U C L V k) → ∃ I' A', run (d + 2) mt_145 172 [some (.ref a), some (.int (nI m0)), some (.int b), some (.int (nI i)), some (.int (nI (tls T U C L V (k + 1)).2)), some (.int (nI k)), none, none, none, none] [] (mkR h a J2 D2) = some (none, mkR h a I' A') ∧ I' 28 = nI (L i) ∧ I' 29 = nI (tlx T U C L V i) ∧ fra I I' A A' [23, 24, 28, 29] [25, 30] := by
        intro J2 D2 p2 hD2 q28 q29
        obtain ⟨I', A', y1, y2, y3, y4⟩ := ih (k + 1) J2 D2 (by omega) (iT.fa p2 (by decide)) (iU.fa p2 (by decide)) (r.fa p2 (by decide) (by decide)) (fun j hj => by rw [p2.2 27 (by decide)]; exact l27 j hj) (fun q hq h0 => by
          rw [hD2, et]
          by_cases hq2 : q < 2
          · rw [asgI_lo _ (by omega) hq2, asg_lo _ (by omega) hq2]
            by_cases e1 : q = T.2.2.1 (9 * (C k / 625 / 6) + 3 * L k + cs (lb (C k)) 0 (V k))
            · rw [if_pos e1, if_pos e1]
            · rw [if_neg e1, if_neg e1]
              exact l30 q (by omega) (fun e2 => h0 ((lA q hq2).mpr ⟨e1, e2⟩))
          · obtain ⟨q', rfl⟩ : ∃ q', q = 2 + q' := ⟨q - 2, by omega⟩
            rw [asgI_hi _ (by omega) (by omega) (by omega), asg_hi _ (by omega) (by omega) (by omega)]
            by_cases e1 : q' = U.2.2.1 (9 * (C k / 625 % 6) + 3 * L k + cs (lb (C k)) 2 (V k))
            · rw [if_pos e1, if_pos e1]
            · rw [if_neg e1, if_neg e1]
              exact l30 (2 + q') (by omega) (fun e2 => h0 ((lB q' (by omega)).mpr ⟨e1, e2⟩))) (fun _ => by
          rw [Nat.add_sub_cancel]
          exact ⟨q28, q29⟩)
        refine ⟨I', A', ?_, y2, y3, p2.tr y4⟩
        rw [nd_145_172 (St_run (d + 2) mt_145), nI_1]
        exact y1
      rcases iU with ⟨mb, hmb, rfl, iU⟩ | ⟨rfl, rfl⟩
      · have p2 := ((p1.u (nI (C k / 625 % 6)) (show 24 ∈ [23, 24, 28, 29] by decide)).u (nI (C k / 625 / 6)) (show 23 ∈ [23, 24, 28, 29] by decide)).w (qL (D 25) (lb (C k))) (show 25 ∈ [25, 30] by decide)
        have c2 := R_keepsReal (d := d) (a := a) (h := h) (I := upd (upd J 24 (nI (C k / 625 % 6))) 23 (nI (C k / 625 / 6))) (iU.fa p2 (by decide)) hU hmb (lb (C k)) (C k / 625 % 6) 2 (L k) (V k) (tlx T U C L V k) (by omega) (Or.inr rfl) w2 (by omega) (fun j hj => ⟨by rw [updA_at, qL_at hj], hlb j hj⟩) (by rw [pk_un (by decide), pk_un (by decide)]; exact j28) (by rw [pk_un (by decide), pk_un (by decide)]; exact j29)
        have p3 := p2.w (asgI (asgI (D 30) 0 (T.2.2.1 (9 * (C k / 625 / 6) + 3 * L k + cs (lb (C k)) 0 (V k))) (nI (tlx T U C L V k))) 2 (U.2.2.1 (9 * (C k / 625 % 6) + 3 * L k + cs (lb (C k)) 2 (V k))) (nI (tlx T U C L V k))) (show 30 ∈ [25, 30] by decide)
        obtain ⟨I', A', y1, y2, y3, y4⟩ := last _ _ p3 (by rw [updA_at, hD30]) (by rw [pk_un (by decide), pk_un (by decide)]; exact j28) (by rw [pk_un (by decide), pk_un (by decide)]; exact j29)
        refine ⟨I', A', ?_, y2, y3, y4⟩
        rw [updA_ne (show (30 : Nat) ≠ 25 by decide), updA_at] at c2
        rw [nd_145_136 (St_run (d + 2) mt_145)]
        simp (disch := omega) only [↓L_m4, ↓L_m1, L_0, L_1, L_2, L_3, L_4, L_5, L_6, L_8, L_9, L_15, L_20, L_30, L_40, L_54, L_60, L_120, L_1872, L_4320, L_22500, le_t, le_f, lt_t, lt_f, eq_t, eq_f, eq_NO, NO_eq, NO_neg, MO_neg, bI_0, nI_add, pk_mul, pk_ds, rem_, nI_MO, nI_0MO, ↓reduceIte, eq_self, reduceCtorEq, Bool.true_eq_false, Bool.false_eq_true, isZn0, isZn1, isZb, bind_some', rI_some, rV_some, rQ_some, rQ_null, updA_at, updA_ne, pk_us, pk_un, ne_eq, not_false_eq_true, Nat.reduceEqDiff, updA_updA, Nat.reduceSub, Nat.reduceAdd, Nat.reduceMul, Nat.reduceDiv, Nat.zero_add, Nat.add_zero, mkR_o, mkR_g0, mkR_p0, mkR_g1, mkR_l1, mkR_n1, mkR_s1, mkR_g2, mkR_l2, mkR_n2, mkR_s2, mkR_g3, mkR_p3, mkR_g4, mkR_l4, mkR_n4, mkR_s4, mkR_g5, mkR_l5, mkR_n5, mkR_s5, mkR_g6, mkR_l6, mkR_n6, mkR_s6, mkR_t6, mkR_f6, mkR_g7, mkR_l7, mkR_n7, mkR_s7, mkR_g8, mkR_l8, mkR_n8, mkR_s8, mkR_g9, mkR_l9, mkR_n9, mkR_s9, mkR_g10, mkR_l10, mkR_n10, mkR_s10, mkR_g11, mkR_l11, mkR_n11, mkR_s11, mkR_g12, mkR_p12, mkR_g13, mkR_l13, mkR_n13, mkR_s13, mkR_t13, mkR_f13, mkR_g14, mkR_l14, mkR_n14, mkR_s14, mkR_g15, mkR_l15, mkR_n15, mkR_s15, mkR_g16, mkR_p16, mkR_g17, mkR_l17, mkR_n17, mkR_s17, mkR_t17, mkR_f17, mkR_g18, mkR_l18, mkR_n18, mkR_s18, mkR_t18, mkR_f18, mkR_g19, mkR_l19, mkR_n19, mkR_s19, mkR_g20, mkR_l20, mkR_n20, mkR_s20, mkR_g21, mkR_l21, mkR_n21, mkR_s21, mkR_g22, mkR_p22, mkR_g23, mkR_p23, mkR_g24, mkR_p24, mkR_g25, mkR_l25, mkR_n25, mkR_s25, mkR_g26, mkR_l26, mkR_n26, mkR_s26, mkR_g27, mkR_l27, mkR_n27, mkR_s27, mkR_g28, mkR_p28, mkR_g29, mkR_p29, mkR_g30, mkR_l30, mkR_n30, mkR_s30, mkR_g31, mkR_p31, mkR_g32, mkR_l32, mkR_n32, mkR_s32, mkR_g33, mkR_l33, mkR_n33, mkR_s33, mkR_g34, mkR_l34, mkR_n34, mkR_s34, mkR_t34, mkR_f34, mkR_g35, mkR_l35, mkR_n35, mkR_s35, mkR_g36, mkR_l36, mkR_n36, mkR_s36, mkR_g37, mkR_l37, mkR_n37, mkR_s37, mkR_g38, mkR_l38, mkR_n38, mkR_s38, mkR_g39, mkR_l39, mkR_n39, mkR_s39, mkR_g40, mkR_l40, mkR_n40, mkR_s40, mkR_g41, mkR_l41, mkR_n41, mkR_s41, j23, c1, R_apart, c2]
        exact y1
      · obtain ⟨I', A', y1, y2, y3, y4⟩ := last J _ p1 (by
          rw [updA_at, hD30]
          funext q
          rw [show asgI (asgI (A 30) 0 (T.2.2.1 (9 * (C k / 625 / 6) + 3 * L k + cs (lb (C k)) 0 (V k))) (nI (tlx T T0 C L V k))) 2 (T0.2.2.1 (9 * (C k / 625 % 6) + 3 * L k + cs (lb (C k)) 2 (V k))) (nI (tlx T T0 C L V k)) = asgI (A 30) 0 (T.2.2.1 (9 * (C k / 625 / 6) + 3 * L k + cs (lb (C k)) 0 (V k))) (nI (tlx T T0 C L V k)) from rfl]) j28 j29
        refine ⟨I', A', ?_, y2, y3, y4⟩
        rw [nd_145_136 (St_run (d + 2) mt_145)]
        simp (disch := omega) only [↓L_m4, ↓L_m1, L_0, L_1, L_2, L_3, L_4, L_5, L_6, L_8, L_9, L_15, L_20, L_30, L_40, L_54, L_60, L_120, L_1872, L_4320, L_22500, le_t, le_f, lt_t, lt_f, eq_t, eq_f, eq_NO, NO_eq, NO_neg, MO_neg, bI_0, nI_add, pk_mul, pk_ds, rem_, nI_MO, nI_0MO, ↓reduceIte, eq_self, reduceCtorEq, Bool.true_eq_false, Bool.false_eq_true, isZn0, isZn1, isZb, bind_some', rI_some, rV_some, rQ_some, rQ_null, updA_at, updA_ne, pk_us, pk_un, ne_eq, not_false_eq_true, Nat.reduceEqDiff, updA_updA, Nat.reduceSub, Nat.reduceAdd, Nat.reduceMul, Nat.reduceDiv, Nat.zero_add, Nat.add_zero, mkR_o, mkR_g0, mkR_p0, mkR_g1, mkR_l1, mkR_n1, mkR_s1, mkR_g2, mkR_l2, mkR_n2, mkR_s2, mkR_g3, mkR_p3, mkR_g4, mkR_l4, mkR_n4, mkR_s4, mkR_g5, mkR_l5, mkR_n5, mkR_s5, mkR_g6, mkR_l6, mkR_n6, mkR_s6, mkR_t6, mkR_f6, mkR_g7, mkR_l7, mkR_n7, mkR_s7, mkR_g8, mkR_l8, mkR_n8, mkR_s8, mkR_g9, mkR_l9, mkR_n9, mkR_s9, mkR_g10, mkR_l10, mkR_n10, mkR_s10, mkR_g11, mkR_l11, mkR_n11, mkR_s11, mkR_g12, mkR_p12, mkR_g13, mkR_l13, mkR_n13, mkR_s13, mkR_t13, mkR_f13, mkR_g14, mkR_l14, mkR_n14, mkR_s14, mkR_g15, mkR_l15, mkR_n15, mkR_s15, mkR_g16, mkR_p16, mkR_g17, mkR_l17, mkR_n17, mkR_s17, mkR_t17, mkR_f17, mkR_g18, mkR_l18, mkR_n18, mkR_s18, mkR_t18, mkR_f18, mkR_g19, mkR_l19, mkR_n19, mkR_s19, mkR_g20, mkR_l20, mkR_n20, mkR_s20, mkR_g21, mkR_l21, mkR_n21, mkR_s21, mkR_g22, mkR_p22, mkR_g23, mkR_p23, mkR_g24, mkR_p24, mkR_g25, mkR_l25, mkR_n25, mkR_s25, mkR_g26, mkR_l26, mkR_n26, mkR_s26, mkR_g27, mkR_l27, mkR_n27, mkR_s27, mkR_g28, mkR_p28, mkR_g29, mkR_p29, mkR_g30, mkR_l30, mkR_n30, mkR_s30, mkR_g31, mkR_p31, mkR_g32, mkR_l32, mkR_n32, mkR_s32, mkR_g33, mkR_l33, mkR_n33, mkR_s33, mkR_g34, mkR_l34, mkR_n34, mkR_s34, mkR_t34, mkR_f34, mkR_g35, mkR_l35, mkR_n35, mkR_s35, mkR_g36, mkR_l36, mkR_n36, mkR_s36, mkR_g37, mkR_l37, mkR_n37, mkR_s37, mkR_g38, mkR_l38, mkR_n38, mkR_s38, mkR_g39, mkR_l39, mkR_n39, mkR_s39, mkR_g40, mkR_l40, mkR_n40, mkR_s40, mkR_g41, mkR_l41, mkR_n41, mkR_s41, j23, c1]
        exact y1
    -- the name
    have p0 : fra I (upd (upd (upd (upd I 28 (nI (L k))) 24 (nI (C k / 625 % 6))) 23 (nI (C k / 625 / 6))) 29 NO) A (updA A 25 (qL (A 25) (lb (C k)))) [23, 24, 28, 29] [25, 30] := (((((fra.rf _ _ _ _).u _ (by decide)).u _ (by decide)).u _ (by decide)).u _ (by decide)).w _ (by decide)
    obtain ⟨J, b', z1, z2, z3, z4⟩ := l_tell4 (d := d + 2) (a := a) (h := h) (A := updA A 25 (qL (A 25) (lb (C k)))) (C k) (V k) (tlx T U C L V k) (by omega) (by omega) (nI m0) b (nI i) (nI (tls T U C L V k).2) (nI k) (nI (C k)) (fun j hj => by rw [updA_at, qL_at hj]) (fun q hq e1 => by
      rw [updA_ne (by decide)]
      have e2 := (nm_of n1 w3 hq).mp e1
      rw [l30 q hq e2.1, e2.2]
      rfl) 4 0 (upd (upd (upd (upd I 28 (nI (L k))) 24 (nI (C k / 625 % 6))) 23 (nI (C k / 625 / 6))) 29 NO) false rfl (by rw [pk_us]; rfl) ⟨fun e => (by cases e), fun ⟨q, hq, _⟩ => by omega⟩
    have pJ : fra I J A (updA A 25 (qL (A 25) (lb (C k)))) [23, 24, 28, 29] [25, 30] := ⟨fun j hj => (z4 j (fun e => hj (by simp [e]))).trans (p0.1 j hj), p0.2⟩
    have J28 : J 28 = nI (L k) := by rw [z4 28 (by decide)]; rfl
    have J23 : J 23 = nI (C k / 625 / 6) := by rw [z4 23 (by decide)]; rfl
    have hlb25 : ∀ j, j < 4 → (updA A 25 (qL (A 25) (lb (C k)))) 25 j = nI (lb (C k) j) := fun j hj => by rw [updA_at, qL_at hj]
    have h30 : (updA A 25 (qL (A 25) (lb (C k)))) 30 = A 30 := updA_ne (by decide)
    have hmid : run (d + 2) mt_145 6 [some (.ref a), some (.int (nI m0)), some (.int b), some (.int (nI i)), some (.int (nI (tls T U C L V k).2)), some (.int (nI k)), none, none, none, none] [] (mkR h a I A) = run (d + 2) mt_145 76 [some (.ref a), some (.int (nI m0)), some (.int b), some (.int (nI i)), some (.int (nI (tls T U C L V k).2)), some (.int (nI k)), none, some (.int (nI (C k))), some (.int (nI (V k))), some (.int (nI 4))] [] (mkR h a J (updA A 25 (qL (A 25) (lb (C k))))) := by
      rw [nd_145_6 (St_run (d + 2) mt_145)]
      simp (disch := omega) only [↓L_m4, ↓L_m1, L_0, L_1, L_2, L_3, L_4, L_5, L_6, L_8, L_9, L_15, L_20, L_30, L_40, L_54, L_60, L_120, L_1872, L_4320, L_22500, le_t, le_f, lt_t, lt_f, eq_t, eq_f, eq_NO, NO_eq, NO_neg, MO_neg, bI_0, nI_add, pk_mul, pk_ds, rem_, nI_MO, nI_0MO, ↓reduceIte, eq_self, reduceCtorEq, Bool.true_eq_false, Bool.false_eq_true, isZn0, isZn1, isZb, bind_some', rI_some, rV_some, rQ_some, rQ_null, updA_at, updA_ne, pk_us, pk_un, ne_eq, not_false_eq_true, Nat.reduceEqDiff, updA_updA, Nat.reduceSub, Nat.reduceAdd, Nat.reduceMul, Nat.reduceDiv, Nat.zero_add, Nat.add_zero, mkR_o, mkR_g0, mkR_p0, mkR_g1, mkR_l1, mkR_n1, mkR_s1, mkR_g2, mkR_l2, mkR_n2, mkR_s2, mkR_g3, mkR_p3, mkR_g4, mkR_l4, mkR_n4, mkR_s4, mkR_g5, mkR_l5, mkR_n5, mkR_s5, mkR_g6, mkR_l6, mkR_n6, mkR_s6, mkR_t6, mkR_f6, mkR_g7, mkR_l7, mkR_n7, mkR_s7, mkR_g8, mkR_l8, mkR_n8, mkR_s8, mkR_g9, mkR_l9, mkR_n9, mkR_s9, mkR_g10, mkR_l10, mkR_n10, mkR_s10, mkR_g11, mkR_l11, mkR_n11, mkR_s11, mkR_g12, mkR_p12, mkR_g13, mkR_l13, mkR_n13, mkR_s13, mkR_t13, mkR_f13, mkR_g14, mkR_l14, mkR_n14, mkR_s14, mkR_g15, mkR_l15, mkR_n15, mkR_s15, mkR_g16, mkR_p16, mkR_g17, mkR_l17, mkR_n17, mkR_s17, mkR_t17, mkR_f17, mkR_g18, mkR_l18, mkR_n18, mkR_s18, mkR_t18, mkR_f18, mkR_g19, mkR_l19, mkR_n19, mkR_s19, mkR_g20, mkR_l20, mkR_n20, mkR_s20, mkR_g21, mkR_l21, mkR_n21, mkR_s21, mkR_g22, mkR_p22, mkR_g23, mkR_p23, mkR_g24, mkR_p24, mkR_g25, mkR_l25, mkR_n25, mkR_s25, mkR_g26, mkR_l26, mkR_n26, mkR_s26, mkR_g27, mkR_l27, mkR_n27, mkR_s27, mkR_g28, mkR_p28, mkR_g29, mkR_p29, mkR_g30, mkR_l30, mkR_n30, mkR_s30, mkR_g31, mkR_p31, mkR_g32, mkR_l32, mkR_n32, mkR_s32, mkR_g33, mkR_l33, mkR_n33, mkR_s33, mkR_g34, mkR_l34, mkR_n34, mkR_s34, mkR_t34, mkR_f34, mkR_g35, mkR_l35, mkR_n35, mkR_s35, mkR_g36, mkR_l36, mkR_n36, mkR_s36, mkR_g37, mkR_l37, mkR_n37, mkR_s37, mkR_g38, mkR_l38, mkR_n38, mkR_s38, mkR_g39, mkR_l39, mkR_n39, mkR_s39, mkR_g40, mkR_l40, mkR_n40, mkR_s40, mkR_g41, mkR_l41, mkR_n41, mkR_s41, a27, a21', a20, a19, R_apart, d1, d2, d3]
      exact z1
    rw [hmid, nd_145_76 (St_run (d + 2) mt_145)]
    cases b' with
    | true =>
      obtain ⟨q, hq, hq2⟩ := z3.mp rfl
      have hh : hit (C k) (V k) := by
        rcases (show q = 0 ∨ q = 1 ∨ q = 2 ∨ q = 3 by omega) with rfl | rfl | rfl | rfl
        · exact Or.inl hq2
        · exact Or.inr (Or.inl hq2)
        · exact Or.inr (Or.inr (Or.inl hq2))
        · exact Or.inr (Or.inr (Or.inr hq2))
      have e1 : (tls T U C L V (k + 1)).2 = (tls T U C L V k).2 := by rw [en]; exact if_pos hh
      have z2' : J 29 = nI (tlx T U C L V k) := z2
      obtain ⟨I', A', y1, y2, y3, y4⟩ := fin J _ pJ h30 hlb25 J28 z2' J23
      rw [e1] at y1
      refine ⟨I', A', ?_, y2, y3, y4⟩
      simp (disch := omega) only [↓L_m4, ↓L_m1, L_0, L_1, L_2, L_3, L_4, L_5, L_6, L_8, L_9, L_15, L_20, L_30, L_40, L_54, L_60, L_120, L_1872, L_4320, L_22500, le_t, le_f, lt_t, lt_f, eq_t, eq_f, eq_NO, NO_eq, NO_neg, MO_neg, bI_0, nI_add, pk_mul, pk_ds, rem_, nI_MO, nI_0MO, ↓reduceIte, eq_self, reduceCtorEq, Bool.true_eq_false, Bool.false_eq_true, isZn0, isZn1, isZb, bind_some', rI_some, rV_some, rQ_some, rQ_null, updA_at, updA_ne, pk_us, pk_un, ne_eq, not_false_eq_true, Nat.reduceEqDiff, updA_updA, Nat.reduceSub, Nat.reduceAdd, Nat.reduceMul, Nat.reduceDiv, Nat.zero_add, Nat.add_zero, mkR_o, mkR_g0, mkR_p0, mkR_g1, mkR_l1, mkR_n1, mkR_s1, mkR_g2, mkR_l2, mkR_n2, mkR_s2, mkR_g3, mkR_p3, mkR_g4, mkR_l4, mkR_n4, mkR_s4, mkR_g5, mkR_l5, mkR_n5, mkR_s5, mkR_g6, mkR_l6, mkR_n6, mkR_s6, mkR_t6, mkR_f6, mkR_g7, mkR_l7, mkR_n7, mkR_s7, mkR_g8, mkR_l8, mkR_n8, mkR_s8, mkR_g9, mkR_l9, mkR_n9, mkR_s9, mkR_g10, mkR_l10, mkR_n10, mkR_s10, mkR_g11, mkR_l11, mkR_n11, mkR_s11, mkR_g12, mkR_p12, mkR_g13, mkR_l13, mkR_n13, mkR_s13, mkR_t13, mkR_f13, mkR_g14, mkR_l14, mkR_n14, mkR_s14, mkR_g15, mkR_l15, mkR_n15, mkR_s15, mkR_g16, mkR_p16, mkR_g17, mkR_l17, mkR_n17, mkR_s17, mkR_t17, mkR_f17, mkR_g18, mkR_l18, mkR_n18, mkR_s18, mkR_t18, mkR_f18, mkR_g19, mkR_l19, mkR_n19, mkR_s19, mkR_g20, mkR_l20, mkR_n20, mkR_s20, mkR_g21, mkR_l21, mkR_n21, mkR_s21, mkR_g22, mkR_p22, mkR_g23, mkR_p23, mkR_g24, mkR_p24, mkR_g25, mkR_l25, mkR_n25, mkR_s25, mkR_g26, mkR_l26, mkR_n26, mkR_s26, mkR_g27, mkR_l27, mkR_n27, mkR_s27, mkR_g28, mkR_p28, mkR_g29, mkR_p29, mkR_g30, mkR_l30, mkR_n30, mkR_s30, mkR_g31, mkR_p31, mkR_g32, mkR_l32, mkR_n32, mkR_s32, mkR_g33, mkR_l33, mkR_n33, mkR_s33, mkR_g34, mkR_l34, mkR_n34, mkR_s34, mkR_t34, mkR_f34, mkR_g35, mkR_l35, mkR_n35, mkR_s35, mkR_g36, mkR_l36, mkR_n36, mkR_s36, mkR_g37, mkR_l37, mkR_n37, mkR_s37, mkR_g38, mkR_l38, mkR_n38, mkR_s38, mkR_g39, mkR_l39, mkR_n39, mkR_s39, mkR_g40, mkR_l40, mkR_n40, mkR_s40, mkR_g41, mkR_l41, mkR_n41, mkR_s41, z2']
      exact y1
    | false =>
      have hh : ¬ hit (C k) (V k) := by
        rintro (e | e | e | e)
        · have := z3.mpr ⟨0, by omega, e⟩; cases this
        · have := z3.mpr ⟨1, by omega, e⟩; cases this
        · have := z3.mpr ⟨2, by omega, e⟩; cases this
        · have := z3.mpr ⟨3, by omega, e⟩; cases this
      have e1 : (tls T U C L V (k + 1)).2 = (tls T U C L V k).2 + 1 := by rw [en]; exact if_neg hh
      have e2 : tlx T U C L V k = (tls T U C L V k).2 := nm_miss hh
      have z2' : J 29 = NO := z2
      have pJ2 := pJ.u (nI (tls T U C L V k).2) (show 29 ∈ [23, 24, 28, 29] by decide)
      obtain ⟨I', A', y1, y2, y3, y4⟩ := fin (upd J 29 (nI (tls T U C L V k).2)) _ pJ2 h30 hlb25 (by rw [pk_un (by decide)]; exact J28) (by rw [pk_us, e2]) (by rw [pk_un (by decide)]; exact J23)
      rw [e1] at y1
      refine ⟨I', A', ?_, y2, y3, y4⟩
      simp (disch := omega) only [↓L_m4, ↓L_m1, L_0, L_1, L_2, L_3, L_4, L_5, L_6, L_8, L_9, L_15, L_20, L_30, L_40, L_54, L_60, L_120, L_1872, L_4320, L_22500, le_t, le_f, lt_t, lt_f, eq_t, eq_f, eq_NO, NO_eq, NO_neg, MO_neg, bI_0, nI_add, pk_mul, pk_ds, rem_, nI_MO, nI_0MO, ↓reduceIte, eq_self, reduceCtorEq, Bool.true_eq_false, Bool.false_eq_true, isZn0, isZn1, isZb, bind_some', rI_some, rV_some, rQ_some, rQ_null, updA_at, updA_ne, pk_us, pk_un, ne_eq, not_false_eq_true, Nat.reduceEqDiff, updA_updA, Nat.reduceSub, Nat.reduceAdd, Nat.reduceMul, Nat.reduceDiv, Nat.zero_add, Nat.add_zero, mkR_o, mkR_g0, mkR_p0, mkR_g1, mkR_l1, mkR_n1, mkR_s1, mkR_g2, mkR_l2, mkR_n2, mkR_s2, mkR_g3, mkR_p3, mkR_g4, mkR_l4, mkR_n4, mkR_s4, mkR_g5, mkR_l5, mkR_n5, mkR_s5, mkR_g6, mkR_l6, mkR_n6, mkR_s6, mkR_t6, mkR_f6, mkR_g7, mkR_l7, mkR_n7, mkR_s7, mkR_g8, mkR_l8, mkR_n8, mkR_s8, mkR_g9, mkR_l9, mkR_n9, mkR_s9, mkR_g10, mkR_l10, mkR_n10, mkR_s10, mkR_g11, mkR_l11, mkR_n11, mkR_s11, mkR_g12, mkR_p12, mkR_g13, mkR_l13, mkR_n13, mkR_s13, mkR_t13, mkR_f13, mkR_g14, mkR_l14, mkR_n14, mkR_s14, mkR_g15, mkR_l15, mkR_n15, mkR_s15, mkR_g16, mkR_p16, mkR_g17, mkR_l17, mkR_n17, mkR_s17, mkR_t17, mkR_f17, mkR_g18, mkR_l18, mkR_n18, mkR_s18, mkR_t18, mkR_f18, mkR_g19, mkR_l19, mkR_n19, mkR_s19, mkR_g20, mkR_l20, mkR_n20, mkR_s20, mkR_g21, mkR_l21, mkR_n21, mkR_s21, mkR_g22, mkR_p22, mkR_g23, mkR_p23, mkR_g24, mkR_p24, mkR_g25, mkR_l25, mkR_n25, mkR_s25, mkR_g26, mkR_l26, mkR_n26, mkR_s26, mkR_g27, mkR_l27, mkR_n27, mkR_s27, mkR_g28, mkR_p28, mkR_g29, mkR_p29, mkR_g30, mkR_l30, mkR_n30, mkR_s30, mkR_g31, mkR_p31, mkR_g32, mkR_l32, mkR_n32, mkR_s32, mkR_g33, mkR_l33, mkR_n33, mkR_s33, mkR_g34, mkR_l34, mkR_n34, mkR_s34, mkR_t34, mkR_f34, mkR_g35, mkR_l35, mkR_n35, mkR_s35, mkR_g36, mkR_l36, mkR_n36, mkR_s36, mkR_g37, mkR_l37, mkR_n37, mkR_s37, mkR_g38, mkR_l38, mkR_n38, mkR_s38, mkR_g39, mkR_l39, mkR_n39, mkR_s39, mkR_g40, mkR_l40, mkR_n40, mkR_s40, mkR_g41, mkR_l41, mkR_n41, mkR_s41, z2']
      exact y1
theorem R_tells {m0 : Nat} {b : Int32} {T U : TM} {I : Nat → Int32} {A : Nat → Nat → Int32} (hT : WFT T) (hm : m0 < 6) (hU : WFT U) {B : BS} (g : GB T U B) (e : Nat) (he : e < B.1) (i : Nat) (hi : i < wn B e) (iT : isT A m0 T) (iU : isTo A b U) (r : RB I A B) (l27 : ∀ j, j < wn B e → A 27 j = nI (wX B e (j + 1))) : ∃ I' A', call (d + 3) 145 [.ref a, .int (nI m0), .int b, .int (nI i)] (mkR h a I A) = some (none, mkR h a I' A') ∧ I' 28 = nI (wL B e i) ∧ I' 29 = nI (tlx T U (wC B e) (wL B e) (wV B e) i) ∧ fra I I' A A' [23, 24, 28, 29] [25, 30] := by
  have hbU : b = NO → U = T0 := fun e => by
    rcases iU with ⟨m, h1, h2, h3⟩ | h
    · rw [e] at h2
      have := NO_eq (a := m) (by omega)
      rw [this] at h2
      exact h2.elim
    · exact h.2
  have hn := GB_most hT hU g
  obtain ⟨I', A', y1, y2, y3, y4⟩ := l_tells (d := d) (a := a) (h := h) hT hm hU hbU g e he i hi (i + 1) 0 I A (by omega) iT iU r l27 (fun q hq h0 => by
    rw [(wW hT hU g he).1.1] at h0
    exact absurd (lb_0 q) h0) (fun e => by omega)
  refine ⟨I', A', ?_, y2, y3, y4⟩
  rw [call_at mt_145 [some (.ref a), some (.int (nI m0)), some (.int b), some (.int (nI i)), none, none, none, none, none, none] rfl rfl rfl, nd_145_0 (St_run (d + 2) mt_145)]
  exact y1
end RT
