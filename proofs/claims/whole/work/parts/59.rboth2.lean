/-! ===== the reference: both ===== -/
section RJ
variable {d a : Nat} {h : AH} {I : Nat → Int32} {T U : TM} {ia ib : Nat}
theorem R_isCase {A : Nat → Nat → Int32} (j w rg : Nat) (hj : j < 6) (hw : w < 3) (hr : rg ≤ 2) (h5 : A 5 j = nI rg) : call (d + 2) 116 [.ref a, .int (nI j), .int (nI w)] (mkR h a I A) = some (some (.int (bI (vcs rg w))), mkR h a I A) := by
  rw [r_isCase (mkR_is h a I A) j hj (nI w), h5]
  unfold vcs
  by_cases h2 : w = 2
  · subst h2
    rfl
  · rw [if_neg (show ¬ nI w = (2 : Int32) from fun e => h2 ((nI_eq (by omega) (by omega)).mp (show nI w = nI 2 from e)))]
    rcases v_in_cases (nI w) rg (by omega) with ⟨k, k1, k2, k3⟩ | ⟨k1, k2⟩
    · rw [nI_eq (by omega) (by omega)] at k2
      subst k2
      rw [k3, decide_eq_true k1, Bool.or_true]
      rfl
    · have : ¬ w < rg := fun e => k2 w e rfl
      rw [k1, decide_eq_false this, Bool.or_false, beq_eq_false_iff_ne.mpr h2]
      rfl
theorem l_pairAt {A : Nat → Nat → Int32} {q : Nat → Nat} {n p : Nat} (hn : n ≤ 6) (hp : p < 36) (hq : ∀ j, j < n → A 9 j = nI (q j) ∧ q j < 36) : ∀ (m j : Nat), j + m = n → run d mt_127 2 [some (.ref a), some (.int (nI p)), some (.int (nI n)), some (.int (nI j))] [] (mkR h a I A) = some (some (.int (nI ((fw (fun j => q j == p) m j).getD n))), mkR h a I A) := by
  intro m
  induction m with
  | zero =>
    intro j hj
    have : j = n := by omega
    subst this
    rw [nd_127_2 (St_run d mt_127)]
    simp (disch := omega) only [nd_127_23 (St_run d mt_127), ↓L_m4, ↓L_m1, L_0, L_1, L_2, L_3, L_4, L_5, L_6, L_8, L_9, L_15, L_20, L_30, L_40, L_54, L_60, L_120, L_1872, L_4320, L_22500, le_t, le_f, lt_t, lt_f, eq_t, eq_f, eq_NO, NO_eq, NO_neg, MO_neg, bI_0, nI_add, pk_mul, pk_ds, rem_, nI_MO, nI_0MO, ↓reduceIte, eq_self, reduceCtorEq, Bool.true_eq_false, Bool.false_eq_true, isZn0, isZn1, isZb, bind_some', rI_some, rV_some, rQ_some, rQ_null, updA_at, updA_ne, pk_us, pk_un, ne_eq, not_false_eq_true, Nat.reduceEqDiff, updA_updA, Nat.reduceSub, Nat.reduceAdd, Nat.reduceMul, Nat.reduceDiv, Nat.zero_add, Nat.add_zero, mkR_o, mkR_g0, mkR_p0, mkR_g1, mkR_l1, mkR_n1, mkR_s1, mkR_g2, mkR_l2, mkR_n2, mkR_s2, mkR_g3, mkR_p3, mkR_g4, mkR_l4, mkR_n4, mkR_s4, mkR_g5, mkR_l5, mkR_n5, mkR_s5, mkR_g6, mkR_l6, mkR_n6, mkR_s6, mkR_t6, mkR_f6, mkR_g7, mkR_l7, mkR_n7, mkR_s7, mkR_g8, mkR_l8, mkR_n8, mkR_s8, mkR_g9, mkR_l9, mkR_n9, mkR_s9, mkR_g10, mkR_l10, mkR_n10, mkR_s10, mkR_g11, mkR_l11, mkR_n11, mkR_s11, mkR_g12, mkR_p12, mkR_g13, mkR_l13, mkR_n13, mkR_s13, mkR_t13, mkR_f13, mkR_g14, mkR_l14, mkR_n14, mkR_s14, mkR_g15, mkR_l15, mkR_n15, mkR_s15, mkR_g16, mkR_p16, mkR_g17, mkR_l17, mkR_n17, mkR_s17, mkR_t17, mkR_f17, mkR_g18, mkR_l18, mkR_n18, mkR_s18, mkR_t18, mkR_f18, mkR_g19, mkR_l19, mkR_n19, mkR_s19, mkR_g20, mkR_l20, mkR_n20, mkR_s20, mkR_g21, mkR_l21, mkR_n21, mkR_s21, mkR_g22, mkR_p22, mkR_g23, mkR_p23, mkR_g24, mkR_p24, mkR_g25, mkR_l25, mkR_n25, mkR_s25, mkR_g26, mkR_l26, mkR_n26, mkR_s26, mkR_g27, mkR_l27, mkR_n27, mkR_s27, mkR_g28, mkR_p28, mkR_g29, mkR_p29, mkR_g30, mkR_l30, mkR_n30, mkR_s30, mkR_g31, mkR_p31, mkR_g32, mkR_l32, mkR_n32, mkR_s32, mkR_g33, mkR_l33, mkR_n33, mkR_s33, mkR_g34, mkR_l34, mkR_n34, mkR_s34, mkR_t34, mkR_f34, mkR_g35, mkR_l35, mkR_n35, mkR_s35, mkR_g36, mkR_l36, mkR_n36, mkR_s36, mkR_g37, mkR_l37, mkR_n37, mkR_s37, mkR_g38, mkR_l38, mkR_n38, mkR_s38, mkR_g39, mkR_l39, mkR_n39, mkR_s39, mkR_g40, mkR_l40, mkR_n40, mkR_s40, mkR_g41, mkR_l41, mkR_n41, mkR_s41]
    rfl
  | succ m ih =>
    intro j hj
    obtain ⟨q1, q2⟩ := hq j (by omega)
    rw [nd_127_2 (St_run d mt_127)]
    unfold fw
    by_cases e : q j = p
    · rw [if_pos (beq_iff_eq.mpr e)]
      simp (disch := omega) only [nd_127_23 (St_run d mt_127), ↓L_m4, ↓L_m1, L_0, L_1, L_2, L_3, L_4, L_5, L_6, L_8, L_9, L_15, L_20, L_30, L_40, L_54, L_60, L_120, L_1872, L_4320, L_22500, le_t, le_f, lt_t, lt_f, eq_t, eq_f, eq_NO, NO_eq, NO_neg, MO_neg, bI_0, nI_add, pk_mul, pk_ds, rem_, nI_MO, nI_0MO, ↓reduceIte, eq_self, reduceCtorEq, Bool.true_eq_false, Bool.false_eq_true, isZn0, isZn1, isZb, bind_some', rI_some, rV_some, rQ_some, rQ_null, updA_at, updA_ne, pk_us, pk_un, ne_eq, not_false_eq_true, Nat.reduceEqDiff, updA_updA, Nat.reduceSub, Nat.reduceAdd, Nat.reduceMul, Nat.reduceDiv, Nat.zero_add, Nat.add_zero, mkR_o, mkR_g0, mkR_p0, mkR_g1, mkR_l1, mkR_n1, mkR_s1, mkR_g2, mkR_l2, mkR_n2, mkR_s2, mkR_g3, mkR_p3, mkR_g4, mkR_l4, mkR_n4, mkR_s4, mkR_g5, mkR_l5, mkR_n5, mkR_s5, mkR_g6, mkR_l6, mkR_n6, mkR_s6, mkR_t6, mkR_f6, mkR_g7, mkR_l7, mkR_n7, mkR_s7, mkR_g8, mkR_l8, mkR_n8, mkR_s8, mkR_g9, mkR_l9, mkR_n9, mkR_s9, mkR_g10, mkR_l10, mkR_n10, mkR_s10, mkR_g11, mkR_l11, mkR_n11, mkR_s11, mkR_g12, mkR_p12, mkR_g13, mkR_l13, mkR_n13, mkR_s13, mkR_t13, mkR_f13, mkR_g14, mkR_l14, mkR_n14, mkR_s14, mkR_g15, mkR_l15, mkR_n15, mkR_s15, mkR_g16, mkR_p16, mkR_g17, mkR_l17, mkR_n17, mkR_s17, mkR_t17, mkR_f17, mkR_g18, mkR_l18, mkR_n18, mkR_s18, mkR_t18, mkR_f18, mkR_g19, mkR_l19, mkR_n19, mkR_s19, mkR_g20, mkR_l20, mkR_n20, mkR_s20, mkR_g21, mkR_l21, mkR_n21, mkR_s21, mkR_g22, mkR_p22, mkR_g23, mkR_p23, mkR_g24, mkR_p24, mkR_g25, mkR_l25, mkR_n25, mkR_s25, mkR_g26, mkR_l26, mkR_n26, mkR_s26, mkR_g27, mkR_l27, mkR_n27, mkR_s27, mkR_g28, mkR_p28, mkR_g29, mkR_p29, mkR_g30, mkR_l30, mkR_n30, mkR_s30, mkR_g31, mkR_p31, mkR_g32, mkR_l32, mkR_n32, mkR_s32, mkR_g33, mkR_l33, mkR_n33, mkR_s33, mkR_g34, mkR_l34, mkR_n34, mkR_s34, mkR_t34, mkR_f34, mkR_g35, mkR_l35, mkR_n35, mkR_s35, mkR_g36, mkR_l36, mkR_n36, mkR_s36, mkR_g37, mkR_l37, mkR_n37, mkR_s37, mkR_g38, mkR_l38, mkR_n38, mkR_s38, mkR_g39, mkR_l39, mkR_n39, mkR_s39, mkR_g40, mkR_l40, mkR_n40, mkR_s40, mkR_g41, mkR_l41, mkR_n41, mkR_s41, q1, e]
      rfl
    · rw [if_neg (fun e2 => e (beq_iff_eq.mp e2)), ← ih (j + 1) (by omega)]
      simp (disch := omega) only [nd_127_23 (St_run d mt_127), ↓L_m4, ↓L_m1, L_0, L_1, L_2, L_3, L_4, L_5, L_6, L_8, L_9, L_15, L_20, L_30, L_40, L_54, L_60, L_120, L_1872, L_4320, L_22500, le_t, le_f, lt_t, lt_f, eq_t, eq_f, eq_NO, NO_eq, NO_neg, MO_neg, bI_0, nI_add, pk_mul, pk_ds, rem_, nI_MO, nI_0MO, ↓reduceIte, eq_self, reduceCtorEq, Bool.true_eq_false, Bool.false_eq_true, isZn0, isZn1, isZb, bind_some', rI_some, rV_some, rQ_some, rQ_null, updA_at, updA_ne, pk_us, pk_un, ne_eq, not_false_eq_true, Nat.reduceEqDiff, updA_updA, Nat.reduceSub, Nat.reduceAdd, Nat.reduceMul, Nat.reduceDiv, Nat.zero_add, Nat.add_zero, mkR_o, mkR_g0, mkR_p0, mkR_g1, mkR_l1, mkR_n1, mkR_s1, mkR_g2, mkR_l2, mkR_n2, mkR_s2, mkR_g3, mkR_p3, mkR_g4, mkR_l4, mkR_n4, mkR_s4, mkR_g5, mkR_l5, mkR_n5, mkR_s5, mkR_g6, mkR_l6, mkR_n6, mkR_s6, mkR_t6, mkR_f6, mkR_g7, mkR_l7, mkR_n7, mkR_s7, mkR_g8, mkR_l8, mkR_n8, mkR_s8, mkR_g9, mkR_l9, mkR_n9, mkR_s9, mkR_g10, mkR_l10, mkR_n10, mkR_s10, mkR_g11, mkR_l11, mkR_n11, mkR_s11, mkR_g12, mkR_p12, mkR_g13, mkR_l13, mkR_n13, mkR_s13, mkR_t13, mkR_f13, mkR_g14, mkR_l14, mkR_n14, mkR_s14, mkR_g15, mkR_l15, mkR_n15, mkR_s15, mkR_g16, mkR_p16, mkR_g17, mkR_l17, mkR_n17, mkR_s17, mkR_t17, mkR_f17, mkR_g18, mkR_l18, mkR_n18, mkR_s18, mkR_t18, mkR_f18, mkR_g19, mkR_l19, mkR_n19, mkR_s19, mkR_g20, mkR_l20, mkR_n20, mkR_s20, mkR_g21, mkR_l21, mkR_n21, mkR_s21, mkR_g22, mkR_p22, mkR_g23, mkR_p23, mkR_g24, mkR_p24, mkR_g25, mkR_l25, mkR_n25, mkR_s25, mkR_g26, mkR_l26, mkR_n26, mkR_s26, mkR_g27, mkR_l27, mkR_n27, mkR_s27, mkR_g28, mkR_p28, mkR_g29, mkR_p29, mkR_g30, mkR_l30, mkR_n30, mkR_s30, mkR_g31, mkR_p31, mkR_g32, mkR_l32, mkR_n32, mkR_s32, mkR_g33, mkR_l33, mkR_n33, mkR_s33, mkR_g34, mkR_l34, mkR_n34, mkR_s34, mkR_t34, mkR_f34, mkR_g35, mkR_l35, mkR_n35, mkR_s35, mkR_g36, mkR_l36, mkR_n36, mkR_s36, mkR_g37, mkR_l37, mkR_n37, mkR_s37, mkR_g38, mkR_l38, mkR_n38, mkR_s38, mkR_g39, mkR_l39, mkR_n39, mkR_s39, mkR_g40, mkR_l40, mkR_n40, mkR_s40, mkR_g41, mkR_l41, mkR_n41, mkR_s41, q1]
theorem R_pairAt {A : Nat → Nat → Int32} {q : Nat → Nat} {n p : Nat} (hn : n ≤ 6) (hp : p < 36) (hq : ∀ j, j < n → A 9 j = nI (q j) ∧ q j < 36) : call (d + 1) 127 [.ref a, .int (nI p), .int (nI n)] (mkR h a I A) = some (some (.int (nI ((fnd q p n).getD n))), mkR h a I A) := by
  rw [call_at mt_127 [some (.ref a), some (.int (nI p)), some (.int (nI n)), none] rfl rfl rfl, nd_127_0 (St_run d mt_127)]
  exact l_pairAt hn hp hq n 0 (by omega)
/-- the reference's state of the joining -/
def RJ (A : Nat → Nat → Int32) (rg z : Nat) (J : JS) : Prop := (∀ j, j < J.1 → A 9 j = nI (J.2.1 j)) ∧ (∀ y, y < z → vcs rg (y % 3) = true → A 10 y = nI (J.2.2.1 y) ∧ A 11 y = kI (J.2.2.2 y))
/-- which of the two has registers -/
def onI (U : TM) (ia ib : Nat) : Nat := if 0 < U.1.2 then ib else ia
theorem on_ok {A : Nat → Nat → Int32} (hT : WFT T) (hU : WFT U) (iT : isT A ia T) (iU : isT A ib U) (h0 : T.1.2 = 0 ∨ U.1.2 = 0) : A 5 (onI U ia ib) = nI (jrg T U) ∧ (onI U ia ib = ia ↔ U.1.2 = 0) ∧ (∀ w, vcs (jrg T U) w = true → (if onI U ia ib = ia then w else 2) = jA T w ∧ (if onI U ia ib = ib then w else 2) = jA U w) := by
  have rT := hT.2.2.1
  have rU := hU.2.2.1
  unfold onI jrg
  by_cases z : 0 < U.1.2
  · have zT : T.1.2 = 0 := by omega
    have ne : ib ≠ ia := by
      rintro rfl
      have := iT.2.1.symm.trans iU.2.1
      rw [nI_eq (by omega) (by omega)] at this
      omega
    rw [if_pos z]
    refine ⟨by rw [iU.2.1, zT, Nat.max_eq_right (Nat.zero_le _)], ⟨fun e => absurd e ne, fun e => by omega⟩, fun w hv => ?_⟩
    rw [if_neg ne, if_pos rfl]
    unfold jA
    rw [if_neg (by omega), if_pos z]
    exact ⟨rfl, rfl⟩
  · have zU : U.1.2 = 0 := by omega
    rw [if_neg z]
    refine ⟨by rw [iT.2.1, zU, Nat.max_eq_left (Nat.zero_le _)], ⟨fun _ => zU, fun _ => rfl⟩, fun w hv => ?_⟩
    rw [if_pos rfl]
    have key : T.1.2 = 0 → w = 2 := fun e => by
      unfold vcs at hv
      rw [Bool.or_eq_true, beq_iff_eq, decide_eq_true_eq] at hv
      omega
    unfold jA
    rw [if_neg z]
    constructor
    · split
      · rfl
      · exact key (by omega)
    · by_cases e : ia = ib
      · rw [if_pos e]
        subst e
        have := iT.2.1.symm.trans iU.2.1
        rw [nI_eq (by omega) (by omega)] at this
        exact key (by omega)
      · rw [if_neg e]
theorem R_jst (hT : WFT T) (hU : WFT U) (h0 : T.1.2 = 0 ∨ U.1.2 = 0) (ha : ia < 6) (hb : ib < 6) (x3 : Int32) (k i : Nat) (hi : i < 9) {A : Nat → Nat → Int32} {J : JS} (iT : isT A ia T) (iU : isT A ib U) (g : JI T U (9 * k + i) J) (hk : k < J.1) (r : RJ A (jrg T U) (9 * k + i) J) : (∀ K, jst T U k i J = some K → ∃ A', run (d + 2) mt_128 90 [some (.ref a), some (.int (nI ia)), some (.int (nI ib)), some (.int x3), some (.int (nI (onI U ia ib))), some (.int (nI J.1)), some (.int (nI k)), some (.int (nI i)), none, none, none, none, none] [] (mkR h a I A) = run (d + 2) mt_128 90 [some (.ref a), some (.int (nI ia)), some (.int (nI ib)), some (.int x3), some (.int (nI (onI U ia ib))), some (.int (nI K.1)), some (.int (nI k)), some (.int (nI (i + 1))), none, none, none, none, none] [] (mkR h a I A') ∧ RJ A' (jrg T U) (9 * k + (i + 1)) K ∧ fra I I A A' [] [9, 10, 11]) ∧ (jst T U k i J = none → ∃ A', run (d + 2) mt_128 90 [some (.ref a), some (.int (nI ia)), some (.int (nI ib)), some (.int x3), some (.int (nI (onI U ia ib))), some (.int (nI J.1)), some (.int (nI k)), some (.int (nI i)), none, none, none, none, none] [] (mkR h a I A) = some (some (.int (-2)), mkR h a I A') ∧ fra I I A A' [] [9, 10, 11]) := by
  have gk := g.2.2.1 k hk
  have n6 := g.2.1
  have t6 := hT.2.1
  have u6 := hU.2.1
  have rT := hT.2.2.1
  have rU := hU.2.2.1
  have rg2 : jrg T U ≤ 2 := by unfold jrg; omega
  have on6 : onI U ia ib < 6 := by unfold onI; split <;> assumption
  obtain ⟨o1, o2, o3⟩ := on_ok hT hU iT iU h0
  obtain ⟨p1, p2, p3, p4, p5⟩ := jp_ok (i := i) hT hU gk hi
  have jp36 : jp T U J k i < 36 := by omega
  have q36 : J.2.1 k < 36 := by omega
  have hq : ∀ j, j < J.1 → A 9 j = nI (J.2.1 j) ∧ J.2.1 j < 36 := fun j hj => ⟨r.1 j hj, by have := g.2.2.1 j hj; omega⟩
  have a9 := r.1 k hk
  have ic := R_isCase (d := d) (a := a) (h := h) (I := I) (A := A) (onI U ia ib) (i % 3) (jrg T U) on6 (by omega) rg2 o1
  have e288 : ∀ (n : Nat) J2 C, run (d + 2) mt_128 288 [some (.ref a), some (.int (nI ia)), some (.int (nI ib)), some (.int x3), some (.int (nI (onI U ia ib))), some (.int (nI n)), some (.int (nI k)), some (.int (nI i)), none, none, none, none, none] [] (mkR h a J2 C) = run (d + 2) mt_128 90 [some (.ref a), some (.int (nI ia)), some (.int (nI ib)), some (.int x3), some (.int (nI (onI U ia ib))), some (.int (nI n)), some (.int (nI k)), some (.int (nI (i + 1))), none, none, none, none, none] [] (mkR h a J2 C) := fun n J2 C => by
    rw [nd_128_288 (St_run (d + 2) mt_128), nI_1]
  rw [nd_128_90 (St_run (d + 2) mt_128)]
  unfold jst
  cases hv : vcs (jrg T U) (i % 3) with
  | false =>
    rw [hv] at ic
    rw [if_neg (show ¬ false = true by decide)]
    refine ⟨fun K hK => ?_, fun hK => by cases hK⟩
    cases hK
    refine ⟨A, ?_, ⟨r.1, fun y hy hv2 => ?_⟩, fra.rf _ _ _ _⟩
    · simp (disch := omega) only [↓L_m4, ↓L_m1, L_0, L_1, L_2, L_3, L_4, L_5, L_6, L_8, L_9, L_15, L_20, L_30, L_40, L_54, L_60, L_120, L_1872, L_4320, L_22500, le_t, le_f, lt_t, lt_f, eq_t, eq_f, eq_NO, NO_eq, NO_neg, MO_neg, bI_0, nI_add, pk_mul, pk_ds, rem_, nI_MO, nI_0MO, ↓reduceIte, eq_self, reduceCtorEq, Bool.true_eq_false, Bool.false_eq_true, isZn0, isZn1, isZb, bind_some', rI_some, rV_some, rQ_some, rQ_null, updA_at, updA_ne, pk_us, pk_un, ne_eq, not_false_eq_true, Nat.reduceEqDiff, updA_updA, Nat.reduceSub, Nat.reduceAdd, Nat.reduceMul, Nat.reduceDiv, Nat.zero_add, Nat.add_zero, mkR_o, mkR_g0, mkR_p0, mkR_g1, mkR_l1, mkR_n1, mkR_s1, mkR_g2, mkR_l2, mkR_n2, mkR_s2, mkR_g3, mkR_p3, mkR_g4, mkR_l4, mkR_n4, mkR_s4, mkR_g5, mkR_l5, mkR_n5, mkR_s5, mkR_g6, mkR_l6, mkR_n6, mkR_s6, mkR_t6, mkR_f6, mkR_g7, mkR_l7, mkR_n7, mkR_s7, mkR_g8, mkR_l8, mkR_n8, mkR_s8, mkR_g9, mkR_l9, mkR_n9, mkR_s9, mkR_g10, mkR_l10, mkR_n10, mkR_s10, mkR_g11, mkR_l11, mkR_n11, mkR_s11, mkR_g12, mkR_p12, mkR_g13, mkR_l13, mkR_n13, mkR_s13, mkR_t13, mkR_f13, mkR_g14, mkR_l14, mkR_n14, mkR_s14, mkR_g15, mkR_l15, mkR_n15, mkR_s15, mkR_g16, mkR_p16, mkR_g17, mkR_l17, mkR_n17, mkR_s17, mkR_t17, mkR_f17, mkR_g18, mkR_l18, mkR_n18, mkR_s18, mkR_t18, mkR_f18, mkR_g19, mkR_l19, mkR_n19, mkR_s19, mkR_g20, mkR_l20, mkR_n20, mkR_s20, mkR_g21, mkR_l21, mkR_n21, mkR_s21, mkR_g22, mkR_p22, mkR_g23, mkR_p23, mkR_g24, mkR_p24, mkR_g25, mkR_l25, mkR_n25, mkR_s25, mkR_g26, mkR_l26, mkR_n26, mkR_s26, mkR_g27, mkR_l27, mkR_n27, mkR_s27, mkR_g28, mkR_p28, mkR_g29, mkR_p29, mkR_g30, mkR_l30, mkR_n30, mkR_s30, mkR_g31, mkR_p31, mkR_g32, mkR_l32, mkR_n32, mkR_s32, mkR_g33, mkR_l33, mkR_n33, mkR_s33, mkR_g34, mkR_l34, mkR_n34, mkR_s34, mkR_t34, mkR_f34, mkR_g35, mkR_l35, mkR_n35, mkR_s35, mkR_g36, mkR_l36, mkR_n36, mkR_s36, mkR_g37, mkR_l37, mkR_n37, mkR_s37, mkR_g38, mkR_l38, mkR_n38, mkR_s38, mkR_g39, mkR_l39, mkR_n39, mkR_s39, mkR_g40, mkR_l40, mkR_n40, mkR_s40, mkR_g41, mkR_l41, mkR_n41, mkR_s41, ic]
      exact e288 _ _ _
    · by_cases e : y = 9 * k + i
      · rw [e, show (9 * k + i) % 3 = i % 3 by omega, hv] at hv2; cases hv2
      · exact r.2 y (by omega) hv2
  | true =>
    rw [hv] at ic
    rw [if_pos (show true = true by rfl)]
    obtain ⟨wA, wB⟩ := o3 _ hv
    have xA : 54 * ia + 9 * (J.2.1 k / 6) + 3 * (i / 3) + jA T (i % 3) = 54 * ia + jxA T J k i := by unfold jxA; omega
    have xB : 54 * ib + 9 * (J.2.1 k % 6) + 3 * (i / 3) + jA U (i % 3) = 54 * ib + jxB U J k i := by unfold jxB; omega
    have nA := iT.n (i := 54 * ia + jxA T J k i) p1 rfl
    have nB := iU.n (i := 54 * ib + jxB U J k i) p2 rfl
    have kA := iT.k (i := 54 * ia + jxA T J k i) p1 rfl
    have kB := iU.k (i := 54 * ib + jxB U J k i) p2 rfl
    have ejp : 6 * T.2.1 (jxA T J k i) + U.2.1 (jxB U J k i) = jp T U J k i := rfl
    have pat := R_pairAt (d := d + 1) (a := a) (h := h) (I := I) (A := A) n6 jp36 hq
    -- the two tests of which
    have h141 : ∀ (x8 s0 s1 s2 s3 : Int32), (if nI (onI U ia ib) = nI ia then run (d + 2) mt_128 141 [some (.ref a), some (.int (nI ia)), some (.int (nI ib)), some (.int x3), some (.int (nI (onI U ia ib))), some (.int (nI J.1)), some (.int (nI k)), some (.int (nI i)), some (.int x8), none, none, none, none] [.int (nI (i % 3)), .int s1, .int s2, .int s3] (mkR h a I A) else run (d + 2) mt_128 141 [some (.ref a), some (.int (nI ia)), some (.int (nI ib)), some (.int x3), some (.int (nI (onI U ia ib))), some (.int (nI J.1)), some (.int (nI k)), some (.int (nI i)), some (.int x8), none, none, none, none] [.int (nI 2), .int s1, .int s2, .int s3] (mkR h a I A)) = run (d + 2) mt_128 141 [some (.ref a), some (.int (nI ia)), some (.int (nI ib)), some (.int x3), some (.int (nI (onI U ia ib))), some (.int (nI J.1)), some (.int (nI k)), some (.int (nI i)), some (.int x8), none, none, none, none] [.int (nI (jA T (i % 3))), .int s1, .int s2, .int s3] (mkR h a I A) := fun x8 s0 s1 s2 s3 => by
      rw [← wA]
      by_cases e : onI U ia ib = ia
      · rw [if_pos (congrArg nI e), if_pos e]
      · rw [if_neg (fun e2 => e ((nI_eq (by omega) (by omega)).mp e2)), if_neg e]
    have h173 : ∀ (x9 s1 s2 s3 : Int32), (if nI (onI U ia ib) = nI ib then run (d + 2) mt_128 173 [some (.ref a), some (.int (nI ia)), some (.int (nI ib)), some (.int x3), some (.int (nI (onI U ia ib))), some (.int (nI J.1)), some (.int (nI k)), some (.int (nI i)), none, some (.int x9), none, none, none] [.int (nI (i % 3)), .int s1, .int s2, .int s3] (mkR h a I A) else run (d + 2) mt_128 173 [some (.ref a), some (.int (nI ia)), some (.int (nI ib)), some (.int x3), some (.int (nI (onI U ia ib))), some (.int (nI J.1)), some (.int (nI k)), some (.int (nI i)), none, some (.int x9), none, none, none] [.int (nI 2), .int s1, .int s2, .int s3] (mkR h a I A)) = run (d + 2) mt_128 173 [some (.ref a), some (.int (nI ia)), some (.int (nI ib)), some (.int x3), some (.int (nI (onI U ia ib))), some (.int (nI J.1)), some (.int (nI k)), some (.int (nI i)), none, some (.int x9), none, none, none] [.int (nI (jA U (i % 3))), .int s1, .int s2, .int s3] (mkR h a I A) := fun x9 s1 s2 s3 => by
      rw [← wB]
      by_cases e : onI U ia ib = ib
      · rw [if_pos (congrArg nI e), if_pos e]
      · rw [if_neg (fun e2 => e ((nI_eq (by omega) (by omega)).mp e2)), if_neg e]
    -- behind the number
    have wr : ∀ (J1 : JS) (A1 : Nat → Nat → Int32) (j : Nat), j < 100 → (∀ j, j < J1.1 → A1 9 j = nI (J1.2.1 j)) → J1.2.2 = J.2.2 → fra I I A A1 [] [9, 10, 11] → A1 10 = A 10 → A1 11 = A 11 → ∃ A', run (d + 2) mt_128 237 [some (.ref a), some (.int (nI ia)), some (.int (nI ib)), some (.int x3), some (.int (nI (onI U ia ib))), some (.int (nI J1.1)), some (.int (nI k)), some (.int (nI i)), none, some (.int (nI (54 * ia + jxA T J k i))), some (.int (nI (54 * ib + jxB U J k i))), none, some (.int (nI j))] [] (mkR h a I A1) = run (d + 2) mt_128 90 [some (.ref a), some (.int (nI ia)), some (.int (nI ib)), some (.int x3), some (.int (nI (onI U ia ib))), some (.int (nI J1.1)), some (.int (nI k)), some (.int (nI (i + 1))), none, none, none, none, none] [] (mkR h a I A') ∧ RJ A' (jrg T U) (9 * k + (i + 1)) (jw J1 (9 * k + i) j (jk T U J k i)) ∧ fra I I A A' [] [9, 10, 11] := by
      intro J1 A1 j hj y1 y2 y3 y10 y11
      have kA1 : A1 8 (54 * ia + jxA T J k i) = kI (T.2.2.1 (jxA T J k i)) := by rw [y3.2 8 (by decide)]; exact kA
      have kB1 : A1 8 (54 * ib + jxB U J k i) = kI (U.2.2.1 (jxB U J k i)) := by rw [y3.2 8 (by decide)]; exact kB
      refine ⟨updA (updA A1 10 (upd (A1 10) (9 * k + i) (nI j))) 11 (upd (A1 11) (9 * k + i) (kI (jk T U J k i))), ?_, ⟨y1, fun y hy hv2 => ?_⟩, (y3.w _ (by decide)).w _ (by decide)⟩
      · rw [nd_128_237 (St_run (d + 2) mt_128)]
        have ejk : jk T U J k i = if 0 < U.1.2 then U.2.2.1 (jxB U J k i) else T.2.2.1 (jxA T J k i) := rfl
        by_cases zU : U.1.2 = 0
        · rw [if_neg (by omega)] at ejk
          rw [← ejk] at kA1
          have eo := o2.mpr zU
          rw [eo]
          rw [eo] at e288
          simp (disch := omega) only [nd_128_287 (St_run (d + 2) mt_128), ↓L_m4, ↓L_m1, L_0, L_1, L_2, L_3, L_4, L_5, L_6, L_8, L_9, L_15, L_20, L_30, L_40, L_54, L_60, L_120, L_1872, L_4320, L_22500, le_t, le_f, lt_t, lt_f, eq_t, eq_f, eq_NO, NO_eq, NO_neg, MO_neg, bI_0, nI_add, pk_mul, pk_ds, rem_, nI_MO, nI_0MO, ↓reduceIte, eq_self, reduceCtorEq, Bool.true_eq_false, Bool.false_eq_true, isZn0, isZn1, isZb, bind_some', rI_some, rV_some, rQ_some, rQ_null, updA_at, updA_ne, pk_us, pk_un, ne_eq, not_false_eq_true, Nat.reduceEqDiff, updA_updA, Nat.reduceSub, Nat.reduceAdd, Nat.reduceMul, Nat.reduceDiv, Nat.zero_add, Nat.add_zero, mkR_o, mkR_g0, mkR_p0, mkR_g1, mkR_l1, mkR_n1, mkR_s1, mkR_g2, mkR_l2, mkR_n2, mkR_s2, mkR_g3, mkR_p3, mkR_g4, mkR_l4, mkR_n4, mkR_s4, mkR_g5, mkR_l5, mkR_n5, mkR_s5, mkR_g6, mkR_l6, mkR_n6, mkR_s6, mkR_t6, mkR_f6, mkR_g7, mkR_l7, mkR_n7, mkR_s7, mkR_g8, mkR_l8, mkR_n8, mkR_s8, mkR_g9, mkR_l9, mkR_n9, mkR_s9, mkR_g10, mkR_l10, mkR_n10, mkR_s10, mkR_g11, mkR_l11, mkR_n11, mkR_s11, mkR_g12, mkR_p12, mkR_g13, mkR_l13, mkR_n13, mkR_s13, mkR_t13, mkR_f13, mkR_g14, mkR_l14, mkR_n14, mkR_s14, mkR_g15, mkR_l15, mkR_n15, mkR_s15, mkR_g16, mkR_p16, mkR_g17, mkR_l17, mkR_n17, mkR_s17, mkR_t17, mkR_f17, mkR_g18, mkR_l18, mkR_n18, mkR_s18, mkR_t18, mkR_f18, mkR_g19, mkR_l19, mkR_n19, mkR_s19, mkR_g20, mkR_l20, mkR_n20, mkR_s20, mkR_g21, mkR_l21, mkR_n21, mkR_s21, mkR_g22, mkR_p22, mkR_g23, mkR_p23, mkR_g24, mkR_p24, mkR_g25, mkR_l25, mkR_n25, mkR_s25, mkR_g26, mkR_l26, mkR_n26, mkR_s26, mkR_g27, mkR_l27, mkR_n27, mkR_s27, mkR_g28, mkR_p28, mkR_g29, mkR_p29, mkR_g30, mkR_l30, mkR_n30, mkR_s30, mkR_g31, mkR_p31, mkR_g32, mkR_l32, mkR_n32, mkR_s32, mkR_g33, mkR_l33, mkR_n33, mkR_s33, mkR_g34, mkR_l34, mkR_n34, mkR_s34, mkR_t34, mkR_f34, mkR_g35, mkR_l35, mkR_n35, mkR_s35, mkR_g36, mkR_l36, mkR_n36, mkR_s36, mkR_g37, mkR_l37, mkR_n37, mkR_s37, mkR_g38, mkR_l38, mkR_n38, mkR_s38, mkR_g39, mkR_l39, mkR_n39, mkR_s39, mkR_g40, mkR_l40, mkR_n40, mkR_s40, mkR_g41, mkR_l41, mkR_n41, mkR_s41, kA1, e288]
        · rw [if_pos (by omega)] at ejk
          rw [← ejk] at kB1
          have eo : onI U ia ib ≠ ia := fun e => zU (o2.mp e)
          simp (disch := omega) only [nd_128_287 (St_run (d + 2) mt_128), ↓L_m4, ↓L_m1, L_0, L_1, L_2, L_3, L_4, L_5, L_6, L_8, L_9, L_15, L_20, L_30, L_40, L_54, L_60, L_120, L_1872, L_4320, L_22500, le_t, le_f, lt_t, lt_f, eq_t, eq_f, eq_NO, NO_eq, NO_neg, MO_neg, bI_0, nI_add, pk_mul, pk_ds, rem_, nI_MO, nI_0MO, ↓reduceIte, eq_self, reduceCtorEq, Bool.true_eq_false, Bool.false_eq_true, isZn0, isZn1, isZb, bind_some', rI_some, rV_some, rQ_some, rQ_null, updA_at, updA_ne, pk_us, pk_un, ne_eq, not_false_eq_true, Nat.reduceEqDiff, updA_updA, Nat.reduceSub, Nat.reduceAdd, Nat.reduceMul, Nat.reduceDiv, Nat.zero_add, Nat.add_zero, mkR_o, mkR_g0, mkR_p0, mkR_g1, mkR_l1, mkR_n1, mkR_s1, mkR_g2, mkR_l2, mkR_n2, mkR_s2, mkR_g3, mkR_p3, mkR_g4, mkR_l4, mkR_n4, mkR_s4, mkR_g5, mkR_l5, mkR_n5, mkR_s5, mkR_g6, mkR_l6, mkR_n6, mkR_s6, mkR_t6, mkR_f6, mkR_g7, mkR_l7, mkR_n7, mkR_s7, mkR_g8, mkR_l8, mkR_n8, mkR_s8, mkR_g9, mkR_l9, mkR_n9, mkR_s9, mkR_g10, mkR_l10, mkR_n10, mkR_s10, mkR_g11, mkR_l11, mkR_n11, mkR_s11, mkR_g12, mkR_p12, mkR_g13, mkR_l13, mkR_n13, mkR_s13, mkR_t13, mkR_f13, mkR_g14, mkR_l14, mkR_n14, mkR_s14, mkR_g15, mkR_l15, mkR_n15, mkR_s15, mkR_g16, mkR_p16, mkR_g17, mkR_l17, mkR_n17, mkR_s17, mkR_t17, mkR_f17, mkR_g18, mkR_l18, mkR_n18, mkR_s18, mkR_t18, mkR_f18, mkR_g19, mkR_l19, mkR_n19, mkR_s19, mkR_g20, mkR_l20, mkR_n20, mkR_s20, mkR_g21, mkR_l21, mkR_n21, mkR_s21, mkR_g22, mkR_p22, mkR_g23, mkR_p23, mkR_g24, mkR_p24, mkR_g25, mkR_l25, mkR_n25, mkR_s25, mkR_g26, mkR_l26, mkR_n26, mkR_s26, mkR_g27, mkR_l27, mkR_n27, mkR_s27, mkR_g28, mkR_p28, mkR_g29, mkR_p29, mkR_g30, mkR_l30, mkR_n30, mkR_s30, mkR_g31, mkR_p31, mkR_g32, mkR_l32, mkR_n32, mkR_s32, mkR_g33, mkR_l33, mkR_n33, mkR_s33, mkR_g34, mkR_l34, mkR_n34, mkR_s34, mkR_t34, mkR_f34, mkR_g35, mkR_l35, mkR_n35, mkR_s35, mkR_g36, mkR_l36, mkR_n36, mkR_s36, mkR_g37, mkR_l37, mkR_n37, mkR_s37, mkR_g38, mkR_l38, mkR_n38, mkR_s38, mkR_g39, mkR_l39, mkR_n39, mkR_s39, mkR_g40, mkR_l40, mkR_n40, mkR_s40, mkR_g41, mkR_l41, mkR_n41, mkR_s41, kB1, e288]
      · show upd (A1 10) (9 * k + i) (nI j) y = nI (updN J1.2.2.1 (9 * k + i) j y) ∧ upd (A1 11) (9 * k + i) _ y = kI (updN J1.2.2.2 (9 * k + i) _ y)
        rw [y2, y10, y11]
        by_cases e : y = 9 * k + i
        · rw [e, pk_us, pk_us, updN_at, updN_at]
          exact ⟨rfl, rfl⟩
        · rw [pk_un e, pk_un e, updN_ne e, updN_ne e]
          exact r.2 y (by omega) hv2
    have sA : ∀ x : Int32, x = nI (jA T (i % 3)) → call (d + 2) 115 [.int (nI ia), .int (nI (J.2.1 k / 6)), .int (nI (i / 3)), .int x] (mkR h a I A) = some (some (.int (nI (54 * ia + jxA T J k i))), mkR h a I A) := fun x hx => by
      rw [r_stepAt, hx, ← xA]
      show some (some (Value.int (nI 54 * nI ia + nI 9 * nI (J.2.1 k / 6) + nI 3 * nI (i / 3) + nI _)), _) = _
      rw [pk_mul, pk_mul, pk_mul, nI_add, nI_add, nI_add]
    have sB : call (d + 2) 115 [.int (nI ib), .int (nI (J.2.1 k % 6)), .int (nI (i / 3)), .int (nI (jA U (i % 3)))] (mkR h a I A) = some (some (.int (nI (54 * ib + jxB U J k i))), mkR h a I A) := by
      rw [r_stepAt, ← xB]
      show some (some (Value.int (nI 54 * nI ib + nI 9 * nI (J.2.1 k % 6) + nI 3 * nI (i / 3) + nI _)), _) = _
      rw [pk_mul, pk_mul, pk_mul, nI_add, nI_add, nI_add]
    have head : ∀ X : Option RV, ((call (d + 2) 127 [.ref a, .int (nI (jp T U J k i)), .int (nI J.1)] (mkR h a I A)).bind fun q8 => rI q8 fun v10 h9 => if v10 = nI 6 then (some (some (.int (-2)), h9)) else (if v10 = nI J.1 then (gfQ h9 a 8 9 none fun b11 => stI h9 b11 (nI J.1) (nI (jp T U J k i)) fun h12 => run (d + 2) mt_128 237 [some (.ref a), some (.int (nI ia)), some (.int (nI ib)), some (.int x3), some (.int (nI (onI U ia ib))), some (.int (nI (J.1 + 1))), some (.int (nI k)), some (.int (nI i)), none, some (.int (nI (54 * ia + jxA T J k i))), some (.int (nI (54 * ib + jxB U J k i))), none, some (.int v10)] [] h12) else (run (d + 2) mt_128 237 [some (.ref a), some (.int (nI ia)), some (.int (nI ib)), some (.int x3), some (.int (nI (onI U ia ib))), some (.int (nI J.1)), some (.int (nI k)), some (.int (nI i)), none, some (.int (nI (54 * ia + jxA T J k i))), some (.int (nI (54 * ib + jxB U J k i))), none, some (.int v10)] [] h9))) = X → (if 9 ≤ nI i then (run (d + 2) mt_128 80 [some (.ref a), some (.int (nI ia)), some (.int (nI ib)), some (.int x3), some (.int (nI (onI U ia ib))), some (.int (nI J.1)), some (.int (nI k + 1)), none, none, none, none, none, none] [] (mkR h a I A)) else (isO (mkR h a I A) a 8 ((call (d + 2) 116 [.ref a, .int (nI (onI U ia ib)), .int (nI i - nI i / 3 * 3)] (mkR h a I A)).bind fun q1 => rI q1 fun v3 h2 => if v3 = 0 then (run (d + 2) mt_128 288 [some (.ref a), some (.int (nI ia)), some (.int (nI ib)), some (.int x3), some (.int (nI (onI U ia ib))), some (.int (nI J.1)), some (.int (nI k)), some (.int (nI i)), none, none, none, none, none] [] h2) else (gfQ h2 a 8 9 none fun b4 => ldI h2 b4 (nI k) fun v5 => if nI (onI U ia ib) = nI ia then (run (d + 2) mt_128 141 [some (.ref a), some (.int (nI ia)), some (.int (nI ib)), some (.int x3), some (.int (nI (onI U ia ib))), some (.int (nI J.1)), some (.int (nI k)), some (.int (nI i)), some (.int (nI i - nI i / 3 * 3)), none, none, none, none] [.int (nI i - nI i / 3 * 3), .int (nI i / 3), .int (v5 / 6), .int (nI ia)] h2) else (run (d + 2) mt_128 141 [some (.ref a), some (.int (nI ia)), some (.int (nI ib)), some (.int x3), some (.int (nI (onI U ia ib))), some (.int (nI J.1)), some (.int (nI k)), some (.int (nI i)), some (.int (nI i - nI i / 3 * 3)), none, none, none, none] [.int 2, .int (nI i / 3), .int (v5 / 6), .int (nI ia)] h2))))) = X := by
      intro X hX
      rw [← hX]
      simp (disch := omega) only [↓L_m4, ↓L_m1, L_0, L_1, L_2, L_3, L_4, L_5, L_6, L_8, L_9, L_15, L_20, L_30, L_40, L_54, L_60, L_120, L_1872, L_4320, L_22500, le_t, le_f, lt_t, lt_f, eq_t, eq_f, eq_NO, NO_eq, NO_neg, MO_neg, bI_0, nI_add, pk_mul, pk_ds, rem_, nI_MO, nI_0MO, ↓reduceIte, eq_self, reduceCtorEq, Bool.true_eq_false, Bool.false_eq_true, isZn0, isZn1, isZb, bind_some', rI_some, rV_some, rQ_some, rQ_null, updA_at, updA_ne, pk_us, pk_un, ne_eq, not_false_eq_true, Nat.reduceEqDiff, updA_updA, Nat.reduceSub, Nat.reduceAdd, Nat.reduceMul, Nat.reduceDiv, Nat.zero_add, Nat.add_zero, mkR_o, mkR_g0, mkR_p0, mkR_g1, mkR_l1, mkR_n1, mkR_s1, mkR_g2, mkR_l2, mkR_n2, mkR_s2, mkR_g3, mkR_p3, mkR_g4, mkR_l4, mkR_n4, mkR_s4, mkR_g5, mkR_l5, mkR_n5, mkR_s5, mkR_g6, mkR_l6, mkR_n6, mkR_s6, mkR_t6, mkR_f6, mkR_g7, mkR_l7, mkR_n7, mkR_s7, mkR_g8, mkR_l8, mkR_n8, mkR_s8, mkR_g9, mkR_l9, mkR_n9, mkR_s9, mkR_g10, mkR_l10, mkR_n10, mkR_s10, mkR_g11, mkR_l11, mkR_n11, mkR_s11, mkR_g12, mkR_p12, mkR_g13, mkR_l13, mkR_n13, mkR_s13, mkR_t13, mkR_f13, mkR_g14, mkR_l14, mkR_n14, mkR_s14, mkR_g15, mkR_l15, mkR_n15, mkR_s15, mkR_g16, mkR_p16, mkR_g17, mkR_l17, mkR_n17, mkR_s17, mkR_t17, mkR_f17, mkR_g18, mkR_l18, mkR_n18, mkR_s18, mkR_t18, mkR_f18, mkR_g19, mkR_l19, mkR_n19, mkR_s19, mkR_g20, mkR_l20, mkR_n20, mkR_s20, mkR_g21, mkR_l21, mkR_n21, mkR_s21, mkR_g22, mkR_p22, mkR_g23, mkR_p23, mkR_g24, mkR_p24, mkR_g25, mkR_l25, mkR_n25, mkR_s25, mkR_g26, mkR_l26, mkR_n26, mkR_s26, mkR_g27, mkR_l27, mkR_n27, mkR_s27, mkR_g28, mkR_p28, mkR_g29, mkR_p29, mkR_g30, mkR_l30, mkR_n30, mkR_s30, mkR_g31, mkR_p31, mkR_g32, mkR_l32, mkR_n32, mkR_s32, mkR_g33, mkR_l33, mkR_n33, mkR_s33, mkR_g34, mkR_l34, mkR_n34, mkR_s34, mkR_t34, mkR_f34, mkR_g35, mkR_l35, mkR_n35, mkR_s35, mkR_g36, mkR_l36, mkR_n36, mkR_s36, mkR_g37, mkR_l37, mkR_n37, mkR_s37, mkR_g38, mkR_l38, mkR_n38, mkR_s38, mkR_g39, mkR_l39, mkR_n39, mkR_s39, mkR_g40, mkR_l40, mkR_n40, mkR_s40, mkR_g41, mkR_l41, mkR_n41, mkR_s41, ic, a9]
      refine (h141 _ 0 _ _ _).trans ?_
      rw [nd_128_141 (St_run (d + 2) mt_128), sA _ rfl]
      simp (disch := omega) only [↓L_m4, ↓L_m1, L_0, L_1, L_2, L_3, L_4, L_5, L_6, L_8, L_9, L_15, L_20, L_30, L_40, L_54, L_60, L_120, L_1872, L_4320, L_22500, le_t, le_f, lt_t, lt_f, eq_t, eq_f, eq_NO, NO_eq, NO_neg, MO_neg, bI_0, nI_add, pk_mul, pk_ds, rem_, nI_MO, nI_0MO, ↓reduceIte, eq_self, reduceCtorEq, Bool.true_eq_false, Bool.false_eq_true, isZn0, isZn1, isZb, bind_some', rI_some, rV_some, rQ_some, rQ_null, updA_at, updA_ne, pk_us, pk_un, ne_eq, not_false_eq_true, Nat.reduceEqDiff, updA_updA, Nat.reduceSub, Nat.reduceAdd, Nat.reduceMul, Nat.reduceDiv, Nat.zero_add, Nat.add_zero, mkR_o, mkR_g0, mkR_p0, mkR_g1, mkR_l1, mkR_n1, mkR_s1, mkR_g2, mkR_l2, mkR_n2, mkR_s2, mkR_g3, mkR_p3, mkR_g4, mkR_l4, mkR_n4, mkR_s4, mkR_g5, mkR_l5, mkR_n5, mkR_s5, mkR_g6, mkR_l6, mkR_n6, mkR_s6, mkR_t6, mkR_f6, mkR_g7, mkR_l7, mkR_n7, mkR_s7, mkR_g8, mkR_l8, mkR_n8, mkR_s8, mkR_g9, mkR_l9, mkR_n9, mkR_s9, mkR_g10, mkR_l10, mkR_n10, mkR_s10, mkR_g11, mkR_l11, mkR_n11, mkR_s11, mkR_g12, mkR_p12, mkR_g13, mkR_l13, mkR_n13, mkR_s13, mkR_t13, mkR_f13, mkR_g14, mkR_l14, mkR_n14, mkR_s14, mkR_g15, mkR_l15, mkR_n15, mkR_s15, mkR_g16, mkR_p16, mkR_g17, mkR_l17, mkR_n17, mkR_s17, mkR_t17, mkR_f17, mkR_g18, mkR_l18, mkR_n18, mkR_s18, mkR_t18, mkR_f18, mkR_g19, mkR_l19, mkR_n19, mkR_s19, mkR_g20, mkR_l20, mkR_n20, mkR_s20, mkR_g21, mkR_l21, mkR_n21, mkR_s21, mkR_g22, mkR_p22, mkR_g23, mkR_p23, mkR_g24, mkR_p24, mkR_g25, mkR_l25, mkR_n25, mkR_s25, mkR_g26, mkR_l26, mkR_n26, mkR_s26, mkR_g27, mkR_l27, mkR_n27, mkR_s27, mkR_g28, mkR_p28, mkR_g29, mkR_p29, mkR_g30, mkR_l30, mkR_n30, mkR_s30, mkR_g31, mkR_p31, mkR_g32, mkR_l32, mkR_n32, mkR_s32, mkR_g33, mkR_l33, mkR_n33, mkR_s33, mkR_g34, mkR_l34, mkR_n34, mkR_s34, mkR_t34, mkR_f34, mkR_g35, mkR_l35, mkR_n35, mkR_s35, mkR_g36, mkR_l36, mkR_n36, mkR_s36, mkR_g37, mkR_l37, mkR_n37, mkR_s37, mkR_g38, mkR_l38, mkR_n38, mkR_s38, mkR_g39, mkR_l39, mkR_n39, mkR_s39, mkR_g40, mkR_l40, mkR_n40, mkR_s40, mkR_g41, mkR_l41, mkR_n41, mkR_s41, a9]
      refine (h173 _ _ _ _).trans ?_
      rw [nd_128_173 (St_run (d + 2) mt_128), sB]
      simp (disch := omega) only [↓L_m4, ↓L_m1, L_0, L_1, L_2, L_3, L_4, L_5, L_6, L_8, L_9, L_15, L_20, L_30, L_40, L_54, L_60, L_120, L_1872, L_4320, L_22500, le_t, le_f, lt_t, lt_f, eq_t, eq_f, eq_NO, NO_eq, NO_neg, MO_neg, bI_0, nI_add, pk_mul, pk_ds, rem_, nI_MO, nI_0MO, ↓reduceIte, eq_self, reduceCtorEq, Bool.true_eq_false, Bool.false_eq_true, isZn0, isZn1, isZb, bind_some', rI_some, rV_some, rQ_some, rQ_null, updA_at, updA_ne, pk_us, pk_un, ne_eq, not_false_eq_true, Nat.reduceEqDiff, updA_updA, Nat.reduceSub, Nat.reduceAdd, Nat.reduceMul, Nat.reduceDiv, Nat.zero_add, Nat.add_zero, mkR_o, mkR_g0, mkR_p0, mkR_g1, mkR_l1, mkR_n1, mkR_s1, mkR_g2, mkR_l2, mkR_n2, mkR_s2, mkR_g3, mkR_p3, mkR_g4, mkR_l4, mkR_n4, mkR_s4, mkR_g5, mkR_l5, mkR_n5, mkR_s5, mkR_g6, mkR_l6, mkR_n6, mkR_s6, mkR_t6, mkR_f6, mkR_g7, mkR_l7, mkR_n7, mkR_s7, mkR_g8, mkR_l8, mkR_n8, mkR_s8, mkR_g9, mkR_l9, mkR_n9, mkR_s9, mkR_g10, mkR_l10, mkR_n10, mkR_s10, mkR_g11, mkR_l11, mkR_n11, mkR_s11, mkR_g12, mkR_p12, mkR_g13, mkR_l13, mkR_n13, mkR_s13, mkR_t13, mkR_f13, mkR_g14, mkR_l14, mkR_n14, mkR_s14, mkR_g15, mkR_l15, mkR_n15, mkR_s15, mkR_g16, mkR_p16, mkR_g17, mkR_l17, mkR_n17, mkR_s17, mkR_t17, mkR_f17, mkR_g18, mkR_l18, mkR_n18, mkR_s18, mkR_t18, mkR_f18, mkR_g19, mkR_l19, mkR_n19, mkR_s19, mkR_g20, mkR_l20, mkR_n20, mkR_s20, mkR_g21, mkR_l21, mkR_n21, mkR_s21, mkR_g22, mkR_p22, mkR_g23, mkR_p23, mkR_g24, mkR_p24, mkR_g25, mkR_l25, mkR_n25, mkR_s25, mkR_g26, mkR_l26, mkR_n26, mkR_s26, mkR_g27, mkR_l27, mkR_n27, mkR_s27, mkR_g28, mkR_p28, mkR_g29, mkR_p29, mkR_g30, mkR_l30, mkR_n30, mkR_s30, mkR_g31, mkR_p31, mkR_g32, mkR_l32, mkR_n32, mkR_s32, mkR_g33, mkR_l33, mkR_n33, mkR_s33, mkR_g34, mkR_l34, mkR_n34, mkR_s34, mkR_t34, mkR_f34, mkR_g35, mkR_l35, mkR_n35, mkR_s35, mkR_g36, mkR_l36, mkR_n36, mkR_s36, mkR_g37, mkR_l37, mkR_n37, mkR_s37, mkR_g38, mkR_l38, mkR_n38, mkR_s38, mkR_g39, mkR_l39, mkR_n39, mkR_s39, mkR_g40, mkR_l40, mkR_n40, mkR_s40, mkR_g41, mkR_l41, mkR_n41, mkR_s41, nA, nB, ejp]
    cases hf : fnd J.2.1 (jp T U J k i) J.1 with
    | some j =>
      rw [hf] at pat
      have pat' : call (d + 2) 127 [.ref a, .int (nI (jp T U J k i)), .int (nI J.1)] (mkR h a I A) = some (some (.int (nI j)), mkR h a I A) := pat
      have hj := (fnd_s hf).1
      refine ⟨fun K hK => ?_, fun hK => by cases hK⟩
      cases hK
      obtain ⟨A', z1, z2, z3⟩ := wr J A j (by omega) r.1 rfl (fra.rf _ _ _ _) rfl rfl
      refine ⟨A', head _ ?_, z2, z3⟩
      rw [pat', bind_some', rI_some, if_neg (fun e => by rw [nI_eq (by omega) (by omega)] at e; omega), if_neg (fun e => by rw [nI_eq (by omega) (by omega)] at e; omega)]
      exact z1
    | none =>
      rw [hf] at pat
      have pat' : call (d + 2) 127 [.ref a, .int (nI (jp T U J k i)), .int (nI J.1)] (mkR h a I A) = some (some (.int (nI J.1)), mkR h a I A) := pat
      dsimp only
      by_cases h6 : J.1 < 6
      · rw [if_pos h6]
        refine ⟨fun K hK => ?_, fun hK => by cases hK⟩
        cases hK
        have p1 : fra I I A (updA A 9 (upd (A 9) J.1 (nI (jp T U J k i)))) [] [9, 10, 11] := (fra.rf _ _ _ _).w _ (by decide)
        obtain ⟨A', z1, z2, z3⟩ := wr (J.1 + 1, (updN J.2.1 J.1 (jp T U J k i), J.2.2)) _ J.1 (by omega) (fun j hj => by
          show upd (A 9) J.1 _ j = nI (updN J.2.1 J.1 _ j)
          by_cases e : j = J.1
          · rw [e, pk_us, updN_at]
          · rw [pk_un e, updN_ne e]; exact r.1 j (by dsimp only at hj; omega)) rfl p1 rfl rfl
        refine ⟨A', head _ ?_, z2, z3⟩
        rw [pat', bind_some', rI_some, if_neg (fun e => by rw [nI_eq (by omega) (by omega)] at e; omega), if_pos rfl, mkR_g9, mkR_s9 _ _ _ _ (by omega)]
        exact z1
      · rw [if_neg h6]
        refine ⟨fun K hK => (by cases hK), fun _ => ⟨A, head _ ?_, fra.rf _ _ _ _⟩⟩
        rw [pat', bind_some', rI_some, if_pos (congrArg nI (show J.1 = 6 by omega))]
end RJ
