/-! ===== the reference: findAlive ===== -/
section RF
variable {d a : Nat} {h : AH} {m0 : Nat} {T : TM}
def ALS (T : TM) (A : Nat → Nat → Int32) (S : Nat → Bool) : Prop := ∀ j, j < (bF T T0).1 → A 18 ((bF T T0).2.1 j) = bI (S j)
theorem ALS.set {A : Nat → Nat → Int32} {S : Nat → Bool} (hT : WFT T) (q : ALS T A S) {i : Nat} (hi : i < (bF T T0).1) (b : Bool) : ALS T (updA A 18 (upd (A 18) ((bF T T0).2.1 i) (bI b))) (fun j => if j = i then b else S j) := fun j hj => by
  have g := bF_GB hT T0_wf
  rw [updA_at]
  dsimp only
  by_cases e : j = i
  · rw [e, pk_us, if_pos rfl]
  · rw [pk_un (fun e2 => e (g.2.2.2.1 j i hj hi e2)), if_neg e]
    exact q j hj
theorem l_fa1 (hT : WFT T) (hm : m0 < 6) : ∀ (m i : Nat) (I : Nat → Int32) (A : Nat → Nat → Int32), i + m = (bF T T0).1 → isT A m0 T → RB I A (bF T T0) → (∀ j, j < i → A 18 ((bF T T0).2.1 j) = bI (sGd T j)) → ∃ I' A', run (d + 4) mt_149 9 [some (.ref a), some (.int (nI m0)), some (.int (nI i)), none] [] (mkR h a I A) = run (d + 4) mt_149 47 [some (.ref a), some (.int (nI m0)), some (.int (bI true)), none] [] (mkR h a I' A') ∧ ALS T A' (sGd T) ∧ fra I I' A A' [23, 24] [18, 25, 26] := by
  have g := bF_GB hT T0_wf
  have h30 := GB_alone hT g
  intro m
  induction m with
  | zero =>
    intro i I A hi iT r hA
    have hin : i = (bF T T0).1 := by omega
    rw [hin] at hA
    refine ⟨I, A, ?_, hA, fra.rf _ _ _ _⟩
    have a22 := r.1
    rw [nd_149_9 (St_run (d + 4) mt_149)]
    simp (disch := omega) only [↓L_m4, ↓L_m1, L_0, L_1, L_2, L_3, L_4, L_5, L_6, L_8, L_9, L_15, L_20, L_30, L_40, L_54, L_60, L_120, L_1872, L_4320, L_22500, le_t, le_f, lt_t, lt_f, eq_t, eq_f, eq_NO, NO_eq, NO_neg, MO_neg, bI_0, nI_add, pk_mul, pk_ds, rem_, nI_MO, nI_0MO, ↓reduceIte, eq_self, reduceCtorEq, Bool.true_eq_false, Bool.false_eq_true, isZn0, isZn1, isZb, bind_some', rI_some, rV_some, rQ_some, rQ_null, updA_at, updA_ne, pk_us, pk_un, ne_eq, not_false_eq_true, Nat.reduceEqDiff, updA_updA, Nat.reduceSub, Nat.reduceAdd, Nat.reduceMul, Nat.reduceDiv, Nat.zero_add, Nat.add_zero, mkR_o, mkR_g0, mkR_p0, mkR_g1, mkR_l1, mkR_n1, mkR_s1, mkR_g2, mkR_l2, mkR_n2, mkR_s2, mkR_g3, mkR_p3, mkR_g4, mkR_l4, mkR_n4, mkR_s4, mkR_g5, mkR_l5, mkR_n5, mkR_s5, mkR_g6, mkR_l6, mkR_n6, mkR_s6, mkR_t6, mkR_f6, mkR_g7, mkR_l7, mkR_n7, mkR_s7, mkR_g8, mkR_l8, mkR_n8, mkR_s8, mkR_g9, mkR_l9, mkR_n9, mkR_s9, mkR_g10, mkR_l10, mkR_n10, mkR_s10, mkR_g11, mkR_l11, mkR_n11, mkR_s11, mkR_g12, mkR_p12, mkR_g13, mkR_l13, mkR_n13, mkR_s13, mkR_t13, mkR_f13, mkR_g14, mkR_l14, mkR_n14, mkR_s14, mkR_g15, mkR_l15, mkR_n15, mkR_s15, mkR_g16, mkR_p16, mkR_g17, mkR_l17, mkR_n17, mkR_s17, mkR_t17, mkR_f17, mkR_g18, mkR_l18, mkR_n18, mkR_s18, mkR_t18, mkR_f18, mkR_g19, mkR_l19, mkR_n19, mkR_s19, mkR_g20, mkR_l20, mkR_n20, mkR_s20, mkR_g21, mkR_l21, mkR_n21, mkR_s21, mkR_g22, mkR_p22, mkR_g23, mkR_p23, mkR_g24, mkR_p24, mkR_g25, mkR_l25, mkR_n25, mkR_s25, mkR_g26, mkR_l26, mkR_n26, mkR_s26, mkR_g27, mkR_l27, mkR_n27, mkR_s27, mkR_g28, mkR_p28, mkR_g29, mkR_p29, mkR_g30, mkR_l30, mkR_n30, mkR_s30, mkR_g31, mkR_p31, mkR_g32, mkR_l32, mkR_n32, mkR_s32, mkR_g33, mkR_l33, mkR_n33, mkR_s33, mkR_g34, mkR_l34, mkR_n34, mkR_s34, mkR_t34, mkR_f34, mkR_g35, mkR_l35, mkR_n35, mkR_s35, mkR_g36, mkR_l36, mkR_n36, mkR_s36, mkR_g37, mkR_l37, mkR_n37, mkR_s37, mkR_g38, mkR_l38, mkR_n38, mkR_s38, mkR_g39, mkR_l39, mkR_n39, mkR_s39, mkR_g40, mkR_l40, mkR_n40, mkR_s40, mkR_g41, mkR_l41, mkR_n41, mkR_s41, a22]
    rfl
  | succ m ih =>
    intro i I A hi iT r hA
    have hiB : i < (bF T T0).1 := by omega
    have vc := g.2.2.1 i hiB
    have hc := vc.1
    have a22 := r.1
    have a19 := r.2.1 i hiB
    have gA := R_isGoodA (d := d + 2) (a := a) (h := h) (I := I) iT hm ((bF T T0).2.1 i) hc
    have p1 : fra I (upd (upd I 24 (nI ((bF T T0).2.1 i / 625 % 6))) 23 (nI ((bF T T0).2.1 i / 625 / 6))) A (updA (updA A 25 (qL (A 25) (lb ((bF T T0).2.1 i)))) 18 (upd (A 18) ((bF T T0).2.1 i) (bI (T.2.2.2 ((bF T T0).2.1 i / 625 / 6))))) [23, 24] [18, 25, 26] := ((((fra.rf _ _ _ _).u _ (by decide)).u _ (by decide)).w _ (by decide)).w _ (by decide)
    obtain ⟨I2, A2, e1, e2, e3⟩ := ih (i + 1) _ _ (by omega) (iT.fa p1 (by decide)) (r.fa p1 (by decide) (by decide)) (fun j hj => by
      rw [updA_at]
      by_cases e : j = i
      · rw [e, pk_us]; rfl
      · rw [pk_un (fun e2 => e (g.2.2.2.1 j i (by omega) hiB e2))]
        exact hA j (by omega))
    refine ⟨I2, A2, ?_, e2, p1.tr e3⟩
    rw [nd_149_9 (St_run (d + 4) mt_149)]
    simp (disch := omega) only [↓L_m4, ↓L_m1, L_0, L_1, L_2, L_3, L_4, L_5, L_6, L_8, L_9, L_15, L_20, L_30, L_40, L_54, L_60, L_120, L_1872, L_4320, L_22500, le_t, le_f, lt_t, lt_f, eq_t, eq_f, eq_NO, NO_eq, NO_neg, MO_neg, bI_0, nI_add, pk_mul, pk_ds, rem_, nI_MO, nI_0MO, ↓reduceIte, eq_self, reduceCtorEq, Bool.true_eq_false, Bool.false_eq_true, isZn0, isZn1, isZb, bind_some', rI_some, rV_some, rQ_some, rQ_null, updA_at, updA_ne, pk_us, pk_un, ne_eq, not_false_eq_true, Nat.reduceEqDiff, updA_updA, Nat.reduceSub, Nat.reduceAdd, Nat.reduceMul, Nat.reduceDiv, Nat.zero_add, Nat.add_zero, mkR_o, mkR_g0, mkR_p0, mkR_g1, mkR_l1, mkR_n1, mkR_s1, mkR_g2, mkR_l2, mkR_n2, mkR_s2, mkR_g3, mkR_p3, mkR_g4, mkR_l4, mkR_n4, mkR_s4, mkR_g5, mkR_l5, mkR_n5, mkR_s5, mkR_g6, mkR_l6, mkR_n6, mkR_s6, mkR_t6, mkR_f6, mkR_g7, mkR_l7, mkR_n7, mkR_s7, mkR_g8, mkR_l8, mkR_n8, mkR_s8, mkR_g9, mkR_l9, mkR_n9, mkR_s9, mkR_g10, mkR_l10, mkR_n10, mkR_s10, mkR_g11, mkR_l11, mkR_n11, mkR_s11, mkR_g12, mkR_p12, mkR_g13, mkR_l13, mkR_n13, mkR_s13, mkR_t13, mkR_f13, mkR_g14, mkR_l14, mkR_n14, mkR_s14, mkR_g15, mkR_l15, mkR_n15, mkR_s15, mkR_g16, mkR_p16, mkR_g17, mkR_l17, mkR_n17, mkR_s17, mkR_t17, mkR_f17, mkR_g18, mkR_l18, mkR_n18, mkR_s18, mkR_t18, mkR_f18, mkR_g19, mkR_l19, mkR_n19, mkR_s19, mkR_g20, mkR_l20, mkR_n20, mkR_s20, mkR_g21, mkR_l21, mkR_n21, mkR_s21, mkR_g22, mkR_p22, mkR_g23, mkR_p23, mkR_g24, mkR_p24, mkR_g25, mkR_l25, mkR_n25, mkR_s25, mkR_g26, mkR_l26, mkR_n26, mkR_s26, mkR_g27, mkR_l27, mkR_n27, mkR_s27, mkR_g28, mkR_p28, mkR_g29, mkR_p29, mkR_g30, mkR_l30, mkR_n30, mkR_s30, mkR_g31, mkR_p31, mkR_g32, mkR_l32, mkR_n32, mkR_s32, mkR_g33, mkR_l33, mkR_n33, mkR_s33, mkR_g34, mkR_l34, mkR_n34, mkR_s34, mkR_t34, mkR_f34, mkR_g35, mkR_l35, mkR_n35, mkR_s35, mkR_g36, mkR_l36, mkR_n36, mkR_s36, mkR_g37, mkR_l37, mkR_n37, mkR_s37, mkR_g38, mkR_l38, mkR_n38, mkR_s38, mkR_g39, mkR_l39, mkR_n39, mkR_s39, mkR_g40, mkR_l40, mkR_n40, mkR_s40, mkR_g41, mkR_l41, mkR_n41, mkR_s41, a22, a19, gA]
    exact e1
theorem l_fa2 (hT : WFT T) (hm : m0 < 6) : ∀ (m k : Nat) (I : Nat → Int32) (A : Nat → Nat → Int32) (S : Nat → Bool) (on : Bool), k + m = (bF T T0).1 → isT A m0 T → RB I A (bF T T0) → ALS T A S → ∃ I' A' S' on', run (d + 4) mt_149 55 [some (.ref a), some (.int (nI m0)), some (.int (bI on)), some (.int (nI k))] [] (mkR h a I A) = run (d + 4) mt_149 47 [some (.ref a), some (.int (nI m0)), some (.int (bI on')), none] [] (mkR h a I' A') ∧ ALS T A' S' ∧ (∀ j, j < (bF T T0).1 → S j = true → S' j = true) ∧ (snd T S → snd T S') ∧ (on' = false → on = false ∧ (∀ j, j < (bF T T0).1 → S' j = S j) ∧ ∀ i, k ≤ i → i < (bF T T0).1 → S i = false → ¬ ∃ j, j < (bF T T0).1 ∧ nxt T (bF T T0).2.1 i j ∧ S j = true) ∧ (on' = true → on = true ∨ ∃ j, j < (bF T T0).1 ∧ S j = false ∧ S' j = true) ∧ fra I I' A A' [23, 24] [18, 25, 26] := by
  have g := bF_GB hT T0_wf
  have h30 := GB_alone hT g
  intro m
  induction m with
  | zero =>
    intro k I A S on hk iT r hA
    refine ⟨I, A, S, on, ?_, hA, fun _ _ e => e, fun e => e, fun e => ⟨e, fun _ _ => rfl, fun i h1 h2 => by omega⟩, fun e => Or.inl e, fra.rf _ _ _ _⟩
    have a22 := r.1
    rw [nd_149_55 (St_run (d + 4) mt_149)]
    simp (disch := omega) only [↓L_m4, ↓L_m1, L_0, L_1, L_2, L_3, L_4, L_5, L_6, L_8, L_9, L_15, L_20, L_30, L_40, L_54, L_60, L_120, L_1872, L_4320, L_22500, le_t, le_f, lt_t, lt_f, eq_t, eq_f, eq_NO, NO_eq, NO_neg, MO_neg, bI_0, nI_add, pk_mul, pk_ds, rem_, nI_MO, nI_0MO, ↓reduceIte, eq_self, reduceCtorEq, Bool.true_eq_false, Bool.false_eq_true, isZn0, isZn1, isZb, bind_some', rI_some, rV_some, rQ_some, rQ_null, updA_at, updA_ne, pk_us, pk_un, ne_eq, not_false_eq_true, Nat.reduceEqDiff, updA_updA, Nat.reduceSub, Nat.reduceAdd, Nat.reduceMul, Nat.reduceDiv, Nat.zero_add, Nat.add_zero, mkR_o, mkR_g0, mkR_p0, mkR_g1, mkR_l1, mkR_n1, mkR_s1, mkR_g2, mkR_l2, mkR_n2, mkR_s2, mkR_g3, mkR_p3, mkR_g4, mkR_l4, mkR_n4, mkR_s4, mkR_g5, mkR_l5, mkR_n5, mkR_s5, mkR_g6, mkR_l6, mkR_n6, mkR_s6, mkR_t6, mkR_f6, mkR_g7, mkR_l7, mkR_n7, mkR_s7, mkR_g8, mkR_l8, mkR_n8, mkR_s8, mkR_g9, mkR_l9, mkR_n9, mkR_s9, mkR_g10, mkR_l10, mkR_n10, mkR_s10, mkR_g11, mkR_l11, mkR_n11, mkR_s11, mkR_g12, mkR_p12, mkR_g13, mkR_l13, mkR_n13, mkR_s13, mkR_t13, mkR_f13, mkR_g14, mkR_l14, mkR_n14, mkR_s14, mkR_g15, mkR_l15, mkR_n15, mkR_s15, mkR_g16, mkR_p16, mkR_g17, mkR_l17, mkR_n17, mkR_s17, mkR_t17, mkR_f17, mkR_g18, mkR_l18, mkR_n18, mkR_s18, mkR_t18, mkR_f18, mkR_g19, mkR_l19, mkR_n19, mkR_s19, mkR_g20, mkR_l20, mkR_n20, mkR_s20, mkR_g21, mkR_l21, mkR_n21, mkR_s21, mkR_g22, mkR_p22, mkR_g23, mkR_p23, mkR_g24, mkR_p24, mkR_g25, mkR_l25, mkR_n25, mkR_s25, mkR_g26, mkR_l26, mkR_n26, mkR_s26, mkR_g27, mkR_l27, mkR_n27, mkR_s27, mkR_g28, mkR_p28, mkR_g29, mkR_p29, mkR_g30, mkR_l30, mkR_n30, mkR_s30, mkR_g31, mkR_p31, mkR_g32, mkR_l32, mkR_n32, mkR_s32, mkR_g33, mkR_l33, mkR_n33, mkR_s33, mkR_g34, mkR_l34, mkR_n34, mkR_s34, mkR_t34, mkR_f34, mkR_g35, mkR_l35, mkR_n35, mkR_s35, mkR_g36, mkR_l36, mkR_n36, mkR_s36, mkR_g37, mkR_l37, mkR_n37, mkR_s37, mkR_g38, mkR_l38, mkR_n38, mkR_s38, mkR_g39, mkR_l39, mkR_n39, mkR_s39, mkR_g40, mkR_l40, mkR_n40, mkR_s40, mkR_g41, mkR_l41, mkR_n41, mkR_s41, a22]
  | succ m ih =>
    intro k I A S on hk iT r hA
    have hkB : k < (bF T T0).1 := by omega
    have vc := g.2.2.1 k hkB
    have hc := vc.1
    have a22 := r.1
    have a19 := r.2.1 k hkB
    have a18 := hA k hkB
    have go : ∀ (x : Int32) J C, run (d + 4) mt_149 105 [some (.ref a), some (.int (nI m0)), some (.int x), some (.int (nI k))] [] (mkR h a J C) = run (d + 4) mt_149 55 [some (.ref a), some (.int (nI m0)), some (.int x), some (.int (nI (k + 1)))] [] (mkR h a J C) := fun x J C => by
      rw [nd_149_105 (St_run (d + 4) mt_149), nI_1]
    rw [nd_149_55 (St_run (d + 4) mt_149)]
    cases hS : S k with
    | true =>
      rw [hS] at a18
      obtain ⟨I', A', S', on', e1, e2, e3, e4, e5, e6, e7⟩ := ih (k + 1) I A S on (by omega) iT r hA
      refine ⟨I', A', S', on', ?_, e2, e3, e4, fun e => ?_, e6, e7⟩
      · simp (disch := omega) only [↓L_m4, ↓L_m1, L_0, L_1, L_2, L_3, L_4, L_5, L_6, L_8, L_9, L_15, L_20, L_30, L_40, L_54, L_60, L_120, L_1872, L_4320, L_22500, le_t, le_f, lt_t, lt_f, eq_t, eq_f, eq_NO, NO_eq, NO_neg, MO_neg, bI_0, nI_add, pk_mul, pk_ds, rem_, nI_MO, nI_0MO, ↓reduceIte, eq_self, reduceCtorEq, Bool.true_eq_false, Bool.false_eq_true, isZn0, isZn1, isZb, bind_some', rI_some, rV_some, rQ_some, rQ_null, updA_at, updA_ne, pk_us, pk_un, ne_eq, not_false_eq_true, Nat.reduceEqDiff, updA_updA, Nat.reduceSub, Nat.reduceAdd, Nat.reduceMul, Nat.reduceDiv, Nat.zero_add, Nat.add_zero, mkR_o, mkR_g0, mkR_p0, mkR_g1, mkR_l1, mkR_n1, mkR_s1, mkR_g2, mkR_l2, mkR_n2, mkR_s2, mkR_g3, mkR_p3, mkR_g4, mkR_l4, mkR_n4, mkR_s4, mkR_g5, mkR_l5, mkR_n5, mkR_s5, mkR_g6, mkR_l6, mkR_n6, mkR_s6, mkR_t6, mkR_f6, mkR_g7, mkR_l7, mkR_n7, mkR_s7, mkR_g8, mkR_l8, mkR_n8, mkR_s8, mkR_g9, mkR_l9, mkR_n9, mkR_s9, mkR_g10, mkR_l10, mkR_n10, mkR_s10, mkR_g11, mkR_l11, mkR_n11, mkR_s11, mkR_g12, mkR_p12, mkR_g13, mkR_l13, mkR_n13, mkR_s13, mkR_t13, mkR_f13, mkR_g14, mkR_l14, mkR_n14, mkR_s14, mkR_g15, mkR_l15, mkR_n15, mkR_s15, mkR_g16, mkR_p16, mkR_g17, mkR_l17, mkR_n17, mkR_s17, mkR_t17, mkR_f17, mkR_g18, mkR_l18, mkR_n18, mkR_s18, mkR_t18, mkR_f18, mkR_g19, mkR_l19, mkR_n19, mkR_s19, mkR_g20, mkR_l20, mkR_n20, mkR_s20, mkR_g21, mkR_l21, mkR_n21, mkR_s21, mkR_g22, mkR_p22, mkR_g23, mkR_p23, mkR_g24, mkR_p24, mkR_g25, mkR_l25, mkR_n25, mkR_s25, mkR_g26, mkR_l26, mkR_n26, mkR_s26, mkR_g27, mkR_l27, mkR_n27, mkR_s27, mkR_g28, mkR_p28, mkR_g29, mkR_p29, mkR_g30, mkR_l30, mkR_n30, mkR_s30, mkR_g31, mkR_p31, mkR_g32, mkR_l32, mkR_n32, mkR_s32, mkR_g33, mkR_l33, mkR_n33, mkR_s33, mkR_g34, mkR_l34, mkR_n34, mkR_s34, mkR_t34, mkR_f34, mkR_g35, mkR_l35, mkR_n35, mkR_s35, mkR_g36, mkR_l36, mkR_n36, mkR_s36, mkR_g37, mkR_l37, mkR_n37, mkR_s37, mkR_g38, mkR_l38, mkR_n38, mkR_s38, mkR_g39, mkR_l39, mkR_n39, mkR_s39, mkR_g40, mkR_l40, mkR_n40, mkR_s40, mkR_g41, mkR_l41, mkR_n41, mkR_s41, a22, a19, a18, go]
        exact e1
      · obtain ⟨y1, y2, y3⟩ := e5 e
        refine ⟨y1, y2, fun i h1 h2 hSi => ?_⟩
        by_cases hik : i = k
        · rw [hik, hS] at hSi; cases hSi
        · exact y3 i (by omega) h2 hSi
    | false =>
      rw [hS] at a18
      obtain ⟨I1, A1, is, f1, f2, f3⟩ := R_leadsOn (d := d) (a := a) (h := h) (I := I) (A := A) hT hm k hkB iT hA
      have f3' := f3.sub (js' := [23, 24]) (ks' := [18, 25, 26]) (by decide) (by decide)
      have b22 := (r.fa f3 (by decide) (by decide)).1
      have b19 := (r.fa f3 (by decide) (by decide)).2.1 k hkB
      have hA1 : ALS T A1 S := fun j hj => by rw [f3.2 18 (by decide)]; exact hA j hj
      cases is with
      | false =>
        obtain ⟨I', A', S', on', e1, e2, e3, e4, e5, e6, e7⟩ := ih (k + 1) I1 A1 S on (by omega) (iT.fa f3 (by decide)) (r.fa f3 (by decide) (by decide)) hA1
        refine ⟨I', A', S', on', ?_, e2, e3, e4, fun e => ?_, e6, f3'.tr e7⟩
        · simp (disch := omega) only [↓L_m4, ↓L_m1, L_0, L_1, L_2, L_3, L_4, L_5, L_6, L_8, L_9, L_15, L_20, L_30, L_40, L_54, L_60, L_120, L_1872, L_4320, L_22500, le_t, le_f, lt_t, lt_f, eq_t, eq_f, eq_NO, NO_eq, NO_neg, MO_neg, bI_0, nI_add, pk_mul, pk_ds, rem_, nI_MO, nI_0MO, ↓reduceIte, eq_self, reduceCtorEq, Bool.true_eq_false, Bool.false_eq_true, isZn0, isZn1, isZb, bind_some', rI_some, rV_some, rQ_some, rQ_null, updA_at, updA_ne, pk_us, pk_un, ne_eq, not_false_eq_true, Nat.reduceEqDiff, updA_updA, Nat.reduceSub, Nat.reduceAdd, Nat.reduceMul, Nat.reduceDiv, Nat.zero_add, Nat.add_zero, mkR_o, mkR_g0, mkR_p0, mkR_g1, mkR_l1, mkR_n1, mkR_s1, mkR_g2, mkR_l2, mkR_n2, mkR_s2, mkR_g3, mkR_p3, mkR_g4, mkR_l4, mkR_n4, mkR_s4, mkR_g5, mkR_l5, mkR_n5, mkR_s5, mkR_g6, mkR_l6, mkR_n6, mkR_s6, mkR_t6, mkR_f6, mkR_g7, mkR_l7, mkR_n7, mkR_s7, mkR_g8, mkR_l8, mkR_n8, mkR_s8, mkR_g9, mkR_l9, mkR_n9, mkR_s9, mkR_g10, mkR_l10, mkR_n10, mkR_s10, mkR_g11, mkR_l11, mkR_n11, mkR_s11, mkR_g12, mkR_p12, mkR_g13, mkR_l13, mkR_n13, mkR_s13, mkR_t13, mkR_f13, mkR_g14, mkR_l14, mkR_n14, mkR_s14, mkR_g15, mkR_l15, mkR_n15, mkR_s15, mkR_g16, mkR_p16, mkR_g17, mkR_l17, mkR_n17, mkR_s17, mkR_t17, mkR_f17, mkR_g18, mkR_l18, mkR_n18, mkR_s18, mkR_t18, mkR_f18, mkR_g19, mkR_l19, mkR_n19, mkR_s19, mkR_g20, mkR_l20, mkR_n20, mkR_s20, mkR_g21, mkR_l21, mkR_n21, mkR_s21, mkR_g22, mkR_p22, mkR_g23, mkR_p23, mkR_g24, mkR_p24, mkR_g25, mkR_l25, mkR_n25, mkR_s25, mkR_g26, mkR_l26, mkR_n26, mkR_s26, mkR_g27, mkR_l27, mkR_n27, mkR_s27, mkR_g28, mkR_p28, mkR_g29, mkR_p29, mkR_g30, mkR_l30, mkR_n30, mkR_s30, mkR_g31, mkR_p31, mkR_g32, mkR_l32, mkR_n32, mkR_s32, mkR_g33, mkR_l33, mkR_n33, mkR_s33, mkR_g34, mkR_l34, mkR_n34, mkR_s34, mkR_t34, mkR_f34, mkR_g35, mkR_l35, mkR_n35, mkR_s35, mkR_g36, mkR_l36, mkR_n36, mkR_s36, mkR_g37, mkR_l37, mkR_n37, mkR_s37, mkR_g38, mkR_l38, mkR_n38, mkR_s38, mkR_g39, mkR_l39, mkR_n39, mkR_s39, mkR_g40, mkR_l40, mkR_n40, mkR_s40, mkR_g41, mkR_l41, mkR_n41, mkR_s41, a22, a19, a18, f1, go]
          exact e1
        · obtain ⟨y1, y2, y3⟩ := e5 e
          refine ⟨y1, y2, fun i h1 h2 hSi => ?_⟩
          by_cases hik : i = k
          · rw [hik]
            exact fun e => by simpa using f2.mpr e
          · exact y3 i (by omega) h2 hSi
      | true =>
        have p2 := f3'.w (upd (A1 18) ((bF T T0).2.1 k) (bI true)) (show 18 ∈ [18, 25, 26] by decide)
        obtain ⟨I', A', S', on', e1, e2, e3, e4, e5, e6, e7⟩ := ih (k + 1) I1 _ _ true (by omega) (iT.fa p2 (by decide)) (r.fa p2 (by decide) (by decide)) (hA1.set hT hkB true)
        refine ⟨I', A', S', on', ?_, e2, fun j hj e => e3 j hj ?_, fun hs => e4 (fun i hi e => ?_), fun e => ?_, fun _ => ?_, p2.tr e7⟩
        · have e1' : run (d + 4) mt_149 55 [some (.ref a), some (.int (nI m0)), some (.int (nI 1)), some (.int (nI (k + 1)))] [] (mkR h a I1 (updA A1 18 (upd (A1 18) ((bF T T0).2.1 k) (bI true)))) = _ := e1
          simp (disch := omega) only [↓L_m4, ↓L_m1, L_0, L_1, L_2, L_3, L_4, L_5, L_6, L_8, L_9, L_15, L_20, L_30, L_40, L_54, L_60, L_120, L_1872, L_4320, L_22500, le_t, le_f, lt_t, lt_f, eq_t, eq_f, eq_NO, NO_eq, NO_neg, MO_neg, bI_0, nI_add, pk_mul, pk_ds, rem_, nI_MO, nI_0MO, ↓reduceIte, eq_self, reduceCtorEq, Bool.true_eq_false, Bool.false_eq_true, isZn0, isZn1, isZb, bind_some', rI_some, rV_some, rQ_some, rQ_null, updA_at, updA_ne, pk_us, pk_un, ne_eq, not_false_eq_true, Nat.reduceEqDiff, updA_updA, Nat.reduceSub, Nat.reduceAdd, Nat.reduceMul, Nat.reduceDiv, Nat.zero_add, Nat.add_zero, mkR_o, mkR_g0, mkR_p0, mkR_g1, mkR_l1, mkR_n1, mkR_s1, mkR_g2, mkR_l2, mkR_n2, mkR_s2, mkR_g3, mkR_p3, mkR_g4, mkR_l4, mkR_n4, mkR_s4, mkR_g5, mkR_l5, mkR_n5, mkR_s5, mkR_g6, mkR_l6, mkR_n6, mkR_s6, mkR_t6, mkR_f6, mkR_g7, mkR_l7, mkR_n7, mkR_s7, mkR_g8, mkR_l8, mkR_n8, mkR_s8, mkR_g9, mkR_l9, mkR_n9, mkR_s9, mkR_g10, mkR_l10, mkR_n10, mkR_s10, mkR_g11, mkR_l11, mkR_n11, mkR_s11, mkR_g12, mkR_p12, mkR_g13, mkR_l13, mkR_n13, mkR_s13, mkR_t13, mkR_f13, mkR_g14, mkR_l14, mkR_n14, mkR_s14, mkR_g15, mkR_l15, mkR_n15, mkR_s15, mkR_g16, mkR_p16, mkR_g17, mkR_l17, mkR_n17, mkR_s17, mkR_t17, mkR_f17, mkR_g18, mkR_l18, mkR_n18, mkR_s18, mkR_t18, mkR_f18, mkR_g19, mkR_l19, mkR_n19, mkR_s19, mkR_g20, mkR_l20, mkR_n20, mkR_s20, mkR_g21, mkR_l21, mkR_n21, mkR_s21, mkR_g22, mkR_p22, mkR_g23, mkR_p23, mkR_g24, mkR_p24, mkR_g25, mkR_l25, mkR_n25, mkR_s25, mkR_g26, mkR_l26, mkR_n26, mkR_s26, mkR_g27, mkR_l27, mkR_n27, mkR_s27, mkR_g28, mkR_p28, mkR_g29, mkR_p29, mkR_g30, mkR_l30, mkR_n30, mkR_s30, mkR_g31, mkR_p31, mkR_g32, mkR_l32, mkR_n32, mkR_s32, mkR_g33, mkR_l33, mkR_n33, mkR_s33, mkR_g34, mkR_l34, mkR_n34, mkR_s34, mkR_t34, mkR_f34, mkR_g35, mkR_l35, mkR_n35, mkR_s35, mkR_g36, mkR_l36, mkR_n36, mkR_s36, mkR_g37, mkR_l37, mkR_n37, mkR_s37, mkR_g38, mkR_l38, mkR_n38, mkR_s38, mkR_g39, mkR_l39, mkR_n39, mkR_s39, mkR_g40, mkR_l40, mkR_n40, mkR_s40, mkR_g41, mkR_l41, mkR_n41, mkR_s41, a22, a19, a18, f1, b19, go]
          exact e1'
        · split
          · rfl
          · exact e
        · dsimp only at e
          by_cases hik : i = k
          · rw [hik]
            obtain ⟨j, j1, j2, j3⟩ := f2.mp rfl
            exact nxt_alv j2 (hs j j1 j3)
          · rw [if_neg hik] at e
            exact hs i hi e
        · have := (e5 e).1
          cases this
        · exact Or.inr ⟨k, hkB, hS, e3 k hkB (if_pos rfl)⟩
theorem l_fa3 (hT : WFT T) (hm : m0 < 6) : ∀ (f : Nat) (I : Nat → Int32) (A : Nat → Nat → Int32) (S : Nat → Bool) (on : Bool), (bF T T0).1 < ctN S (bF T T0).1 + f → isT A m0 T → RB I A (bF T T0) → ALS T A S → snd T S → (∀ i, i < (bF T T0).1 → sGd T i = true → S i = true) → (on = false → cld T S) → ∃ I' A', run (d + 4) mt_149 47 [some (.ref a), some (.int (nI m0)), some (.int (bI on)), none] [] (mkR h a I A) = some (none, mkR h a I' A') ∧ ALS T A' (fun j => alB T ((bF T T0).2.1 j)) ∧ fra I I' A A' [23, 24] [18, 25, 26] := by
  have stop : ∀ (I : Nat → Int32) (A : Nat → Nat → Int32) (S : Nat → Bool), ALS T A S → snd T S → (∀ i, i < (bF T T0).1 → sGd T i = true → S i = true) → cld T S → ∃ I' A', run (d + 4) mt_149 47 [some (.ref a), some (.int (nI m0)), some (.int (bI false)), none] [] (mkR h a I A) = some (none, mkR h a I' A') ∧ ALS T A' (fun j => alB T ((bF T T0).2.1 j)) ∧ fra I I' A A' [23, 24] [18, 25, 26] := by
    intro I A S hA hs hg hc
    refine ⟨I, A, ?_, fun j hj => by rw [hA j hj]; exact congrArg bI (alv_is hT S hs hg hc hj), fra.rf _ _ _ _⟩
    rw [nd_149_47 (St_run (d + 4) mt_149)]
    simp (disch := omega) only [↓L_m4, ↓L_m1, L_0, L_1, L_2, L_3, L_4, L_5, L_6, L_8, L_9, L_15, L_20, L_30, L_40, L_54, L_60, L_120, L_1872, L_4320, L_22500, le_t, le_f, lt_t, lt_f, eq_t, eq_f, eq_NO, NO_eq, NO_neg, MO_neg, bI_0, nI_add, pk_mul, pk_ds, rem_, nI_MO, nI_0MO, ↓reduceIte, eq_self, reduceCtorEq, Bool.true_eq_false, Bool.false_eq_true, isZn0, isZn1, isZb, bind_some', rI_some, rV_some, rQ_some, rQ_null, updA_at, updA_ne, pk_us, pk_un, ne_eq, not_false_eq_true, Nat.reduceEqDiff, updA_updA, Nat.reduceSub, Nat.reduceAdd, Nat.reduceMul, Nat.reduceDiv, Nat.zero_add, Nat.add_zero, mkR_o, mkR_g0, mkR_p0, mkR_g1, mkR_l1, mkR_n1, mkR_s1, mkR_g2, mkR_l2, mkR_n2, mkR_s2, mkR_g3, mkR_p3, mkR_g4, mkR_l4, mkR_n4, mkR_s4, mkR_g5, mkR_l5, mkR_n5, mkR_s5, mkR_g6, mkR_l6, mkR_n6, mkR_s6, mkR_t6, mkR_f6, mkR_g7, mkR_l7, mkR_n7, mkR_s7, mkR_g8, mkR_l8, mkR_n8, mkR_s8, mkR_g9, mkR_l9, mkR_n9, mkR_s9, mkR_g10, mkR_l10, mkR_n10, mkR_s10, mkR_g11, mkR_l11, mkR_n11, mkR_s11, mkR_g12, mkR_p12, mkR_g13, mkR_l13, mkR_n13, mkR_s13, mkR_t13, mkR_f13, mkR_g14, mkR_l14, mkR_n14, mkR_s14, mkR_g15, mkR_l15, mkR_n15, mkR_s15, mkR_g16, mkR_p16, mkR_g17, mkR_l17, mkR_n17, mkR_s17, mkR_t17, mkR_f17, mkR_g18, mkR_l18, mkR_n18, mkR_s18, mkR_t18, mkR_f18, mkR_g19, mkR_l19, mkR_n19, mkR_s19, mkR_g20, mkR_l20, mkR_n20, mkR_s20, mkR_g21, mkR_l21, mkR_n21, mkR_s21, mkR_g22, mkR_p22, mkR_g23, mkR_p23, mkR_g24, mkR_p24, mkR_g25, mkR_l25, mkR_n25, mkR_s25, mkR_g26, mkR_l26, mkR_n26, mkR_s26, mkR_g27, mkR_l27, mkR_n27, mkR_s27, mkR_g28, mkR_p28, mkR_g29, mkR_p29, mkR_g30, mkR_l30, mkR_n30, mkR_s30, mkR_g31, mkR_p31, mkR_g32, mkR_l32, mkR_n32, mkR_s32, mkR_g33, mkR_l33, mkR_n33, mkR_s33, mkR_g34, mkR_l34, mkR_n34, mkR_s34, mkR_t34, mkR_f34, mkR_g35, mkR_l35, mkR_n35, mkR_s35, mkR_g36, mkR_l36, mkR_n36, mkR_s36, mkR_g37, mkR_l37, mkR_n37, mkR_s37, mkR_g38, mkR_l38, mkR_n38, mkR_s38, mkR_g39, mkR_l39, mkR_n39, mkR_s39, mkR_g40, mkR_l40, mkR_n40, mkR_s40, mkR_g41, mkR_l41, mkR_n41, mkR_s41]
  intro f
  induction f with
  | zero =>
    intro I A S on hf
    have := ctN_le S (bF T T0).1
    omega
  | succ f ih =>
    intro I A S on hf iT r hA hs hg hc
    cases on with
    | false => exact stop I A S hA hs hg (hc rfl)
    | true =>
      obtain ⟨I1, A1, S1, on1, e1, e2, e3, e4, e5, e6, e7⟩ := l_fa2 (d := d) (a := a) (h := h) hT hm (bF T T0).1 0 I A S false (by omega) iT r hA
      have hg1 : ∀ i, i < (bF T T0).1 → sGd T i = true → S1 i = true := fun i hi e => e3 i hi (hg i hi e)
      have nxt0 : ∃ I' A', run (d + 4) mt_149 47 [some (.ref a), some (.int (nI m0)), some (.int (bI on1)), none] [] (mkR h a I1 A1) = some (none, mkR h a I' A') ∧ ALS T A' (fun j => alB T ((bF T T0).2.1 j)) ∧ fra I1 I' A1 A' [23, 24] [18, 25, 26] := by
        cases on1 with
        | false =>
          obtain ⟨_, y2, y3⟩ := e5 rfl
          refine stop I1 A1 S1 e2 (e4 hs) hg1 (fun i j hi hj hn hSj => ?_)
          rw [y2 j hj] at hSj
          rw [y2 i hi]
          cases hSi : S i with
          | true => rfl
          | false => exact absurd ⟨j, hj, hn, hSj⟩ (y3 i (Nat.zero_le _) hi hSi)
        | true =>
          rcases e6 rfl with e6 | e6
          · cases e6
          · have := ctN_lt2 e3 e6
            exact ih I1 A1 S1 true (by omega) (iT.fa e7 (by decide)) (r.fa e7 (by decide) (by decide)) e2 (e4 hs) hg1 (fun e => by cases e)
      obtain ⟨I2, A2, f1, f2, f3⟩ := nxt0
      refine ⟨I2, A2, ?_, f2, e7.tr f3⟩
      rw [nd_149_47 (St_run (d + 4) mt_149)]
      simp (disch := omega) only [↓L_m4, ↓L_m1, L_0, L_1, L_2, L_3, L_4, L_5, L_6, L_8, L_9, L_15, L_20, L_30, L_40, L_54, L_60, L_120, L_1872, L_4320, L_22500, le_t, le_f, lt_t, lt_f, eq_t, eq_f, eq_NO, NO_eq, NO_neg, MO_neg, bI_0, nI_add, pk_mul, pk_ds, rem_, nI_MO, nI_0MO, ↓reduceIte, eq_self, reduceCtorEq, Bool.true_eq_false, Bool.false_eq_true, isZn0, isZn1, isZb, bind_some', rI_some, rV_some, rQ_some, rQ_null, updA_at, updA_ne, pk_us, pk_un, ne_eq, not_false_eq_true, Nat.reduceEqDiff, updA_updA, Nat.reduceSub, Nat.reduceAdd, Nat.reduceMul, Nat.reduceDiv, Nat.zero_add, Nat.add_zero, mkR_o, mkR_g0, mkR_p0, mkR_g1, mkR_l1, mkR_n1, mkR_s1, mkR_g2, mkR_l2, mkR_n2, mkR_s2, mkR_g3, mkR_p3, mkR_g4, mkR_l4, mkR_n4, mkR_s4, mkR_g5, mkR_l5, mkR_n5, mkR_s5, mkR_g6, mkR_l6, mkR_n6, mkR_s6, mkR_t6, mkR_f6, mkR_g7, mkR_l7, mkR_n7, mkR_s7, mkR_g8, mkR_l8, mkR_n8, mkR_s8, mkR_g9, mkR_l9, mkR_n9, mkR_s9, mkR_g10, mkR_l10, mkR_n10, mkR_s10, mkR_g11, mkR_l11, mkR_n11, mkR_s11, mkR_g12, mkR_p12, mkR_g13, mkR_l13, mkR_n13, mkR_s13, mkR_t13, mkR_f13, mkR_g14, mkR_l14, mkR_n14, mkR_s14, mkR_g15, mkR_l15, mkR_n15, mkR_s15, mkR_g16, mkR_p16, mkR_g17, mkR_l17, mkR_n17, mkR_s17, mkR_t17, mkR_f17, mkR_g18, mkR_l18, mkR_n18, mkR_s18, mkR_t18, mkR_f18, mkR_g19, mkR_l19, mkR_n19, mkR_s19, mkR_g20, mkR_l20, mkR_n20, mkR_s20, mkR_g21, mkR_l21, mkR_n21, mkR_s21, mkR_g22, mkR_p22, mkR_g23, mkR_p23, mkR_g24, mkR_p24, mkR_g25, mkR_l25, mkR_n25, mkR_s25, mkR_g26, mkR_l26, mkR_n26, mkR_s26, mkR_g27, mkR_l27, mkR_n27, mkR_s27, mkR_g28, mkR_p28, mkR_g29, mkR_p29, mkR_g30, mkR_l30, mkR_n30, mkR_s30, mkR_g31, mkR_p31, mkR_g32, mkR_l32, mkR_n32, mkR_s32, mkR_g33, mkR_l33, mkR_n33, mkR_s33, mkR_g34, mkR_l34, mkR_n34, mkR_s34, mkR_t34, mkR_f34, mkR_g35, mkR_l35, mkR_n35, mkR_s35, mkR_g36, mkR_l36, mkR_n36, mkR_s36, mkR_g37, mkR_l37, mkR_n37, mkR_s37, mkR_g38, mkR_l38, mkR_n38, mkR_s38, mkR_g39, mkR_l39, mkR_n39, mkR_s39, mkR_g40, mkR_l40, mkR_n40, mkR_s40, mkR_g41, mkR_l41, mkR_n41, mkR_s41]
      exact e1.trans f1
theorem R_findAlive {I : Nat → Int32} {A : Nat → Nat → Int32} (hT : WFT T) (hm : m0 < 6) (iT : isT A m0 T) : ∃ I' A', call (d + 5) 149 [.ref a, .int (nI m0)] (mkR h a I A) = some (none, mkR h a I' A') ∧ RB I' A' (bF T T0) ∧ ALS T A' (fun j => alB T ((bF T T0).2.1 j)) ∧ fra I I' A A' [22, 23, 24] [17, 18, 19, 20, 21, 25, 26] := by
  obtain ⟨I1, A1, e1, e2, e3⟩ := R_explores (d := d) (a := a) (h := h) (I := I) (A := A) (b := NO) hT hm T0_wf iT (Or.inr ⟨rfl, rfl⟩)
  have iT1 := iT.fa e3 (by decide)
  obtain ⟨I2, A2, f1, f2, f3⟩ := l_fa1 (d := d) (a := a) (h := h) hT hm (bF T T0).1 0 I1 A1 (by omega) iT1 e2 (fun j hj => by omega)
  have r2 := e2.fa f3 (by decide) (by decide)
  obtain ⟨I3, A3, g1, g2, g3⟩ := l_fa3 (d := d) (a := a) (h := h) hT hm ((bF T T0).1 + 1) I2 A2 (sGd T) true (by omega) (iT1.fa f3 (by decide)) r2 f2 (fun i hi e => alv_good e) (fun i hi e => e) (fun e => by cases e)
  refine ⟨I3, A3, ?_, r2.fa g3 (by decide) (by decide), g2, ((e3.sub (by decide) (by decide)).tr (f3.sub (by decide) (by decide))).tr (g3.sub (by decide) (by decide))⟩
  rw [call_at mt_149 [some (.ref a), some (.int (nI m0)), none, none] rfl rfl rfl, nd_149_0 (St_run (d + 4) mt_149)]
  simp (disch := omega) only [↓L_m4, ↓L_m1, L_0, L_1, L_2, L_3, L_4, L_5, L_6, L_8, L_9, L_15, L_20, L_30, L_40, L_54, L_60, L_120, L_1872, L_4320, L_22500, le_t, le_f, lt_t, lt_f, eq_t, eq_f, eq_NO, NO_eq, NO_neg, MO_neg, bI_0, nI_add, pk_mul, pk_ds, rem_, nI_MO, nI_0MO, ↓reduceIte, eq_self, reduceCtorEq, Bool.true_eq_false, Bool.false_eq_true, isZn0, isZn1, isZb, bind_some', rI_some, rV_some, rQ_some, rQ_null, updA_at, updA_ne, pk_us, pk_un, ne_eq, not_false_eq_true, Nat.reduceEqDiff, updA_updA, Nat.reduceSub, Nat.reduceAdd, Nat.reduceMul, Nat.reduceDiv, Nat.zero_add, Nat.add_zero, mkR_o, mkR_g0, mkR_p0, mkR_g1, mkR_l1, mkR_n1, mkR_s1, mkR_g2, mkR_l2, mkR_n2, mkR_s2, mkR_g3, mkR_p3, mkR_g4, mkR_l4, mkR_n4, mkR_s4, mkR_g5, mkR_l5, mkR_n5, mkR_s5, mkR_g6, mkR_l6, mkR_n6, mkR_s6, mkR_t6, mkR_f6, mkR_g7, mkR_l7, mkR_n7, mkR_s7, mkR_g8, mkR_l8, mkR_n8, mkR_s8, mkR_g9, mkR_l9, mkR_n9, mkR_s9, mkR_g10, mkR_l10, mkR_n10, mkR_s10, mkR_g11, mkR_l11, mkR_n11, mkR_s11, mkR_g12, mkR_p12, mkR_g13, mkR_l13, mkR_n13, mkR_s13, mkR_t13, mkR_f13, mkR_g14, mkR_l14, mkR_n14, mkR_s14, mkR_g15, mkR_l15, mkR_n15, mkR_s15, mkR_g16, mkR_p16, mkR_g17, mkR_l17, mkR_n17, mkR_s17, mkR_t17, mkR_f17, mkR_g18, mkR_l18, mkR_n18, mkR_s18, mkR_t18, mkR_f18, mkR_g19, mkR_l19, mkR_n19, mkR_s19, mkR_g20, mkR_l20, mkR_n20, mkR_s20, mkR_g21, mkR_l21, mkR_n21, mkR_s21, mkR_g22, mkR_p22, mkR_g23, mkR_p23, mkR_g24, mkR_p24, mkR_g25, mkR_l25, mkR_n25, mkR_s25, mkR_g26, mkR_l26, mkR_n26, mkR_s26, mkR_g27, mkR_l27, mkR_n27, mkR_s27, mkR_g28, mkR_p28, mkR_g29, mkR_p29, mkR_g30, mkR_l30, mkR_n30, mkR_s30, mkR_g31, mkR_p31, mkR_g32, mkR_l32, mkR_n32, mkR_s32, mkR_g33, mkR_l33, mkR_n33, mkR_s33, mkR_g34, mkR_l34, mkR_n34, mkR_s34, mkR_t34, mkR_f34, mkR_g35, mkR_l35, mkR_n35, mkR_s35, mkR_g36, mkR_l36, mkR_n36, mkR_s36, mkR_g37, mkR_l37, mkR_n37, mkR_s37, mkR_g38, mkR_l38, mkR_n38, mkR_s38, mkR_g39, mkR_l39, mkR_n39, mkR_s39, mkR_g40, mkR_l40, mkR_n40, mkR_s40, mkR_g41, mkR_l41, mkR_n41, mkR_s41, e1]
  exact f1.trans g1
end RF
