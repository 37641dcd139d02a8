/-! ===== Walk: survey ===== -/
section SV
variable {d a : Nat} {h : AH} {b1 b2 : Nat} {M1 M2 : MD} {T : TM}
/-- where way k of orbit i leads -/
def NXF (T : TM) (B : BS) (A : Nat → Nat → Int32) (i k : Nat) : Prop := (wlf (lb (B.2.1 i)) (k % 5) = 0 → A 15 (15 * i + k) = NO) ∧ (wlf (lb (B.2.1 i)) (k % 5) ≠ 0 → ∃ j, j < B.1 ∧ B.2.1 j = chd T T0 (B.2.1 i) (k / 5) (vv (B.2.1 i) (k % 5)) ∧ A 15 (15 * i + k) = nI j)
theorem l_tn (hm1 : ∀ J C, isM (mkW h a J C) b1 M1) (t1 : MTT M1 T) (hT : WFT T) (hm2 : ∀ J C, isM (mkW h a J C) b2 M2) (t2 : MTT M2 T0) (I : Nat → Int32) (i : Nat) (hi : i < (bF T T0).1) : ∀ (m k : Nat) (A : Nat → Nat → Int32), k + m = 15 → WB I A (bF T T0) → LKI I A ((bF T T0).2.1 i) → ∃ A', run (d + 3) mt_55 3 [some (.ref a), some (.int (nI i)), some (.ref b1), some (.ref b2), some (.int (nI k)), none] [] (mkW h a I A) = some (none, mkW h a I A') ∧ (∀ j, k ≤ j → j < 15 → NXF T (bF T T0) A' i j) ∧ (∀ z, (z < 15 * i + k ∨ 15 * i + 15 ≤ z) → A' 15 z = A 15 z) ∧ fra I I A A' [] [12, 13, 15] := by
  have g := bF_GB hT T0_wf
  have h30 := GB_alone hT g
  have vc := g.2.2.1 i hi
  intro m
  induction m with
  | zero =>
    intro k A hk r lk
    have : k = 15 := by omega
    subst this
    refine ⟨A, ?_, fun j h1 h2 => by omega, fun _ _ => rfl, fra.rf _ _ _ _⟩
    rw [nd_55_3 (St_run (d + 3) mt_55)]
    simp (disch := omega) only [↓L_m4, ↓L_m1, L_0, L_1, L_2, L_3, L_4, L_5, L_6, L_8, L_9, L_15, L_20, L_30, L_40, L_54, L_60, L_120, L_1872, L_4320, L_22500, le_t, le_f, lt_t, lt_f, eq_t, eq_f, eq_NO, NO_eq, NO_neg, MO_neg, bI_0, nI_add, pk_mul, pk_ds, rem_, nI_MO, nI_0MO, ↓reduceIte, eq_self, reduceCtorEq, Bool.true_eq_false, Bool.false_eq_true, isZn0, isZn1, isZb, bind_some', rI_some, rV_some, rQ_some, rQ_null, updA_at, updA_ne, pk_us, pk_un, ne_eq, not_false_eq_true, Nat.reduceEqDiff, updA_updA, Nat.reduceSub, Nat.reduceAdd, Nat.reduceMul, Nat.reduceDiv, Nat.zero_add, Nat.add_zero, mkW_o, mkW_g0, mkW_l0, mkW_n0, mkW_s0, mkW_g1, mkW_l1, mkW_n1, mkW_s1, mkW_g2, mkW_l2, mkW_n2, mkW_s2, mkW_g3, mkW_l3, mkW_n3, mkW_s3, mkW_g4, mkW_p4, mkW_g5, mkW_p5, mkW_g6, mkW_p6, mkW_g7, mkW_p7, mkW_g8, mkW_l8, mkW_n8, mkW_s8, mkW_g9, mkW_l9, mkW_n9, mkW_s9, mkW_g10, mkW_l10, mkW_n10, mkW_s10, mkW_g11, mkW_l11, mkW_n11, mkW_s11, mkW_g12, mkW_l12, mkW_n12, mkW_s12, mkW_g13, mkW_l13, mkW_n13, mkW_s13, mkW_g14, mkW_l14, mkW_n14, mkW_s14, mkW_t14, mkW_f14, mkW_g15, mkW_l15, mkW_n15, mkW_s15, mkW_g16, mkW_g17]
  | succ m ih =>
    intro k A hk r lk
    obtain ⟨A1, e1, e2⟩ := W_codeBehind (d := d) (hm1 I A) t1 hT (hm2 I A) t2 T0_wf ((bF T T0).2.1 i) vc lk (k / 5) (k % 5) (by omega) (by omega)
    rw [show 5 * (k / 5) + k % 5 = k by omega] at e1
    have p1 : fra I I A A1 [] [12, 13, 15] := ⟨fun _ _ => rfl, fun j hj => e2 j (fun e => hj (by simp [e])) (fun e => hj (by simp [e]))⟩
    have r1 := r.fa p1 (by decide) (by decide)
    have lk1 := lk.fa p1 (by decide) (by decide)
    have eN : ∀ x : Int32, ∀ A2, A2 = updA A1 15 (upd (A1 15) (15 * i + k) x) → (∀ (Q : Prop), ((wlf (lb ((bF T T0).2.1 i)) (k % 5) = 0 → x = NO) ∧ (wlf (lb ((bF T T0).2.1 i)) (k % 5) ≠ 0 → ∃ j, j < (bF T T0).1 ∧ (bF T T0).2.1 j = chd T T0 ((bF T T0).2.1 i) (k / 5) (vv ((bF T T0).2.1 i) (k % 5)) ∧ x = nI j)) → run (d + 3) mt_55 3 [some (.ref a), some (.int (nI i)), some (.ref b1), some (.ref b2), some (.int (nI k)), none] [] (mkW h a I A) = run (d + 3) mt_55 3 [some (.ref a), some (.int (nI i)), some (.ref b1), some (.ref b2), some (.int (nI (k + 1))), none] [] (mkW h a I A2) → ∃ A', run (d + 3) mt_55 3 [some (.ref a), some (.int (nI i)), some (.ref b1), some (.ref b2), some (.int (nI k)), none] [] (mkW h a I A) = some (none, mkW h a I A') ∧ (∀ j, k ≤ j → j < 15 → NXF T (bF T T0) A' i j) ∧ (∀ z, (z < 15 * i + k ∨ 15 * i + 15 ≤ z) → A' 15 z = A 15 z) ∧ fra I I A A' [] [12, 13, 15]) := by
      intro x A2 hA2 _ hx hr
      subst hA2
      have p2 : fra I I A (updA A1 15 (upd (A1 15) (15 * i + k) x)) [] [12, 13, 15] := p1.w _ (by decide)
      obtain ⟨A', f1, f2, f3, f4⟩ := ih (k + 1) _ (by omega) (r.fa p2 (by decide) (by decide)) (lk.fa p2 (by decide) (by decide))
      have ek : A' 15 (15 * i + k) = x := by rw [f3 _ (Or.inl (by omega)), updA_at, pk_us]
      refine ⟨A', hr.trans f1, fun j h1 h2 => ?_, fun z hz => ?_, p2.tr f4⟩
      · by_cases hj : j = k
        · subst hj
          unfold NXF
          rw [ek]
          exact hx
        · exact f2 j (by omega) h2
      · rw [f3 z (by omega), updA_at, pk_un (by omega), e2 15 (by decide) (by decide)]
    by_cases h0 : wlf (lb ((bF T T0).2.1 i)) (k % 5) = 0
    · rw [if_pos h0] at e1
      refine eN NO _ rfl True ⟨fun _ => rfl, fun e => absurd h0 e⟩ ?_
      rw [nd_55_3 (St_run (d + 3) mt_55)]
      simp (disch := omega) only [nd_55_56 (St_run (d + 3) mt_55), nd_55_58 (St_run (d + 3) mt_55), ↓L_m4, ↓L_m1, L_0, L_1, L_2, L_3, L_4, L_5, L_6, L_8, L_9, L_15, L_20, L_30, L_40, L_54, L_60, L_120, L_1872, L_4320, L_22500, le_t, le_f, lt_t, lt_f, eq_t, eq_f, eq_NO, NO_eq, NO_neg, MO_neg, bI_0, nI_add, pk_mul, pk_ds, rem_, nI_MO, nI_0MO, ↓reduceIte, eq_self, reduceCtorEq, Bool.true_eq_false, Bool.false_eq_true, isZn0, isZn1, isZb, bind_some', rI_some, rV_some, rQ_some, rQ_null, updA_at, updA_ne, pk_us, pk_un, ne_eq, not_false_eq_true, Nat.reduceEqDiff, updA_updA, Nat.reduceSub, Nat.reduceAdd, Nat.reduceMul, Nat.reduceDiv, Nat.zero_add, Nat.add_zero, mkW_o, mkW_g0, mkW_l0, mkW_n0, mkW_s0, mkW_g1, mkW_l1, mkW_n1, mkW_s1, mkW_g2, mkW_l2, mkW_n2, mkW_s2, mkW_g3, mkW_l3, mkW_n3, mkW_s3, mkW_g4, mkW_p4, mkW_g5, mkW_p5, mkW_g6, mkW_p6, mkW_g7, mkW_p7, mkW_g8, mkW_l8, mkW_n8, mkW_s8, mkW_g9, mkW_l9, mkW_n9, mkW_s9, mkW_g10, mkW_l10, mkW_n10, mkW_s10, mkW_g11, mkW_l11, mkW_n11, mkW_s11, mkW_g12, mkW_l12, mkW_n12, mkW_s12, mkW_g13, mkW_l13, mkW_n13, mkW_s13, mkW_g14, mkW_l14, mkW_n14, mkW_s14, mkW_t14, mkW_f14, mkW_g15, mkW_l15, mkW_n15, mkW_s15, mkW_g16, mkW_g17, e1, Nat.mul_comm i 15]
    · rw [if_neg h0] at e1
      obtain ⟨w1, w2, w3, _⟩ := way_ok vc.2.1 (show k % 5 < 5 by omega) h0
      obtain ⟨j, hj, ej⟩ := bF_closed hT T0_wf hi (show k / 5 < 3 by omega) w2 w3
      have vch := (chd_ok hT T0_wf vc (show k / 5 < 3 by omega) w2 w3).1
      have hz := hc_lt vch.2.1 vch.1
      have a0 := r1.2.2.2.1 j hj
      rw [ej] at a0
      refine eN (nI j) _ rfl True ⟨fun e => absurd e h0, fun _ => ⟨j, hj, ej, rfl⟩⟩ ?_
      rw [nd_55_3 (St_run (d + 3) mt_55)]
      have ej1 : nI (j + 1) - nI 1 = nI j := nI_pred j
      simp (disch := omega) only [nd_55_56 (St_run (d + 3) mt_55), nd_55_58 (St_run (d + 3) mt_55), ↓L_m4, ↓L_m1, L_0, L_1, L_2, L_3, L_4, L_5, L_6, L_8, L_9, L_15, L_20, L_30, L_40, L_54, L_60, L_120, L_1872, L_4320, L_22500, le_t, le_f, lt_t, lt_f, eq_t, eq_f, eq_NO, NO_eq, NO_neg, MO_neg, bI_0, nI_add, pk_mul, pk_ds, rem_, nI_MO, nI_0MO, ↓reduceIte, eq_self, reduceCtorEq, Bool.true_eq_false, Bool.false_eq_true, isZn0, isZn1, isZb, bind_some', rI_some, rV_some, rQ_some, rQ_null, updA_at, updA_ne, pk_us, pk_un, ne_eq, not_false_eq_true, Nat.reduceEqDiff, updA_updA, Nat.reduceSub, Nat.reduceAdd, Nat.reduceMul, Nat.reduceDiv, Nat.zero_add, Nat.add_zero, mkW_o, mkW_g0, mkW_l0, mkW_n0, mkW_s0, mkW_g1, mkW_l1, mkW_n1, mkW_s1, mkW_g2, mkW_l2, mkW_n2, mkW_s2, mkW_g3, mkW_l3, mkW_n3, mkW_s3, mkW_g4, mkW_p4, mkW_g5, mkW_p5, mkW_g6, mkW_p6, mkW_g7, mkW_p7, mkW_g8, mkW_l8, mkW_n8, mkW_s8, mkW_g9, mkW_l9, mkW_n9, mkW_s9, mkW_g10, mkW_l10, mkW_n10, mkW_s10, mkW_g11, mkW_l11, mkW_n11, mkW_s11, mkW_g12, mkW_l12, mkW_n12, mkW_s12, mkW_g13, mkW_l13, mkW_n13, mkW_s13, mkW_g14, mkW_l14, mkW_n14, mkW_s14, mkW_t14, mkW_f14, mkW_g15, mkW_l15, mkW_n15, mkW_s15, mkW_g16, mkW_g17, e1, a0, ej1, Nat.mul_comm i 15]
theorem W_tellNext (hm1 : ∀ J C, isM (mkW h a J C) b1 M1) (t1 : MTT M1 T) (hT : WFT T) (hm2 : ∀ J C, isM (mkW h a J C) b2 M2) (t2 : MTT M2 T0) (I : Nat → Int32) (A : Nat → Nat → Int32) (i : Nat) (hi : i < (bF T T0).1) (r : WB I A (bF T T0)) (lk : LKI I A ((bF T T0).2.1 i)) : ∃ A', call (d + 4) 55 [.ref a, .int (nI i), .ref b1, .ref b2] (mkW h a I A) = some (none, mkW h a I A') ∧ (∀ j, j < 15 → NXF T (bF T T0) A' i j) ∧ (∀ z, (z < 15 * i ∨ 15 * i + 15 ≤ z) → A' 15 z = A 15 z) ∧ fra I I A A' [] [12, 13, 15] := by
  obtain ⟨A', e1, e2, e3, e4⟩ := l_tn (d := d) hm1 t1 hT hm2 t2 I i hi 15 0 A rfl r lk
  refine ⟨A', ?_, fun j hj => e2 j (Nat.zero_le _) hj, e3, e4⟩
  rw [call_at mt_55 [some (.ref a), some (.int (nI i)), some (.ref b1), some (.ref b2), none, none] rfl rfl rfl, nd_55_0 (St_run (d + 3) mt_55)]
  exact e1
/-- lives and ways of the first n orbits -/
def LVN (T : TM) (A : Nat → Nat → Int32) (S : Nat → Bool) (n : Nat) : Prop := (∀ j, j < n → A 14 j = bI (S j)) ∧ ∀ j, j < n → ∀ k, k < 15 → NXF T (bF T T0) A j k
def sGd (T : TM) (i : Nat) : Bool := T.2.2.2 ((bF T T0).2.1 i / 625 / 6)
theorem l_sv1 (hm1 : ∀ J C, isM (mkW h a J C) b1 M1) (t1 : MTT M1 T) (hT : WFT T) (hm2 : ∀ J C, isM (mkW h a J C) b2 M2) (t2 : MTT M2 T0) : ∀ (m i : Nat) (I : Nat → Int32) (A : Nat → Nat → Int32), i + m = (bF T T0).1 → WB I A (bF T T0) → LVN T A (sGd T) i → ∃ I' A', run (d + 4) mt_54 10 [some (.ref a), some (.ref b1), some (.ref b2), some (.int (nI i)), none] [] (mkW h a I A) = run (d + 4) mt_54 56 [some (.ref a), some (.ref b1), none, none, none] [] (mkW h a I' A') ∧ WB I' A' (bF T T0) ∧ LVN T A' (sGd T) (bF T T0).1 := by
  have g := bF_GB hT T0_wf
  have h30 := GB_alone hT g
  intro m
  induction m with
  | zero =>
    intro i I A hi r lv
    have hin : i = (bF T T0).1 := by omega
    rw [hin] at lv
    refine ⟨I, A, ?_, r, lv⟩
    have r1 := r.1
    rw [nd_54_10 (St_run (d + 4) mt_54)]
    simp (disch := omega) only [↓L_m4, ↓L_m1, L_0, L_1, L_2, L_3, L_4, L_5, L_6, L_8, L_9, L_15, L_20, L_30, L_40, L_54, L_60, L_120, L_1872, L_4320, L_22500, le_t, le_f, lt_t, lt_f, eq_t, eq_f, eq_NO, NO_eq, NO_neg, MO_neg, bI_0, nI_add, pk_mul, pk_ds, rem_, nI_MO, nI_0MO, ↓reduceIte, eq_self, reduceCtorEq, Bool.true_eq_false, Bool.false_eq_true, isZn0, isZn1, isZb, bind_some', rI_some, rV_some, rQ_some, rQ_null, updA_at, updA_ne, pk_us, pk_un, ne_eq, not_false_eq_true, Nat.reduceEqDiff, updA_updA, Nat.reduceSub, Nat.reduceAdd, Nat.reduceMul, Nat.reduceDiv, Nat.zero_add, Nat.add_zero, mkW_o, mkW_g0, mkW_l0, mkW_n0, mkW_s0, mkW_g1, mkW_l1, mkW_n1, mkW_s1, mkW_g2, mkW_l2, mkW_n2, mkW_s2, mkW_g3, mkW_l3, mkW_n3, mkW_s3, mkW_g4, mkW_p4, mkW_g5, mkW_p5, mkW_g6, mkW_p6, mkW_g7, mkW_p7, mkW_g8, mkW_l8, mkW_n8, mkW_s8, mkW_g9, mkW_l9, mkW_n9, mkW_s9, mkW_g10, mkW_l10, mkW_n10, mkW_s10, mkW_g11, mkW_l11, mkW_n11, mkW_s11, mkW_g12, mkW_l12, mkW_n12, mkW_s12, mkW_g13, mkW_l13, mkW_n13, mkW_s13, mkW_g14, mkW_l14, mkW_n14, mkW_s14, mkW_t14, mkW_f14, mkW_g15, mkW_l15, mkW_n15, mkW_s15, mkW_g16, mkW_g17, r1]
  | succ m ih =>
    intro i I A hi r lv
    have hiB : i < (bF T T0).1 := by omega
    have vc := g.2.2.1 i hiB
    have r1 := r.1
    obtain ⟨A1, e1, lk1, f1⟩ := W_lookAt (d := d + 2) (a := a) (h := h) (I := I) (A := A) ((bF T T0).2.1 i) i (by omega) (r.2.1 i hiB) vc.2.1 vc.1
    have ra := r.fa f1 (by decide) (by decide)
    have gA := W_good (d := d + 2) (hm1 (LI I ((bF T T0).2.1 i)) A1) t1 hT _ vc.2.2.1
    have o1 := (hm1 (LI I ((bF T T0).2.1 i)) A1).o
    have k5 := lk1.1
    have p2 : fra (LI I ((bF T T0).2.1 i)) (LI I ((bF T T0).2.1 i)) A1 (updA A1 14 (upd (A1 14) i (bI (T.2.2.2 ((bF T T0).2.1 i / 625 / 6))))) [] [14] := (fra.rf _ _ _ _).w _ (by decide)
    obtain ⟨A2, e2, n2, z2, f2⟩ := W_tellNext (d := d) hm1 t1 hT hm2 t2 (LI I ((bF T T0).2.1 i)) _ i hiB (ra.fa p2 (by decide) (by decide)) (lk1.fa p2 (by decide) (by decide))
    have rb := (ra.fa p2 (by decide) (by decide)).fa f2 (by decide) (by decide)
    have e14 : A2 14 = upd (A 14) i (bI (T.2.2.2 ((bF T T0).2.1 i / 625 / 6))) := by
      rw [f2.2 14 (by decide), updA_at, f1.2 14 (by decide)]
    have e15 : ∀ z, (z < 15 * i ∨ 15 * i + 15 ≤ z) → A2 15 z = A 15 z := fun z hz => by
      rw [z2 z hz, updA_ne (by decide), f1.2 15 (by decide)]
    obtain ⟨I3, A3, e3, r3, v3⟩ := ih (i + 1) _ A2 (by omega) rb ⟨fun j hj => by
      rw [e14]
      by_cases hji : j = i
      · rw [hji, pk_us]; rfl
      · rw [pk_un hji]; exact lv.1 j (by omega), fun j hj k hk => by
      by_cases hji : j = i
      · rw [hji]; exact n2 k hk
      · have := lv.2 j (by omega) k hk
        unfold NXF at this ⊢
        rw [e15 _ (by omega)]
        exact this⟩
    refine ⟨I3, A3, ?_, r3, v3⟩
    rw [nd_54_10 (St_run (d + 4) mt_54)]
    simp (disch := omega) only [↓L_m4, ↓L_m1, L_0, L_1, L_2, L_3, L_4, L_5, L_6, L_8, L_9, L_15, L_20, L_30, L_40, L_54, L_60, L_120, L_1872, L_4320, L_22500, le_t, le_f, lt_t, lt_f, eq_t, eq_f, eq_NO, NO_eq, NO_neg, MO_neg, bI_0, nI_add, pk_mul, pk_ds, rem_, nI_MO, nI_0MO, ↓reduceIte, eq_self, reduceCtorEq, Bool.true_eq_false, Bool.false_eq_true, isZn0, isZn1, isZb, bind_some', rI_some, rV_some, rQ_some, rQ_null, updA_at, updA_ne, pk_us, pk_un, ne_eq, not_false_eq_true, Nat.reduceEqDiff, updA_updA, Nat.reduceSub, Nat.reduceAdd, Nat.reduceMul, Nat.reduceDiv, Nat.zero_add, Nat.add_zero, mkW_o, mkW_g0, mkW_l0, mkW_n0, mkW_s0, mkW_g1, mkW_l1, mkW_n1, mkW_s1, mkW_g2, mkW_l2, mkW_n2, mkW_s2, mkW_g3, mkW_l3, mkW_n3, mkW_s3, mkW_g4, mkW_p4, mkW_g5, mkW_p5, mkW_g6, mkW_p6, mkW_g7, mkW_p7, mkW_g8, mkW_l8, mkW_n8, mkW_s8, mkW_g9, mkW_l9, mkW_n9, mkW_s9, mkW_g10, mkW_l10, mkW_n10, mkW_s10, mkW_g11, mkW_l11, mkW_n11, mkW_s11, mkW_g12, mkW_l12, mkW_n12, mkW_s12, mkW_g13, mkW_l13, mkW_n13, mkW_s13, mkW_g14, mkW_l14, mkW_n14, mkW_s14, mkW_t14, mkW_f14, mkW_g15, mkW_l15, mkW_n15, mkW_s15, mkW_g16, mkW_g17, r1, e1, k5, o1, gA, e2]
    exact e3
/-- leadsToLife -/
theorem l_ltl {I : Nat → Int32} {A : Nat → Nat → Int32} {S : Nat → Bool} (hT : WFT T) (lv : LVN T A S (bF T T0).1) (i : Nat) (hi : i < (bF T T0).1) : ∀ (m k : Nat), k + m = 15 → ∃ b : Bool, run d mt_57 2 [some (.ref a), some (.int (nI i)), some (.int (nI k)), none] [] (mkW h a I A) = some (some (.int (bI b)), mkW h a I A) ∧ (b = true ↔ ∃ z, k ≤ z ∧ z < 15 ∧ ∃ j, j < (bF T T0).1 ∧ A 15 (15 * i + z) = nI j ∧ S j = true) := by
  have g := bF_GB hT T0_wf
  have h30 := GB_alone hT g
  intro m
  induction m with
  | zero =>
    intro k hk
    have : k = 15 := by omega
    subst this
    refine ⟨false, ?_, ⟨fun e => (by cases e), fun ⟨z, h1, h2, _⟩ => by omega⟩⟩
    rw [nd_57_2 (St_run d mt_57)]
    simp (disch := omega) only [↓L_m4, ↓L_m1, L_0, L_1, L_2, L_3, L_4, L_5, L_6, L_8, L_9, L_15, L_20, L_30, L_40, L_54, L_60, L_120, L_1872, L_4320, L_22500, le_t, le_f, lt_t, lt_f, eq_t, eq_f, eq_NO, NO_eq, NO_neg, MO_neg, bI_0, nI_add, pk_mul, pk_ds, rem_, nI_MO, nI_0MO, ↓reduceIte, eq_self, reduceCtorEq, Bool.true_eq_false, Bool.false_eq_true, isZn0, isZn1, isZb, bind_some', rI_some, rV_some, rQ_some, rQ_null, updA_at, updA_ne, pk_us, pk_un, ne_eq, not_false_eq_true, Nat.reduceEqDiff, updA_updA, Nat.reduceSub, Nat.reduceAdd, Nat.reduceMul, Nat.reduceDiv, Nat.zero_add, Nat.add_zero, mkW_o, mkW_g0, mkW_l0, mkW_n0, mkW_s0, mkW_g1, mkW_l1, mkW_n1, mkW_s1, mkW_g2, mkW_l2, mkW_n2, mkW_s2, mkW_g3, mkW_l3, mkW_n3, mkW_s3, mkW_g4, mkW_p4, mkW_g5, mkW_p5, mkW_g6, mkW_p6, mkW_g7, mkW_p7, mkW_g8, mkW_l8, mkW_n8, mkW_s8, mkW_g9, mkW_l9, mkW_n9, mkW_s9, mkW_g10, mkW_l10, mkW_n10, mkW_s10, mkW_g11, mkW_l11, mkW_n11, mkW_s11, mkW_g12, mkW_l12, mkW_n12, mkW_s12, mkW_g13, mkW_l13, mkW_n13, mkW_s13, mkW_g14, mkW_l14, mkW_n14, mkW_s14, mkW_t14, mkW_f14, mkW_g15, mkW_l15, mkW_n15, mkW_s15, mkW_g16, mkW_g17]
    rfl
  | succ m ih =>
    intro k hk
    obtain ⟨b, e1, e2⟩ := ih (k + 1) (by omega)
    have nx := lv.2 i hi k (by omega)
    have stay : run d mt_57 41 [some (.ref a), some (.int (nI i)), some (.int (nI k)), none] [] (mkW h a I A) = some (some (.int (bI b)), mkW h a I A) := by
      rw [nd_57_41 (St_run d mt_57), nI_1]
      exact e1
    rw [nd_57_2 (St_run d mt_57)]
    by_cases h0 : wlf (lb ((bF T T0).2.1 i)) (k % 5) = 0
    · have e0 := nx.1 h0
      refine ⟨b, ?_, e2.trans ⟨fun ⟨z, h1, h2, h3⟩ => ⟨z, by omega, h2, h3⟩, fun ⟨z, h1, h2, j, h3, h4, h5⟩ => ?_⟩⟩
      · simp (disch := omega) only [↓L_m4, ↓L_m1, L_0, L_1, L_2, L_3, L_4, L_5, L_6, L_8, L_9, L_15, L_20, L_30, L_40, L_54, L_60, L_120, L_1872, L_4320, L_22500, le_t, le_f, lt_t, lt_f, eq_t, eq_f, eq_NO, NO_eq, NO_neg, MO_neg, bI_0, nI_add, pk_mul, pk_ds, rem_, nI_MO, nI_0MO, ↓reduceIte, eq_self, reduceCtorEq, Bool.true_eq_false, Bool.false_eq_true, isZn0, isZn1, isZb, bind_some', rI_some, rV_some, rQ_some, rQ_null, updA_at, updA_ne, pk_us, pk_un, ne_eq, not_false_eq_true, Nat.reduceEqDiff, updA_updA, Nat.reduceSub, Nat.reduceAdd, Nat.reduceMul, Nat.reduceDiv, Nat.zero_add, Nat.add_zero, mkW_o, mkW_g0, mkW_l0, mkW_n0, mkW_s0, mkW_g1, mkW_l1, mkW_n1, mkW_s1, mkW_g2, mkW_l2, mkW_n2, mkW_s2, mkW_g3, mkW_l3, mkW_n3, mkW_s3, mkW_g4, mkW_p4, mkW_g5, mkW_p5, mkW_g6, mkW_p6, mkW_g7, mkW_p7, mkW_g8, mkW_l8, mkW_n8, mkW_s8, mkW_g9, mkW_l9, mkW_n9, mkW_s9, mkW_g10, mkW_l10, mkW_n10, mkW_s10, mkW_g11, mkW_l11, mkW_n11, mkW_s11, mkW_g12, mkW_l12, mkW_n12, mkW_s12, mkW_g13, mkW_l13, mkW_n13, mkW_s13, mkW_g14, mkW_l14, mkW_n14, mkW_s14, mkW_t14, mkW_f14, mkW_g15, mkW_l15, mkW_n15, mkW_s15, mkW_g16, mkW_g17, Nat.mul_comm i 15, e0, stay]
      · by_cases hz : z = k
        · rw [hz, e0] at h4
          have := NO_eq (a := j) (by omega)
          rw [this] at h4
          exact h4.elim
        · exact ⟨z, by omega, h2, j, h3, h4, h5⟩
    · obtain ⟨j, j1, j2, j3⟩ := nx.2 h0
      have a14 := lv.1 j j1
      cases hS : S j with
      | false =>
        rw [hS] at a14
        refine ⟨b, ?_, e2.trans ⟨fun ⟨z, h1, h2, h3⟩ => ⟨z, by omega, h2, h3⟩, fun ⟨z, h1, h2, j', h3, h4, h5⟩ => ?_⟩⟩
        · simp (disch := omega) only [↓L_m4, ↓L_m1, L_0, L_1, L_2, L_3, L_4, L_5, L_6, L_8, L_9, L_15, L_20, L_30, L_40, L_54, L_60, L_120, L_1872, L_4320, L_22500, le_t, le_f, lt_t, lt_f, eq_t, eq_f, eq_NO, NO_eq, NO_neg, MO_neg, bI_0, nI_add, pk_mul, pk_ds, rem_, nI_MO, nI_0MO, ↓reduceIte, eq_self, reduceCtorEq, Bool.true_eq_false, Bool.false_eq_true, isZn0, isZn1, isZb, bind_some', rI_some, rV_some, rQ_some, rQ_null, updA_at, updA_ne, pk_us, pk_un, ne_eq, not_false_eq_true, Nat.reduceEqDiff, updA_updA, Nat.reduceSub, Nat.reduceAdd, Nat.reduceMul, Nat.reduceDiv, Nat.zero_add, Nat.add_zero, mkW_o, mkW_g0, mkW_l0, mkW_n0, mkW_s0, mkW_g1, mkW_l1, mkW_n1, mkW_s1, mkW_g2, mkW_l2, mkW_n2, mkW_s2, mkW_g3, mkW_l3, mkW_n3, mkW_s3, mkW_g4, mkW_p4, mkW_g5, mkW_p5, mkW_g6, mkW_p6, mkW_g7, mkW_p7, mkW_g8, mkW_l8, mkW_n8, mkW_s8, mkW_g9, mkW_l9, mkW_n9, mkW_s9, mkW_g10, mkW_l10, mkW_n10, mkW_s10, mkW_g11, mkW_l11, mkW_n11, mkW_s11, mkW_g12, mkW_l12, mkW_n12, mkW_s12, mkW_g13, mkW_l13, mkW_n13, mkW_s13, mkW_g14, mkW_l14, mkW_n14, mkW_s14, mkW_t14, mkW_f14, mkW_g15, mkW_l15, mkW_n15, mkW_s15, mkW_g16, mkW_g17, Nat.mul_comm i 15, j3, a14, stay]
        · by_cases hz : z = k
          · rw [hz, j3, nI_eq (by omega) (by omega)] at h4
            rw [← h4, hS] at h5
            cases h5
          · exact ⟨z, by omega, h2, j', h3, h4, h5⟩
      | true =>
        rw [hS] at a14
        refine ⟨true, ?_, ⟨fun _ => ⟨k, Nat.le_refl _, by omega, j, j1, j3, hS⟩, fun _ => rfl⟩⟩
        simp (disch := omega) only [↓L_m4, ↓L_m1, L_0, L_1, L_2, L_3, L_4, L_5, L_6, L_8, L_9, L_15, L_20, L_30, L_40, L_54, L_60, L_120, L_1872, L_4320, L_22500, le_t, le_f, lt_t, lt_f, eq_t, eq_f, eq_NO, NO_eq, NO_neg, MO_neg, bI_0, nI_add, pk_mul, pk_ds, rem_, nI_MO, nI_0MO, ↓reduceIte, eq_self, reduceCtorEq, Bool.true_eq_false, Bool.false_eq_true, isZn0, isZn1, isZb, bind_some', rI_some, rV_some, rQ_some, rQ_null, updA_at, updA_ne, pk_us, pk_un, ne_eq, not_false_eq_true, Nat.reduceEqDiff, updA_updA, Nat.reduceSub, Nat.reduceAdd, Nat.reduceMul, Nat.reduceDiv, Nat.zero_add, Nat.add_zero, mkW_o, mkW_g0, mkW_l0, mkW_n0, mkW_s0, mkW_g1, mkW_l1, mkW_n1, mkW_s1, mkW_g2, mkW_l2, mkW_n2, mkW_s2, mkW_g3, mkW_l3, mkW_n3, mkW_s3, mkW_g4, mkW_p4, mkW_g5, mkW_p5, mkW_g6, mkW_p6, mkW_g7, mkW_p7, mkW_g8, mkW_l8, mkW_n8, mkW_s8, mkW_g9, mkW_l9, mkW_n9, mkW_s9, mkW_g10, mkW_l10, mkW_n10, mkW_s10, mkW_g11, mkW_l11, mkW_n11, mkW_s11, mkW_g12, mkW_l12, mkW_n12, mkW_s12, mkW_g13, mkW_l13, mkW_n13, mkW_s13, mkW_g14, mkW_l14, mkW_n14, mkW_s14, mkW_t14, mkW_f14, mkW_g15, mkW_l15, mkW_n15, mkW_s15, mkW_g16, mkW_g17, Nat.mul_comm i 15, j3, a14]
        rfl
theorem nxt_iff {A : Nat → Nat → Int32} {S : Nat → Bool} (hT : WFT T) (lv : LVN T A S (bF T T0).1) {i : Nat} (hi : i < (bF T T0).1) : (∃ z, 0 ≤ z ∧ z < 15 ∧ ∃ j, j < (bF T T0).1 ∧ A 15 (15 * i + z) = nI j ∧ S j = true) ↔ ∃ j, j < (bF T T0).1 ∧ nxt T (bF T T0).2.1 i j ∧ S j = true := by
  have g := bF_GB hT T0_wf
  have h30 := GB_alone hT g
  have vc := g.2.2.1 i hi
  constructor
  · rintro ⟨z, _, hz, j, hj, h1, h2⟩
    have nx := lv.2 i hi z hz
    by_cases h0 : wlf (lb ((bF T T0).2.1 i)) (z % 5) = 0
    · rw [nx.1 h0] at h1
      have := NO_eq (a := j) (by omega)
      rw [this] at h1
      exact h1.elim
    · obtain ⟨j', j1, j2, j3⟩ := nx.2 h0
      rw [j3, nI_eq (by omega) (by omega)] at h1
      subst h1
      obtain ⟨w1, w2, w3, _⟩ := way_ok vc.2.1 (show z % 5 < 5 by omega) h0
      exact ⟨j', hj, ⟨z / 5, vv ((bF T T0).2.1 i) (z % 5), by omega, w2, w3, j2⟩, h2⟩
  · rintro ⟨j, hj, ⟨l, v, hl, hv, hv2, e⟩, h2⟩
    obtain ⟨w, hw, h0, ev⟩ := v_way vc.2.1 hv hv2
    have nx := lv.2 i hi (5 * l + w) (by omega)
    unfold NXF at nx
    rw [show (5 * l + w) % 5 = w by omega, show (5 * l + w) / 5 = l by omega] at nx
    obtain ⟨j', j1, j2, j3⟩ := nx.2 h0
    rw [ev, ← e] at j2
    have := g.2.2.2.1 j' j j1 hj j2
    subst this
    exact ⟨5 * l + w, Nat.zero_le _, by omega, j', hj, j3, h2⟩
theorem W_leads {I : Nat → Int32} {A : Nat → Nat → Int32} {S : Nat → Bool} (hT : WFT T) (lv : LVN T A S (bF T T0).1) (i : Nat) (hi : i < (bF T T0).1) : ∃ b : Bool, call (d + 1) 57 [.ref a, .int (nI i)] (mkW h a I A) = some (some (.int (bI b)), mkW h a I A) ∧ (b = true ↔ ∃ j, j < (bF T T0).1 ∧ nxt T (bF T T0).2.1 i j ∧ S j = true) := by
  obtain ⟨b, e1, e2⟩ := l_ltl (d := d) (a := a) (h := h) (I := I) hT lv i hi 15 0 rfl
  refine ⟨b, ?_, e2.trans (nxt_iff hT lv hi)⟩
  rw [call_at mt_57 [some (.ref a), some (.int (nI i)), none, none] rfl rfl rfl, nd_57_0 (St_run d mt_57)]
  exact e1
end SV
