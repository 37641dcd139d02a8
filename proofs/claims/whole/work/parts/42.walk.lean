/-! ===== Walk: looking at an orbit, the code behind a way ===== -/
theorem eqI {a b : Nat} (ha : a < 2 ^ 31) (hb : b < 2 ^ 31) : (nI a = nI b) = (a = b) := propext (nI_eq ha hb)
theorem isM.l0 {h : AH} {a : Nat} {M : MD} (hM : isM h a M) {j : Nat} (hj : j < 54) (f : Int32 → Option RV) : ldI h (a + 1) (nI j) f = f (M.2.1 j) := ldI_of hM.2.1 rfl hj (by decide) f
theorem isM.l1 {h : AH} {a : Nat} {M : MD} (hM : isM h a M) {j : Nat} (hj : j < 54) (f : Int32 → Option RV) : ldI h (a + 2) (nI j) f = f (M.2.2.1 j) := ldI_of hM.2.2.1 rfl hj (by decide) f
/-- the class' machine is T -/
def MTT (M : MD) (T : TM) : Prop := M.1.1 = nI T.1.1 ∧ M.1.2.1 = nI T.1.2 ∧ (∀ j, j < 54 → M.2.1 j = nI (T.2.1 j)) ∧ (∀ j, j < 54 → M.2.2.1 j = kI (T.2.2.1 j)) ∧ (∀ j, j < 6 → M.2.2.2.1 j = bI (T.2.2.2 j))
theorem wlf_b {l : Nat → Nat} {n : Nat} (hl : ∀ j, j < 4 → l j < n) (h5 : 5 < n) (w : Nat) : wlf l w < n := by
  have b0 := hl 0 (by omega)
  have b1 := hl 1 (by omega)
  have b2 := hl 2 (by omega)
  have b3 := hl 3 (by omega)
  unfold wlf
  split
  · exact b0
  · split <;> omega
  · split
    · omega
    · split <;> omega
  · split
    · omega
    · split
      · omega
      · split <;> omega
  · omega
theorem wlf_lt {l : Nat → Nat} (hl : ∀ j, j < 4 → l j < 100) {w : Nat} (_ : w < 5) : wlf l w < 100 := wlf_b hl (by omega) w
section WK
variable {d a : Nat} {h : AH} {I : Nat → Int32} {A : Nat → Nat → Int32}
theorem W_labelOf (l : Nat → Nat) (hl : ∀ j, j < 4 → A 8 j = nI (l j) ∧ l j < 100) (w : Nat) (hw : w < 5) : call (d + 1) 47 [.ref a, .int (nI w)] (mkW h a I A) = some (some (.int (nI (wlf l w))), mkW h a I A) := by
  obtain ⟨a0, b0⟩ := hl 0 (by omega)
  obtain ⟨a1, b1⟩ := hl 1 (by omega)
  obtain ⟨a2, b2⟩ := hl 2 (by omega)
  obtain ⟨a3, b3⟩ := hl 3 (by omega)
  rw [call_at mt_47 [some (.ref a), some (.int (nI w)), none] rfl rfl rfl]
  rcases (show w = 0 ∨ w = 1 ∨ w = 2 ∨ w = 3 ∨ w = 4 by omega) with rfl | rfl | rfl | rfl | rfl
  · simp (disch := omega) only [nd_47_0 (St_run d mt_47), nd_47_9 (St_run d mt_47), nd_47_13 (St_run d mt_47), ↓L_m4, ↓L_m1, L_0, L_1, L_2, L_3, L_4, L_5, L_6, L_8, L_9, L_15, L_20, L_30, L_40, L_54, L_60, L_120, L_1872, L_4320, L_22500, le_t, le_f, lt_t, lt_f, eq_t, eq_f, eq_NO, NO_eq, NO_neg, MO_neg, bI_0, nI_add, pk_mul, pk_ds, rem_, nI_MO, nI_0MO, ↓reduceIte, eq_self, reduceCtorEq, Bool.true_eq_false, Bool.false_eq_true, isZn0, isZn1, isZb, bind_some', rI_some, rV_some, rQ_some, rQ_null, updA_at, updA_ne, pk_us, pk_un, ne_eq, not_false_eq_true, Nat.reduceEqDiff, updA_updA, Nat.reduceSub, Nat.reduceAdd, Nat.reduceMul, Nat.reduceDiv, Nat.zero_add, Nat.add_zero, mkW_o, mkW_g0, mkW_l0, mkW_n0, mkW_s0, mkW_g1, mkW_l1, mkW_n1, mkW_s1, mkW_g2, mkW_l2, mkW_n2, mkW_s2, mkW_g3, mkW_l3, mkW_n3, mkW_s3, mkW_g4, mkW_p4, mkW_g5, mkW_p5, mkW_g6, mkW_p6, mkW_g7, mkW_p7, mkW_g8, mkW_l8, mkW_n8, mkW_s8, mkW_g9, mkW_l9, mkW_n9, mkW_s9, mkW_g10, mkW_l10, mkW_n10, mkW_s10, mkW_g11, mkW_l11, mkW_n11, mkW_s11, mkW_g12, mkW_l12, mkW_n12, mkW_s12, mkW_g13, mkW_l13, mkW_n13, mkW_s13, mkW_g14, mkW_l14, mkW_n14, mkW_s14, mkW_t14, mkW_f14, mkW_g15, mkW_l15, mkW_n15, mkW_s15, mkW_g16, mkW_g17, a0, a1, a2, a3, eqI]
    rfl
  · simp (disch := omega) only [nd_47_0 (St_run d mt_47), nd_47_9 (St_run d mt_47), nd_47_13 (St_run d mt_47), ↓L_m4, ↓L_m1, L_0, L_1, L_2, L_3, L_4, L_5, L_6, L_8, L_9, L_15, L_20, L_30, L_40, L_54, L_60, L_120, L_1872, L_4320, L_22500, le_t, le_f, lt_t, lt_f, eq_t, eq_f, eq_NO, NO_eq, NO_neg, MO_neg, bI_0, nI_add, pk_mul, pk_ds, rem_, nI_MO, nI_0MO, ↓reduceIte, eq_self, reduceCtorEq, Bool.true_eq_false, Bool.false_eq_true, isZn0, isZn1, isZb, bind_some', rI_some, rV_some, rQ_some, rQ_null, updA_at, updA_ne, pk_us, pk_un, ne_eq, not_false_eq_true, Nat.reduceEqDiff, updA_updA, Nat.reduceSub, Nat.reduceAdd, Nat.reduceMul, Nat.reduceDiv, Nat.zero_add, Nat.add_zero, mkW_o, mkW_g0, mkW_l0, mkW_n0, mkW_s0, mkW_g1, mkW_l1, mkW_n1, mkW_s1, mkW_g2, mkW_l2, mkW_n2, mkW_s2, mkW_g3, mkW_l3, mkW_n3, mkW_s3, mkW_g4, mkW_p4, mkW_g5, mkW_p5, mkW_g6, mkW_p6, mkW_g7, mkW_p7, mkW_g8, mkW_l8, mkW_n8, mkW_s8, mkW_g9, mkW_l9, mkW_n9, mkW_s9, mkW_g10, mkW_l10, mkW_n10, mkW_s10, mkW_g11, mkW_l11, mkW_n11, mkW_s11, mkW_g12, mkW_l12, mkW_n12, mkW_s12, mkW_g13, mkW_l13, mkW_n13, mkW_s13, mkW_g14, mkW_l14, mkW_n14, mkW_s14, mkW_t14, mkW_f14, mkW_g15, mkW_l15, mkW_n15, mkW_s15, mkW_g16, mkW_g17, a0, a1, a2, a3, eqI]
    by_cases e0 : l 0 = l 1 <;> simp [wlf, e0]
  · simp (disch := omega) only [nd_47_0 (St_run d mt_47), nd_47_9 (St_run d mt_47), nd_47_13 (St_run d mt_47), ↓L_m4, ↓L_m1, L_0, L_1, L_2, L_3, L_4, L_5, L_6, L_8, L_9, L_15, L_20, L_30, L_40, L_54, L_60, L_120, L_1872, L_4320, L_22500, le_t, le_f, lt_t, lt_f, eq_t, eq_f, eq_NO, NO_eq, NO_neg, MO_neg, bI_0, nI_add, pk_mul, pk_ds, rem_, nI_MO, nI_0MO, ↓reduceIte, eq_self, reduceCtorEq, Bool.true_eq_false, Bool.false_eq_true, isZn0, isZn1, isZb, bind_some', rI_some, rV_some, rQ_some, rQ_null, updA_at, updA_ne, pk_us, pk_un, ne_eq, not_false_eq_true, Nat.reduceEqDiff, updA_updA, Nat.reduceSub, Nat.reduceAdd, Nat.reduceMul, Nat.reduceDiv, Nat.zero_add, Nat.add_zero, mkW_o, mkW_g0, mkW_l0, mkW_n0, mkW_s0, mkW_g1, mkW_l1, mkW_n1, mkW_s1, mkW_g2, mkW_l2, mkW_n2, mkW_s2, mkW_g3, mkW_l3, mkW_n3, mkW_s3, mkW_g4, mkW_p4, mkW_g5, mkW_p5, mkW_g6, mkW_p6, mkW_g7, mkW_p7, mkW_g8, mkW_l8, mkW_n8, mkW_s8, mkW_g9, mkW_l9, mkW_n9, mkW_s9, mkW_g10, mkW_l10, mkW_n10, mkW_s10, mkW_g11, mkW_l11, mkW_n11, mkW_s11, mkW_g12, mkW_l12, mkW_n12, mkW_s12, mkW_g13, mkW_l13, mkW_n13, mkW_s13, mkW_g14, mkW_l14, mkW_n14, mkW_s14, mkW_t14, mkW_f14, mkW_g15, mkW_l15, mkW_n15, mkW_s15, mkW_g16, mkW_g17, a0, a1, a2, a3, eqI]
    by_cases e0 : l 0 = l 2 <;> by_cases e1 : l 1 = l 2 <;> simp [wlf, e0, e1]
  · simp (disch := omega) only [nd_47_0 (St_run d mt_47), nd_47_9 (St_run d mt_47), nd_47_13 (St_run d mt_47), ↓L_m4, ↓L_m1, L_0, L_1, L_2, L_3, L_4, L_5, L_6, L_8, L_9, L_15, L_20, L_30, L_40, L_54, L_60, L_120, L_1872, L_4320, L_22500, le_t, le_f, lt_t, lt_f, eq_t, eq_f, eq_NO, NO_eq, NO_neg, MO_neg, bI_0, nI_add, pk_mul, pk_ds, rem_, nI_MO, nI_0MO, ↓reduceIte, eq_self, reduceCtorEq, Bool.true_eq_false, Bool.false_eq_true, isZn0, isZn1, isZb, bind_some', rI_some, rV_some, rQ_some, rQ_null, updA_at, updA_ne, pk_us, pk_un, ne_eq, not_false_eq_true, Nat.reduceEqDiff, updA_updA, Nat.reduceSub, Nat.reduceAdd, Nat.reduceMul, Nat.reduceDiv, Nat.zero_add, Nat.add_zero, mkW_o, mkW_g0, mkW_l0, mkW_n0, mkW_s0, mkW_g1, mkW_l1, mkW_n1, mkW_s1, mkW_g2, mkW_l2, mkW_n2, mkW_s2, mkW_g3, mkW_l3, mkW_n3, mkW_s3, mkW_g4, mkW_p4, mkW_g5, mkW_p5, mkW_g6, mkW_p6, mkW_g7, mkW_p7, mkW_g8, mkW_l8, mkW_n8, mkW_s8, mkW_g9, mkW_l9, mkW_n9, mkW_s9, mkW_g10, mkW_l10, mkW_n10, mkW_s10, mkW_g11, mkW_l11, mkW_n11, mkW_s11, mkW_g12, mkW_l12, mkW_n12, mkW_s12, mkW_g13, mkW_l13, mkW_n13, mkW_s13, mkW_g14, mkW_l14, mkW_n14, mkW_s14, mkW_t14, mkW_f14, mkW_g15, mkW_l15, mkW_n15, mkW_s15, mkW_g16, mkW_g17, a0, a1, a2, a3, eqI]
    by_cases e0 : l 0 = l 3 <;> by_cases e1 : l 1 = l 3 <;> by_cases e2 : l 2 = l 3 <;> simp [wlf, e0, e1, e2]
  · simp (disch := omega) only [nd_47_0 (St_run d mt_47), nd_47_9 (St_run d mt_47), nd_47_13 (St_run d mt_47), ↓L_m4, ↓L_m1, L_0, L_1, L_2, L_3, L_4, L_5, L_6, L_8, L_9, L_15, L_20, L_30, L_40, L_54, L_60, L_120, L_1872, L_4320, L_22500, le_t, le_f, lt_t, lt_f, eq_t, eq_f, eq_NO, NO_eq, NO_neg, MO_neg, bI_0, nI_add, pk_mul, pk_ds, rem_, nI_MO, nI_0MO, ↓reduceIte, eq_self, reduceCtorEq, Bool.true_eq_false, Bool.false_eq_true, isZn0, isZn1, isZb, bind_some', rI_some, rV_some, rQ_some, rQ_null, updA_at, updA_ne, pk_us, pk_un, ne_eq, not_false_eq_true, Nat.reduceEqDiff, updA_updA, Nat.reduceSub, Nat.reduceAdd, Nat.reduceMul, Nat.reduceDiv, Nat.zero_add, Nat.add_zero, mkW_o, mkW_g0, mkW_l0, mkW_n0, mkW_s0, mkW_g1, mkW_l1, mkW_n1, mkW_s1, mkW_g2, mkW_l2, mkW_n2, mkW_s2, mkW_g3, mkW_l3, mkW_n3, mkW_s3, mkW_g4, mkW_p4, mkW_g5, mkW_p5, mkW_g6, mkW_p6, mkW_g7, mkW_p7, mkW_g8, mkW_l8, mkW_n8, mkW_s8, mkW_g9, mkW_l9, mkW_n9, mkW_s9, mkW_g10, mkW_l10, mkW_n10, mkW_s10, mkW_g11, mkW_l11, mkW_n11, mkW_s11, mkW_g12, mkW_l12, mkW_n12, mkW_s12, mkW_g13, mkW_l13, mkW_n13, mkW_s13, mkW_g14, mkW_l14, mkW_n14, mkW_s14, mkW_t14, mkW_f14, mkW_g15, mkW_l15, mkW_n15, mkW_s15, mkW_g16, mkW_g17]
    rfl
theorem W_caseOf (l : Nat → Nat) (hl : ∀ j, j < 4 → A 8 j = nI (l j) ∧ l j < 100) (v b : Nat) (hv : v < 100) (hb : b = 0 ∨ b = 2) : call (d + 1) 48 [.ref a, .int (nI v), .int (nI b)] (mkW h a I A) = some (some (.int (nI (cs l b v))), mkW h a I A) := by
  obtain ⟨a0, b0⟩ := hl 0 (by omega)
  obtain ⟨a1, b1⟩ := hl 1 (by omega)
  obtain ⟨a2, b2⟩ := hl 2 (by omega)
  obtain ⟨a3, b3⟩ := hl 3 (by omega)
  rw [call_at mt_48 [some (.ref a), some (.int (nI v)), some (.int (nI b)), none] rfl rfl rfl]
  unfold cs
  rcases hb with rfl | rfl
  · simp (disch := omega) only [nd_48_0 (St_run d mt_48), nd_48_2 (St_run d mt_48), ↓L_m4, ↓L_m1, L_0, L_1, L_2, L_3, L_4, L_5, L_6, L_8, L_9, L_15, L_20, L_30, L_40, L_54, L_60, L_120, L_1872, L_4320, L_22500, le_t, le_f, lt_t, lt_f, eq_t, eq_f, eq_NO, NO_eq, NO_neg, MO_neg, bI_0, nI_add, pk_mul, pk_ds, rem_, nI_MO, nI_0MO, ↓reduceIte, eq_self, reduceCtorEq, Bool.true_eq_false, Bool.false_eq_true, isZn0, isZn1, isZb, bind_some', rI_some, rV_some, rQ_some, rQ_null, updA_at, updA_ne, pk_us, pk_un, ne_eq, not_false_eq_true, Nat.reduceEqDiff, updA_updA, Nat.reduceSub, Nat.reduceAdd, Nat.reduceMul, Nat.reduceDiv, Nat.zero_add, Nat.add_zero, mkW_o, mkW_g0, mkW_l0, mkW_n0, mkW_s0, mkW_g1, mkW_l1, mkW_n1, mkW_s1, mkW_g2, mkW_l2, mkW_n2, mkW_s2, mkW_g3, mkW_l3, mkW_n3, mkW_s3, mkW_g4, mkW_p4, mkW_g5, mkW_p5, mkW_g6, mkW_p6, mkW_g7, mkW_p7, mkW_g8, mkW_l8, mkW_n8, mkW_s8, mkW_g9, mkW_l9, mkW_n9, mkW_s9, mkW_g10, mkW_l10, mkW_n10, mkW_s10, mkW_g11, mkW_l11, mkW_n11, mkW_s11, mkW_g12, mkW_l12, mkW_n12, mkW_s12, mkW_g13, mkW_l13, mkW_n13, mkW_s13, mkW_g14, mkW_l14, mkW_n14, mkW_s14, mkW_t14, mkW_f14, mkW_g15, mkW_l15, mkW_n15, mkW_s15, mkW_g16, mkW_g17, a0, a1, a2, a3, eqI]
    by_cases e0 : l 0 = v <;> by_cases e1 : l 1 = v <;> simp [e0, e1]
  · simp (disch := omega) only [nd_48_0 (St_run d mt_48), nd_48_2 (St_run d mt_48), ↓L_m4, ↓L_m1, L_0, L_1, L_2, L_3, L_4, L_5, L_6, L_8, L_9, L_15, L_20, L_30, L_40, L_54, L_60, L_120, L_1872, L_4320, L_22500, le_t, le_f, lt_t, lt_f, eq_t, eq_f, eq_NO, NO_eq, NO_neg, MO_neg, bI_0, nI_add, pk_mul, pk_ds, rem_, nI_MO, nI_0MO, ↓reduceIte, eq_self, reduceCtorEq, Bool.true_eq_false, Bool.false_eq_true, isZn0, isZn1, isZb, bind_some', rI_some, rV_some, rQ_some, rQ_null, updA_at, updA_ne, pk_us, pk_un, ne_eq, not_false_eq_true, Nat.reduceEqDiff, updA_updA, Nat.reduceSub, Nat.reduceAdd, Nat.reduceMul, Nat.reduceDiv, Nat.zero_add, Nat.add_zero, mkW_o, mkW_g0, mkW_l0, mkW_n0, mkW_s0, mkW_g1, mkW_l1, mkW_n1, mkW_s1, mkW_g2, mkW_l2, mkW_n2, mkW_s2, mkW_g3, mkW_l3, mkW_n3, mkW_s3, mkW_g4, mkW_p4, mkW_g5, mkW_p5, mkW_g6, mkW_p6, mkW_g7, mkW_p7, mkW_g8, mkW_l8, mkW_n8, mkW_s8, mkW_g9, mkW_l9, mkW_n9, mkW_s9, mkW_g10, mkW_l10, mkW_n10, mkW_s10, mkW_g11, mkW_l11, mkW_n11, mkW_s11, mkW_g12, mkW_l12, mkW_n12, mkW_s12, mkW_g13, mkW_l13, mkW_n13, mkW_s13, mkW_g14, mkW_l14, mkW_n14, mkW_s14, mkW_t14, mkW_f14, mkW_g15, mkW_l15, mkW_n15, mkW_s15, mkW_g16, mkW_g17, a0, a1, a2, a3, eqI]
    by_cases e0 : l 2 = v <;> by_cases e1 : l 3 = v <;> simp [e0, e1]
theorem l_look (l : Nat → Nat) : ∀ (m w : Nat) (A : Nat → Nat → Int32), w + m = 5 → (∀ j, j < 4 → A 8 j = nI (l j) ∧ l j < 100) → (∀ j, j < w → A 9 j = nI (wlf l j) ∧ A 10 j = nI (cs l 0 (wlf l j)) ∧ A 11 j = nI (cs l 2 (wlf l j))) → ∃ A', run (d + 1) mt_45 62 [some (.ref a), none, none, some (.int (nI w))] [] (mkW h a I A) = some (none, mkW h a I A') ∧ (∀ j, j < 5 → A' 9 j = nI (wlf l j) ∧ A' 10 j = nI (cs l 0 (wlf l j)) ∧ A' 11 j = nI (cs l 2 (wlf l j))) ∧ (∀ k, k ≠ 9 → k ≠ 10 → k ≠ 11 → A' k = A k) := by
  intro m
  induction m with
  | zero =>
    intro w A hw hl hf
    have : w = 5 := by omega
    subst this
    refine ⟨A, ?_, hf, fun _ _ _ _ => rfl⟩
    rw [nd_45_62 (St_run (d + 1) mt_45)]
    simp (disch := omega) only [↓L_m4, ↓L_m1, L_0, L_1, L_2, L_3, L_4, L_5, L_6, L_8, L_9, L_15, L_20, L_30, L_40, L_54, L_60, L_120, L_1872, L_4320, L_22500, le_t, le_f, lt_t, lt_f, eq_t, eq_f, eq_NO, NO_eq, NO_neg, MO_neg, bI_0, nI_add, pk_mul, pk_ds, rem_, nI_MO, nI_0MO, ↓reduceIte, eq_self, reduceCtorEq, Bool.true_eq_false, Bool.false_eq_true, isZn0, isZn1, isZb, bind_some', rI_some, rV_some, rQ_some, rQ_null, updA_at, updA_ne, pk_us, pk_un, ne_eq, not_false_eq_true, Nat.reduceEqDiff, updA_updA, Nat.reduceSub, Nat.reduceAdd, Nat.reduceMul, Nat.reduceDiv, Nat.zero_add, Nat.add_zero, mkW_o, mkW_g0, mkW_l0, mkW_n0, mkW_s0, mkW_g1, mkW_l1, mkW_n1, mkW_s1, mkW_g2, mkW_l2, mkW_n2, mkW_s2, mkW_g3, mkW_l3, mkW_n3, mkW_s3, mkW_g4, mkW_p4, mkW_g5, mkW_p5, mkW_g6, mkW_p6, mkW_g7, mkW_p7, mkW_g8, mkW_l8, mkW_n8, mkW_s8, mkW_g9, mkW_l9, mkW_n9, mkW_s9, mkW_g10, mkW_l10, mkW_n10, mkW_s10, mkW_g11, mkW_l11, mkW_n11, mkW_s11, mkW_g12, mkW_l12, mkW_n12, mkW_s12, mkW_g13, mkW_l13, mkW_n13, mkW_s13, mkW_g14, mkW_l14, mkW_n14, mkW_s14, mkW_t14, mkW_f14, mkW_g15, mkW_l15, mkW_n15, mkW_s15, mkW_g16, mkW_g17]
  | succ m ih =>
    intro w A hw hl hf
    have hv := wlf_lt (fun j hj => (hl j hj).2) (show w < 5 by omega)
    have g1 := W_labelOf (d := d) (a := a) (h := h) (I := I) l hl w (by omega)
    have g2 := W_caseOf (d := d) (a := a) (h := h) (I := I) (A := updA A 9 (upd (A 9) w (nI (wlf l w)))) l (fun j hj => by rw [updA_ne (by decide)]; exact hl j hj) (wlf l w) 0 hv (Or.inl rfl)
    have g3 := W_caseOf (d := d) (a := a) (h := h) (I := I) (A := updA (updA A 9 (upd (A 9) w (nI (wlf l w)))) 10 (upd (A 10) w (nI (cs l 0 (wlf l w))))) l (fun j hj => by rw [updA_ne (by decide), updA_ne (by decide)]; exact hl j hj) (wlf l w) 2 hv (Or.inr rfl)
    obtain ⟨A', e1, e2, e3⟩ := ih (w + 1) (updA (updA (updA A 9 (upd (A 9) w (nI (wlf l w)))) 10 (upd (A 10) w (nI (cs l 0 (wlf l w))))) 11 (upd (A 11) w (nI (cs l 2 (wlf l w))))) (by omega) (fun j hj => by rw [updA_ne (by decide), updA_ne (by decide), updA_ne (by decide)]; exact hl j hj) (fun j hj => by
      show upd (A 9) w (nI (wlf l w)) j = _ ∧ upd (A 10) w (nI (cs l 0 (wlf l w))) j = _ ∧ upd (A 11) w (nI (cs l 2 (wlf l w))) j = _
      by_cases hjw : j = w
      · rw [hjw, pk_us, pk_us, pk_us]
        exact ⟨rfl, rfl, rfl⟩
      · rw [pk_un hjw, pk_un hjw, pk_un hjw]
        exact hf j (by omega))
    refine ⟨A', ?_, e2, fun k h9 h10 h11 => (e3 k h9 h10 h11).trans (by rw [updA_ne h11, updA_ne h10, updA_ne h9])⟩
    rw [nd_45_62 (St_run (d + 1) mt_45)]
    simp (disch := omega) only [↓L_m4, ↓L_m1, L_0, L_1, L_2, L_3, L_4, L_5, L_6, L_8, L_9, L_15, L_20, L_30, L_40, L_54, L_60, L_120, L_1872, L_4320, L_22500, le_t, le_f, lt_t, lt_f, eq_t, eq_f, eq_NO, NO_eq, NO_neg, MO_neg, bI_0, nI_add, pk_mul, pk_ds, rem_, nI_MO, nI_0MO, ↓reduceIte, eq_self, reduceCtorEq, Bool.true_eq_false, Bool.false_eq_true, isZn0, isZn1, isZb, bind_some', rI_some, rV_some, rQ_some, rQ_null, updA_at, updA_ne, pk_us, pk_un, ne_eq, not_false_eq_true, Nat.reduceEqDiff, updA_updA, Nat.reduceSub, Nat.reduceAdd, Nat.reduceMul, Nat.reduceDiv, Nat.zero_add, Nat.add_zero, mkW_o, mkW_g0, mkW_l0, mkW_n0, mkW_s0, mkW_g1, mkW_l1, mkW_n1, mkW_s1, mkW_g2, mkW_l2, mkW_n2, mkW_s2, mkW_g3, mkW_l3, mkW_n3, mkW_s3, mkW_g4, mkW_p4, mkW_g5, mkW_p5, mkW_g6, mkW_p6, mkW_g7, mkW_p7, mkW_g8, mkW_l8, mkW_n8, mkW_s8, mkW_g9, mkW_l9, mkW_n9, mkW_s9, mkW_g10, mkW_l10, mkW_n10, mkW_s10, mkW_g11, mkW_l11, mkW_n11, mkW_s11, mkW_g12, mkW_l12, mkW_n12, mkW_s12, mkW_g13, mkW_l13, mkW_n13, mkW_s13, mkW_g14, mkW_l14, mkW_n14, mkW_s14, mkW_t14, mkW_f14, mkW_g15, mkW_l15, mkW_n15, mkW_s15, mkW_g16, mkW_g17, g1, g2, g3]
    exact e1
/-- the numbers of the orbit that is looked at -/
def LI (I : Nat → Int32) (c : Nat) : Nat → Int32 := upd (upd (upd I 7 (nI (mx (lb c)))) 5 (nI (c / 625 / 6))) 6 (nI (c / 625 % 6))
def LK (A : Nat → Nat → Int32) (c : Nat) : Prop := (∀ j, j < 4 → A 8 j = nI (lb c j)) ∧ ∀ w, w < 5 → A 9 w = nI (wlf (lb c) w) ∧ A 10 w = nI (cs (lb c) 0 (wlf (lb c) w)) ∧ A 11 w = nI (cs (lb c) 2 (wlf (lb c) w))
def LKI (I : Nat → Int32) (A : Nat → Nat → Int32) (c : Nat) : Prop := I 5 = nI (c / 625 / 6) ∧ I 6 = nI (c / 625 % 6) ∧ I 7 = nI (mx (lb c)) ∧ LK A c
theorem LKI.fa {I I1 : Nat → Int32} {A A1 : Nat → Nat → Int32} {js ks : List Nat} {c : Nat} (q : LKI I A c) (p : fra I I1 A A1 js ks) (hj : 5 ∉ js ∧ 6 ∉ js ∧ 7 ∉ js) (hk : 8 ∉ ks ∧ 9 ∉ ks ∧ 10 ∉ ks ∧ 11 ∉ ks) : LKI I1 A1 c := by
  unfold LKI LK
  rw [p.1 5 hj.1, p.1 6 hj.2.1, p.1 7 hj.2.2, p.2 8 hk.1, p.2 9 hk.2.1, p.2 10 hk.2.2.1, p.2 11 hk.2.2.2]
  exact q
theorem W_lookAt (c i : Nat) (hi : i < 1872) (h1 : A 1 i = nI (hc c)) (hn : nor (c % 625) = true) (h5 : c < 22500) : ∃ A', call (d + 2) 45 [.ref a, .int (nI i)] (mkW h a I A) = some (none, mkW h a (LI I c) A') ∧ LKI (LI I c) A' c ∧ fra I (LI I c) A A' [5, 6, 7] [8, 9, 10, 11] := by
  obtain ⟨z4, z3, z2, z1, z0, zs⟩ := hc_dig hn
  have hlt := hc_lt hn h5
  obtain ⟨A', e1, e2, e3⟩ := l_look (d := d) (a := a) (h := h) (I := LI I c) (lb c) 5 0 (updA A 8 (qL (A 8) (lb c))) rfl (fun j hj => ⟨by rw [updA_at, qL_at hj], by have := lb_lt c j; omega⟩) (fun j hj => by omega)
  refine ⟨A', ?_, ⟨rfl, rfl, rfl, fun j hj => by rw [e3 8 (by decide) (by decide) (by decide), updA_at, qL_at hj], e2⟩, ⟨fun k hk => ?_, fun k hk => ?_⟩⟩
  · rw [call_at mt_45 [some (.ref a), some (.int (nI i)), none, none] rfl rfl rfl, nd_45_0 (St_run (d + 1) mt_45)]
    have zr : nI (hc c / 5 / 4 / 3) - nI (c / 625 * 2) = nI (lb c 0) := by
      rw [pk_sub (by omega)]
      congr 1
      omega
    simp (disch := omega) only [nd_45_17 (St_run (d + 1) mt_45), ↓L_m4, ↓L_m1, L_0, L_1, L_2, L_3, L_4, L_5, L_6, L_8, L_9, L_15, L_20, L_30, L_40, L_54, L_60, L_120, L_1872, L_4320, L_22500, le_t, le_f, lt_t, lt_f, eq_t, eq_f, eq_NO, NO_eq, NO_neg, MO_neg, bI_0, nI_add, pk_mul, pk_ds, rem_, nI_MO, nI_0MO, ↓reduceIte, eq_self, reduceCtorEq, Bool.true_eq_false, Bool.false_eq_true, isZn0, isZn1, isZb, bind_some', rI_some, rV_some, rQ_some, rQ_null, updA_at, updA_ne, pk_us, pk_un, ne_eq, not_false_eq_true, Nat.reduceEqDiff, updA_updA, Nat.reduceSub, Nat.reduceAdd, Nat.reduceMul, Nat.reduceDiv, Nat.zero_add, Nat.add_zero, mkW_o, mkW_g0, mkW_l0, mkW_n0, mkW_s0, mkW_g1, mkW_l1, mkW_n1, mkW_s1, mkW_g2, mkW_l2, mkW_n2, mkW_s2, mkW_g3, mkW_l3, mkW_n3, mkW_s3, mkW_g4, mkW_p4, mkW_g5, mkW_p5, mkW_g6, mkW_p6, mkW_g7, mkW_p7, mkW_g8, mkW_l8, mkW_n8, mkW_s8, mkW_g9, mkW_l9, mkW_n9, mkW_s9, mkW_g10, mkW_l10, mkW_n10, mkW_s10, mkW_g11, mkW_l11, mkW_n11, mkW_s11, mkW_g12, mkW_l12, mkW_n12, mkW_s12, mkW_g13, mkW_l13, mkW_n13, mkW_s13, mkW_g14, mkW_l14, mkW_n14, mkW_s14, mkW_t14, mkW_f14, mkW_g15, mkW_l15, mkW_n15, mkW_s15, mkW_g16, mkW_g17, h1, z4, z3, z2, z1, z0, zs, zr]
    rw [qL_4 (A 8) (lb c)]
    exact e1
  · unfold LI
    rw [pk_un (fun e => hk (by simp [e])), pk_un (fun e => hk (by simp [e])), pk_un (fun e => hk (by simp [e]))]
  · rw [e3 k (fun e => hk (by simp [e])) (fun e => hk (by simp [e])) (fun e => hk (by simp [e])), updA_ne (fun e => hk (by simp [e]))]
theorem W_cp (f : AH → Option RV) : cpA (mkW h a I A) (a + 5) (nI 0) (a + 9) (nI 0) (nI 4) f = f (mkW h a I (updA A 12 (va_cpy (A 8) (A 12) 0 0 4))) := by
  unfold cpA
  rw [(mkW_is h a I A).a8, (mkW_is h a I A).a12]
  show (if _ then none else f (hS _ _ (aI 0 4 (va_cpy (A 8) (A 12) (nI 0).toNatClampNeg (nI 0).toNatClampNeg (nI 4).toNatClampNeg)))) = _
  rw [show (nI 0).toNatClampNeg = 0 from by decide, show (nI 4).toNatClampNeg = 4 from by decide, if_neg]
  · exact congrArg f (mkW_w h a I A 12 rfl _)
  · rintro (e | e | e | e | e | e | e | e)
    · omega
    · exact e rfl
    · exact e rfl
    · exact absurd e (by decide)
    · exact absurd e (by decide)
    · exact absurd e (by decide)
    · omega
    · omega
theorem W_keep (l : Nat → Nat) (hl : ∀ j, j < 4 → A 12 j = nI (l j)) (v b k : Nat) (hb : b = 0 ∨ b = 2) (hk : k < 3) : ∃ A', call (d + 1) 50 [.ref a, .int (nI v), .int (nI b), .int (kI k)] (mkW h a I A) = some (none, mkW h a I A') ∧ (∀ j, j < 4 → A' 12 j = nI (asg l b k v j)) ∧ (∀ k, k ≠ 12 → A' k = A k) := by
  by_cases h2 : k = 2
  · subst h2
    refine ⟨A, ?_, fun j hj => by unfold asg; rw [if_pos rfl]; exact hl j hj, fun _ _ => rfl⟩
    rw [call_at mt_50 [some (.ref a), some (.int (nI v)), some (.int (nI b)), some (.int (kI 2))] rfl rfl rfl, kI_2]
    simp (disch := omega) only [nd_50_0 (St_run d mt_50), nd_50_18 (St_run d mt_50), ↓L_m4, ↓L_m1, L_0, L_1, L_2, L_3, L_4, L_5, L_6, L_8, L_9, L_15, L_20, L_30, L_40, L_54, L_60, L_120, L_1872, L_4320, L_22500, le_t, le_f, lt_t, lt_f, eq_t, eq_f, eq_NO, NO_eq, NO_neg, MO_neg, bI_0, nI_add, pk_mul, pk_ds, rem_, nI_MO, nI_0MO, ↓reduceIte, eq_self, reduceCtorEq, Bool.true_eq_false, Bool.false_eq_true, isZn0, isZn1, isZb, bind_some', rI_some, rV_some, rQ_some, rQ_null, updA_at, updA_ne, pk_us, pk_un, ne_eq, not_false_eq_true, Nat.reduceEqDiff, updA_updA, Nat.reduceSub, Nat.reduceAdd, Nat.reduceMul, Nat.reduceDiv, Nat.zero_add, Nat.add_zero, mkW_o, mkW_g0, mkW_l0, mkW_n0, mkW_s0, mkW_g1, mkW_l1, mkW_n1, mkW_s1, mkW_g2, mkW_l2, mkW_n2, mkW_s2, mkW_g3, mkW_l3, mkW_n3, mkW_s3, mkW_g4, mkW_p4, mkW_g5, mkW_p5, mkW_g6, mkW_p6, mkW_g7, mkW_p7, mkW_g8, mkW_l8, mkW_n8, mkW_s8, mkW_g9, mkW_l9, mkW_n9, mkW_s9, mkW_g10, mkW_l10, mkW_n10, mkW_s10, mkW_g11, mkW_l11, mkW_n11, mkW_s11, mkW_g12, mkW_l12, mkW_n12, mkW_s12, mkW_g13, mkW_l13, mkW_n13, mkW_s13, mkW_g14, mkW_l14, mkW_n14, mkW_s14, mkW_t14, mkW_f14, mkW_g15, mkW_l15, mkW_n15, mkW_s15, mkW_g16, mkW_g17]
  · refine ⟨updA A 12 (upd (A 12) (b + k) (nI v)), ?_, fun j hj => ?_, fun j hj => updA_ne hj⟩
    · rw [call_at mt_50 [some (.ref a), some (.int (nI v)), some (.int (nI b)), some (.int (kI k))] rfl rfl rfl, kI_n h2]
      simp (disch := omega) only [nd_50_0 (St_run d mt_50), nd_50_18 (St_run d mt_50), ↓L_m4, ↓L_m1, L_0, L_1, L_2, L_3, L_4, L_5, L_6, L_8, L_9, L_15, L_20, L_30, L_40, L_54, L_60, L_120, L_1872, L_4320, L_22500, le_t, le_f, lt_t, lt_f, eq_t, eq_f, eq_NO, NO_eq, NO_neg, MO_neg, bI_0, nI_add, pk_mul, pk_ds, rem_, nI_MO, nI_0MO, ↓reduceIte, eq_self, reduceCtorEq, Bool.true_eq_false, Bool.false_eq_true, isZn0, isZn1, isZb, bind_some', rI_some, rV_some, rQ_some, rQ_null, updA_at, updA_ne, pk_us, pk_un, ne_eq, not_false_eq_true, Nat.reduceEqDiff, updA_updA, Nat.reduceSub, Nat.reduceAdd, Nat.reduceMul, Nat.reduceDiv, Nat.zero_add, Nat.add_zero, mkW_o, mkW_g0, mkW_l0, mkW_n0, mkW_s0, mkW_g1, mkW_l1, mkW_n1, mkW_s1, mkW_g2, mkW_l2, mkW_n2, mkW_s2, mkW_g3, mkW_l3, mkW_n3, mkW_s3, mkW_g4, mkW_p4, mkW_g5, mkW_p5, mkW_g6, mkW_p6, mkW_g7, mkW_p7, mkW_g8, mkW_l8, mkW_n8, mkW_s8, mkW_g9, mkW_l9, mkW_n9, mkW_s9, mkW_g10, mkW_l10, mkW_n10, mkW_s10, mkW_g11, mkW_l11, mkW_n11, mkW_s11, mkW_g12, mkW_l12, mkW_n12, mkW_s12, mkW_g13, mkW_l13, mkW_n13, mkW_s13, mkW_g14, mkW_l14, mkW_n14, mkW_s14, mkW_t14, mkW_f14, mkW_g15, mkW_l15, mkW_n15, mkW_s15, mkW_g16, mkW_g17]
    · rw [updA_at]
      unfold asg
      rw [if_neg h2]
      by_cases e : j = b + k
      · rw [e, pk_us, updN_at]
      · rw [pk_un e, updN_ne e]
        exact hl j hj
theorem l_dig (l f : Nat → Nat) (r : Nat) (hr : r < 4) (hl : ∀ j, j < 4 → A 12 j = nI (l j) ∧ l j < 100) (hf : ∀ j, j < r → A 13 j = nI (f j)) : ∀ (m j : Nat), j + m = r → run d mt_51 13 [some (.ref a), some (.int (nI r)), some (.int (nI j))] [] (mkW h a I A) = some (some (.int (oI ((fq l r m j).map f))), mkW h a I A) := by
  obtain ⟨a2, b2⟩ := hl r hr
  intro m
  induction m with
  | zero =>
    intro j hj
    have : j = r := by omega
    subst this
    rw [nd_51_13 (St_run d mt_51)]
    simp (disch := omega) only [↓L_m4, ↓L_m1, L_0, L_1, L_2, L_3, L_4, L_5, L_6, L_8, L_9, L_15, L_20, L_30, L_40, L_54, L_60, L_120, L_1872, L_4320, L_22500, le_t, le_f, lt_t, lt_f, eq_t, eq_f, eq_NO, NO_eq, NO_neg, MO_neg, bI_0, nI_add, pk_mul, pk_ds, rem_, nI_MO, nI_0MO, ↓reduceIte, eq_self, reduceCtorEq, Bool.true_eq_false, Bool.false_eq_true, isZn0, isZn1, isZb, bind_some', rI_some, rV_some, rQ_some, rQ_null, updA_at, updA_ne, pk_us, pk_un, ne_eq, not_false_eq_true, Nat.reduceEqDiff, updA_updA, Nat.reduceSub, Nat.reduceAdd, Nat.reduceMul, Nat.reduceDiv, Nat.zero_add, Nat.add_zero, mkW_o, mkW_g0, mkW_l0, mkW_n0, mkW_s0, mkW_g1, mkW_l1, mkW_n1, mkW_s1, mkW_g2, mkW_l2, mkW_n2, mkW_s2, mkW_g3, mkW_l3, mkW_n3, mkW_s3, mkW_g4, mkW_p4, mkW_g5, mkW_p5, mkW_g6, mkW_p6, mkW_g7, mkW_p7, mkW_g8, mkW_l8, mkW_n8, mkW_s8, mkW_g9, mkW_l9, mkW_n9, mkW_s9, mkW_g10, mkW_l10, mkW_n10, mkW_s10, mkW_g11, mkW_l11, mkW_n11, mkW_s11, mkW_g12, mkW_l12, mkW_n12, mkW_s12, mkW_g13, mkW_l13, mkW_n13, mkW_s13, mkW_g14, mkW_l14, mkW_n14, mkW_s14, mkW_t14, mkW_f14, mkW_g15, mkW_l15, mkW_n15, mkW_s15, mkW_g16, mkW_g17]
    rfl
  | succ m ih =>
    intro j hj
    obtain ⟨a1, b1⟩ := hl j (by omega)
    have f1 := hf j (by omega)
    rw [nd_51_13 (St_run d mt_51)]
    unfold fq
    by_cases e : l j = l r
    · rw [if_pos e]
      simp (disch := omega) only [↓L_m4, ↓L_m1, L_0, L_1, L_2, L_3, L_4, L_5, L_6, L_8, L_9, L_15, L_20, L_30, L_40, L_54, L_60, L_120, L_1872, L_4320, L_22500, le_t, le_f, lt_t, lt_f, eq_t, eq_f, eq_NO, NO_eq, NO_neg, MO_neg, bI_0, nI_add, pk_mul, pk_ds, rem_, nI_MO, nI_0MO, ↓reduceIte, eq_self, reduceCtorEq, Bool.true_eq_false, Bool.false_eq_true, isZn0, isZn1, isZb, bind_some', rI_some, rV_some, rQ_some, rQ_null, updA_at, updA_ne, pk_us, pk_un, ne_eq, not_false_eq_true, Nat.reduceEqDiff, updA_updA, Nat.reduceSub, Nat.reduceAdd, Nat.reduceMul, Nat.reduceDiv, Nat.zero_add, Nat.add_zero, mkW_o, mkW_g0, mkW_l0, mkW_n0, mkW_s0, mkW_g1, mkW_l1, mkW_n1, mkW_s1, mkW_g2, mkW_l2, mkW_n2, mkW_s2, mkW_g3, mkW_l3, mkW_n3, mkW_s3, mkW_g4, mkW_p4, mkW_g5, mkW_p5, mkW_g6, mkW_p6, mkW_g7, mkW_p7, mkW_g8, mkW_l8, mkW_n8, mkW_s8, mkW_g9, mkW_l9, mkW_n9, mkW_s9, mkW_g10, mkW_l10, mkW_n10, mkW_s10, mkW_g11, mkW_l11, mkW_n11, mkW_s11, mkW_g12, mkW_l12, mkW_n12, mkW_s12, mkW_g13, mkW_l13, mkW_n13, mkW_s13, mkW_g14, mkW_l14, mkW_n14, mkW_s14, mkW_t14, mkW_f14, mkW_g15, mkW_l15, mkW_n15, mkW_s15, mkW_g16, mkW_g17, a1, a2, f1]
      rfl
    · rw [if_neg e]
      simp (disch := omega) only [↓L_m4, ↓L_m1, L_0, L_1, L_2, L_3, L_4, L_5, L_6, L_8, L_9, L_15, L_20, L_30, L_40, L_54, L_60, L_120, L_1872, L_4320, L_22500, le_t, le_f, lt_t, lt_f, eq_t, eq_f, eq_NO, NO_eq, NO_neg, MO_neg, bI_0, nI_add, pk_mul, pk_ds, rem_, nI_MO, nI_0MO, ↓reduceIte, eq_self, reduceCtorEq, Bool.true_eq_false, Bool.false_eq_true, isZn0, isZn1, isZb, bind_some', rI_some, rV_some, rQ_some, rQ_null, updA_at, updA_ne, pk_us, pk_un, ne_eq, not_false_eq_true, Nat.reduceEqDiff, updA_updA, Nat.reduceSub, Nat.reduceAdd, Nat.reduceMul, Nat.reduceDiv, Nat.zero_add, Nat.add_zero, mkW_o, mkW_g0, mkW_l0, mkW_n0, mkW_s0, mkW_g1, mkW_l1, mkW_n1, mkW_s1, mkW_g2, mkW_l2, mkW_n2, mkW_s2, mkW_g3, mkW_l3, mkW_n3, mkW_s3, mkW_g4, mkW_p4, mkW_g5, mkW_p5, mkW_g6, mkW_p6, mkW_g7, mkW_p7, mkW_g8, mkW_l8, mkW_n8, mkW_s8, mkW_g9, mkW_l9, mkW_n9, mkW_s9, mkW_g10, mkW_l10, mkW_n10, mkW_s10, mkW_g11, mkW_l11, mkW_n11, mkW_s11, mkW_g12, mkW_l12, mkW_n12, mkW_s12, mkW_g13, mkW_l13, mkW_n13, mkW_s13, mkW_g14, mkW_l14, mkW_n14, mkW_s14, mkW_t14, mkW_f14, mkW_g15, mkW_l15, mkW_n15, mkW_s15, mkW_g16, mkW_g17, a1, a2]
      exact ih (j + 1) (by omega)
theorem W_dig (l f : Nat → Nat) (r : Nat) (hr : r < 4) (hl : ∀ j, j < 4 → A 12 j = nI (l j) ∧ l j < 100) (hf : ∀ j, j < r → A 13 j = nI (f j)) : call (d + 1) 51 [.ref a, .int (nI r)] (mkW h a I A) = some (some (.int (if l r = 0 then nI 0 else oI ((fq l r r 0).map f))), mkW h a I A) := by
  obtain ⟨a2, b2⟩ := hl r hr
  rw [call_at mt_51 [some (.ref a), some (.int (nI r)), none] rfl rfl rfl, nd_51_0 (St_run d mt_51)]
  by_cases e : l r = 0
  · rw [if_pos e]
    simp (disch := omega) only [↓L_m4, ↓L_m1, L_0, L_1, L_2, L_3, L_4, L_5, L_6, L_8, L_9, L_15, L_20, L_30, L_40, L_54, L_60, L_120, L_1872, L_4320, L_22500, le_t, le_f, lt_t, lt_f, eq_t, eq_f, eq_NO, NO_eq, NO_neg, MO_neg, bI_0, nI_add, pk_mul, pk_ds, rem_, nI_MO, nI_0MO, ↓reduceIte, eq_self, reduceCtorEq, Bool.true_eq_false, Bool.false_eq_true, isZn0, isZn1, isZb, bind_some', rI_some, rV_some, rQ_some, rQ_null, updA_at, updA_ne, pk_us, pk_un, ne_eq, not_false_eq_true, Nat.reduceEqDiff, updA_updA, Nat.reduceSub, Nat.reduceAdd, Nat.reduceMul, Nat.reduceDiv, Nat.zero_add, Nat.add_zero, mkW_o, mkW_g0, mkW_l0, mkW_n0, mkW_s0, mkW_g1, mkW_l1, mkW_n1, mkW_s1, mkW_g2, mkW_l2, mkW_n2, mkW_s2, mkW_g3, mkW_l3, mkW_n3, mkW_s3, mkW_g4, mkW_p4, mkW_g5, mkW_p5, mkW_g6, mkW_p6, mkW_g7, mkW_p7, mkW_g8, mkW_l8, mkW_n8, mkW_s8, mkW_g9, mkW_l9, mkW_n9, mkW_s9, mkW_g10, mkW_l10, mkW_n10, mkW_s10, mkW_g11, mkW_l11, mkW_n11, mkW_s11, mkW_g12, mkW_l12, mkW_n12, mkW_s12, mkW_g13, mkW_l13, mkW_n13, mkW_s13, mkW_g14, mkW_l14, mkW_n14, mkW_s14, mkW_t14, mkW_f14, mkW_g15, mkW_l15, mkW_n15, mkW_s15, mkW_g16, mkW_g17, a2]
  · rw [if_neg e]
    simp (disch := omega) only [↓L_m4, ↓L_m1, L_0, L_1, L_2, L_3, L_4, L_5, L_6, L_8, L_9, L_15, L_20, L_30, L_40, L_54, L_60, L_120, L_1872, L_4320, L_22500, le_t, le_f, lt_t, lt_f, eq_t, eq_f, eq_NO, NO_eq, NO_neg, MO_neg, bI_0, nI_add, pk_mul, pk_ds, rem_, nI_MO, nI_0MO, ↓reduceIte, eq_self, reduceCtorEq, Bool.true_eq_false, Bool.false_eq_true, isZn0, isZn1, isZb, bind_some', rI_some, rV_some, rQ_some, rQ_null, updA_at, updA_ne, pk_us, pk_un, ne_eq, not_false_eq_true, Nat.reduceEqDiff, updA_updA, Nat.reduceSub, Nat.reduceAdd, Nat.reduceMul, Nat.reduceDiv, Nat.zero_add, Nat.add_zero, mkW_o, mkW_g0, mkW_l0, mkW_n0, mkW_s0, mkW_g1, mkW_l1, mkW_n1, mkW_s1, mkW_g2, mkW_l2, mkW_n2, mkW_s2, mkW_g3, mkW_l3, mkW_n3, mkW_s3, mkW_g4, mkW_p4, mkW_g5, mkW_p5, mkW_g6, mkW_p6, mkW_g7, mkW_p7, mkW_g8, mkW_l8, mkW_n8, mkW_s8, mkW_g9, mkW_l9, mkW_n9, mkW_s9, mkW_g10, mkW_l10, mkW_n10, mkW_s10, mkW_g11, mkW_l11, mkW_n11, mkW_s11, mkW_g12, mkW_l12, mkW_n12, mkW_s12, mkW_g13, mkW_l13, mkW_n13, mkW_s13, mkW_g14, mkW_l14, mkW_n14, mkW_s14, mkW_t14, mkW_f14, mkW_g15, mkW_l15, mkW_n15, mkW_s15, mkW_g16, mkW_g17, a2]
    exact l_dig l f r hr hl hf r 0 (by omega)
theorem l_held (l : Nat → Nat) : ∀ (m r u c : Nat) (f : Nat → Nat) (A : Nat → Nat → Int32), r + m = 4 → u + m ≤ 10 → (∀ j, j < 4 → A 12 j = nI (l j) ∧ l j < 100) → (∀ j, j < r → A 13 j = nI (f j)) → (∀ j, f j < 100) → ∃ A', run (d + 1) mt_49 54 [some (.ref a), none, none, none, some (.int (nI c)), some (.int (nI u)), some (.int (nI r)), none] [] (mkW h a I A) = some (some (.int (nI (hO l m r u c f))), mkW h a I A') ∧ (∀ k, k ≠ 13 → A' k = A k) := by
  intro m
  induction m with
  | zero =>
    intro r u c f A hr hu hl hf hf1
    have : r = 4 := by omega
    subst this
    refine ⟨A, ?_, fun _ _ => rfl⟩
    rw [nd_49_54 (St_run (d + 1) mt_49)]
    simp (disch := omega) only [↓L_m4, ↓L_m1, L_0, L_1, L_2, L_3, L_4, L_5, L_6, L_8, L_9, L_15, L_20, L_30, L_40, L_54, L_60, L_120, L_1872, L_4320, L_22500, le_t, le_f, lt_t, lt_f, eq_t, eq_f, eq_NO, NO_eq, NO_neg, MO_neg, bI_0, nI_add, pk_mul, pk_ds, rem_, nI_MO, nI_0MO, ↓reduceIte, eq_self, reduceCtorEq, Bool.true_eq_false, Bool.false_eq_true, isZn0, isZn1, isZb, bind_some', rI_some, rV_some, rQ_some, rQ_null, updA_at, updA_ne, pk_us, pk_un, ne_eq, not_false_eq_true, Nat.reduceEqDiff, updA_updA, Nat.reduceSub, Nat.reduceAdd, Nat.reduceMul, Nat.reduceDiv, Nat.zero_add, Nat.add_zero, mkW_o, mkW_g0, mkW_l0, mkW_n0, mkW_s0, mkW_g1, mkW_l1, mkW_n1, mkW_s1, mkW_g2, mkW_l2, mkW_n2, mkW_s2, mkW_g3, mkW_l3, mkW_n3, mkW_s3, mkW_g4, mkW_p4, mkW_g5, mkW_p5, mkW_g6, mkW_p6, mkW_g7, mkW_p7, mkW_g8, mkW_l8, mkW_n8, mkW_s8, mkW_g9, mkW_l9, mkW_n9, mkW_s9, mkW_g10, mkW_l10, mkW_n10, mkW_s10, mkW_g11, mkW_l11, mkW_n11, mkW_s11, mkW_g12, mkW_l12, mkW_n12, mkW_s12, mkW_g13, mkW_l13, mkW_n13, mkW_s13, mkW_g14, mkW_l14, mkW_n14, mkW_s14, mkW_t14, mkW_f14, mkW_g15, mkW_l15, mkW_n15, mkW_s15, mkW_g16, mkW_g17]
    rfl
  | succ m ih =>
    intro r u c f A hr hu hl hf hf1
    have fin : ∀ (u' v : Nat), u' + m ≤ 10 → v < 100 → ∃ A', run (d + 1) mt_49 82 [some (.ref a), none, none, none, some (.int (nI c)), some (.int (nI u')), some (.int (nI r)), some (.int (nI v))] [] (mkW h a I A) = some (some (.int (nI (hO l m (r + 1) u' (c * (r + 2) + v) (updN f r v)))), mkW h a I A') ∧ (∀ k, k ≠ 13 → A' k = A k) := by
      intro u' v hu' hv
      obtain ⟨A', e1, e2⟩ := ih (r + 1) u' (c * (r + 2) + v) (updN f r v) (updA A 13 (upd (A 13) r (nI v))) (by omega) hu' (fun j hj => by rw [updA_ne (by decide)]; exact hl j hj) (fun j hj => by
        rw [updA_at]
        by_cases e : j = r
        · rw [e, pk_us, updN_at]
        · rw [pk_un e, updN_ne e]; exact hf j (by omega)) (fun j => by unfold updN; split; exact hv; exact hf1 j)
      refine ⟨A', ?_, fun k hk => (e2 k hk).trans (updA_ne hk)⟩
      rw [nd_49_82 (St_run (d + 1) mt_49)]
      simp (disch := omega) only [↓L_m4, ↓L_m1, L_0, L_1, L_2, L_3, L_4, L_5, L_6, L_8, L_9, L_15, L_20, L_30, L_40, L_54, L_60, L_120, L_1872, L_4320, L_22500, le_t, le_f, lt_t, lt_f, eq_t, eq_f, eq_NO, NO_eq, NO_neg, MO_neg, bI_0, nI_add, pk_mul, pk_ds, rem_, nI_MO, nI_0MO, ↓reduceIte, eq_self, reduceCtorEq, Bool.true_eq_false, Bool.false_eq_true, isZn0, isZn1, isZb, bind_some', rI_some, rV_some, rQ_some, rQ_null, updA_at, updA_ne, pk_us, pk_un, ne_eq, not_false_eq_true, Nat.reduceEqDiff, updA_updA, Nat.reduceSub, Nat.reduceAdd, Nat.reduceMul, Nat.reduceDiv, Nat.zero_add, Nat.add_zero, mkW_o, mkW_g0, mkW_l0, mkW_n0, mkW_s0, mkW_g1, mkW_l1, mkW_n1, mkW_s1, mkW_g2, mkW_l2, mkW_n2, mkW_s2, mkW_g3, mkW_l3, mkW_n3, mkW_s3, mkW_g4, mkW_p4, mkW_g5, mkW_p5, mkW_g6, mkW_p6, mkW_g7, mkW_p7, mkW_g8, mkW_l8, mkW_n8, mkW_s8, mkW_g9, mkW_l9, mkW_n9, mkW_s9, mkW_g10, mkW_l10, mkW_n10, mkW_s10, mkW_g11, mkW_l11, mkW_n11, mkW_s11, mkW_g12, mkW_l12, mkW_n12, mkW_s12, mkW_g13, mkW_l13, mkW_n13, mkW_s13, mkW_g14, mkW_l14, mkW_n14, mkW_s14, mkW_t14, mkW_f14, mkW_g15, mkW_l15, mkW_n15, mkW_s15, mkW_g16, mkW_g17]
      exact e1
    have g := W_dig (d := d) (a := a) (h := h) (I := I) (A := A) l f r (by omega) hl hf
    rw [nd_49_54 (St_run (d + 1) mt_49)]
    unfold hO
    by_cases h0 : l r = 0
    · rw [if_pos h0] at g ⊢
      simp (disch := omega) only [↓L_m4, ↓L_m1, L_0, L_1, L_2, L_3, L_4, L_5, L_6, L_8, L_9, L_15, L_20, L_30, L_40, L_54, L_60, L_120, L_1872, L_4320, L_22500, le_t, le_f, lt_t, lt_f, eq_t, eq_f, eq_NO, NO_eq, NO_neg, MO_neg, bI_0, nI_add, pk_mul, pk_ds, rem_, nI_MO, nI_0MO, ↓reduceIte, eq_self, reduceCtorEq, Bool.true_eq_false, Bool.false_eq_true, isZn0, isZn1, isZb, bind_some', rI_some, rV_some, rQ_some, rQ_null, updA_at, updA_ne, pk_us, pk_un, ne_eq, not_false_eq_true, Nat.reduceEqDiff, updA_updA, Nat.reduceSub, Nat.reduceAdd, Nat.reduceMul, Nat.reduceDiv, Nat.zero_add, Nat.add_zero, mkW_o, mkW_g0, mkW_l0, mkW_n0, mkW_s0, mkW_g1, mkW_l1, mkW_n1, mkW_s1, mkW_g2, mkW_l2, mkW_n2, mkW_s2, mkW_g3, mkW_l3, mkW_n3, mkW_s3, mkW_g4, mkW_p4, mkW_g5, mkW_p5, mkW_g6, mkW_p6, mkW_g7, mkW_p7, mkW_g8, mkW_l8, mkW_n8, mkW_s8, mkW_g9, mkW_l9, mkW_n9, mkW_s9, mkW_g10, mkW_l10, mkW_n10, mkW_s10, mkW_g11, mkW_l11, mkW_n11, mkW_s11, mkW_g12, mkW_l12, mkW_n12, mkW_s12, mkW_g13, mkW_l13, mkW_n13, mkW_s13, mkW_g14, mkW_l14, mkW_n14, mkW_s14, mkW_t14, mkW_f14, mkW_g15, mkW_l15, mkW_n15, mkW_s15, mkW_g16, mkW_g17, g]
      exact fin u 0 (by omega) (by omega)
    · rw [if_neg h0] at g ⊢
      cases hq : fq l r r 0 with
      | none =>
        rw [hq] at g
        have g2 : call (d + 1) 51 [.ref a, .int (nI r)] (mkW h a I A) = some (some (.int NO), mkW h a I A) := g
        simp (disch := omega) only [↓L_m4, ↓L_m1, L_0, L_1, L_2, L_3, L_4, L_5, L_6, L_8, L_9, L_15, L_20, L_30, L_40, L_54, L_60, L_120, L_1872, L_4320, L_22500, le_t, le_f, lt_t, lt_f, eq_t, eq_f, eq_NO, NO_eq, NO_neg, MO_neg, bI_0, nI_add, pk_mul, pk_ds, rem_, nI_MO, nI_0MO, ↓reduceIte, eq_self, reduceCtorEq, Bool.true_eq_false, Bool.false_eq_true, isZn0, isZn1, isZb, bind_some', rI_some, rV_some, rQ_some, rQ_null, updA_at, updA_ne, pk_us, pk_un, ne_eq, not_false_eq_true, Nat.reduceEqDiff, updA_updA, Nat.reduceSub, Nat.reduceAdd, Nat.reduceMul, Nat.reduceDiv, Nat.zero_add, Nat.add_zero, mkW_o, mkW_g0, mkW_l0, mkW_n0, mkW_s0, mkW_g1, mkW_l1, mkW_n1, mkW_s1, mkW_g2, mkW_l2, mkW_n2, mkW_s2, mkW_g3, mkW_l3, mkW_n3, mkW_s3, mkW_g4, mkW_p4, mkW_g5, mkW_p5, mkW_g6, mkW_p6, mkW_g7, mkW_p7, mkW_g8, mkW_l8, mkW_n8, mkW_s8, mkW_g9, mkW_l9, mkW_n9, mkW_s9, mkW_g10, mkW_l10, mkW_n10, mkW_s10, mkW_g11, mkW_l11, mkW_n11, mkW_s11, mkW_g12, mkW_l12, mkW_n12, mkW_s12, mkW_g13, mkW_l13, mkW_n13, mkW_s13, mkW_g14, mkW_l14, mkW_n14, mkW_s14, mkW_t14, mkW_f14, mkW_g15, mkW_l15, mkW_n15, mkW_s15, mkW_g16, mkW_g17, g2]
        exact fin (u + 1) (u + 1) (by omega) (by omega)
      | some q =>
        rw [hq] at g
        have g2 : call (d + 1) 51 [.ref a, .int (nI r)] (mkW h a I A) = some (some (.int (nI (f q))), mkW h a I A) := g
        have hfq := hf1 q
        simp (disch := omega) only [↓L_m4, ↓L_m1, L_0, L_1, L_2, L_3, L_4, L_5, L_6, L_8, L_9, L_15, L_20, L_30, L_40, L_54, L_60, L_120, L_1872, L_4320, L_22500, le_t, le_f, lt_t, lt_f, eq_t, eq_f, eq_NO, NO_eq, NO_neg, MO_neg, bI_0, nI_add, pk_mul, pk_ds, rem_, nI_MO, nI_0MO, ↓reduceIte, eq_self, reduceCtorEq, Bool.true_eq_false, Bool.false_eq_true, isZn0, isZn1, isZb, bind_some', rI_some, rV_some, rQ_some, rQ_null, updA_at, updA_ne, pk_us, pk_un, ne_eq, not_false_eq_true, Nat.reduceEqDiff, updA_updA, Nat.reduceSub, Nat.reduceAdd, Nat.reduceMul, Nat.reduceDiv, Nat.zero_add, Nat.add_zero, mkW_o, mkW_g0, mkW_l0, mkW_n0, mkW_s0, mkW_g1, mkW_l1, mkW_n1, mkW_s1, mkW_g2, mkW_l2, mkW_n2, mkW_s2, mkW_g3, mkW_l3, mkW_n3, mkW_s3, mkW_g4, mkW_p4, mkW_g5, mkW_p5, mkW_g6, mkW_p6, mkW_g7, mkW_p7, mkW_g8, mkW_l8, mkW_n8, mkW_s8, mkW_g9, mkW_l9, mkW_n9, mkW_s9, mkW_g10, mkW_l10, mkW_n10, mkW_s10, mkW_g11, mkW_l11, mkW_n11, mkW_s11, mkW_g12, mkW_l12, mkW_n12, mkW_s12, mkW_g13, mkW_l13, mkW_n13, mkW_s13, mkW_g14, mkW_l14, mkW_n14, mkW_s14, mkW_t14, mkW_f14, mkW_g15, mkW_l15, mkW_n15, mkW_s15, mkW_g16, mkW_g17, g2]
        exact fin u (f q) (by omega) hfq
theorem W_held (l : Nat → Nat) (hl : ∀ j, j < 4 → A 8 j = nI (l j) ∧ l j < 6) (v kA kB : Nat) (hv : v < 6) (hkA : kA < 3) (hkB : kB < 3) (i7 : I 7 = nI (mx l)) (hn : mx (lb (nrm l)) = mx l) : ∃ A', call (d + 2) 49 [.ref a, .int (nI v), .int (kI kA), .int (kI kB)] (mkW h a I A) = some (some (.int (nI (mx (lb (nrm (asg (asg l 0 kA v) 2 kB v)))))), mkW h a I A') ∧ (∀ k, k ≠ 12 → k ≠ 13 → A' k = A k) := by
  by_cases h2 : kA = 2 ∧ kB = 2
  · obtain ⟨rfl, rfl⟩ := h2
    refine ⟨A, ?_, fun _ _ _ => rfl⟩
    rw [call_at mt_49 [some (.ref a), some (.int (nI v)), some (.int (kI 2)), some (.int (kI 2)), none, none, none, none] rfl rfl rfl, nd_49_0 (St_run (d + 1) mt_49), kI_2]
    simp (disch := omega) only [↓L_m4, ↓L_m1, L_0, L_1, L_2, L_3, L_4, L_5, L_6, L_8, L_9, L_15, L_20, L_30, L_40, L_54, L_60, L_120, L_1872, L_4320, L_22500, le_t, le_f, lt_t, lt_f, eq_t, eq_f, eq_NO, NO_eq, NO_neg, MO_neg, bI_0, nI_add, pk_mul, pk_ds, rem_, nI_MO, nI_0MO, ↓reduceIte, eq_self, reduceCtorEq, Bool.true_eq_false, Bool.false_eq_true, isZn0, isZn1, isZb, bind_some', rI_some, rV_some, rQ_some, rQ_null, updA_at, updA_ne, pk_us, pk_un, ne_eq, not_false_eq_true, Nat.reduceEqDiff, updA_updA, Nat.reduceSub, Nat.reduceAdd, Nat.reduceMul, Nat.reduceDiv, Nat.zero_add, Nat.add_zero, mkW_o, mkW_g0, mkW_l0, mkW_n0, mkW_s0, mkW_g1, mkW_l1, mkW_n1, mkW_s1, mkW_g2, mkW_l2, mkW_n2, mkW_s2, mkW_g3, mkW_l3, mkW_n3, mkW_s3, mkW_g4, mkW_p4, mkW_g5, mkW_p5, mkW_g6, mkW_p6, mkW_g7, mkW_p7, mkW_g8, mkW_l8, mkW_n8, mkW_s8, mkW_g9, mkW_l9, mkW_n9, mkW_s9, mkW_g10, mkW_l10, mkW_n10, mkW_s10, mkW_g11, mkW_l11, mkW_n11, mkW_s11, mkW_g12, mkW_l12, mkW_n12, mkW_s12, mkW_g13, mkW_l13, mkW_n13, mkW_s13, mkW_g14, mkW_l14, mkW_n14, mkW_s14, mkW_t14, mkW_f14, mkW_g15, mkW_l15, mkW_n15, mkW_s15, mkW_g16, mkW_g17, i7]
    unfold asg
    rw [if_pos rfl, if_pos rfl, hn]
  · obtain ⟨A1, e1, e2, e3⟩ := W_keep (d := d) (a := a) (h := h) (I := I) (A := updA A 12 (va_cpy (A 8) (A 12) 0 0 4)) l (fun j hj => by
      rw [updA_at, pk_cpy_in (by omega) (by omega)]
      rw [show 0 + (j - 0) = j by omega]
      exact (hl j hj).1) v 0 kA (Or.inl rfl) hkA
    obtain ⟨A2, f1, f2, f3⟩ := W_keep (d := d) (a := a) (h := h) (I := I) (A := A1) _ e2 v 2 kB (Or.inr rfl) hkB
    have hasg : ∀ (x : Nat → Nat) (b k : Nat), (∀ j, j < 4 → x j < 6) → ∀ j, j < 4 → asg x b k v j < 6 := fun x b k hx j hj => by
      unfold asg
      split
      · exact hx j hj
      · unfold updN
        split
        · exact hv
        · exact hx j hj
    have h6 := hasg _ 2 kB (hasg l 0 kA (fun j hj => (hl j hj).2))
    obtain ⟨A3, g1, g2⟩ := l_held (d := d) (a := a) (h := h) (I := I) (asg (asg l 0 kA v) 2 kB v) 4 0 0 0 (fun _ => 0) A2 rfl (by omega) (fun j hj => ⟨f2 j hj, by have := h6 j hj; omega⟩) (fun j hj => by omega) (fun j => by omega)
    rw [hO_ok h6] at g1
    refine ⟨A3, ?_, fun k h12 h13 => by rw [g2 k h13, f3 k h12, e3 k h12, updA_ne h12]⟩
    have hr : run (d + 1) mt_49 17 [some (.ref a), some (.int (nI v)), some (.int (kI kA)), some (.int (kI kB)), none, none, none, none] [] (mkW h a I A) = some (some (.int (nI (mx (lb (nrm (asg (asg l 0 kA v) 2 kB v)))))), mkW h a I A3) := by
      rw [nd_49_17 (St_run (d + 1) mt_49) rfl]
      simp (disch := omega) only [↓L_m4, ↓L_m1, L_0, L_1, L_2, L_3, L_4, L_5, L_6, L_8, L_9, L_15, L_20, L_30, L_40, L_54, L_60, L_120, L_1872, L_4320, L_22500, le_t, le_f, lt_t, lt_f, eq_t, eq_f, eq_NO, NO_eq, NO_neg, MO_neg, bI_0, nI_add, pk_mul, pk_ds, rem_, nI_MO, nI_0MO, ↓reduceIte, eq_self, reduceCtorEq, Bool.true_eq_false, Bool.false_eq_true, isZn0, isZn1, isZb, bind_some', rI_some, rV_some, rQ_some, rQ_null, updA_at, updA_ne, pk_us, pk_un, ne_eq, not_false_eq_true, Nat.reduceEqDiff, updA_updA, Nat.reduceSub, Nat.reduceAdd, Nat.reduceMul, Nat.reduceDiv, Nat.zero_add, Nat.add_zero, mkW_o, mkW_g0, mkW_l0, mkW_n0, mkW_s0, mkW_g1, mkW_l1, mkW_n1, mkW_s1, mkW_g2, mkW_l2, mkW_n2, mkW_s2, mkW_g3, mkW_l3, mkW_n3, mkW_s3, mkW_g4, mkW_p4, mkW_g5, mkW_p5, mkW_g6, mkW_p6, mkW_g7, mkW_p7, mkW_g8, mkW_l8, mkW_n8, mkW_s8, mkW_g9, mkW_l9, mkW_n9, mkW_s9, mkW_g10, mkW_l10, mkW_n10, mkW_s10, mkW_g11, mkW_l11, mkW_n11, mkW_s11, mkW_g12, mkW_l12, mkW_n12, mkW_s12, mkW_g13, mkW_l13, mkW_n13, mkW_s13, mkW_g14, mkW_l14, mkW_n14, mkW_s14, mkW_t14, mkW_f14, mkW_g15, mkW_l15, mkW_n15, mkW_s15, mkW_g16, mkW_g17, W_cp, e1, f1]
      exact g1
    rw [call_at mt_49 [some (.ref a), some (.int (nI v)), some (.int (kI kA)), some (.int (kI kB)), none, none, none, none] rfl rfl rfl, nd_49_0 (St_run (d + 1) mt_49), hr, L_m4]
    by_cases hA2 : kA = 2
    · rw [if_pos ((kI_NO (by omega)).mpr hA2), if_neg (fun e => h2 ⟨hA2, (kI_NO (by omega)).mp e⟩)]
    · rw [if_neg (fun e => hA2 ((kI_NO (by omega)).mp e))]
theorem W_codeBehind {b1 b2 : Nat} {M1 M2 : MD} {T U : TM} (h1 : isM (mkW h a I A) b1 M1) (t1 : MTT M1 T) (hT : WFT T) (h2 : isM (mkW h a I A) b2 M2) (t2 : MTT M2 U) (hU : WFT U) (c : Nat) (vc : vd T U c) (lk : LKI I A c) (l w : Nat) (hl : l < 3) (hw : w < 5) : ∃ A', call (d + 3) 46 [.ref a, .ref b1, .ref b2, .int (nI (5 * l + w))] (mkW h a I A) = some (some (.int (if wlf (lb c) w = 0 then NO else nI (hc (chd T U c l (vv c w))))), mkW h a I A') ∧ (∀ k, k ≠ 12 → k ≠ 13 → A' k = A k) := by
  obtain ⟨i5, i6, i7, lk8, lk9⟩ := lk
  obtain ⟨k9, k10, k11⟩ := lk9 w hw
  have hlb : ∀ j, j < 4 → lb c j < 100 := fun j _ => by have := lb_lt c j; omega
  have hwl := wlf_lt hlb hw
  have d1 : (5 * l + w) / 5 = l := by omega
  have d2 : nI (5 * l + w) - nI (l * 5) = nI w := by
    rw [pk_sub (by omega)]
    congr 1
    omega
  have d3 : (5 * l + w) % 5 = w := by omega
  rw [call_at mt_46 [some (.ref a), some (.ref b1), some (.ref b2), some (.int (nI (5 * l + w))), none, none, none, none, none] rfl rfl rfl, nd_46_0 (St_run (d + 2) mt_46)]
  by_cases h0 : wlf (lb c) w = 0
  · refine ⟨A, ?_, fun _ _ _ => rfl⟩
    rw [if_pos h0]
    rw [h0] at k9
    simp (disch := omega) only [nd_46_25 (St_run (d + 2) mt_46), ↓L_m4, ↓L_m1, L_0, L_1, L_2, L_3, L_4, L_5, L_6, L_8, L_9, L_15, L_20, L_30, L_40, L_54, L_60, L_120, L_1872, L_4320, L_22500, le_t, le_f, lt_t, lt_f, eq_t, eq_f, eq_NO, NO_eq, NO_neg, MO_neg, bI_0, nI_add, pk_mul, pk_ds, rem_, nI_MO, nI_0MO, ↓reduceIte, eq_self, reduceCtorEq, Bool.true_eq_false, Bool.false_eq_true, isZn0, isZn1, isZb, bind_some', rI_some, rV_some, rQ_some, rQ_null, updA_at, updA_ne, pk_us, pk_un, ne_eq, not_false_eq_true, Nat.reduceEqDiff, updA_updA, Nat.reduceSub, Nat.reduceAdd, Nat.reduceMul, Nat.reduceDiv, Nat.zero_add, Nat.add_zero, mkW_o, mkW_g0, mkW_l0, mkW_n0, mkW_s0, mkW_g1, mkW_l1, mkW_n1, mkW_s1, mkW_g2, mkW_l2, mkW_n2, mkW_s2, mkW_g3, mkW_l3, mkW_n3, mkW_s3, mkW_g4, mkW_p4, mkW_g5, mkW_p5, mkW_g6, mkW_p6, mkW_g7, mkW_p7, mkW_g8, mkW_l8, mkW_n8, mkW_s8, mkW_g9, mkW_l9, mkW_n9, mkW_s9, mkW_g10, mkW_l10, mkW_n10, mkW_s10, mkW_g11, mkW_l11, mkW_n11, mkW_s11, mkW_g12, mkW_l12, mkW_n12, mkW_s12, mkW_g13, mkW_l13, mkW_n13, mkW_s13, mkW_g14, mkW_l14, mkW_n14, mkW_s14, mkW_t14, mkW_f14, mkW_g15, mkW_l15, mkW_n15, mkW_s15, mkW_g16, mkW_g17, d1, d2, d3, k9]
  · obtain ⟨w1, w2, w3, w4, w5, w6⟩ := way_ok vc.2.1 hw h0
    have wl6 : wlf (lb c) w < 6 := wlf_b (fun j _ => by have := lb_lt c j; omega) (by omega) w
    have c1 : cs (lb c) 0 (wlf (lb c) w) = 2 ∨ cs (lb c) 0 (wlf (lb c) w) < T.1.2 := cs_lt (by omega) (fun r hr hr2 => by rw [Nat.zero_add]; exact vc.2.2.2.2.1 r hr hr2)
    have c2 : cs (lb c) 2 (wlf (lb c) w) = 2 ∨ cs (lb c) 2 (wlf (lb c) w) < U.1.2 := cs_lt (by omega) (fun r hr hr2 => vc.2.2.2.2.2 r hr hr2)
    have q1 := cs_le (lb c) 0 (wlf (lb c) w)
    have q2 := cs_le (lb c) 2 (wlf (lb c) w)
    have s1 := vc.2.2.1
    have s2 := vc.2.2.2.1
    have y1 := hT.2.1
    have y2 := hU.2.1
    rw [hc_chd hT hU vc hl w2 w3, ← w4, ← w5]
    generalize hz1 : cs (lb c) 0 (wlf (lb c) w) = z1 at *
    generalize hz2 : cs (lb c) 2 (wlf (lb c) w) = z2 at *
    have st1 : call (d + 2) 4 [.ref b1, .int (nI (c / 625 / 6)), .int (nI l), .int (nI z1)] (mkW h a I A) = some (some (.int (nI (9 * (c / 625 / 6) + 3 * l + z1))), mkW h a I A) := by
      rw [m_stepAt h1, t1.1, t1.2.1, v_stepAt_ok y1 hT.2.2.1 s1 hl c1]
    have st2 : call (d + 2) 4 [.ref b2, .int (nI (c / 625 % 6)), .int (nI l), .int (nI z2)] (mkW h a I A) = some (some (.int (nI (9 * (c / 625 % 6) + 3 * l + z2))), mkW h a I A) := by
      rw [m_stepAt h2, t2.1, t2.2.1, v_stepAt_ok y2 hU.2.2.1 s2 hl c2]
    have x1 : 9 * (c / 625 / 6) + 3 * l + z1 < 54 := by omega
    have x2 : 9 * (c / 625 % 6) + 3 * l + z2 < 54 := by omega
    generalize hp1 : 9 * (c / 625 / 6) + 3 * l + z1 = p1 at *
    generalize hp2 : 9 * (c / 625 % 6) + 3 * l + z2 = p2 at *
    have n1 := t1.2.2.1 p1 x1
    have n2 := t2.2.2.1 p2 x2
    have e1 := t1.2.2.2.1 p1 x1
    have e2 := t2.2.2.2.1 p2 x2
    have kA := hT.2.2.2.2 p1
    have kB := hU.2.2.2.2 p2
    have rA := hT.2.2.1
    have rB := hU.2.2.1
    obtain ⟨A', g1, g2⟩ := W_held (d := d) (a := a) (h := h) (I := I) (A := A) (lb c) (fun j hj => ⟨lk8 j hj, by have := lb_lt c j; omega⟩) (wlf (lb c) w) (T.2.2.1 p1) (U.2.2.1 p2) wl6 (by omega) (by omega) i7 (by
      have := beq_iff_eq.mp vc.2.1
      rw [← lb_mod] at this
      rw [this, ← lb_mod])
    have g3 : nrm (asg (asg (lb c) 0 (T.2.2.1 p1) (wlf (lb c) w)) 2 (U.2.2.1 p2) (wlf (lb c) w)) = nxP c (vv c w) (T.2.2.1 p1) (U.2.2.1 p2) := w6 _ _ (by omega) (by omega)
    rw [g3] at g1
    refine ⟨A', ?_, g2⟩
    rw [if_neg h0]
    simp (disch := omega) only [nd_46_25 (St_run (d + 2) mt_46), nd_46_76 (St_run (d + 2) mt_46), ↓L_m4, ↓L_m1, L_0, L_1, L_2, L_3, L_4, L_5, L_6, L_8, L_9, L_15, L_20, L_30, L_40, L_54, L_60, L_120, L_1872, L_4320, L_22500, le_t, le_f, lt_t, lt_f, eq_t, eq_f, eq_NO, NO_eq, NO_neg, MO_neg, bI_0, nI_add, pk_mul, pk_ds, rem_, nI_MO, nI_0MO, ↓reduceIte, eq_self, reduceCtorEq, Bool.true_eq_false, Bool.false_eq_true, isZn0, isZn1, isZb, bind_some', rI_some, rV_some, rQ_some, rQ_null, updA_at, updA_ne, pk_us, pk_un, ne_eq, not_false_eq_true, Nat.reduceEqDiff, updA_updA, Nat.reduceSub, Nat.reduceAdd, Nat.reduceMul, Nat.reduceDiv, Nat.zero_add, Nat.add_zero, mkW_o, mkW_g0, mkW_l0, mkW_n0, mkW_s0, mkW_g1, mkW_l1, mkW_n1, mkW_s1, mkW_g2, mkW_l2, mkW_n2, mkW_s2, mkW_g3, mkW_l3, mkW_n3, mkW_s3, mkW_g4, mkW_p4, mkW_g5, mkW_p5, mkW_g6, mkW_p6, mkW_g7, mkW_p7, mkW_g8, mkW_l8, mkW_n8, mkW_s8, mkW_g9, mkW_l9, mkW_n9, mkW_s9, mkW_g10, mkW_l10, mkW_n10, mkW_s10, mkW_g11, mkW_l11, mkW_n11, mkW_s11, mkW_g12, mkW_l12, mkW_n12, mkW_s12, mkW_g13, mkW_l13, mkW_n13, mkW_s13, mkW_g14, mkW_l14, mkW_n14, mkW_s14, mkW_t14, mkW_f14, mkW_g15, mkW_l15, mkW_n15, mkW_s15, mkW_g16, mkW_g17, d1, d2, d3, k9, k10, k11, i5, i6, st1, st2, h1.o, h2.o, h1.g0, h2.g0, h1.g1, h2.g1, h1.l0, h1.l1, h2.l0, h2.l1, n1, n2, e1, e2, g1]
    rw [show (T.2.1 p1 * 6 + U.2.1 p2) * 120 = 120 * (6 * T.2.1 p1 + U.2.1 p2) by omega]
end WK
