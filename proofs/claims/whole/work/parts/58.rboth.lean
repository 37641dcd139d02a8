/-! ===== the reference: turned ===== -/
set_option maxRecDepth 20000 in
theorem ofMod_all : (List.range 33).all (fun o => o == 0 || (match ofMod[o]? with | some (some _) => true | _ => false)) = true := by decide +kernel
/-- what lies in the block is the picture -/
theorem mkR_fr {h h1 : AH} {a : Nat} {I J : Nat → Int32} {A B : Nat → Nat → Int32} (q : isMod h1 a I A) (p : Fr (mkR h a J B) h1 a 33) : h1 = mkR h a I A := by
  refine mkR_of q ⟨p.1, fun b hb => ?_⟩
  have hout : ¬ (a ≤ b ∧ b < a + 33) := by
    rintro ⟨h1, h2⟩
    have hb0 : b ≠ a := fun e => hb (Or.inl e)
    have e := all_r ofMod_all (show b - a < 33 by omega)
    rw [Bool.or_eq_true, beq_iff_eq] at e
    rcases e with e | e
    · omega
    · cases ho : ofMod[b - a]? with
      | none => rw [ho] at e; cases e
      | some x =>
        cases x with
        | none => rw [ho] at e; cases e
        | some y => exact hb (Or.inr ⟨y.1, b - a, y.2.1, y.2.2, ofMod_to ho, by omega⟩)
  rw [p.2 b hout, (mkR_Fr h a J B).2 b hout]
/-- machines but t stand as they were -/
def frT (A A' : Nat → Nat → Int32) (t : Nat) : Prop := (∀ m, m ≠ t → A' 4 m = A 4 m ∧ A' 5 m = A 5 m) ∧ (∀ j, ¬ (6 * t ≤ j ∧ j < 6 * t + 6) → A' 6 j = A 6 j) ∧ (∀ j, ¬ (54 * t ≤ j ∧ j < 54 * t + 54) → A' 7 j = A 7 j ∧ A' 8 j = A 8 j)
theorem frT.rf (A : Nat → Nat → Int32) (t : Nat) : frT A A t := ⟨fun _ _ => ⟨rfl, rfl⟩, fun _ _ => rfl, fun _ _ => ⟨rfl, rfl⟩⟩
theorem frT.tr {A B C : Nat → Nat → Int32} {t : Nat} (p : frT A B t) (q : frT B C t) : frT A C t := ⟨fun m hm => ⟨(q.1 m hm).1.trans (p.1 m hm).1, (q.1 m hm).2.trans (p.1 m hm).2⟩, fun j hj => (q.2.1 j hj).trans (p.2.1 j hj), fun j hj => ⟨(q.2.2 j hj).1.trans (p.2.2 j hj).1, (q.2.2 j hj).2.trans (p.2.2 j hj).2⟩⟩
theorem isT.ot {A A' : Nat → Nat → Int32} {t m : Nat} {T : TM} (hT : isT A m T) (p : frT A A' t) (hm : m ≠ t) : isT A' m T := by
  obtain ⟨a1, a2, a3, a4, a5⟩ := hT
  refine ⟨(p.1 m hm).1.trans a1, (p.1 m hm).2.trans a2, fun j hj => ?_, fun j hj => ?_, fun j hj => ?_⟩
  · rw [(p.2.2 _ (by omega)).1]; exact a3 j hj
  · rw [(p.2.2 _ (by omega)).2]; exact a4 j hj
  · rw [p.2.1 _ (by omega)]; exact a5 j hj
theorem bgA.fr {A A' : Nat → Nat → Int32} {t : Nat} {n k : Int32} (b : bgA A A' t n k) : frT A A' t := by
  obtain ⟨_, b4, b5, b6, b7, b8⟩ := b
  refine ⟨fun m hm => ⟨by rw [b4, pk_un hm], by rw [b5, pk_un hm]⟩, fun j hj => by rw [b6, if_neg hj], fun j hj => ⟨by rw [b7, if_neg hj], by rw [b8, if_neg hj]⟩⟩
section RBO
variable {d a : Nat} {h : AH} {I : Nat → Int32}
theorem R_begins {A : Nat → Nat → Int32} (m : Nat) (hm : m < 6) (n k : Int32) : ∃ A', call (d + 1) 118 [.ref a, .int (nI m), .int n, .int k] (mkR h a I A) = some (none, mkR h a I A') ∧ bgA A A' m n k := by
  obtain ⟨h1, A1, e1, e2, e3, e4⟩ := r_begins (d := d) (mkR_is h a I A) m hm n k
  rw [mkR_fr e2 e3] at e1
  exact ⟨A1, e1, e4⟩
theorem R_isMachine {A : Nat → Nat → Int32} (m : Int32) : call (d + 2) 113 [.ref a, .int m] (mkR h a I A) = some (some (.int (v_in m (I 3 - 1))), mkR h a I A) := r_isMachine (mkR_is h a I A) m
def tTM (T : TM) : TM := (T.1, (T.2.1, (T.2.2.1, fun j => decide (j < T.1.1) && !T.2.2.2 j)))
theorem tTM_wf {T : TM} (hT : WFT T) : WFT (tTM T) := hT
theorem l_turn1 {m t : Nat} {T : TM} (hT : WFT T) (hm : m < 6) (ht : t < 6) (hmt : m ≠ t) : ∀ (k s : Nat) (A : Nat → Nat → Int32), s + k = T.1.1 → isT A m T → (∀ j, j < 6 → A 6 (6 * t + j) = bI (decide (j < s) && !T.2.2.2 j)) → ∃ A', run d mt_126 46 [some (.ref a), some (.int (nI m)), some (.int (nI t)), some (.int (nI s))] [] (mkR h a I A) = run d mt_126 94 [some (.ref a), some (.int (nI m)), some (.int (nI t)), some (.int (nI 0))] [] (mkR h a I A') ∧ (∀ j, j < 6 → A' 6 (6 * t + j) = bI (decide (j < T.1.1) && !T.2.2.2 j)) ∧ (∀ j, ¬ (6 * t ≤ j ∧ j < 6 * t + 6) → A' 6 j = A 6 j) ∧ (∀ k, k ≠ 6 → A' k = A k) := by
  have t6 := hT.2.1
  intro k
  induction k with
  | zero =>
    intro s A hs iT hg
    have a4 := iT.1
    refine ⟨A, ?_, fun j hj => by rw [show T.1.1 = s by omega]; exact hg j hj, fun _ _ => rfl, fun _ _ => rfl⟩
    rw [nd_126_46 (St_run d mt_126)]
    simp (disch := omega) only [↓L_m4, ↓L_m1, L_0, L_1, L_2, L_3, L_4, L_5, L_6, L_8, L_9, L_15, L_20, L_30, L_40, L_54, L_60, L_120, L_1872, L_4320, L_22500, le_t, le_f, lt_t, lt_f, eq_t, eq_f, eq_NO, NO_eq, NO_neg, MO_neg, bI_0, nI_add, pk_mul, pk_ds, rem_, nI_MO, nI_0MO, ↓reduceIte, eq_self, reduceCtorEq, Bool.true_eq_false, Bool.false_eq_true, isZn0, isZn1, isZb, bind_some', rI_some, rV_some, rQ_some, rQ_null, updA_at, updA_ne, pk_us, pk_un, ne_eq, not_false_eq_true, Nat.reduceEqDiff, updA_updA, Nat.reduceSub, Nat.reduceAdd, Nat.reduceMul, Nat.reduceDiv, Nat.zero_add, Nat.add_zero, mkR_o, mkR_g0, mkR_p0, mkR_g1, mkR_l1, mkR_n1, mkR_s1, mkR_g2, mkR_l2, mkR_n2, mkR_s2, mkR_g3, mkR_p3, mkR_g4, mkR_l4, mkR_n4, mkR_s4, mkR_g5, mkR_l5, mkR_n5, mkR_s5, mkR_g6, mkR_l6, mkR_n6, mkR_s6, mkR_t6, mkR_f6, mkR_g7, mkR_l7, mkR_n7, mkR_s7, mkR_g8, mkR_l8, mkR_n8, mkR_s8, mkR_g9, mkR_l9, mkR_n9, mkR_s9, mkR_g10, mkR_l10, mkR_n10, mkR_s10, mkR_g11, mkR_l11, mkR_n11, mkR_s11, mkR_g12, mkR_p12, mkR_g13, mkR_l13, mkR_n13, mkR_s13, mkR_t13, mkR_f13, mkR_g14, mkR_l14, mkR_n14, mkR_s14, mkR_g15, mkR_l15, mkR_n15, mkR_s15, mkR_g16, mkR_p16, mkR_g17, mkR_l17, mkR_n17, mkR_s17, mkR_t17, mkR_f17, mkR_g18, mkR_l18, mkR_n18, mkR_s18, mkR_t18, mkR_f18, mkR_g19, mkR_l19, mkR_n19, mkR_s19, mkR_g20, mkR_l20, mkR_n20, mkR_s20, mkR_g21, mkR_l21, mkR_n21, mkR_s21, mkR_g22, mkR_p22, mkR_g23, mkR_p23, mkR_g24, mkR_p24, mkR_g25, mkR_l25, mkR_n25, mkR_s25, mkR_g26, mkR_l26, mkR_n26, mkR_s26, mkR_g27, mkR_l27, mkR_n27, mkR_s27, mkR_g28, mkR_p28, mkR_g29, mkR_p29, mkR_g30, mkR_l30, mkR_n30, mkR_s30, mkR_g31, mkR_p31, mkR_g32, mkR_l32, mkR_n32, mkR_s32, mkR_g33, mkR_l33, mkR_n33, mkR_s33, mkR_g34, mkR_l34, mkR_n34, mkR_s34, mkR_t34, mkR_f34, mkR_g35, mkR_l35, mkR_n35, mkR_s35, mkR_g36, mkR_l36, mkR_n36, mkR_s36, mkR_g37, mkR_l37, mkR_n37, mkR_s37, mkR_g38, mkR_l38, mkR_n38, mkR_s38, mkR_g39, mkR_l39, mkR_n39, mkR_s39, mkR_g40, mkR_l40, mkR_n40, mkR_s40, mkR_g41, mkR_l41, mkR_n41, mkR_s41, a4]
  | succ k ih =>
    intro s A hs iT hg
    have a4 := iT.1
    have a6 := iT.g (i := 6 * m + s) (j := s) (by omega) rfl
    have iT1 : isT (updA A 6 (upd (A 6) (6 * t + s) (bI (!T.2.2.2 s)))) m T := by
      refine ⟨iT.1, iT.2.1, iT.2.2.1, iT.2.2.2.1, fun j hj => ?_⟩
      rw [updA_at, pk_un (by omega)]
      exact iT.2.2.2.2 j hj
    obtain ⟨A', e1, e2, e3, e4⟩ := ih (s + 1) _ (by omega) iT1 (fun j hj => by
      rw [updA_at]
      by_cases e : j = s
      · rw [e, pk_us, decide_eq_true (show s < s + 1 by omega), Bool.true_and]
      · rw [pk_un (by omega), hg j hj]
        by_cases e2 : j < s
        · rw [decide_eq_true e2, decide_eq_true (show j < s + 1 by omega)]
        · rw [decide_eq_false e2, decide_eq_false (show ¬ j < s + 1 by omega)])
    refine ⟨A', ?_, e2, fun j hj => by rw [e3 j hj, updA_at, pk_un (by omega)], fun k hk => by rw [e4 k hk, updA_ne hk]⟩
    rw [nd_126_46 (St_run d mt_126)]
    cases hg : T.2.2.2 s with
    | true =>
      rw [hg] at a6 e1
      simp (disch := omega) only [nd_126_85 (St_run d mt_126), ↓L_m4, ↓L_m1, L_0, L_1, L_2, L_3, L_4, L_5, L_6, L_8, L_9, L_15, L_20, L_30, L_40, L_54, L_60, L_120, L_1872, L_4320, L_22500, le_t, le_f, lt_t, lt_f, eq_t, eq_f, eq_NO, NO_eq, NO_neg, MO_neg, bI_0, nI_add, pk_mul, pk_ds, rem_, nI_MO, nI_0MO, ↓reduceIte, eq_self, reduceCtorEq, Bool.true_eq_false, Bool.false_eq_true, isZn0, isZn1, isZb, bind_some', rI_some, rV_some, rQ_some, rQ_null, updA_at, updA_ne, pk_us, pk_un, ne_eq, not_false_eq_true, Nat.reduceEqDiff, updA_updA, Nat.reduceSub, Nat.reduceAdd, Nat.reduceMul, Nat.reduceDiv, Nat.zero_add, Nat.add_zero, mkR_o, mkR_g0, mkR_p0, mkR_g1, mkR_l1, mkR_n1, mkR_s1, mkR_g2, mkR_l2, mkR_n2, mkR_s2, mkR_g3, mkR_p3, mkR_g4, mkR_l4, mkR_n4, mkR_s4, mkR_g5, mkR_l5, mkR_n5, mkR_s5, mkR_g6, mkR_l6, mkR_n6, mkR_s6, mkR_t6, mkR_f6, mkR_g7, mkR_l7, mkR_n7, mkR_s7, mkR_g8, mkR_l8, mkR_n8, mkR_s8, mkR_g9, mkR_l9, mkR_n9, mkR_s9, mkR_g10, mkR_l10, mkR_n10, mkR_s10, mkR_g11, mkR_l11, mkR_n11, mkR_s11, mkR_g12, mkR_p12, mkR_g13, mkR_l13, mkR_n13, mkR_s13, mkR_t13, mkR_f13, mkR_g14, mkR_l14, mkR_n14, mkR_s14, mkR_g15, mkR_l15, mkR_n15, mkR_s15, mkR_g16, mkR_p16, mkR_g17, mkR_l17, mkR_n17, mkR_s17, mkR_t17, mkR_f17, mkR_g18, mkR_l18, mkR_n18, mkR_s18, mkR_t18, mkR_f18, mkR_g19, mkR_l19, mkR_n19, mkR_s19, mkR_g20, mkR_l20, mkR_n20, mkR_s20, mkR_g21, mkR_l21, mkR_n21, mkR_s21, mkR_g22, mkR_p22, mkR_g23, mkR_p23, mkR_g24, mkR_p24, mkR_g25, mkR_l25, mkR_n25, mkR_s25, mkR_g26, mkR_l26, mkR_n26, mkR_s26, mkR_g27, mkR_l27, mkR_n27, mkR_s27, mkR_g28, mkR_p28, mkR_g29, mkR_p29, mkR_g30, mkR_l30, mkR_n30, mkR_s30, mkR_g31, mkR_p31, mkR_g32, mkR_l32, mkR_n32, mkR_s32, mkR_g33, mkR_l33, mkR_n33, mkR_s33, mkR_g34, mkR_l34, mkR_n34, mkR_s34, mkR_t34, mkR_f34, mkR_g35, mkR_l35, mkR_n35, mkR_s35, mkR_g36, mkR_l36, mkR_n36, mkR_s36, mkR_g37, mkR_l37, mkR_n37, mkR_s37, mkR_g38, mkR_l38, mkR_n38, mkR_s38, mkR_g39, mkR_l39, mkR_n39, mkR_s39, mkR_g40, mkR_l40, mkR_n40, mkR_s40, mkR_g41, mkR_l41, mkR_n41, mkR_s41, a4, a6]
      exact e1
    | false =>
      rw [hg] at a6 e1
      simp (disch := omega) only [nd_126_85 (St_run d mt_126), ↓L_m4, ↓L_m1, L_0, L_1, L_2, L_3, L_4, L_5, L_6, L_8, L_9, L_15, L_20, L_30, L_40, L_54, L_60, L_120, L_1872, L_4320, L_22500, le_t, le_f, lt_t, lt_f, eq_t, eq_f, eq_NO, NO_eq, NO_neg, MO_neg, bI_0, nI_add, pk_mul, pk_ds, rem_, nI_MO, nI_0MO, ↓reduceIte, eq_self, reduceCtorEq, Bool.true_eq_false, Bool.false_eq_true, isZn0, isZn1, isZb, bind_some', rI_some, rV_some, rQ_some, rQ_null, updA_at, updA_ne, pk_us, pk_un, ne_eq, not_false_eq_true, Nat.reduceEqDiff, updA_updA, Nat.reduceSub, Nat.reduceAdd, Nat.reduceMul, Nat.reduceDiv, Nat.zero_add, Nat.add_zero, mkR_o, mkR_g0, mkR_p0, mkR_g1, mkR_l1, mkR_n1, mkR_s1, mkR_g2, mkR_l2, mkR_n2, mkR_s2, mkR_g3, mkR_p3, mkR_g4, mkR_l4, mkR_n4, mkR_s4, mkR_g5, mkR_l5, mkR_n5, mkR_s5, mkR_g6, mkR_l6, mkR_n6, mkR_s6, mkR_t6, mkR_f6, mkR_g7, mkR_l7, mkR_n7, mkR_s7, mkR_g8, mkR_l8, mkR_n8, mkR_s8, mkR_g9, mkR_l9, mkR_n9, mkR_s9, mkR_g10, mkR_l10, mkR_n10, mkR_s10, mkR_g11, mkR_l11, mkR_n11, mkR_s11, mkR_g12, mkR_p12, mkR_g13, mkR_l13, mkR_n13, mkR_s13, mkR_t13, mkR_f13, mkR_g14, mkR_l14, mkR_n14, mkR_s14, mkR_g15, mkR_l15, mkR_n15, mkR_s15, mkR_g16, mkR_p16, mkR_g17, mkR_l17, mkR_n17, mkR_s17, mkR_t17, mkR_f17, mkR_g18, mkR_l18, mkR_n18, mkR_s18, mkR_t18, mkR_f18, mkR_g19, mkR_l19, mkR_n19, mkR_s19, mkR_g20, mkR_l20, mkR_n20, mkR_s20, mkR_g21, mkR_l21, mkR_n21, mkR_s21, mkR_g22, mkR_p22, mkR_g23, mkR_p23, mkR_g24, mkR_p24, mkR_g25, mkR_l25, mkR_n25, mkR_s25, mkR_g26, mkR_l26, mkR_n26, mkR_s26, mkR_g27, mkR_l27, mkR_n27, mkR_s27, mkR_g28, mkR_p28, mkR_g29, mkR_p29, mkR_g30, mkR_l30, mkR_n30, mkR_s30, mkR_g31, mkR_p31, mkR_g32, mkR_l32, mkR_n32, mkR_s32, mkR_g33, mkR_l33, mkR_n33, mkR_s33, mkR_g34, mkR_l34, mkR_n34, mkR_s34, mkR_t34, mkR_f34, mkR_g35, mkR_l35, mkR_n35, mkR_s35, mkR_g36, mkR_l36, mkR_n36, mkR_s36, mkR_g37, mkR_l37, mkR_n37, mkR_s37, mkR_g38, mkR_l38, mkR_n38, mkR_s38, mkR_g39, mkR_l39, mkR_n39, mkR_s39, mkR_g40, mkR_l40, mkR_n40, mkR_s40, mkR_g41, mkR_l41, mkR_n41, mkR_s41, a4, a6]
      exact e1
theorem l_turn2 {m t : Nat} {T : TM} (hm : m < 6) (ht : t < 6) (hmt : m ≠ t) (h3 : I 3 = nI t) : ∀ (k i : Nat) (A : Nat → Nat → Int32), i + k = 54 → isT A m T → (∀ j, j < i → A 7 (54 * t + j) = nI (T.2.1 j) ∧ A 8 (54 * t + j) = kI (T.2.2.1 j)) → ∃ A', run d mt_126 94 [some (.ref a), some (.int (nI m)), some (.int (nI t)), some (.int (nI i))] [] (mkR h a I A) = some (some (.int (nI t)), mkR h a (upd I 3 (nI (t + 1))) A') ∧ (∀ j, j < 54 → A' 7 (54 * t + j) = nI (T.2.1 j) ∧ A' 8 (54 * t + j) = kI (T.2.2.1 j)) ∧ (∀ j, ¬ (54 * t ≤ j ∧ j < 54 * t + 54) → A' 7 j = A 7 j ∧ A' 8 j = A 8 j) ∧ (∀ k, k ≠ 7 → k ≠ 8 → A' k = A k) := by
  intro k
  induction k with
  | zero =>
    intro i A hi iT hg
    have : i = 54 := by omega
    subst this
    refine ⟨A, ?_, hg, fun _ _ => ⟨rfl, rfl⟩, fun _ _ _ => rfl⟩
    rw [nd_126_94 (St_run d mt_126)]
    simp (disch := omega) only [↓L_m4, ↓L_m1, L_0, L_1, L_2, L_3, L_4, L_5, L_6, L_8, L_9, L_15, L_20, L_30, L_40, L_54, L_60, L_120, L_1872, L_4320, L_22500, le_t, le_f, lt_t, lt_f, eq_t, eq_f, eq_NO, NO_eq, NO_neg, MO_neg, bI_0, nI_add, pk_mul, pk_ds, rem_, nI_MO, nI_0MO, ↓reduceIte, eq_self, reduceCtorEq, Bool.true_eq_false, Bool.false_eq_true, isZn0, isZn1, isZb, bind_some', rI_some, rV_some, rQ_some, rQ_null, updA_at, updA_ne, pk_us, pk_un, ne_eq, not_false_eq_true, Nat.reduceEqDiff, updA_updA, Nat.reduceSub, Nat.reduceAdd, Nat.reduceMul, Nat.reduceDiv, Nat.zero_add, Nat.add_zero, mkR_o, mkR_g0, mkR_p0, mkR_g1, mkR_l1, mkR_n1, mkR_s1, mkR_g2, mkR_l2, mkR_n2, mkR_s2, mkR_g3, mkR_p3, mkR_g4, mkR_l4, mkR_n4, mkR_s4, mkR_g5, mkR_l5, mkR_n5, mkR_s5, mkR_g6, mkR_l6, mkR_n6, mkR_s6, mkR_t6, mkR_f6, mkR_g7, mkR_l7, mkR_n7, mkR_s7, mkR_g8, mkR_l8, mkR_n8, mkR_s8, mkR_g9, mkR_l9, mkR_n9, mkR_s9, mkR_g10, mkR_l10, mkR_n10, mkR_s10, mkR_g11, mkR_l11, mkR_n11, mkR_s11, mkR_g12, mkR_p12, mkR_g13, mkR_l13, mkR_n13, mkR_s13, mkR_t13, mkR_f13, mkR_g14, mkR_l14, mkR_n14, mkR_s14, mkR_g15, mkR_l15, mkR_n15, mkR_s15, mkR_g16, mkR_p16, mkR_g17, mkR_l17, mkR_n17, mkR_s17, mkR_t17, mkR_f17, mkR_g18, mkR_l18, mkR_n18, mkR_s18, mkR_t18, mkR_f18, mkR_g19, mkR_l19, mkR_n19, mkR_s19, mkR_g20, mkR_l20, mkR_n20, mkR_s20, mkR_g21, mkR_l21, mkR_n21, mkR_s21, mkR_g22, mkR_p22, mkR_g23, mkR_p23, mkR_g24, mkR_p24, mkR_g25, mkR_l25, mkR_n25, mkR_s25, mkR_g26, mkR_l26, mkR_n26, mkR_s26, mkR_g27, mkR_l27, mkR_n27, mkR_s27, mkR_g28, mkR_p28, mkR_g29, mkR_p29, mkR_g30, mkR_l30, mkR_n30, mkR_s30, mkR_g31, mkR_p31, mkR_g32, mkR_l32, mkR_n32, mkR_s32, mkR_g33, mkR_l33, mkR_n33, mkR_s33, mkR_g34, mkR_l34, mkR_n34, mkR_s34, mkR_t34, mkR_f34, mkR_g35, mkR_l35, mkR_n35, mkR_s35, mkR_g36, mkR_l36, mkR_n36, mkR_s36, mkR_g37, mkR_l37, mkR_n37, mkR_s37, mkR_g38, mkR_l38, mkR_n38, mkR_s38, mkR_g39, mkR_l39, mkR_n39, mkR_s39, mkR_g40, mkR_l40, mkR_n40, mkR_s40, mkR_g41, mkR_l41, mkR_n41, mkR_s41, h3]
  | succ k ih =>
    intro i A hi iT hg
    have a7 := iT.n (i := 54 * m + i) (j := i) (by omega) rfl
    have a8 := iT.k (i := 54 * m + i) (j := i) (by omega) rfl
    have iT1 : isT (updA (updA A 7 (upd (A 7) (54 * t + i) (nI (T.2.1 i)))) 8 (upd (A 8) (54 * t + i) (kI (T.2.2.1 i)))) m T := by
      refine ⟨iT.1, iT.2.1, fun j hj => ?_, fun j hj => ?_, iT.2.2.2.2⟩
      · rw [updA_ne (by decide), updA_at, pk_un (by omega)]
        exact iT.2.2.1 j hj
      · rw [updA_at, pk_un (by omega)]
        exact iT.2.2.2.1 j hj
    obtain ⟨A', e1, e2, e3, e4⟩ := ih (i + 1) _ (by omega) iT1 (fun j hj => by
      show upd (A 7) (54 * t + i) (nI (T.2.1 i)) (54 * t + j) = _ ∧ upd (A 8) (54 * t + i) (kI (T.2.2.1 i)) (54 * t + j) = _
      by_cases e : j = i
      · rw [e, pk_us, pk_us]
        exact ⟨rfl, rfl⟩
      · rw [pk_un (by omega), pk_un (by omega)]
        exact hg j (by omega))
    refine ⟨A', ?_, e2, fun j hj => ?_, fun k h7 h8 => by rw [e4 k h7 h8, updA_ne h8, updA_ne h7]⟩
    · rw [nd_126_94 (St_run d mt_126)]
      simp (disch := omega) only [↓L_m4, ↓L_m1, L_0, L_1, L_2, L_3, L_4, L_5, L_6, L_8, L_9, L_15, L_20, L_30, L_40, L_54, L_60, L_120, L_1872, L_4320, L_22500, le_t, le_f, lt_t, lt_f, eq_t, eq_f, eq_NO, NO_eq, NO_neg, MO_neg, bI_0, nI_add, pk_mul, pk_ds, rem_, nI_MO, nI_0MO, ↓reduceIte, eq_self, reduceCtorEq, Bool.true_eq_false, Bool.false_eq_true, isZn0, isZn1, isZb, bind_some', rI_some, rV_some, rQ_some, rQ_null, updA_at, updA_ne, pk_us, pk_un, ne_eq, not_false_eq_true, Nat.reduceEqDiff, updA_updA, Nat.reduceSub, Nat.reduceAdd, Nat.reduceMul, Nat.reduceDiv, Nat.zero_add, Nat.add_zero, mkR_o, mkR_g0, mkR_p0, mkR_g1, mkR_l1, mkR_n1, mkR_s1, mkR_g2, mkR_l2, mkR_n2, mkR_s2, mkR_g3, mkR_p3, mkR_g4, mkR_l4, mkR_n4, mkR_s4, mkR_g5, mkR_l5, mkR_n5, mkR_s5, mkR_g6, mkR_l6, mkR_n6, mkR_s6, mkR_t6, mkR_f6, mkR_g7, mkR_l7, mkR_n7, mkR_s7, mkR_g8, mkR_l8, mkR_n8, mkR_s8, mkR_g9, mkR_l9, mkR_n9, mkR_s9, mkR_g10, mkR_l10, mkR_n10, mkR_s10, mkR_g11, mkR_l11, mkR_n11, mkR_s11, mkR_g12, mkR_p12, mkR_g13, mkR_l13, mkR_n13, mkR_s13, mkR_t13, mkR_f13, mkR_g14, mkR_l14, mkR_n14, mkR_s14, mkR_g15, mkR_l15, mkR_n15, mkR_s15, mkR_g16, mkR_p16, mkR_g17, mkR_l17, mkR_n17, mkR_s17, mkR_t17, mkR_f17, mkR_g18, mkR_l18, mkR_n18, mkR_s18, mkR_t18, mkR_f18, mkR_g19, mkR_l19, mkR_n19, mkR_s19, mkR_g20, mkR_l20, mkR_n20, mkR_s20, mkR_g21, mkR_l21, mkR_n21, mkR_s21, mkR_g22, mkR_p22, mkR_g23, mkR_p23, mkR_g24, mkR_p24, mkR_g25, mkR_l25, mkR_n25, mkR_s25, mkR_g26, mkR_l26, mkR_n26, mkR_s26, mkR_g27, mkR_l27, mkR_n27, mkR_s27, mkR_g28, mkR_p28, mkR_g29, mkR_p29, mkR_g30, mkR_l30, mkR_n30, mkR_s30, mkR_g31, mkR_p31, mkR_g32, mkR_l32, mkR_n32, mkR_s32, mkR_g33, mkR_l33, mkR_n33, mkR_s33, mkR_g34, mkR_l34, mkR_n34, mkR_s34, mkR_t34, mkR_f34, mkR_g35, mkR_l35, mkR_n35, mkR_s35, mkR_g36, mkR_l36, mkR_n36, mkR_s36, mkR_g37, mkR_l37, mkR_n37, mkR_s37, mkR_g38, mkR_l38, mkR_n38, mkR_s38, mkR_g39, mkR_l39, mkR_n39, mkR_s39, mkR_g40, mkR_l40, mkR_n40, mkR_s40, mkR_g41, mkR_l41, mkR_n41, mkR_s41, a7, a8]
      exact e1
    · have := e3 j hj
      refine ⟨this.1.trans ?_, this.2.trans ?_⟩
      · show upd (A 7) (54 * t + i) (nI (T.2.1 i)) j = A 7 j
        rw [pk_un (by omega)]
      · show upd (A 8) (54 * t + i) (kI (T.2.2.1 i)) j = A 8 j
        rw [pk_un (by omega)]
theorem R_turned {A : Nat → Nat → Int32} {m t : Nat} {T : TM} (hT : WFT T) (hm : m < t) (ht : t < 6) (h3 : I 3 = nI t) (iT : isT A m T) : ∃ A', call (d + 3) 126 [.ref a, .int (nI m)] (mkR h a I A) = some (some (.int (nI t)), mkR h a (upd I 3 (nI (t + 1))) A') ∧ isT A' t (tTM T) ∧ frT A A' t ∧ (∀ k, k ∉ [4, 5, 6, 7, 8] → A' k = A k) := by
  have a4 := iT.1
  have a5 := iT.2.1
  have r2 := hT.2.2.1
  have t6 := hT.2.1
  obtain ⟨A1, e1, e2⟩ := R_begins (d := d + 1) (a := a) (h := h) (I := I) (A := A) t ht (nI T.1.1) (nI T.1.2)
  have iT1 := iT.ot e2.fr (by omega)
  obtain ⟨s1, s4, s5, s6, s7, s8⟩ := e2
  obtain ⟨A2, f1, f2, f3, f4⟩ := l_turn1 (d := d + 2) (a := a) (h := h) (I := I) (t := t) hT (show m < 6 by omega) ht (by omega) T.1.1 0 A1 (by omega) iT1 (fun j hj => by
    rw [s6, if_pos (by omega)]
    rfl)
  have iT2 : isT A2 m T := by
    refine ⟨by rw [f4 4 (by decide)]; exact iT1.1, by rw [f4 5 (by decide)]; exact iT1.2.1, by rw [f4 7 (by decide)]; exact iT1.2.2.1, by rw [f4 8 (by decide)]; exact iT1.2.2.2.1, fun j hj => ?_⟩
    rw [f3 _ (by omega)]
    exact iT1.2.2.2.2 j hj
  obtain ⟨A3, g1, g2, g3, g4⟩ := l_turn2 (d := d + 2) (a := a) (h := h) (I := I) (t := t) (show m < 6 by omega) ht (by omega) h3 54 0 A2 (by omega) iT2 (fun j hj => by omega)
  refine ⟨A3, ?_, ⟨?_, ?_, fun j hj => (g2 j hj).1, fun j hj => (g2 j hj).2, fun j hj => ?_⟩, ⟨fun m' hm' => ?_, fun j hj => ?_, fun j hj => ?_⟩, fun k hk => ?_⟩
  · have v1 : v_in (nI m) (nI t - 1) = 1 := v_in_ok (by omega) hm
    have i1 := R_isMachine (d := d) (a := a) (h := h) (I := I) (A := A) (nI m)
    rw [h3, v1] at i1
    rw [call_at mt_126 [some (.ref a), some (.int (nI m)), none, none] rfl rfl rfl, nd_126_0 (St_run (d + 2) mt_126), mkR_o, i1, bind_some', rI_some, if_neg (by decide)]
    simp (disch := omega) only [↓L_m4, ↓L_m1, L_0, L_1, L_2, L_3, L_4, L_5, L_6, L_8, L_9, L_15, L_20, L_30, L_40, L_54, L_60, L_120, L_1872, L_4320, L_22500, le_t, le_f, lt_t, lt_f, eq_t, eq_f, eq_NO, NO_eq, NO_neg, MO_neg, bI_0, nI_add, pk_mul, pk_ds, rem_, nI_MO, nI_0MO, ↓reduceIte, eq_self, reduceCtorEq, Bool.true_eq_false, Bool.false_eq_true, isZn0, isZn1, isZb, bind_some', rI_some, rV_some, rQ_some, rQ_null, updA_at, updA_ne, pk_us, pk_un, ne_eq, not_false_eq_true, Nat.reduceEqDiff, updA_updA, Nat.reduceSub, Nat.reduceAdd, Nat.reduceMul, Nat.reduceDiv, Nat.zero_add, Nat.add_zero, mkR_o, mkR_g0, mkR_p0, mkR_g1, mkR_l1, mkR_n1, mkR_s1, mkR_g2, mkR_l2, mkR_n2, mkR_s2, mkR_g3, mkR_p3, mkR_g4, mkR_l4, mkR_n4, mkR_s4, mkR_g5, mkR_l5, mkR_n5, mkR_s5, mkR_g6, mkR_l6, mkR_n6, mkR_s6, mkR_t6, mkR_f6, mkR_g7, mkR_l7, mkR_n7, mkR_s7, mkR_g8, mkR_l8, mkR_n8, mkR_s8, mkR_g9, mkR_l9, mkR_n9, mkR_s9, mkR_g10, mkR_l10, mkR_n10, mkR_s10, mkR_g11, mkR_l11, mkR_n11, mkR_s11, mkR_g12, mkR_p12, mkR_g13, mkR_l13, mkR_n13, mkR_s13, mkR_t13, mkR_f13, mkR_g14, mkR_l14, mkR_n14, mkR_s14, mkR_g15, mkR_l15, mkR_n15, mkR_s15, mkR_g16, mkR_p16, mkR_g17, mkR_l17, mkR_n17, mkR_s17, mkR_t17, mkR_f17, mkR_g18, mkR_l18, mkR_n18, mkR_s18, mkR_t18, mkR_f18, mkR_g19, mkR_l19, mkR_n19, mkR_s19, mkR_g20, mkR_l20, mkR_n20, mkR_s20, mkR_g21, mkR_l21, mkR_n21, mkR_s21, mkR_g22, mkR_p22, mkR_g23, mkR_p23, mkR_g24, mkR_p24, mkR_g25, mkR_l25, mkR_n25, mkR_s25, mkR_g26, mkR_l26, mkR_n26, mkR_s26, mkR_g27, mkR_l27, mkR_n27, mkR_s27, mkR_g28, mkR_p28, mkR_g29, mkR_p29, mkR_g30, mkR_l30, mkR_n30, mkR_s30, mkR_g31, mkR_p31, mkR_g32, mkR_l32, mkR_n32, mkR_s32, mkR_g33, mkR_l33, mkR_n33, mkR_s33, mkR_g34, mkR_l34, mkR_n34, mkR_s34, mkR_t34, mkR_f34, mkR_g35, mkR_l35, mkR_n35, mkR_s35, mkR_g36, mkR_l36, mkR_n36, mkR_s36, mkR_g37, mkR_l37, mkR_n37, mkR_s37, mkR_g38, mkR_l38, mkR_n38, mkR_s38, mkR_g39, mkR_l39, mkR_n39, mkR_s39, mkR_g40, mkR_l40, mkR_n40, mkR_s40, mkR_g41, mkR_l41, mkR_n41, mkR_s41, h3, a4, a5, e1]
    exact f1.trans g1
  · rw [g4 4 (by decide) (by decide), f4 4 (by decide), s4, pk_us]; rfl
  · rw [g4 5 (by decide) (by decide), f4 5 (by decide), s5, pk_us]; rfl
  · rw [g4 6 (by decide) (by decide)]
    exact f2 j hj
  · rw [g4 4 (by decide) (by decide), f4 4 (by decide), s4, pk_un hm', g4 5 (by decide) (by decide), f4 5 (by decide), s5, pk_un hm']
    exact ⟨rfl, rfl⟩
  · rw [g4 6 (by decide) (by decide), f3 j hj, s6, if_neg hj]
  · rw [(g3 j hj).1, (g3 j hj).2, f4 7 (by decide), f4 8 (by decide), s7, s8, if_neg hj, if_neg hj]
    exact ⟨rfl, rfl⟩
  · rw [g4 k (fun e => hk (by simp [e])) (fun e => hk (by simp [e])), f4 k (fun e => hk (by simp [e])), ← s1 k hk]
end RBO
