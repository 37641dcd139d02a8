/-! ===== Pairing ===== -/
theorem jrg_r {T U : TM} (h0 : T.1.2 = 0 ∨ U.1.2 = 0) {w : Nat} (hv : vcs (jrg T U) w = true) : (jA T w = 2 ∨ jA T w < T.1.2) ∧ (jA U w = 2 ∨ jA U w < U.1.2) := by
  unfold vcs jrg at hv
  rw [Bool.or_eq_true, beq_iff_eq, decide_eq_true_eq] at hv
  unfold jA
  constructor
  · split <;> omega
  · split <;> omega
theorem C_gd {d : Nat} {h : AH} (x y : Bool) (w : Nat) (hw : w < 3) : call (d + 1) 20 [.int (bI x), .int (bI y), .int (nI w)] h = some (some (.int (bI (gdw w x y))), h) := by
  rw [call_at mt_20 [some (.int (bI x)), some (.int (bI y)), some (.int (nI w))] rfl rfl rfl]
  rcases (show w = 0 ∨ w = 1 ∨ w = 2 by omega) with rfl | rfl | rfl <;> cases x <;> cases y <;> simp (disch := omega) only [nd_20_0 (St_run d mt_20), nd_20_16 (St_run d mt_20), nd_20_17 (St_run d mt_20), nd_20_31 (St_run d mt_20), nd_20_49 (St_run d mt_20), ↓L_m4, ↓L_m1, L_0, L_1, L_2, L_3, L_4, L_5, L_6, L_8, L_9, L_15, L_20, L_30, L_40, L_54, L_60, L_120, L_1872, L_4320, L_22500, le_t, le_f, lt_t, lt_f, eq_t, eq_f, eq_NO, NO_eq, NO_neg, MO_neg, bI_0, nI_add, pk_mul, pk_ds, rem_, nI_MO, nI_0MO, ↓reduceIte, eq_self, reduceCtorEq, Bool.true_eq_false, Bool.false_eq_true, isZn0, isZn1, isZb, bind_some', rI_some, rV_some, rQ_some, rQ_null, updA_at, updA_ne, pk_us, pk_un, ne_eq, not_false_eq_true, Nat.reduceEqDiff, updA_updA, Nat.reduceSub, Nat.reduceAdd, Nat.reduceMul, Nat.reduceDiv, Nat.zero_add, Nat.add_zero, bI_eq] <;> rfl
section CJ
variable {d pa mm ba bb : Nat}
theorem l_num {h : AH} {f : Nat → Int32} {q : Nat → Nat} {n p : Nat} (qp : isPair h pa (nI n, f)) (hn : n ≤ 6) (hp : p < 36) (hf : ∀ j, j < n → f j = nI (q j) ∧ q j < 36) : ∀ (m j : Nat), j + m = n → run d mt_19 2 [some (.ref pa), some (.int (nI p)), some (.int (nI j))] [] h = match fw (fun j => q j == p) m j with
    | some r => some (some (.int (nI r)), h)
    | none => run d mt_19 2 [some (.ref pa), some (.int (nI p)), some (.int (nI n))] [] h := by
  intro m
  induction m with
  | zero =>
    intro j hj
    have : j = n := by omega
    subst this
    rfl
  | succ m ih =>
    intro j hj
    obtain ⟨f1, f2⟩ := hf j (by omega)
    have ld : ∀ g, ldI h (pa + 1) (nI j) g = g (nI (q j)) := fun g => by rw [ldI_of qp.a0 rfl (show j < 6 by omega) (by decide)]; exact congrArg g f1
    rw [nd_19_2 (St_run d mt_19)]
    unfold fw
    by_cases e : q j = p
    · rw [if_pos (beq_iff_eq.mpr e)]
      simp (disch := omega) only [↓L_m4, ↓L_m1, L_0, L_1, L_2, L_3, L_4, L_5, L_6, L_8, L_9, L_15, L_20, L_30, L_40, L_54, L_60, L_120, L_1872, L_4320, L_22500, le_t, le_f, lt_t, lt_f, eq_t, eq_f, eq_NO, NO_eq, NO_neg, MO_neg, bI_0, nI_add, pk_mul, pk_ds, rem_, nI_MO, nI_0MO, ↓reduceIte, eq_self, reduceCtorEq, Bool.true_eq_false, Bool.false_eq_true, isZn0, isZn1, isZb, bind_some', rI_some, rV_some, rQ_some, rQ_null, updA_at, updA_ne, pk_us, pk_un, ne_eq, not_false_eq_true, Nat.reduceEqDiff, updA_updA, Nat.reduceSub, Nat.reduceAdd, Nat.reduceMul, Nat.reduceDiv, Nat.zero_add, Nat.add_zero, qp.g0, qp.g1, ld, e]
    · rw [if_neg (fun e2 => e (beq_iff_eq.mp e2)), ← ih (j + 1) (by omega)]
      simp (disch := omega) only [↓L_m4, ↓L_m1, L_0, L_1, L_2, L_3, L_4, L_5, L_6, L_8, L_9, L_15, L_20, L_30, L_40, L_54, L_60, L_120, L_1872, L_4320, L_22500, le_t, le_f, lt_t, lt_f, eq_t, eq_f, eq_NO, NO_eq, NO_neg, MO_neg, bI_0, nI_add, pk_mul, pk_ds, rem_, nI_MO, nI_0MO, ↓reduceIte, eq_self, reduceCtorEq, Bool.true_eq_false, Bool.false_eq_true, isZn0, isZn1, isZb, bind_some', rI_some, rV_some, rQ_some, rQ_null, updA_at, updA_ne, pk_us, pk_un, ne_eq, not_false_eq_true, Nat.reduceEqDiff, updA_updA, Nat.reduceSub, Nat.reduceAdd, Nat.reduceMul, Nat.reduceDiv, Nat.zero_add, Nat.add_zero, qp.g0, qp.g1, ld]
theorem C_num {h : AH} {f : Nat → Int32} {q : Nat → Nat} {n p : Nat} (qp : isPair h pa (nI n, f)) (hn : n ≤ 6) (hp : p < 36) (hf : ∀ j, j < n → f j = nI (q j) ∧ q j < 36) : (∀ j, fnd q p n = some j → call (d + 1) 19 [.ref pa, .int (nI p)] h = some (some (.int (nI j)), h)) ∧ (fnd q p n = none → n < 6 → ∃ h', call (d + 1) 19 [.ref pa, .int (nI p)] h = some (some (.int (nI n)), h') ∧ isPair h' pa (nI (n + 1), upd f n (nI p)) ∧ Fr h h' pa 2) ∧ (fnd q p n = none → ¬ n < 6 → call (d + 1) 19 [.ref pa, .int (nI p)] h = some (some (.int NO), h)) := by
  have l := l_num (d := d) qp hn hp hf n 0 (by omega)
  have e0 : call (d + 1) 19 [.ref pa, .int (nI p)] h = run d mt_19 2 [some (.ref pa), some (.int (nI p)), some (.int (nI 0))] [] h := by
    rw [call_at mt_19 [some (.ref pa), some (.int (nI p)), none] rfl rfl rfl, nd_19_0 (St_run d mt_19)]
    rfl
  refine ⟨fun j hj => ?_, fun hj h6 => ?_, fun hj h6 => ?_⟩
  · rw [e0, l, show fw (fun j => q j == p) n 0 = some j from hj]
  · have q1 := qp.w0 (upd f n (nI p))
    have q2 := q1.u1 (nI (n + 1))
    refine ⟨_, ?_, q2, Fr.tr (Fr.set ⟨by omega, by omega⟩) (Fr.set ⟨by omega, by omega⟩)⟩
    have st : ∀ g, stI h (pa + 1) (nI n) (nI p) g = g (hS h (pa + 1) (aI 0 6 (upd f n (nI p)))) := fun g => stI_of qp.a0 rfl (show n < 6 by omega) (by decide) g
    have e1 : nI (n + 1) - nI 1 = nI n := nI_pred n
    rw [e0, l, show fw (fun j => q j == p) n 0 = none from hj]
    dsimp only
    rw [nd_19_2 (St_run d mt_19)]
    simp (disch := omega) only [↓L_m4, ↓L_m1, L_0, L_1, L_2, L_3, L_4, L_5, L_6, L_8, L_9, L_15, L_20, L_30, L_40, L_54, L_60, L_120, L_1872, L_4320, L_22500, le_t, le_f, lt_t, lt_f, eq_t, eq_f, eq_NO, NO_eq, NO_neg, MO_neg, bI_0, nI_add, pk_mul, pk_ds, rem_, nI_MO, nI_0MO, ↓reduceIte, eq_self, reduceCtorEq, Bool.true_eq_false, Bool.false_eq_true, isZn0, isZn1, isZb, bind_some', rI_some, rV_some, rQ_some, rQ_null, updA_at, updA_ne, pk_us, pk_un, ne_eq, not_false_eq_true, Nat.reduceEqDiff, updA_updA, Nat.reduceSub, Nat.reduceAdd, Nat.reduceMul, Nat.reduceDiv, Nat.zero_add, Nat.add_zero, qp.g0, qp.g1, st, q1.g1, q1.p1, q2.g1, e1]
  · rw [e0, l, show fw (fun j => q j == p) n 0 = none from hj]
    dsimp only
    rw [nd_19_2 (St_run d mt_19)]
    simp (disch := omega) only [↓L_m4, ↓L_m1, L_0, L_1, L_2, L_3, L_4, L_5, L_6, L_8, L_9, L_15, L_20, L_30, L_40, L_54, L_60, L_120, L_1872, L_4320, L_22500, le_t, le_f, lt_t, lt_f, eq_t, eq_f, eq_NO, NO_eq, NO_neg, MO_neg, bI_0, nI_add, pk_mul, pk_ds, rem_, nI_MO, nI_0MO, ↓reduceIte, eq_self, reduceCtorEq, Bool.true_eq_false, Bool.false_eq_true, isZn0, isZn1, isZb, bind_some', rI_some, rV_some, rQ_some, rQ_null, updA_at, updA_ne, pk_us, pk_un, ne_eq, not_false_eq_true, Nat.reduceEqDiff, updA_updA, Nat.reduceSub, Nat.reduceAdd, Nat.reduceMul, Nat.reduceDiv, Nat.zero_add, Nat.add_zero, qp.g0, qp.g1]
/-- the class' state of the joining -/
def JC (h : AH) (pa mm rg : Nat) (J : JS) (M : MD) (f : Nat → Int32) : Prop := isPair h pa (nI J.1, f) ∧ (∀ j, j < J.1 → f j = nI (J.2.1 j)) ∧ isM h mm M ∧ M.1.1 = nI 6 ∧ M.1.2.1 = nI rg ∧ (∀ z, z < 54 → M.2.1 z = nI (J.2.2.1 z) ∧ M.2.2.1 z = kI (J.2.2.2 z))
variable {T U : TM} {MA MB : MD}
theorem C_jst (hT : WFT T) (hU : WFT U) (tA : MTT MA T) (tB : MTT MB U) (h0 : T.1.2 = 0 ∨ U.1.2 = 0) (hdA : dj ba 5 [(pa, 2), (mm, 5)]) (hdB : dj bb 5 [(pa, 2), (mm, 5)]) (hdm : pa + 2 ≤ mm ∨ mm + 5 ≤ pa) {h : AH} {J : JS} {M : MD} {f : Nat → Int32} (k l w : Nat) (hl : l < 3) (hw : w < 3) (g : JI T U (9 * k + (3 * l + w)) J) (hk : k < J.1) (c : JC h pa mm (jrg T U) J M f) (hA : isM h ba MA) (hB : isM h bb MB) : (∀ K, jst T U k (3 * l + w) J = some K → ∃ h' M' f', run (d + 1) mt_18 34 [some (.ref pa), some (.ref mm), some (.int (nI k)), some (.ref ba), some (.ref bb), some (.int (nI (J.2.1 k / 6))), some (.int (nI (J.2.1 k % 6))), some (.int (nI l)), some (.int (nI w)), none, none, none, none] [] h = run (d + 1) mt_18 34 [some (.ref pa), some (.ref mm), some (.int (nI k)), some (.ref ba), some (.ref bb), some (.int (nI (J.2.1 k / 6))), some (.int (nI (J.2.1 k % 6))), some (.int (nI l)), some (.int (nI (w + 1))), none, none, none, none] [] h' ∧ JC h' pa mm (jrg T U) K M' f' ∧ M'.2.2.2.1 = M.2.2.2.1 ∧ M'.1.2.2.1 = M.1.2.2.1 ∧ (M.1.2.2.2 = 0 → M'.1.2.2.2 = 0) ∧ Fs h h' [(pa, 2), (mm, 5)]) ∧ (jst T U k (3 * l + w) J = none → ∃ h' D' M', run (d + 1) mt_18 34 [some (.ref pa), some (.ref mm), some (.int (nI k)), some (.ref ba), some (.ref bb), some (.int (nI (J.2.1 k / 6))), some (.int (nI (J.2.1 k % 6))), some (.int (nI l)), some (.int (nI w)), none, none, none, none] [] h = some (some (.int 0), h') ∧ isPair h' pa D' ∧ isM h' mm M' ∧ Fs h h' [(pa, 2), (mm, 5)]) := by
  obtain ⟨c1, c2, c3, c4, c5, c6⟩ := c
  have gk := g.2.2.1 k hk
  have n6 := g.2.1
  have t6 := hT.2.1
  have u6 := hU.2.1
  have rT := hT.2.2.1
  have rU := hU.2.2.1
  have hi : 3 * l + w < 9 := by omega
  have d1 : (3 * l + w) / 3 = l := by omega
  have d2 : (3 * l + w) % 3 = w := by omega
  obtain ⟨p1, p2, p3, p4, p5⟩ := jp_ok (i := 3 * l + w) hT hU gk hi
  have rg2 : jrg T U ≤ 2 := by unfold jrg; omega
  have hq36 : ∀ j, j < J.1 → f j = nI (J.2.1 j) ∧ J.2.1 j < 36 := fun j hj => ⟨c2 j hj, by have := g.2.2.1 j hj; omega⟩
  have jp36 : jp T U J k (3 * l + w) < 36 := by omega
  -- where the steps stand
  have eA : jxA T J k (3 * l + w) = 9 * (J.2.1 k / 6) + 3 * l + jA T w := by unfold jxA; rw [d1, d2]
  have eB : jxB U J k (3 * l + w) = 9 * (J.2.1 k % 6) + 3 * l + jA U w := by unfold jxB; rw [d1, d2]
  have wA : ∀ P : Option RV → Prop, True := fun _ => trivial
  have hA4 : MA.1.2.1 = nI T.1.2 := tA.2.1
  have hB4 : MB.1.2.1 = nI U.1.2 := tB.2.1
  -- up to the test of the places
  have head : run (d + 1) mt_18 34 [some (.ref pa), some (.ref mm), some (.int (nI k)), some (.ref ba), some (.ref bb), some (.int (nI (J.2.1 k / 6))), some (.int (nI (J.2.1 k % 6))), some (.int (nI l)), some (.int (nI w)), none, none, none, none] [] h = run (d + 1) mt_18 94 [some (.ref pa), some (.ref mm), some (.int (nI k)), some (.ref ba), some (.ref bb), some (.int (nI (J.2.1 k / 6))), some (.int (nI (J.2.1 k % 6))), some (.int (nI l)), some (.int (nI w)), some (.int (v_stepAt (nI 6) (nI (jrg T U)) (nI k) (nI l) (nI w))), some (.int (v_stepAt (nI T.1.1) (nI T.1.2) (nI (J.2.1 k / 6)) (nI l) (nI (jA T w)))), none, none] [.int (nI (jA U w)), .int (nI l), .int (nI (J.2.1 k % 6)), .ref bb] h := by
    have s1 : call (d + 1) 4 [.ref mm, .int (nI k), .int (nI l), .int (nI w)] h = some (some (.int (v_stepAt (nI 6) (nI (jrg T U)) (nI k) (nI l) (nI w))), h) := by rw [m_stepAt c3, c4, c5]
    have s2 : ∀ x, call (d + 1) 4 [.ref ba, .int (nI (J.2.1 k / 6)), .int (nI l), .int x] h = some (some (.int (v_stepAt (nI T.1.1) (nI T.1.2) (nI (J.2.1 k / 6)) (nI l) x)), h) := fun x => by rw [m_stepAt hA, tA.1, tA.2.1]
    rw [nd_18_34 (St_run (d + 1) mt_18)]
    by_cases zA : T.1.2 = 0
    · have jT : jA T w = 2 := if_neg (by omega)
      rw [zA] at hA4
      by_cases zB : U.1.2 = 0
      · have jU : jA U w = 2 := if_neg (by omega)
        rw [zB] at hB4
        rw [jT, jU]
        simp (disch := omega) only [nd_18_69 (St_run (d + 1) mt_18), ↓L_m4, ↓L_m1, L_0, L_1, L_2, L_3, L_4, L_5, L_6, L_8, L_9, L_15, L_20, L_30, L_40, L_54, L_60, L_120, L_1872, L_4320, L_22500, le_t, le_f, lt_t, lt_f, eq_t, eq_f, eq_NO, NO_eq, NO_neg, MO_neg, bI_0, nI_add, pk_mul, pk_ds, rem_, nI_MO, nI_0MO, ↓reduceIte, eq_self, reduceCtorEq, Bool.true_eq_false, Bool.false_eq_true, isZn0, isZn1, isZb, bind_some', rI_some, rV_some, rQ_some, rQ_null, updA_at, updA_ne, pk_us, pk_un, ne_eq, not_false_eq_true, Nat.reduceEqDiff, updA_updA, Nat.reduceSub, Nat.reduceAdd, Nat.reduceMul, Nat.reduceDiv, Nat.zero_add, Nat.add_zero, c3.o, s1, hA.g4, hA4, hA.o, s2, hB.g4, hB4]
      · have jU : jA U w = w := if_pos (by omega)
        rw [jT, jU]
        simp (disch := omega) only [nd_18_69 (St_run (d + 1) mt_18), ↓L_m4, ↓L_m1, L_0, L_1, L_2, L_3, L_4, L_5, L_6, L_8, L_9, L_15, L_20, L_30, L_40, L_54, L_60, L_120, L_1872, L_4320, L_22500, le_t, le_f, lt_t, lt_f, eq_t, eq_f, eq_NO, NO_eq, NO_neg, MO_neg, bI_0, nI_add, pk_mul, pk_ds, rem_, nI_MO, nI_0MO, ↓reduceIte, eq_self, reduceCtorEq, Bool.true_eq_false, Bool.false_eq_true, isZn0, isZn1, isZb, bind_some', rI_some, rV_some, rQ_some, rQ_null, updA_at, updA_ne, pk_us, pk_un, ne_eq, not_false_eq_true, Nat.reduceEqDiff, updA_updA, Nat.reduceSub, Nat.reduceAdd, Nat.reduceMul, Nat.reduceDiv, Nat.zero_add, Nat.add_zero, c3.o, s1, hA.g4, hA4, hA.o, s2, hB.g4, hB4]
    · have jT : jA T w = w := if_pos (by omega)
      by_cases zB : U.1.2 = 0
      · have jU : jA U w = 2 := if_neg (by omega)
        rw [zB] at hB4
        rw [jT, jU]
        simp (disch := omega) only [nd_18_69 (St_run (d + 1) mt_18), ↓L_m4, ↓L_m1, L_0, L_1, L_2, L_3, L_4, L_5, L_6, L_8, L_9, L_15, L_20, L_30, L_40, L_54, L_60, L_120, L_1872, L_4320, L_22500, le_t, le_f, lt_t, lt_f, eq_t, eq_f, eq_NO, NO_eq, NO_neg, MO_neg, bI_0, nI_add, pk_mul, pk_ds, rem_, nI_MO, nI_0MO, ↓reduceIte, eq_self, reduceCtorEq, Bool.true_eq_false, Bool.false_eq_true, isZn0, isZn1, isZb, bind_some', rI_some, rV_some, rQ_some, rQ_null, updA_at, updA_ne, pk_us, pk_un, ne_eq, not_false_eq_true, Nat.reduceEqDiff, updA_updA, Nat.reduceSub, Nat.reduceAdd, Nat.reduceMul, Nat.reduceDiv, Nat.zero_add, Nat.add_zero, c3.o, s1, hA.g4, hA4, hA.o, s2, hB.g4, hB4]
      · omega
  have s3 : call (d + 1) 4 [.ref bb, .int (nI (J.2.1 k % 6)), .int (nI l), .int (nI (jA U w))] h = some (some (.int (v_stepAt (nI U.1.1) (nI U.1.2) (nI (J.2.1 k % 6)) (nI l) (nI (jA U w)))), h) := by rw [m_stepAt hB, tB.1, tB.2.1]
  have e183 : ∀ hx, run (d + 1) mt_18 183 [some (.ref pa), some (.ref mm), some (.int (nI k)), some (.ref ba), some (.ref bb), some (.int (nI (J.2.1 k / 6))), some (.int (nI (J.2.1 k % 6))), some (.int (nI l)), some (.int (nI w)), none, none, none, none] [] hx = run (d + 1) mt_18 34 [some (.ref pa), some (.ref mm), some (.int (nI k)), some (.ref ba), some (.ref bb), some (.int (nI (J.2.1 k / 6))), some (.int (nI (J.2.1 k % 6))), some (.int (nI l)), some (.int (nI (w + 1))), none, none, none, none] [] hx := fun hx => by
    rw [nd_18_183 (St_run (d + 1) mt_18), nI_1]
  rw [head, nd_18_94 (St_run (d + 1) mt_18), hB.o, s3, bind_some', rI_some]
  unfold jst
  rw [d2]
  cases hv : vcs (jrg T U) w with
  | false =>
    have hvs : v_stepAt (nI 6) (nI (jrg T U)) (nI k) (nI l) (nI w) = -4 := by
      unfold v_stepAt
      rw [if_neg]
      rintro ⟨e, _⟩
      unfold vcs at hv
      rw [Bool.or_eq_false_iff, beq_eq_false_iff_ne, decide_eq_false_iff_not] at hv
      rcases e with e | ⟨_, e⟩
      · have : nI w = nI 2 := e
        rw [nI_eq (by omega) (by omega)] at this
        exact hv.1 this
      · exact e (nI_le (by omega) (by omega))
    rw [hvs, if_neg (show ¬ false = true by decide), if_pos (show (-4 : Int32) < 0 by decide), e183]
    refine ⟨fun K hK => ?_, fun hK => by cases hK⟩
    cases hK
    exact ⟨h, M, f, rfl, ⟨c1, c2, c3, c4, c5, c6⟩, rfl, rfl, fun e => e, Fs.rf _ _⟩
  | true =>
    obtain ⟨vA, vB⟩ := jrg_r h0 hv
    have vw : w = 2 ∨ w < jrg T U := by
      unfold vcs at hv
      rw [Bool.or_eq_true, beq_iff_eq, decide_eq_true_eq] at hv
      exact hv
    rw [if_pos rfl, v_stepAt_ok (by omega) rg2 (show k < 6 by omega) hl vw, v_stepAt_ok t6 rT gk.1 hl vA, v_stepAt_ok u6 rU gk.2 hl vB, ← eA, ← eB, if_neg (nI_pos (by omega)), if_neg (nI_pos (by omega)), if_pos (nI_pos' (by omega)), hA.g0, hA.l0 p1, tA.2.2.1 _ p1, hB.g0, hB.l0 p2, tB.2.2.1 _ p2, c1.o]
    have ejp : nI (T.2.1 (jxA T J k (3 * l + w))) * 6 + nI (U.2.1 (jxB U J k (3 * l + w))) = nI (jp T U J k (3 * l + w)) := by
      show nI _ * nI 6 + nI _ = _
      rw [pk_mul, nI_add]
      unfold jp
      congr 1
      omega
    rw [ejp]
    obtain ⟨n1, n2, n3⟩ := C_num (d := d) c1 n6 jp36 hq36
    have hz : 9 * k + 3 * l + w = 9 * k + (3 * l + w) := by omega
    -- the writing of the step
    have wr : ∀ (h1 : AH) (J1 : JS) (f1 : Nat → Int32) (j : Nat), j < 6 → isPair h1 pa (nI J1.1, f1) → (∀ j, j < J1.1 → f1 j = nI (J1.2.1 j)) → isM h1 mm M → isM h1 ba MA → isM h1 bb MB → J1.2.2 = J.2.2 → Fs h h1 [(pa, 2), (mm, 5)] → ∃ h' M' f', (if 0 ≤ nI j then (gfI h1 bb 0 4 fun v11 => if v11 ≤ 0 then (gfQ h1 ba 0 1 none fun b12 => ldI h1 b12 (nI (jxA T J k (3 * l + w))) fun v13 => run (d + 1) mt_18 180 [some (.ref pa), some (.ref mm), some (.int (nI k)), some (.ref ba), some (.ref bb), some (.int (nI (J.2.1 k / 6))), some (.int (nI (J.2.1 k % 6))), some (.int (nI l)), some (.int (nI w)), none, none, none, none] [.int v13, .int (nI j), .int (nI (9 * k + 3 * l + w)), .ref mm] h1) else (gfQ h1 bb 0 1 none fun b14 => ldI h1 b14 (nI (jxB U J k (3 * l + w))) fun v15 => run (d + 1) mt_18 180 [some (.ref pa), some (.ref mm), some (.int (nI k)), some (.ref ba), some (.ref bb), some (.int (nI (J.2.1 k / 6))), some (.int (nI (J.2.1 k % 6))), some (.int (nI l)), some (.int (nI w)), none, none, none, none] [.int v15, .int (nI j), .int (nI (9 * k + 3 * l + w)), .ref mm] h1)) else (isZ 0 (some (some (.int 0), h1)))) = run (d + 1) mt_18 34 [some (.ref pa), some (.ref mm), some (.int (nI k)), some (.ref ba), some (.ref bb), some (.int (nI (J.2.1 k / 6))), some (.int (nI (J.2.1 k % 6))), some (.int (nI l)), some (.int (nI (w + 1))), none, none, none, none] [] h' ∧ JC h' pa mm (jrg T U) (jw J1 (9 * k + (3 * l + w)) j (jk T U J k (3 * l + w))) M' f' ∧ M'.2.2.2.1 = M.2.2.2.1 ∧ M'.1.2.2.1 = M.1.2.2.1 ∧ (M.1.2.2.2 = 0 → M'.1.2.2.2 = 0) ∧ Fs h h' [(pa, 2), (mm, 5)] := by
      intro h1 J1 f1 j hj6 y1 y2 y3 yA yB yJ yF
      obtain ⟨h2, z1, z2, z3⟩ := m_setStep (d := d) y3 (9 * k + (3 * l + w)) (by omega) (nI j) (kI (jk T U J k (3 * l + w)))
      have fin : run (d + 1) mt_18 180 [some (.ref pa), some (.ref mm), some (.int (nI k)), some (.ref ba), some (.ref bb), some (.int (nI (J.2.1 k / 6))), some (.int (nI (J.2.1 k % 6))), some (.int (nI l)), some (.int (nI w)), none, none, none, none] [.int (kI (jk T U J k (3 * l + w))), .int (nI j), .int (nI (9 * k + 3 * l + w)), .ref mm] h1 = run (d + 1) mt_18 34 [some (.ref pa), some (.ref mm), some (.int (nI k)), some (.ref ba), some (.ref bb), some (.int (nI (J.2.1 k / 6))), some (.int (nI (J.2.1 k % 6))), some (.int (nI l)), some (.int (nI (w + 1))), none, none, none, none] [] h2 := by
        rw [nd_18_180 (St_run (d + 1) mt_18), y3.o, hz, z1, bind_some', rV_some, e183]
      refine ⟨h2, _, f1, ?_, ⟨y1.fr z3 (by omega), y2, z2, c4, c5, fun z hz54 => ?_⟩, rfl, rfl, fun _ => rfl, yF.tr (z3.in (mm, 5) (by simp) (Nat.le_refl _) (Nat.le_refl _))⟩
      · rw [if_pos (nI_pos' (by omega)), yB.g4, hB4]
        have ejk : jk T U J k (3 * l + w) = if 0 < U.1.2 then U.2.2.1 (jxB U J k (3 * l + w)) else T.2.2.1 (jxA T J k (3 * l + w)) := rfl
        by_cases zB : U.1.2 = 0
        · rw [if_neg (by omega)] at ejk
          rw [zB, if_pos (by decide), yA.g1, yA.l1 p1, tA.2.2.2.1 _ p1, ← ejk]
          exact fin
        · rw [if_pos (by omega)] at ejk
          rw [if_neg (nI_nle (by omega) (by omega)), yB.g1, yB.l1 p2, tB.2.2.2.1 _ p2, ← ejk]
          exact fin
      · show upd M.2.1 _ _ z = nI (updN J1.2.2.1 _ j z) ∧ upd M.2.2.1 _ _ z = kI (updN J1.2.2.2 _ _ z)
        rw [yJ]
        by_cases e : z = 9 * k + (3 * l + w)
        · rw [e, pk_us, pk_us, updN_at, updN_at]
          exact ⟨rfl, rfl⟩
        · rw [pk_un e, pk_un e, updN_ne e, updN_ne e]
          exact c6 z hz54
    cases hf : fnd J.2.1 (jp T U J k (3 * l + w)) J.1 with
    | some j =>
      refine ⟨fun K hK => ?_, fun hK => by cases hK⟩
      cases hK
      have hj := (fnd_s hf).1
      rw [n1 j hf, bind_some', rI_some]
      exact wr h J f j (by omega) c1 c2 c3 hA hB rfl (Fs.rf _ _)
    | none =>
      by_cases h6 : J.1 < 6
      · dsimp only
        rw [if_pos h6]
        refine ⟨fun K hK => ?_, fun hK => by cases hK⟩
        cases hK
        obtain ⟨h1, y1, y2, y3⟩ := n2 hf h6
        have j1 := hdA (pa, 2) (by simp)
        have j2 := hdB (pa, 2) (by simp)
        dsimp only at j1 j2
        rw [y1, bind_some', rI_some]
        exact wr h1 (J.1 + 1, (updN J.2.1 J.1 (jp T U J k (3 * l + w)), J.2.2)) _ J.1 h6 y2 (fun j hj => by
          show upd f J.1 _ j = nI (updN J.2.1 J.1 _ j)
          by_cases e : j = J.1
          · rw [e, pk_us, updN_at]
          · rw [pk_un e, updN_ne e]; exact c2 j (by dsimp only at hj; omega)) (c3.fr y3 (by omega)) (hA.fr y3 (by omega)) (hB.fr y3 (by omega)) rfl (y3.in (pa, 2) (by simp) (Nat.le_refl _) (Nat.le_refl _))
      · dsimp only
        rw [if_neg h6]
        refine ⟨fun K hK => (by cases hK), fun _ => ⟨h, _, M, ?_, c1, c3, Fs.rf _ _⟩⟩
        rw [n3 hf h6, bind_some', rI_some, if_neg (by decide), isZ0]
end CJ
