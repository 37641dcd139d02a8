/-! ===== Pairing: joinSteps, join ===== -/
section CK
variable {d pa mm ba bb : Nat} {T U : TM} {MA MB : MD}
theorem j_tr (x5 x6 : Int32) (k l w : Nat) (hl : l < 3) (hw : w < 3) (h : AH) : run (d + 1) mt_18 34 [some (.ref pa), some (.ref mm), some (.int (nI k)), some (.ref ba), some (.ref bb), some (.int x5), some (.int x6), some (.int (nI l)), some (.int (nI (w + 1))), none, none, none, none] [] h = if 3 * l + w + 1 < 9 then run (d + 1) mt_18 34 [some (.ref pa), some (.ref mm), some (.int (nI k)), some (.ref ba), some (.ref bb), some (.int x5), some (.int x6), some (.int (nI ((3 * l + w + 1) / 3))), some (.int (nI ((3 * l + w + 1) % 3))), none, none, none, none] [] h else some (some (.int 1), h) := by
  by_cases h2 : w = 2
  · subst h2
    rw [nd_18_34 (St_run (d + 1) mt_18), if_pos (show (3 : Int32) ≤ nI (2 + 1) by decide), nd_18_25 (St_run (d + 1) mt_18), nI_1]
    by_cases hl2 : l = 2
    · subst hl2
      rw [if_pos (show (3 : Int32) ≤ nI (2 + 1) by decide), if_neg (by decide), isZ1]
    · rw [if_neg (show ¬ (3 : Int32) ≤ nI (l + 1) from nI_ge (a := l + 1) (b := 3) (by omega) (by omega)), if_pos (by omega), show (3 * l + 2 + 1) / 3 = l + 1 by omega, show (3 * l + 2 + 1) % 3 = 0 by omega]
      rfl
  · rw [if_pos (by omega), show (3 * l + w + 1) / 3 = l by omega, show (3 * l + w + 1) % 3 = w + 1 by omega]
theorem l_jrow (hT : WFT T) (hU : WFT U) (tA : MTT MA T) (tB : MTT MB U) (h0 : T.1.2 = 0 ∨ U.1.2 = 0) (hdA : dj ba 5 [(pa, 2), (mm, 5)]) (hdB : dj bb 5 [(pa, 2), (mm, 5)]) (hdm : pa + 2 ≤ mm ∨ mm + 5 ≤ pa) (k qk : Nat) : ∀ (m i : Nat) (h : AH) (J : JS) (M : MD) (f : Nat → Int32), i + m = 9 → JI T U (9 * k + i) J → k < J.1 → J.2.1 k = qk → JC h pa mm (jrg T U) J M f → isM h ba MA → isM h bb MB → (∀ K, jrow T U k m i J = some K → ∃ h' M' f', (if i < 9 then run (d + 1) mt_18 34 [some (.ref pa), some (.ref mm), some (.int (nI k)), some (.ref ba), some (.ref bb), some (.int (nI (qk / 6))), some (.int (nI (qk % 6))), some (.int (nI (i / 3))), some (.int (nI (i % 3))), none, none, none, none] [] h else some (some (.int 1), h)) = some (some (.int 1), h') ∧ JC h' pa mm (jrg T U) K M' f' ∧ M'.2.2.2.1 = M.2.2.2.1 ∧ M'.1.2.2.1 = M.1.2.2.1 ∧ (M.1.2.2.2 = 0 → M'.1.2.2.2 = 0) ∧ Fs h h' [(pa, 2), (mm, 5)]) ∧ (jrow T U k m i J = none → ∃ h' D' M', (if i < 9 then run (d + 1) mt_18 34 [some (.ref pa), some (.ref mm), some (.int (nI k)), some (.ref ba), some (.ref bb), some (.int (nI (qk / 6))), some (.int (nI (qk % 6))), some (.int (nI (i / 3))), some (.int (nI (i % 3))), none, none, none, none] [] h else some (some (.int 1), h)) = some (some (.int 0), h') ∧ isPair h' pa D' ∧ isM h' mm M' ∧ Fs h h' [(pa, 2), (mm, 5)]) := by
  intro m
  induction m with
  | zero =>
    intro i h J M f hi g hk hq c hA hB
    rw [if_neg (by omega)]
    refine ⟨fun K hK => ?_, fun hK => by cases hK⟩
    cases hK
    exact ⟨h, M, f, rfl, c, rfl, rfl, fun e => e, Fs.rf _ _⟩
  | succ m ih =>
    intro i h J M f hi g hk hq c hA hB
    have ei : 3 * (i / 3) + i % 3 = i := by omega
    obtain ⟨s1, s2⟩ := C_jst (d := d) hT hU tA tB h0 hdA hdB hdm k (i / 3) (i % 3) (by omega) (by omega) (by rw [ei]; exact g) hk c hA hB
    rw [ei, hq] at s1 s2
    rw [if_pos (by omega)]
    unfold jrow
    cases hs : jst T U k i J with
    | none =>
      refine ⟨fun K hK => (by cases hK), fun _ => s2 hs⟩
    | some J1 =>
      obtain ⟨g1, g2, g3⟩ := jst_ok hT hU g hk (by omega) hs
      obtain ⟨h1, M1, f1, e1, e2, e3, e4, e5, e6⟩ := s1 J1 hs
      have tr := j_tr (d := d) (pa := pa) (mm := mm) (ba := ba) (bb := bb) (nI (qk / 6)) (nI (qk % 6)) k (i / 3) (i % 3) (by omega) (by omega) h1
      rw [ei] at tr
      obtain ⟨y1, y2⟩ := ih (i + 1) h1 J1 M1 f1 (by omega) g1 (by omega) ((g3 k hk).trans hq) e2 (hA.fs e6 hdA) (hB.fs e6 hdB)
      constructor
      · intro K hK
        obtain ⟨h2, M2, f2, z1, z2, z3, z4, z5, z6⟩ := y1 K hK
        exact ⟨h2, M2, f2, (e1.trans tr).trans z1, z2, z3.trans e3, z4.trans e4, fun e => z5 (e5 e), e6.tr z6⟩
      · intro hK
        obtain ⟨h2, D2, M2, z1, z2, z3, z4⟩ := y2 hK
        exact ⟨h2, D2, M2, (e1.trans tr).trans z1, z2, z3, e6.tr z4⟩
theorem C_joinSteps (hT : WFT T) (hU : WFT U) (tA : MTT MA T) (tB : MTT MB U) (h0 : T.1.2 = 0 ∨ U.1.2 = 0) (hdA : dj ba 5 [(pa, 2), (mm, 5)]) (hdB : dj bb 5 [(pa, 2), (mm, 5)]) (hdm : pa + 2 ≤ mm ∨ mm + 5 ≤ pa) (k : Nat) {h : AH} {J : JS} {M : MD} {f : Nat → Int32} (g : JI T U (9 * k) J) (hk : k < J.1) (c : JC h pa mm (jrg T U) J M f) (hA : isM h ba MA) (hB : isM h bb MB) : (∀ K, jrow T U k 9 0 J = some K → ∃ h' M' f', call (d + 2) 18 [.ref pa, .ref mm, .int (nI k), .ref ba, .ref bb] h = some (some (.int 1), h') ∧ JC h' pa mm (jrg T U) K M' f' ∧ M'.2.2.2.1 = M.2.2.2.1 ∧ M'.1.2.2.1 = M.1.2.2.1 ∧ (M.1.2.2.2 = 0 → M'.1.2.2.2 = 0) ∧ Fs h h' [(pa, 2), (mm, 5)]) ∧ (jrow T U k 9 0 J = none → ∃ h' D' M', call (d + 2) 18 [.ref pa, .ref mm, .int (nI k), .ref ba, .ref bb] h = some (some (.int 0), h') ∧ isPair h' pa D' ∧ isM h' mm M' ∧ Fs h h' [(pa, 2), (mm, 5)]) := by
  have l := l_jrow (d := d) hT hU tA tB h0 hdA hdB hdm k (J.2.1 k) 9 0 h J M f rfl g hk rfl c hA hB
  have gk := g.2.2.1 k hk
  have n6 := g.2.1
  have t6 := hT.2.1
  have q36 : J.2.1 k < 36 := by omega
  have ld : ∀ x, ldI h (pa + 1) (nI k) x = x (nI (J.2.1 k)) := fun x => by rw [ldI_of c.1.a0 rfl (show k < 6 by omega) (by decide)]; exact congrArg x (c.2.1 k hk)
  have e0 : call (d + 2) 18 [.ref pa, .ref mm, .int (nI k), .ref ba, .ref bb] h = (if 0 < 9 then run (d + 1) mt_18 34 [some (.ref pa), some (.ref mm), some (.int (nI k)), some (.ref ba), some (.ref bb), some (.int (nI (J.2.1 k / 6))), some (.int (nI (J.2.1 k % 6))), some (.int (nI (0 / 3))), some (.int (nI (0 % 3))), none, none, none, none] [] h else some (some (.int 1), h)) := by
    rw [if_pos (by decide), call_at mt_18 [some (.ref pa), some (.ref mm), some (.int (nI k)), some (.ref ba), some (.ref bb), none, none, none, none, none, none, none, none] rfl rfl rfl, nd_18_0 (St_run (d + 1) mt_18)]
    simp (disch := omega) only [nd_18_25 (St_run (d + 1) mt_18), ↓L_m4, ↓L_m1, L_0, L_1, L_2, L_3, L_4, L_5, L_6, L_8, L_9, L_15, L_20, L_30, L_40, L_54, L_60, L_120, L_1872, L_4320, L_22500, le_t, le_f, lt_t, lt_f, eq_t, eq_f, eq_NO, NO_eq, NO_neg, MO_neg, bI_0, nI_add, pk_mul, pk_ds, rem_, nI_MO, nI_0MO, ↓reduceIte, eq_self, reduceCtorEq, Bool.true_eq_false, Bool.false_eq_true, isZn0, isZn1, isZb, bind_some', rI_some, rV_some, rQ_some, rQ_null, updA_at, updA_ne, pk_us, pk_un, ne_eq, not_false_eq_true, Nat.reduceEqDiff, updA_updA, Nat.reduceSub, Nat.reduceAdd, Nat.reduceMul, Nat.reduceDiv, Nat.zero_add, Nat.add_zero, c.1.g0, ld]
  rw [e0]
  exact l
theorem l_join (hT : WFT T) (hU : WFT U) (tA : MTT MA T) (tB : MTT MB U) (h0 : T.1.2 = 0 ∨ U.1.2 = 0) (hdA : dj ba 5 [(pa, 2), (mm, 5)]) (hdB : dj bb 5 [(pa, 2), (mm, 5)]) (hdm : pa + 2 ≤ mm ∨ mm + 5 ≤ pa) (w : Nat) (hw : w < 3) : ∀ (m k : Nat) (h : AH) (J : JS) (M : MD) (f : Nat → Int32), k + m = 7 → JI T U (9 * k) J → k ≤ J.1 → JC h pa mm (jrg T U) J M f → M.1.2.2.1 = 0 → M.1.2.2.2 = 0 → (∀ j, j < 6 → M.2.2.2.1 j = bI (decide (j < k) && gdw w (T.2.2.2 (J.2.1 j / 6)) (U.2.2.2 (J.2.1 j % 6)))) → isM h ba MA → isM h bb MB → (∀ K, jall T U m k J = some K → ∃ h' D' M', run (d + 2) mt_17 31 [some (.ref pa), some (.ref mm), some (.ref ba), some (.ref bb), some (.int (nI w)), some (.int (nI k))] [] h = some (some (.int 1), h') ∧ isPair h' pa D' ∧ isM h' mm M' ∧ MTT M' (jTM T U w K) ∧ M'.1.2.2.1 = 0 ∧ M'.1.2.2.2 = 0 ∧ Fs h h' [(pa, 2), (mm, 5)]) ∧ (jall T U m k J = none → ∃ h' D' M', run (d + 2) mt_17 31 [some (.ref pa), some (.ref mm), some (.ref ba), some (.ref bb), some (.int (nI w)), some (.int (nI k))] [] h = some (some (.int 0), h') ∧ isPair h' pa D' ∧ isM h' mm M' ∧ Fs h h' [(pa, 2), (mm, 5)]) := by
  intro m
  induction m with
  | zero =>
    intro k h J M f hm g hk
    have := g.2.1
    omega
  | succ m ih =>
    intro k h J M f hm g hk c hw5 hw7 hg hA hB
    have n6 := g.2.1
    have t6 := hT.2.1
    have u6 := hU.2.1
    rw [nd_17_31 (St_run (d + 2) mt_17), c.1.g1]
    unfold jall
    by_cases hkn : k < J.1
    · rw [if_pos hkn]
      have gk := g.2.2.1 k hkn
      obtain ⟨s1, s2⟩ := C_joinSteps (d := d) hT hU tA tB h0 hdA hdB hdm k g hkn c hA hB
      dsimp only
      rw [if_neg (nI_ge hkn (by omega)), if_neg (show ¬ (6 : Int32) ≤ nI k from nI_ge (a := k) (b := 6) (by omega) (by omega)), c.1.o]
      cases hr : jrow T U k 9 0 J with
      | none =>
        refine ⟨fun K hK => (by cases hK), fun _ => ?_⟩
        obtain ⟨h1, D1, M1, e1, e2, e3, e4⟩ := s2 hr
        refine ⟨h1, D1, M1, ?_, e2, e3, e4⟩
        rw [e1, bind_some', rI_some, if_pos rfl, isZ0]
      | some J1 =>
        obtain ⟨g1, g2, g3⟩ := jrow_ok hT hU 9 0 J J1 rfl g hkn hr
        obtain ⟨h1, M1, f1, e1, e2, e3, e4, e5, e6⟩ := s1 J1 hr
        obtain ⟨c1, c2, c3, c4, c5, c6⟩ := e2
        have hA1 := hA.fs e6 hdA
        have hB1 := hB.fs e6 hdB
        have f1k : f1 k = nI (J.2.1 k) := by rw [c2 k (by omega), g3 k hkn]
        have q36 : J.2.1 k < 36 := by omega
        have ld : ∀ x, ldI h1 (pa + 1) (nI k) x = x (nI (J.2.1 k)) := fun x => by rw [ldI_of c1.a0 rfl (show k < 6 by omega) (by decide)]; exact congrArg x f1k
        have gA := W_good (d := d) hA1 tA hT (J.2.1 k / 6) gk.1
        have gB := W_good (d := d) hB1 tB hU (J.2.1 k % 6) gk.2
        have gd := C_gd (d := d + 1) (h := h1) (T.2.2.2 (J.2.1 k / 6)) (U.2.2.2 (J.2.1 k % 6)) w hw
        obtain ⟨h2, i1, i2, i3⟩ := m_setGood (d := d) c3 c4 (Nat.le_refl 6) k (by omega) (bI (gdw w (T.2.2.2 (J.2.1 k / 6)) (U.2.2.2 (J.2.1 k % 6))))
        have p6 := e6.tr (i3.in (S := [(pa, 2), (mm, 5)]) (mm, 5) (by simp) (Nat.le_refl _) (Nat.le_refl _))
        obtain ⟨y1, y2⟩ := ih (k + 1) h2 J1 _ f1 (by omega) g1 (by omega) ⟨c1.fr i3 (by omega), c2, i2, c4, c5, c6⟩ (e4.trans hw5) rfl (fun j hj => by
          show upd M1.2.2.2.1 k _ j = _
          rw [e3, bI_and]
          by_cases ej : j = k
          · rw [ej, pk_us, decide_eq_true (show k < k + 1 by omega), Bool.true_and, g3 k hkn]
          · rw [pk_un ej, hg j hj]
            by_cases ej2 : j < k
            · rw [decide_eq_true ej2, decide_eq_true (show j < k + 1 by omega), g3 j (by omega)]
            · rw [decide_eq_false ej2, decide_eq_false (show ¬ j < k + 1 by omega), Bool.false_and, Bool.false_and]) (hA.fs p6 hdA) (hB.fs p6 hdB)
        have head : ∀ X : Option RV, run (d + 2) mt_17 31 [some (.ref pa), some (.ref mm), some (.ref ba), some (.ref bb), some (.int (nI w)), some (.int (nI (k + 1)))] [] h2 = X → ((call (d + 2) 18 [.ref pa, .ref mm, .int (nI k), .ref ba, .ref bb] h).bind fun q2 => rI q2 fun v4 h3 => if v4 = 0 then (isZ 0 (some (some (.int 0), h3))) else (gfQ h3 pa 1 0 none fun b5 => ldI h3 b5 (nI k) fun v6 => isO h3 ba 0 ((call (d + 2) 7 [.ref ba, .int (v6 / 6)] h3).bind fun q7 => rI q7 fun v9 h8 => gfQ h8 pa 1 0 none fun b10 => ldI h8 b10 (nI k) fun v11 => isO h8 bb 0 ((call (d + 2) 7 [.ref bb, .int (v11 - v11 / 6 * 6)] h8).bind fun q12 => rI q12 fun v14 h13 => (call (d + 2) 20 [.int v9, .int v14, .int (nI w)] h13).bind fun q15 => rI q15 fun v17 h16 => isO h16 mm 0 ((call (d + 2) 8 [.ref mm, .int (nI k), .int v17] h16).bind fun q18 => rV q18 fun h19 => run (d + 2) mt_17 31 [some (.ref pa), some (.ref mm), some (.ref ba), some (.ref bb), some (.int (nI w)), some (.int (nI k + 1))] [] h19))))) = X := by
          intro X hX
          rw [← hX, e1]
          simp (disch := omega) only [↓L_m4, ↓L_m1, L_0, L_1, L_2, L_3, L_4, L_5, L_6, L_8, L_9, L_15, L_20, L_30, L_40, L_54, L_60, L_120, L_1872, L_4320, L_22500, le_t, le_f, lt_t, lt_f, eq_t, eq_f, eq_NO, NO_eq, NO_neg, MO_neg, bI_0, nI_add, pk_mul, pk_ds, rem_, nI_MO, nI_0MO, ↓reduceIte, eq_self, reduceCtorEq, Bool.true_eq_false, Bool.false_eq_true, isZn0, isZn1, isZb, bind_some', rI_some, rV_some, rQ_some, rQ_null, updA_at, updA_ne, pk_us, pk_un, ne_eq, not_false_eq_true, Nat.reduceEqDiff, updA_updA, Nat.reduceSub, Nat.reduceAdd, Nat.reduceMul, Nat.reduceDiv, Nat.zero_add, Nat.add_zero, c1.g0, ld, hA1.o, gA, hB1.o, gB, gd, c3.o, i1]
        constructor
        · intro K hK
          obtain ⟨h3, D3, M3, z1, z2, z3, z4, z5, z6, z7⟩ := y1 K hK
          exact ⟨h3, D3, M3, head _ z1, z2, z3, z4, z5, z6, p6.tr z7⟩
        · intro hK
          obtain ⟨h3, D3, M3, z1, z2, z3, z4⟩ := y2 hK
          exact ⟨h3, D3, M3, head _ z1, z2, z3, p6.tr z4⟩
    · rw [if_neg hkn]
      refine ⟨fun K hK => ?_, fun hK => by cases hK⟩
      cases hK
      obtain ⟨c1, c2, c3, c4, c5, c6⟩ := c
      have hkJ : k = J.1 := by omega
      have q0 := c3.w0 (nI J.1, (M.1.2.1, (M.1.2.2.1, M.1.2.2.2)))
      refine ⟨_, _, _, ?_, c1.fr (Fr.set (e := oB 0 [.ref (mm + 1), .ref (mm + 2), .ref (mm + 3), .int (nI J.1), .int M.1.2.1, .int M.1.2.2.1, .ref (mm + 4), .int M.1.2.2.2]) (a := mm) (n := 5) (b := mm) ⟨by omega, by omega⟩) (by omega), q0, ⟨rfl, c5, fun j hj => (c6 j hj).1, fun j hj => (c6 j hj).2, fun j hj => ?_⟩, hw5, hw7, (Fr.set (a := mm) (n := 5) (b := mm) ⟨by omega, by omega⟩).in (mm, 5) (by simp) (Nat.le_refl _) (Nat.le_refl _)⟩
      · dsimp only
        rw [if_pos (nI_le (by omega) (by omega)), nd_17_106 (St_run (d + 2) mt_17), c1.g1, c3.p3, isZ1]
      · rw [hkJ] at hg
        exact hg j hj
/-- Pairing.join -/
theorem C_join (hT : WFT T) (hU : WFT U) (tA : MTT MA T) (tB : MTT MB U) (h0 : T.1.2 = 0 ∨ U.1.2 = 0) (hdA : dj ba 5 [(pa, 2), (mm, 5)]) (hdB : dj bb 5 [(pa, 2), (mm, 5)]) (hdm : pa + 2 ≤ mm ∨ mm + 5 ≤ pa) (w : Nat) (hw : w < 3) {h : AH} {D : D_Pair} {M : MD} (qp : isPair h pa D) (hM : isM h mm M) (hA : isM h ba MA) (hB : isM h bb MB) : (∀ K, jall T U 7 0 J0 = some K → ∃ h' D' M', call (d + 3) 17 [.ref pa, .ref mm, .ref ba, .ref bb, .int (nI w)] h = some (some (.int 1), h') ∧ isPair h' pa D' ∧ isM h' mm M' ∧ MTT M' (jTM T U w K) ∧ M'.1.2.2.1 = 0 ∧ M'.1.2.2.2 = 0 ∧ Fs h h' [(pa, 2), (mm, 5)]) ∧ (jall T U 7 0 J0 = none → ∃ h' D' M', call (d + 3) 17 [.ref pa, .ref mm, .ref ba, .ref bb, .int (nI w)] h = some (some (.int 0), h') ∧ isPair h' pa D' ∧ isM h' mm M' ∧ Fs h h' [(pa, 2), (mm, 5)]) := by
  have rT := hT.2.2.1
  have rU := hU.2.2.1
  have emax : (if MA.1.2.1 < MB.1.2.1 then MB.1.2.1 else MA.1.2.1) = nI (jrg T U) := by
    rw [tA.2.1, tB.2.1]
    unfold jrg
    by_cases e : T.1.2 < U.1.2
    · rw [if_pos (nI_lt e (by omega)), Nat.max_eq_right (by omega)]
    · rw [if_neg (nI_nlt (by omega) (by omega)), Nat.max_eq_left (by omega)]
  obtain ⟨h1, M1, e1, e2, e3, e4⟩ := m_begin (d := d + 1) hM 6 (nI (jrg T U))
  have qp1 := qp.fr e4 (by omega)
  have qp2 := qp1.u1 0
  have f2 : Fr h1 (hS h1 pa (oB 1 [.ref (pa + 1), .int 0])) pa 2 := Fr.set ⟨by omega, by omega⟩
  obtain ⟨_, n2, _⟩ := C_num (d := d + 1) (q := fun _ => 0) (n := 0) (p := 0) (f := D.2) qp2 (by omega) (by omega) (fun j hj => by omega)
  obtain ⟨h3, i1, i2, i3⟩ := n2 rfl (by omega)
  have p3 : Fs h h3 [(pa, 2), (mm, 5)] := ((e4.in (mm, 5) (by simp) (Nat.le_refl _) (Nat.le_refl _)).tr (f2.in (pa, 2) (by simp) (Nat.le_refl _) (Nat.le_refl _))).tr (i3.in (pa, 2) (by simp) (Nat.le_refl _) (Nat.le_refl _))
  obtain ⟨b1, b2, b3, b4, b5⟩ := e3
  have hM3 := (e2.fr f2 (by omega)).fr i3 (by omega)
  have l := l_join (d := d) hT hU tA tB h0 hdA hdB hdm w hw 7 0 h3 J0 M1 (upd D.2 0 (nI 0)) rfl (J0_JI hT hU) (Nat.zero_le _) ⟨i2, fun j hj => (by
    have : j = 0 := by dsimp only [J0] at hj; omega
    subst this
    rfl), hM3, by rw [b1]; rfl, by rw [b1], fun z hz => ⟨b2 z hz, b3 z hz⟩⟩ (by rw [b1]) (by rw [b1]) (fun j hj => by rw [b4 j hj]; rfl) (hA.fs p3 hdA) (hB.fs p3 hdB)
  have e0 : call (d + 3) 17 [.ref pa, .ref mm, .ref ba, .ref bb, .int (nI w)] h = run (d + 2) mt_17 31 [some (.ref pa), some (.ref mm), some (.ref ba), some (.ref bb), some (.int (nI w)), some (.int (nI 0))] [] h3 := by
    rw [call_at mt_17 [some (.ref pa), some (.ref mm), some (.ref ba), some (.ref bb), some (.int (nI w)), none] rfl rfl rfl, nd_17_0 (St_run (d + 2) mt_17) rfl, hA.g4, hB.g4, hM.o, emax, e1, bind_some', rV_some, qp1.p1, qp2.o]
    have i1' : call (d + 2) 19 [.ref pa, .int 0] (hS h1 pa (oB 1 [.ref (pa + 1), .int 0])) = some (some (.int (nI 0)), h3) := i1
    rw [i1', bind_some', rI_some]
    rfl
  rw [e0]
  constructor
  · intro K hK
    obtain ⟨h4, D4, M4, z1, z2, z3, z4, z5, z6, z7⟩ := l.1 K hK
    exact ⟨h4, D4, M4, z1, z2, z3, z4, z5, z6, p3.tr z7⟩
  · intro hK
    obtain ⟨h4, D4, M4, z1, z2, z3, z4⟩ := l.2 hK
    exact ⟨h4, D4, M4, z1, z2, z3, p3.tr z4⟩
end CK
