/-! ===== machines: good, told, stepOf ===== -/
theorem ti_ne {x : Int32} {k : Nat} (hk : k < 2 ^ 31) (h : x ≠ nI k) : ¬ x.toInt = (k : Int) := fun e => h (Int32.toInt_inj.mp (by rw [e, nI_toInt hk]))
theorem ti_eq {j k : Nat} (hj : j < 2 ^ 31) : ((nI j).toInt = (k : Int)) = (j = k) := by
  rw [nI_toInt hj]
  exact propext ⟨fun e => by omega, fun e => by omega⟩
theorem ti0 {x : Int32} (h : x ≠ nI 0) : ¬ x.toInt = 0 := ti_ne (k := 0) (by decide) h
theorem ti1 {x : Int32} (h : x ≠ nI 1) : ¬ x.toInt = 1 := ti_ne (k := 1) (by decide) h
theorem ti2 {x : Int32} (h : x ≠ nI 2) : ¬ x.toInt = 2 := ti_ne (k := 2) (by decide) h
theorem ti3 {x : Int32} (h : x ≠ nI 3) : ¬ x.toInt = 3 := ti_ne (k := 3) (by decide) h
theorem ti4 {x : Int32} (h : x ≠ nI 4) : ¬ x.toInt = 4 := ti_ne (k := 4) (by decide) h
section OPS3
variable {d x y q : Nat} {h : AH} {s : SG}
theorem op_good (S : SS h x y s q) (m st : Int32) (b : Bool) : OP d x y h q 69 122 [.int m, .int st, .int (bI b)] := by
  obtain ⟨w, c, _, _⟩ := id S
  obtain ⟨X, c1, c2, _, _, _, _, _, _, _, c10, _⟩ := id c
  have wK := w.2.1.1
  have cl0 : call (d + 8) 69 [.ref x, .int m, .int st, .int (bI b)] h = run (d + 7) mt_69 0 [some (.ref x), some (.int m), some (.int st), some (.int (bI b)), none, none] [] h := call_at mt_69 [some (.ref x), some (.int m), some (.int st), some (.int (bI b)), none, none] rfl rfl rfl
  have rl0 : ∀ (h : AH) I A, call (d + 8) 122 [.ref y, .int m, .int st, .int (bI b)] (mkR h y I A) = run (d + 7) mt_122 0 [some (.ref y), some (.int m), some (.int st), some (.int (bI b)), none] [] (mkR h y I A) := fun h I A => call_at mt_122 [some (.ref y), some (.int m), some (.int st), some (.int (bI b)), none] rfl rfl rfl
  rcases mach_cases w m with ⟨i, i1, rfl, i3⟩ | ⟨i1, i2⟩
  · have hT := w.2.1.2 i i1
    obtain ⟨M, m1, m2, m3, m4⟩ := c10.1 i i1
    have st6 := hT.2.1
    have ma := C_mAt (d := d + 6) c1 c2 wK i i1
    rcases inC st (s.2.1.2 i).1.1 (by omega) with ⟨t', t1, rfl, t3⟩ | ⟨t1, t2, t3⟩
    · have hs1 := v_hasState_1 st6 t1
      cases hwd : wdB s.2.2.1 i with
      | true =>
        rw [hwd] at m3
        refine comb (s' := s) (r := -2) S (CO_same c ?_) (RO_same (fun h I A rs => ?_)) (w.mono (by omega))
        · rw [cl0, nd_69_0 (St_run (d + 7) mt_69), c1.o, ma, bind_some', rQ_some, m1.o, m_hasState m1, m2.1, hs1, bind_some', rI_some, if_neg (by decide), m1.g5, m3, if_neg (by decide)]
        · have iT := rs.2.1.2 i i1
          have v3 : v_in (nI i) (I 3 - 1) = 1 := by rw [rs.2.1.1]; exact i3
          have iw := R_isWat (d := d + 6) (h := h) (y := y) w rs i (by omega)
          rw [hwd] at iw
          rw [rl0, nd_122_0 (St_run (d + 7) mt_122), mkR_o, r_isState (mkR_is h y I A) i (by omega) (nI t') v3, bind_some', rI_some, iT.1, t3, if_neg (by decide), mkR_o, iw, bind_some', rI_some, if_neg (by decide)]
      | false =>
        rw [hwd] at m3 m4
        have gA := W_good (d := d + 5) m1 m2 hT t' t1
        obtain ⟨h1, e1, e2, e3⟩ := m_setGood (d := d + 5) m1 m2.1 st6 t' t1 (bI b)
        have tp1 := c1.fs e3.s (dj.cons (by unfold mo; omega) (dj.nil _ _))
        obtain ⟨h2, f1, f2, f3⟩ := C_changed (d := d + 6) tp1
        have p : Fs h h2 [(x, 1), (mo x i, 5)] := (e3.in (mo x i, 5) (by simp) (Nat.le_refl _) (Nat.le_refl _)).tr (f3.in (x, 1) (by simp) (Nat.le_refl _) (Nat.le_refl _))
        have e2' := e2.fr f3 (by unfold mo; omega)
        refine comb (s' := (s.1, ((s.2.1.1, setT s.2.1.2 i (gTM (s.2.1.2 i) t' b)), s.2.2))) (r := bI ((s.2.1.2 i).2.2.2 t')) S ⟨h2, ?_, c.mach w i1 hwd f2 ⟨_, e2', ⟨m2.1, m2.2.1, m2.2.2.1, m2.2.2.2.1, fun j hj => ?_⟩, m3, Or.inl ⟨rfl, rfl⟩⟩ p, p.fr (fun z hz => ?_)⟩ (fun h I A rs => ?_) (wfs_setT w ⟨hT.1, hT.2.1, hT.2.2.1, hT.2.2.2.1, hT.2.2.2.2⟩ hwd)
        · have e48 : ∀ r, run (d + 7) mt_69 48 [some (.ref x), none, some (.int (nI t')), some (.int (bI b)), some (.ref (mo x i)), none] [.int r] h = some (some (.int r), h2) := fun r => by
            rw [nd_69_48 (St_run (d + 7) mt_69), m1.o, e1, bind_some', rV_some, tp1.o, f1, bind_some', rV_some]
          rw [cl0, nd_69_0 (St_run (d + 7) mt_69), c1.o, ma, bind_some', rQ_some, m1.o, m_hasState m1, m2.1, hs1, bind_some', rI_some, if_neg (by decide), m1.g5, m3, if_pos (by rfl), m1.o, gA, bind_some', rI_some, e48, e48]
          cases (s.2.1.2 i).2.2.2 t' <;> rfl
        · show upd M.2.2.2.1 t' (bI b &&& 1) j = bI (if j = t' then b else _)
          by_cases e : j = t'
          · rw [e, pk_us, if_pos rfl, bI_and]
          · rw [pk_un e, if_neg e]; exact m2.2.2.2.2 j hj
        · simp only [List.mem_cons, List.not_mem_nil, or_false] at hz
          rcases hz with rfl | rfl
          · dsimp only; omega
          · dsimp only; unfold mo; omega
        · have iT := rs.2.1.2 i i1
          have v3 : v_in (nI i) (I 3 - 1) = 1 := by rw [rs.2.1.1]; exact i3
          have iw := R_isWat (d := d + 6) (h := h) (y := y) w rs i (by omega)
          rw [hwd] at iw
          have a6 := iT.2.2.2.2 t' (by omega)
          have ix : (6 : Int32) * nI i + nI t' = nI (6 * i + t') := ix6m i t'
          have pf : fra I I A (updA A 6 (upd (A 6) (6 * i + t') (bI b))) [] [6] := (fra.rf _ _ _ _).w _ (by decide)
          have pt : frT A (updA A 6 (upd (A 6) (6 * i + t') (bI b))) i := ⟨fun _ _ => ⟨rfl, rfl⟩, fun j hj => by show upd (A 6) _ _ j = _; rw [pk_un (by omega)], fun _ _ => ⟨rfl, rfl⟩⟩
          refine ⟨_, _, ?_, rs.1.fa pf (by decide) (by decide), ⟨rs.2.1.1, fun j hj => ?_⟩, rs.2.2.1.fa pf (by decide) (by decide), rs.2.2.2.fa pf (by decide)⟩
          · have e41 : ∀ r, run (d + 7) mt_122 41 [some (.ref y), some (.int (nI i)), some (.int (nI t')), some (.int (bI b)), none] [.int r] (mkR h y I A) = some (some (.int r), mkR h y I (updA A 6 (upd (A 6) (6 * i + t') (bI b)))) := fun r => by
              rw [nd_122_41 (St_run (d + 7) mt_122), mkR_g6, ix, mkR_s6 _ _ _ _ (by omega)]
            rw [rl0, nd_122_0 (St_run (d + 7) mt_122), mkR_o, r_isState (mkR_is h y I A) i (by omega) (nI t') v3, bind_some', rI_some, iT.1, t3, if_neg (by decide), mkR_o, iw, bind_some', rI_some, if_pos (by rfl), mkR_g6, ix, mkR_l6 _ _ _ _ (by omega), a6, e41, e41]
            cases (s.2.1.2 i).2.2.2 t' <;> rfl
          · show isT _ j (setT s.2.1.2 i _ j)
            by_cases e : j = i
            · subst e
              rw [setT_at]
              refine ⟨iT.1, iT.2.1, iT.2.2.1, iT.2.2.2.1, fun k hk => ?_⟩
              show upd (A 6) _ _ _ = bI (if k = t' then b else _)
              by_cases e : k = t'
              · rw [e, pk_us, if_pos rfl]
              · rw [pk_un (by omega), if_neg e]; exact iT.2.2.2.2 k hk
            · rw [setT_ne e]
              exact (rs.2.1.2 j hj).ot pt e
    · have hs0 : v_hasState (nI (s.2.1.2 i).1.1) st = 0 := by
        unfold v_hasState
        by_cases h0 : st < 0
        · rw [if_pos h0]
        · rw [if_neg h0, if_pos (t3.resolve_left h0)]
      refine comb (s' := s) (r := -1) S (CO_same c ?_) (RO_same (fun h I A rs => ?_)) (w.mono (by omega))
      · rw [cl0, nd_69_0 (St_run (d + 7) mt_69), c1.o, ma, bind_some', rQ_some, m1.o, m_hasState m1, m2.1, hs0, bind_some', rI_some, if_pos rfl, nd_69_21 (St_run (d + 7) mt_69)]
      · have iT := rs.2.1.2 i i1
        have v3 : v_in (nI i) (I 3 - 1) = 1 := by rw [rs.2.1.1]; exact i3
        rw [rl0, nd_122_0 (St_run (d + 7) mt_122), mkR_o, r_isState (mkR_is h y I A) i (by omega) st v3, bind_some', rI_some, iT.1, t1, if_pos rfl]
  · refine comb (s' := s) (r := -1) S (CO_same c ?_) (RO_same (fun h I A rs => ?_)) (w.mono (by omega))
    · rw [cl0, nd_69_0 (St_run (d + 7) mt_69), c1.o, C_mNo (d := d + 6) c1 wK m i2, bind_some', rQ_null, nd_69_21 (St_run (d + 7) mt_69)]
    · rw [rl0, nd_122_0 (St_run (d + 7) mt_122), mkR_o, r_isState_bad (mkR_is h y I A) m st (by rw [rs.2.1.1]; exact i1), bind_some', rI_some, if_pos rfl]
theorem l_told {I : Nat → Int32} {A : Nat → Nat → Int32} {i : Nat} {T : TM} (hT : WFT T) (hi : i < 6) (iT : isT A i T) (wt : Nat) (hw : wt < 3) : ∀ (m k : Nat), k + m = T.1.1 → run (d + 7) mt_123 27 [some (.ref y), some (.int (nI i)), some (.int (nI wt)), some (.int (nI (ctN T.2.2.2 k))), some (.int (nI k))] [] (mkR h y I A) = some (some (.int (if wt = 0 then nI T.1.1 else if wt = 1 then nI T.1.2 else nI (ctN T.2.2.2 T.1.1))), mkR h y I A) := by
  have t6 := hT.2.1
  have a4 := iT.1
  have a5 := iT.2.1
  intro m
  induction m with
  | zero =>
    intro k hk
    have hk2 : k = T.1.1 := by omega
    subst hk2
    rw [nd_123_27 (St_run (d + 7) mt_123)]
    rcases (show wt = 0 ∨ wt = 1 ∨ wt = 2 by omega) with rfl | rfl | rfl
    · simp (disch := omega) only [nd_123_95 (St_run (d + 7) mt_123), ↓L_m4, ↓L_m1, L_0, L_1, L_2, L_3, L_4, L_5, L_6, L_8, L_9, L_15, L_20, L_30, L_40, L_54, L_60, L_120, L_1872, L_4320, L_22500, le_t, le_f, lt_t, lt_f, eq_t, eq_f, eq_NO, NO_eq, NO_neg, MO_neg, bI_0, nI_add, pk_mul, pk_ds, rem_, nI_MO, nI_0MO, ↓reduceIte, eq_self, reduceCtorEq, Bool.true_eq_false, Bool.false_eq_true, isZn0, isZn1, isZb, bind_some', rI_some, rV_some, rQ_some, rQ_null, updA_at, updA_ne, pk_us, pk_un, ne_eq, not_false_eq_true, Nat.reduceEqDiff, updA_updA, Nat.reduceSub, Nat.reduceAdd, Nat.reduceMul, Nat.reduceDiv, Nat.zero_add, Nat.add_zero, mkR_o, mkR_g0, mkR_p0, mkR_g1, mkR_l1, mkR_n1, mkR_s1, mkR_g2, mkR_l2, mkR_n2, mkR_s2, mkR_g3, mkR_p3, mkR_g4, mkR_l4, mkR_n4, mkR_s4, mkR_g5, mkR_l5, mkR_n5, mkR_s5, mkR_g6, mkR_l6, mkR_n6, mkR_s6, mkR_t6, mkR_f6, mkR_g7, mkR_l7, mkR_n7, mkR_s7, mkR_g8, mkR_l8, mkR_n8, mkR_s8, mkR_g9, mkR_l9, mkR_n9, mkR_s9, mkR_g10, mkR_l10, mkR_n10, mkR_s10, mkR_g11, mkR_l11, mkR_n11, mkR_s11, mkR_g12, mkR_p12, mkR_g13, mkR_l13, mkR_n13, mkR_s13, mkR_t13, mkR_f13, mkR_g14, mkR_l14, mkR_n14, mkR_s14, mkR_g15, mkR_l15, mkR_n15, mkR_s15, mkR_g16, mkR_p16, mkR_g17, mkR_l17, mkR_n17, mkR_s17, mkR_t17, mkR_f17, mkR_g18, mkR_l18, mkR_n18, mkR_s18, mkR_t18, mkR_f18, mkR_g19, mkR_l19, mkR_n19, mkR_s19, mkR_g20, mkR_l20, mkR_n20, mkR_s20, mkR_g21, mkR_l21, mkR_n21, mkR_s21, mkR_g22, mkR_p22, mkR_g23, mkR_p23, mkR_g24, mkR_p24, mkR_g25, mkR_l25, mkR_n25, mkR_s25, mkR_g26, mkR_l26, mkR_n26, mkR_s26, mkR_g27, mkR_l27, mkR_n27, mkR_s27, mkR_g28, mkR_p28, mkR_g29, mkR_p29, mkR_g30, mkR_l30, mkR_n30, mkR_s30, mkR_g31, mkR_p31, mkR_g32, mkR_l32, mkR_n32, mkR_s32, mkR_g33, mkR_l33, mkR_n33, mkR_s33, mkR_g34, mkR_l34, mkR_n34, mkR_s34, mkR_t34, mkR_f34, mkR_g35, mkR_l35, mkR_n35, mkR_s35, mkR_g36, mkR_l36, mkR_n36, mkR_s36, mkR_g37, mkR_l37, mkR_n37, mkR_s37, mkR_g38, mkR_l38, mkR_n38, mkR_s38, mkR_g39, mkR_l39, mkR_n39, mkR_s39, mkR_g40, mkR_l40, mkR_n40, mkR_s40, mkR_g41, mkR_l41, mkR_n41, mkR_s41, a4, a5]
    · simp (disch := omega) only [nd_123_95 (St_run (d + 7) mt_123), ↓L_m4, ↓L_m1, L_0, L_1, L_2, L_3, L_4, L_5, L_6, L_8, L_9, L_15, L_20, L_30, L_40, L_54, L_60, L_120, L_1872, L_4320, L_22500, le_t, le_f, lt_t, lt_f, eq_t, eq_f, eq_NO, NO_eq, NO_neg, MO_neg, bI_0, nI_add, pk_mul, pk_ds, rem_, nI_MO, nI_0MO, ↓reduceIte, eq_self, reduceCtorEq, Bool.true_eq_false, Bool.false_eq_true, isZn0, isZn1, isZb, bind_some', rI_some, rV_some, rQ_some, rQ_null, updA_at, updA_ne, pk_us, pk_un, ne_eq, not_false_eq_true, Nat.reduceEqDiff, updA_updA, Nat.reduceSub, Nat.reduceAdd, Nat.reduceMul, Nat.reduceDiv, Nat.zero_add, Nat.add_zero, mkR_o, mkR_g0, mkR_p0, mkR_g1, mkR_l1, mkR_n1, mkR_s1, mkR_g2, mkR_l2, mkR_n2, mkR_s2, mkR_g3, mkR_p3, mkR_g4, mkR_l4, mkR_n4, mkR_s4, mkR_g5, mkR_l5, mkR_n5, mkR_s5, mkR_g6, mkR_l6, mkR_n6, mkR_s6, mkR_t6, mkR_f6, mkR_g7, mkR_l7, mkR_n7, mkR_s7, mkR_g8, mkR_l8, mkR_n8, mkR_s8, mkR_g9, mkR_l9, mkR_n9, mkR_s9, mkR_g10, mkR_l10, mkR_n10, mkR_s10, mkR_g11, mkR_l11, mkR_n11, mkR_s11, mkR_g12, mkR_p12, mkR_g13, mkR_l13, mkR_n13, mkR_s13, mkR_t13, mkR_f13, mkR_g14, mkR_l14, mkR_n14, mkR_s14, mkR_g15, mkR_l15, mkR_n15, mkR_s15, mkR_g16, mkR_p16, mkR_g17, mkR_l17, mkR_n17, mkR_s17, mkR_t17, mkR_f17, mkR_g18, mkR_l18, mkR_n18, mkR_s18, mkR_t18, mkR_f18, mkR_g19, mkR_l19, mkR_n19, mkR_s19, mkR_g20, mkR_l20, mkR_n20, mkR_s20, mkR_g21, mkR_l21, mkR_n21, mkR_s21, mkR_g22, mkR_p22, mkR_g23, mkR_p23, mkR_g24, mkR_p24, mkR_g25, mkR_l25, mkR_n25, mkR_s25, mkR_g26, mkR_l26, mkR_n26, mkR_s26, mkR_g27, mkR_l27, mkR_n27, mkR_s27, mkR_g28, mkR_p28, mkR_g29, mkR_p29, mkR_g30, mkR_l30, mkR_n30, mkR_s30, mkR_g31, mkR_p31, mkR_g32, mkR_l32, mkR_n32, mkR_s32, mkR_g33, mkR_l33, mkR_n33, mkR_s33, mkR_g34, mkR_l34, mkR_n34, mkR_s34, mkR_t34, mkR_f34, mkR_g35, mkR_l35, mkR_n35, mkR_s35, mkR_g36, mkR_l36, mkR_n36, mkR_s36, mkR_g37, mkR_l37, mkR_n37, mkR_s37, mkR_g38, mkR_l38, mkR_n38, mkR_s38, mkR_g39, mkR_l39, mkR_n39, mkR_s39, mkR_g40, mkR_l40, mkR_n40, mkR_s40, mkR_g41, mkR_l41, mkR_n41, mkR_s41, a4, a5]
    · simp (disch := omega) only [nd_123_95 (St_run (d + 7) mt_123), ↓L_m4, ↓L_m1, L_0, L_1, L_2, L_3, L_4, L_5, L_6, L_8, L_9, L_15, L_20, L_30, L_40, L_54, L_60, L_120, L_1872, L_4320, L_22500, le_t, le_f, lt_t, lt_f, eq_t, eq_f, eq_NO, NO_eq, NO_neg, MO_neg, bI_0, nI_add, pk_mul, pk_ds, rem_, nI_MO, nI_0MO, ↓reduceIte, eq_self, reduceCtorEq, Bool.true_eq_false, Bool.false_eq_true, isZn0, isZn1, isZb, bind_some', rI_some, rV_some, rQ_some, rQ_null, updA_at, updA_ne, pk_us, pk_un, ne_eq, not_false_eq_true, Nat.reduceEqDiff, updA_updA, Nat.reduceSub, Nat.reduceAdd, Nat.reduceMul, Nat.reduceDiv, Nat.zero_add, Nat.add_zero, mkR_o, mkR_g0, mkR_p0, mkR_g1, mkR_l1, mkR_n1, mkR_s1, mkR_g2, mkR_l2, mkR_n2, mkR_s2, mkR_g3, mkR_p3, mkR_g4, mkR_l4, mkR_n4, mkR_s4, mkR_g5, mkR_l5, mkR_n5, mkR_s5, mkR_g6, mkR_l6, mkR_n6, mkR_s6, mkR_t6, mkR_f6, mkR_g7, mkR_l7, mkR_n7, mkR_s7, mkR_g8, mkR_l8, mkR_n8, mkR_s8, mkR_g9, mkR_l9, mkR_n9, mkR_s9, mkR_g10, mkR_l10, mkR_n10, mkR_s10, mkR_g11, mkR_l11, mkR_n11, mkR_s11, mkR_g12, mkR_p12, mkR_g13, mkR_l13, mkR_n13, mkR_s13, mkR_t13, mkR_f13, mkR_g14, mkR_l14, mkR_n14, mkR_s14, mkR_g15, mkR_l15, mkR_n15, mkR_s15, mkR_g16, mkR_p16, mkR_g17, mkR_l17, mkR_n17, mkR_s17, mkR_t17, mkR_f17, mkR_g18, mkR_l18, mkR_n18, mkR_s18, mkR_t18, mkR_f18, mkR_g19, mkR_l19, mkR_n19, mkR_s19, mkR_g20, mkR_l20, mkR_n20, mkR_s20, mkR_g21, mkR_l21, mkR_n21, mkR_s21, mkR_g22, mkR_p22, mkR_g23, mkR_p23, mkR_g24, mkR_p24, mkR_g25, mkR_l25, mkR_n25, mkR_s25, mkR_g26, mkR_l26, mkR_n26, mkR_s26, mkR_g27, mkR_l27, mkR_n27, mkR_s27, mkR_g28, mkR_p28, mkR_g29, mkR_p29, mkR_g30, mkR_l30, mkR_n30, mkR_s30, mkR_g31, mkR_p31, mkR_g32, mkR_l32, mkR_n32, mkR_s32, mkR_g33, mkR_l33, mkR_n33, mkR_s33, mkR_g34, mkR_l34, mkR_n34, mkR_s34, mkR_t34, mkR_f34, mkR_g35, mkR_l35, mkR_n35, mkR_s35, mkR_g36, mkR_l36, mkR_n36, mkR_s36, mkR_g37, mkR_l37, mkR_n37, mkR_s37, mkR_g38, mkR_l38, mkR_n38, mkR_s38, mkR_g39, mkR_l39, mkR_n39, mkR_s39, mkR_g40, mkR_l40, mkR_n40, mkR_s40, mkR_g41, mkR_l41, mkR_n41, mkR_s41, a4, a5]
  | succ m ih =>
    intro k hk
    have a6 := iT.g (i := 6 * i + k) (j := k) (by omega) rfl
    have e := ih (k + 1) (by omega)
    rw [nd_123_27 (St_run (d + 7) mt_123)]
    cases hg : T.2.2.2 k with
    | true =>
      rw [hg] at a6
      rw [ctN_t hg] at e
      simp (disch := omega) only [nd_123_59 (St_run (d + 7) mt_123), ↓L_m4, ↓L_m1, L_0, L_1, L_2, L_3, L_4, L_5, L_6, L_8, L_9, L_15, L_20, L_30, L_40, L_54, L_60, L_120, L_1872, L_4320, L_22500, le_t, le_f, lt_t, lt_f, eq_t, eq_f, eq_NO, NO_eq, NO_neg, MO_neg, bI_0, nI_add, pk_mul, pk_ds, rem_, nI_MO, nI_0MO, ↓reduceIte, eq_self, reduceCtorEq, Bool.true_eq_false, Bool.false_eq_true, isZn0, isZn1, isZb, bind_some', rI_some, rV_some, rQ_some, rQ_null, updA_at, updA_ne, pk_us, pk_un, ne_eq, not_false_eq_true, Nat.reduceEqDiff, updA_updA, Nat.reduceSub, Nat.reduceAdd, Nat.reduceMul, Nat.reduceDiv, Nat.zero_add, Nat.add_zero, mkR_o, mkR_g0, mkR_p0, mkR_g1, mkR_l1, mkR_n1, mkR_s1, mkR_g2, mkR_l2, mkR_n2, mkR_s2, mkR_g3, mkR_p3, mkR_g4, mkR_l4, mkR_n4, mkR_s4, mkR_g5, mkR_l5, mkR_n5, mkR_s5, mkR_g6, mkR_l6, mkR_n6, mkR_s6, mkR_t6, mkR_f6, mkR_g7, mkR_l7, mkR_n7, mkR_s7, mkR_g8, mkR_l8, mkR_n8, mkR_s8, mkR_g9, mkR_l9, mkR_n9, mkR_s9, mkR_g10, mkR_l10, mkR_n10, mkR_s10, mkR_g11, mkR_l11, mkR_n11, mkR_s11, mkR_g12, mkR_p12, mkR_g13, mkR_l13, mkR_n13, mkR_s13, mkR_t13, mkR_f13, mkR_g14, mkR_l14, mkR_n14, mkR_s14, mkR_g15, mkR_l15, mkR_n15, mkR_s15, mkR_g16, mkR_p16, mkR_g17, mkR_l17, mkR_n17, mkR_s17, mkR_t17, mkR_f17, mkR_g18, mkR_l18, mkR_n18, mkR_s18, mkR_t18, mkR_f18, mkR_g19, mkR_l19, mkR_n19, mkR_s19, mkR_g20, mkR_l20, mkR_n20, mkR_s20, mkR_g21, mkR_l21, mkR_n21, mkR_s21, mkR_g22, mkR_p22, mkR_g23, mkR_p23, mkR_g24, mkR_p24, mkR_g25, mkR_l25, mkR_n25, mkR_s25, mkR_g26, mkR_l26, mkR_n26, mkR_s26, mkR_g27, mkR_l27, mkR_n27, mkR_s27, mkR_g28, mkR_p28, mkR_g29, mkR_p29, mkR_g30, mkR_l30, mkR_n30, mkR_s30, mkR_g31, mkR_p31, mkR_g32, mkR_l32, mkR_n32, mkR_s32, mkR_g33, mkR_l33, mkR_n33, mkR_s33, mkR_g34, mkR_l34, mkR_n34, mkR_s34, mkR_t34, mkR_f34, mkR_g35, mkR_l35, mkR_n35, mkR_s35, mkR_g36, mkR_l36, mkR_n36, mkR_s36, mkR_g37, mkR_l37, mkR_n37, mkR_s37, mkR_g38, mkR_l38, mkR_n38, mkR_s38, mkR_g39, mkR_l39, mkR_n39, mkR_s39, mkR_g40, mkR_l40, mkR_n40, mkR_s40, mkR_g41, mkR_l41, mkR_n41, mkR_s41, a4, a6]
      exact e
    | false =>
      rw [hg] at a6
      rw [ctN_f hg] at e
      simp (disch := omega) only [nd_123_59 (St_run (d + 7) mt_123), ↓L_m4, ↓L_m1, L_0, L_1, L_2, L_3, L_4, L_5, L_6, L_8, L_9, L_15, L_20, L_30, L_40, L_54, L_60, L_120, L_1872, L_4320, L_22500, le_t, le_f, lt_t, lt_f, eq_t, eq_f, eq_NO, NO_eq, NO_neg, MO_neg, bI_0, nI_add, pk_mul, pk_ds, rem_, nI_MO, nI_0MO, ↓reduceIte, eq_self, reduceCtorEq, Bool.true_eq_false, Bool.false_eq_true, isZn0, isZn1, isZb, bind_some', rI_some, rV_some, rQ_some, rQ_null, updA_at, updA_ne, pk_us, pk_un, ne_eq, not_false_eq_true, Nat.reduceEqDiff, updA_updA, Nat.reduceSub, Nat.reduceAdd, Nat.reduceMul, Nat.reduceDiv, Nat.zero_add, Nat.add_zero, mkR_o, mkR_g0, mkR_p0, mkR_g1, mkR_l1, mkR_n1, mkR_s1, mkR_g2, mkR_l2, mkR_n2, mkR_s2, mkR_g3, mkR_p3, mkR_g4, mkR_l4, mkR_n4, mkR_s4, mkR_g5, mkR_l5, mkR_n5, mkR_s5, mkR_g6, mkR_l6, mkR_n6, mkR_s6, mkR_t6, mkR_f6, mkR_g7, mkR_l7, mkR_n7, mkR_s7, mkR_g8, mkR_l8, mkR_n8, mkR_s8, mkR_g9, mkR_l9, mkR_n9, mkR_s9, mkR_g10, mkR_l10, mkR_n10, mkR_s10, mkR_g11, mkR_l11, mkR_n11, mkR_s11, mkR_g12, mkR_p12, mkR_g13, mkR_l13, mkR_n13, mkR_s13, mkR_t13, mkR_f13, mkR_g14, mkR_l14, mkR_n14, mkR_s14, mkR_g15, mkR_l15, mkR_n15, mkR_s15, mkR_g16, mkR_p16, mkR_g17, mkR_l17, mkR_n17, mkR_s17, mkR_t17, mkR_f17, mkR_g18, mkR_l18, mkR_n18, mkR_s18, mkR_t18, mkR_f18, mkR_g19, mkR_l19, mkR_n19, mkR_s19, mkR_g20, mkR_l20, mkR_n20, mkR_s20, mkR_g21, mkR_l21, mkR_n21, mkR_s21, mkR_g22, mkR_p22, mkR_g23, mkR_p23, mkR_g24, mkR_p24, mkR_g25, mkR_l25, mkR_n25, mkR_s25, mkR_g26, mkR_l26, mkR_n26, mkR_s26, mkR_g27, mkR_l27, mkR_n27, mkR_s27, mkR_g28, mkR_p28, mkR_g29, mkR_p29, mkR_g30, mkR_l30, mkR_n30, mkR_s30, mkR_g31, mkR_p31, mkR_g32, mkR_l32, mkR_n32, mkR_s32, mkR_g33, mkR_l33, mkR_n33, mkR_s33, mkR_g34, mkR_l34, mkR_n34, mkR_s34, mkR_t34, mkR_f34, mkR_g35, mkR_l35, mkR_n35, mkR_s35, mkR_g36, mkR_l36, mkR_n36, mkR_s36, mkR_g37, mkR_l37, mkR_n37, mkR_s37, mkR_g38, mkR_l38, mkR_n38, mkR_s38, mkR_g39, mkR_l39, mkR_n39, mkR_s39, mkR_g40, mkR_l40, mkR_n40, mkR_s40, mkR_g41, mkR_l41, mkR_n41, mkR_s41, a4, a6]
      exact e
theorem op_told (S : SS h x y s q) (m wt : Int32) : OP d x y h q 70 123 [.int m, .int wt] := by
  obtain ⟨w, c, _, _⟩ := id S
  obtain ⟨X, c1, c2, _, _, _, _, _, _, _, c10, _⟩ := id c
  have wK := w.2.1.1
  have cl0 : call (d + 8) 70 [.ref x, .int m, .int wt] h = run (d + 7) mt_70 0 [some (.ref x), some (.int m), some (.int wt), none] [] h := call_at mt_70 [some (.ref x), some (.int m), some (.int wt), none] rfl rfl rfl
  have rl0 : ∀ (h : AH) I A, call (d + 8) 123 [.ref y, .int m, .int wt] (mkR h y I A) = run (d + 7) mt_123 0 [some (.ref y), some (.int m), some (.int wt), none, none] [] (mkR h y I A) := fun h I A => call_at mt_123 [some (.ref y), some (.int m), some (.int wt), none, none] rfl rfl rfl
  rcases mach_cases w m with ⟨i, i1, rfl, i3⟩ | ⟨i1, i2⟩
  · have hT := w.2.1.2 i i1
    obtain ⟨M, m1, m2, m3, m4⟩ := c10.1 i i1
    have st6 := hT.2.1
    have ma := C_mAt (d := d + 6) c1 c2 wK i i1
    rcases in2 wt with ⟨j, j1, rfl, j3⟩ | ⟨j1, j2, j3⟩
    · refine comb (s' := s) (r := if j = 0 then nI (s.2.1.2 i).1.1 else if j = 1 then nI (s.2.1.2 i).1.2 else nI (ctN (s.2.1.2 i).2.2.2 (s.2.1.2 i).1.1)) S (CO_same c ?_) (RO_same (fun h I A rs => ?_)) (w.mono (by omega))
      · have ec : ctN (fun j => M.2.2.2.1 j != 0) (s.2.1.2 i).1.1 = ctN (s.2.1.2 i).2.2.2 (s.2.1.2 i).1.1 := ctN_cong (fun k hk => by
          rw [m2.2.2.2.2 k (by omega)]
          cases (s.2.1.2 i).2.2.2 k <;> rfl)
        have z0 : ((nI j).toInt = 0) = (j = 0) := ti_eq (k := 0) (by omega)
        have z1 : ((nI j).toInt = 1) = (j = 1) := ti_eq (k := 1) (by omega)
        have z2 : ((nI j).toInt = 2) = (j = 2) := ti_eq (k := 2) (by omega)
        rw [cl0, nd_70_0 (St_run (d + 7) mt_70), c1.o, ma, bind_some', rQ_some, m1.g3, m1.g4, m1.o, m_goodStates m1 m2.1 st6, bind_some', rI_some, m2.1, m2.2.1, ec]
        simp only [z0, z1, z2]
        rcases (show j = 0 ∨ j = 1 ∨ j = 2 by omega) with rfl | rfl | rfl <;> rfl
      · have iT := rs.2.1.2 i i1
        have v3 : v_in (nI i) (I 3 - 1) = 1 := by rw [rs.2.1.1]; exact i3
        rw [rl0, nd_123_0 (St_run (d + 7) mt_123), mkR_o, R_isMachine (d := d + 5), v3, bind_some', rI_some, if_neg (by decide), show (2 : Int64) = (2 : Int32).toInt64 from by decide, m_in0, j3, bind_some', rI_some, if_neg (by decide)]
        exact l_told hT (by omega) iT j j1 (s.2.1.2 i).1.1 0 (by omega)
    · refine comb (s' := s) (r := -1) S (CO_same c ?_) (RO_same (fun h I A rs => ?_)) (w.mono (by omega))
      · rw [cl0, nd_70_0 (St_run (d + 7) mt_70), c1.o, ma, bind_some', rQ_some, if_neg (ti0 (j2 0 (by omega))), if_neg (ti1 (j2 1 (by omega))), if_neg (ti2 (j2 2 (by omega)))]
      · have v3 : v_in (nI i) (I 3 - 1) = 1 := by rw [rs.2.1.1]; exact i3
        rw [rl0, nd_123_0 (St_run (d + 7) mt_123), mkR_o, R_isMachine (d := d + 5), v3, bind_some', rI_some, if_neg (by decide), show (2 : Int64) = (2 : Int32).toInt64 from by decide, m_in0, j1, bind_some', rI_some, if_pos rfl, nd_123_20 (St_run (d + 7) mt_123)]
  · refine comb (s' := s) (r := -1) S (CO_same c ?_) (RO_same (fun h I A rs => ?_)) (w.mono (by omega))
    · rw [cl0, nd_70_0 (St_run (d + 7) mt_70), c1.o, C_mNo (d := d + 6) c1 wK m i2, bind_some', rQ_null]
    · have v3 : v_in m (I 3 - 1) = 0 := by rw [rs.2.1.1]; exact i1
      rw [rl0, nd_123_0 (St_run (d + 7) mt_123), mkR_o, R_isMachine (d := d + 5), v3, bind_some', rI_some, if_pos rfl, nd_123_20 (St_run (d + 7) mt_123)]
theorem op_stepOf (S : SS h x y s q) (m st l wh wt : Int32) : OP d x y h q 71 124 [.int m, .int st, .int l, .int wh, .int wt] := by
  obtain ⟨w, c, _, _⟩ := id S
  obtain ⟨X, c1, c2, _, _, _, _, _, _, _, c10, _⟩ := id c
  have wK := w.2.1.1
  have cl0 : call (d + 8) 71 [.ref x, .int m, .int st, .int l, .int wh, .int wt] h = run (d + 7) mt_71 0 [some (.ref x), some (.int m), some (.int st), some (.int l), some (.int wh), some (.int wt), none, none] [] h := call_at mt_71 [some (.ref x), some (.int m), some (.int st), some (.int l), some (.int wh), some (.int wt), none, none] rfl rfl rfl
  have rl0 : ∀ (h : AH) I A, call (d + 8) 124 [.ref y, .int m, .int st, .int l, .int wh, .int wt] (mkR h y I A) = run (d + 7) mt_124 0 [some (.ref y), some (.int m), some (.int st), some (.int l), some (.int wh), some (.int wt), none] [] (mkR h y I A) := fun h I A => call_at mt_124 [some (.ref y), some (.int m), some (.int st), some (.int l), some (.int wh), some (.int wt), none] rfl rfl rfl
  rcases mach_cases w m with ⟨i, i1, rfl, i3⟩ | ⟨i1, i2⟩
  · have hT := w.2.1.2 i i1
    obtain ⟨M, m1, m2, m3, m4⟩ := c10.1 i i1
    have st6 := hT.2.1
    have rg2 := hT.2.2.1
    have ma := C_mAt (d := d + 6) c1 c2 wK i i1
    rcases in1 wt with ⟨j, j1, rfl, j3⟩ | ⟨j1, j2, j3⟩
    · have hj0 : ¬ nI j < 0 := nI_pos (by omega)
      have hj1 : nI j ≤ 1 := nI_le (b := 1) (by omega) (by decide)
      rcases stp_cases st6 rg2 st l wh with ⟨s', l', w', a1, a2, a3, rfl, rfl, rfl, a7, a8, a9, a10⟩ | ⟨a1, a2⟩
      · have hz : 9 * s' + 3 * l' + w' < 54 := by omega
        refine comb (s' := s) (r := if j = 0 then nI ((s.2.1.2 i).2.1 (9 * s' + 3 * l' + w')) else kI ((s.2.1.2 i).2.2.1 (9 * s' + 3 * l' + w'))) S (CO_same c ?_) (RO_same (fun h I A rs => ?_)) (w.mono (by omega))
        · rw [cl0, nd_71_0 (St_run (d + 7) mt_71), c1.o, ma, bind_some', rQ_some, if_neg hj0, if_pos hj1, m1.o, m_stepAt m1, m2.1, m2.2.1, a7, bind_some', rI_some, if_pos (nI_pos' (by omega)), m1.g0, m1.l0 hz, m2.2.2.1 _ hz, m1.g1, m1.l1 hz, m2.2.2.2.1 _ hz, nd_71_67 (St_run (d + 7) mt_71), nd_71_67 (St_run (d + 7) mt_71)]
          rcases (show j = 0 ∨ j = 1 by omega) with rfl | rfl <;> rfl
        · have iT := rs.2.1.2 i i1
          have v3 : v_in (nI i) (I 3 - 1) = 1 := by rw [rs.2.1.1]; exact i3
          have sa : call (d + 7) 115 [.int (nI i), .int (nI s'), .int (nI l'), .int (nI w')] (mkR h y I A) = some (some (.int (nI (54 * i + (9 * s' + 3 * l' + w')))), mkR h y I A) := by
            rw [r_stepAt]
            show some (some (Value.int (nI 54 * nI i + nI 9 * nI s' + nI 3 * nI l' + nI w')), _) = _
            rw [pk_mul, pk_mul, pk_mul, nI_add, nI_add, nI_add, show 54 * i + 9 * s' + 3 * l' + w' = 54 * i + (9 * s' + 3 * l' + w') by omega]
          rw [rl0, nd_124_0 (St_run (d + 7) mt_124), mkR_o, R_isStep (d := d + 3) (by omega) v3 iT, bind_some', rI_some, a8, a9, a10, s111, if_neg (show ¬ (1 : Int32) = 0 by decide), show (1 : Int64) = (1 : Int32).toInt64 from by decide, m_in0, j3, bind_some', rI_some, if_neg (show ¬ (1 : Int32) = 0 by decide), sa, bind_some', rI_some, mkR_g7, mkR_l7 _ _ _ _ (by omega), mkR_g8, mkR_l8 _ _ _ _ (by omega), iT.2.2.1 _ hz, iT.2.2.2.1 _ hz, nd_124_57 (St_run (d + 7) mt_124), nd_124_57 (St_run (d + 7) mt_124)]
          rcases (show j = 0 ∨ j = 1 by omega) with rfl | rfl <;> rfl
      · refine comb (s' := s) (r := -1) S (CO_same c ?_) (RO_same (fun h I A rs => ?_)) (w.mono (by omega))
        · rw [cl0, nd_71_0 (St_run (d + 7) mt_71), c1.o, ma, bind_some', rQ_some, if_neg hj0, if_pos hj1, m1.o, m_stepAt m1, m2.1, m2.2.1, a1, bind_some', rI_some, if_neg (by decide)]
        · have iT := rs.2.1.2 i i1
          have v3 : v_in (nI i) (I 3 - 1) = 1 := by rw [rs.2.1.1]; exact i3
          have e0 : (if v_in st (nI (s.2.1.2 i).1.1 - 1) = 0 then 0 else if v_in l 2 = 0 then 0 else if (if wh = 2 then 1 else v_in wh (nI (s.2.1.2 i).1.2 - 1)) = 0 then 0 else 1) = (0 : Int32) := by
            by_cases e5 : v_in st (nI (s.2.1.2 i).1.1 - 1) = 0
            · rw [if_pos e5]
            · rw [if_neg e5]
              by_cases e6 : v_in l 2 = 0
              · rw [if_pos e6]
              · rw [if_neg e6]
                rcases a2 with e | e | e
                · exact absurd e e5
                · exact absurd e e6
                · rw [if_pos e]
          rw [rl0, nd_124_0 (St_run (d + 7) mt_124), mkR_o, R_isStep (d := d + 3) (by omega) v3 iT, bind_some', rI_some, e0, if_pos rfl, nd_124_23 (St_run (d + 7) mt_124)]
    · refine comb (s' := s) (r := -1) S (CO_same c ?_) (RO_same (fun h I A rs => ?_)) (w.mono (by omega))
      · rw [cl0, nd_71_0 (St_run (d + 7) mt_71), c1.o, ma, bind_some', rQ_some, nd_71_23 (St_run (d + 7) mt_71)]
        by_cases h0 : wt < 0
        · rw [if_pos h0]
        · rw [if_neg h0, if_neg (fun e => by
            have h2 := j3.resolve_left h0
            have := Int32.le_trans h2 e
            exact absurd this (by decide))]
      · have iT := rs.2.1.2 i i1
        have v3 : v_in (nI i) (I 3 - 1) = 1 := by rw [rs.2.1.1]; exact i3
        rw [rl0, nd_124_0 (St_run (d + 7) mt_124), mkR_o, R_isStep (d := d + 3) (by omega) v3 iT, bind_some', rI_some, show (1 : Int64) = (1 : Int32).toInt64 from by decide, m_in0, j1, bind_some', rI_some, nd_124_23 (St_run (d + 7) mt_124)]
        by_cases e : (if v_in st (nI (s.2.1.2 i).1.1 - 1) = 0 then 0 else if v_in l 2 = 0 then 0 else if (if wh = 2 then 1 else v_in wh (nI (s.2.1.2 i).1.2 - 1)) = 0 then 0 else 1) = (0 : Int32)
        · rw [if_pos e]
        · rw [if_neg e, if_pos rfl]
  · refine comb (s' := s) (r := -1) S (CO_same c ?_) (RO_same (fun h I A rs => ?_)) (w.mono (by omega))
    · rw [cl0, nd_71_0 (St_run (d + 7) mt_71), c1.o, C_mNo (d := d + 6) c1 wK m i2, bind_some', rQ_null, nd_71_23 (St_run (d + 7) mt_71)]
    · rw [rl0, nd_124_0 (St_run (d + 7) mt_124), mkR_o, R_isStep_bad (d := d + 3) m st l wh (by rw [rs.2.1.1]; exact i1), bind_some', rI_some, if_pos rfl, nd_124_23 (St_run (d + 7) mt_124)]
end OPS3
