/-! ===== the reference: both, to its end ===== -/
section RK
variable {d a : Nat} {h : AH} {I : Nat → Int32} {T U : TM} {ia ib : Nat}
theorem l_rrow (hT : WFT T) (hU : WFT U) (h0 : T.1.2 = 0 ∨ U.1.2 = 0) (ha : ia < 6) (hb : ib < 6) (x3 : Int32) (k : Nat) : ∀ (m i : Nat) (A : Nat → Nat → Int32) (J : JS), i + m = 9 → isT A ia T → isT A ib U → JI T U (9 * k + i) J → k < J.1 → RJ A (jrg T U) (9 * k + i) J → (∀ K, jrow T U k m i J = some K → ∃ A', run (d + 2) mt_128 90 [some (.ref a), some (.int (nI ia)), some (.int (nI ib)), some (.int x3), some (.int (nI (onI U ia ib))), some (.int (nI J.1)), some (.int (nI k)), some (.int (nI i)), none, none, none, none, none] [] (mkR h a I A) = run (d + 2) mt_128 90 [some (.ref a), some (.int (nI ia)), some (.int (nI ib)), some (.int x3), some (.int (nI (onI U ia ib))), some (.int (nI K.1)), some (.int (nI k)), some (.int (nI 9)), none, none, none, none, none] [] (mkR h a I A') ∧ RJ A' (jrg T U) (9 * (k + 1)) K ∧ fra I I A A' [] [9, 10, 11]) ∧ (jrow T U k m i J = none → ∃ A', run (d + 2) mt_128 90 [some (.ref a), some (.int (nI ia)), some (.int (nI ib)), some (.int x3), some (.int (nI (onI U ia ib))), some (.int (nI J.1)), some (.int (nI k)), some (.int (nI i)), none, none, none, none, none] [] (mkR h a I A) = some (some (.int (-2)), mkR h a I A') ∧ fra I I A A' [] [9, 10, 11]) := by
  intro m
  induction m with
  | zero =>
    intro i A J hi iT iU g hk r
    have : i = 9 := by omega
    subst this
    refine ⟨fun K hK => ?_, fun hK => by cases hK⟩
    cases hK
    exact ⟨A, rfl, r, fra.rf _ _ _ _⟩
  | succ m ih =>
    intro i A J hi iT iU g hk r
    obtain ⟨s1, s2⟩ := R_jst (d := d) (a := a) (h := h) (I := I) hT hU h0 ha hb x3 k i (by omega) iT iU g hk r
    unfold jrow
    cases hs : jst T U k i J with
    | none => exact ⟨fun K hK => (by cases hK), fun _ => s2 hs⟩
    | some J1 =>
      obtain ⟨g1, g2, g3⟩ := jst_ok hT hU g hk (by omega) hs
      obtain ⟨A1, e1, e2, e3⟩ := s1 J1 hs
      obtain ⟨y1, y2⟩ := ih (i + 1) A1 J1 (by omega) (iT.fa e3 (by decide)) (iU.fa e3 (by decide)) g1 (by omega) e2
      constructor
      · intro K hK
        obtain ⟨A2, z1, z2, z3⟩ := y1 K hK
        exact ⟨A2, e1.trans z1, z2, e3.tr z3⟩
      · intro hK
        obtain ⟨A2, z1, z2⟩ := y2 hK
        exact ⟨A2, e1.trans z1, e3.tr z2⟩
theorem l_rall (hT : WFT T) (hU : WFT U) (h0 : T.1.2 = 0 ∨ U.1.2 = 0) (ha : ia < 6) (hb : ib < 6) (x3 : Int32) : ∀ (m k : Nat) (A : Nat → Nat → Int32) (J : JS), k + m = 7 → isT A ia T → isT A ib U → JI T U (9 * k) J → k ≤ J.1 → RJ A (jrg T U) (9 * k) J → (∀ K, jall T U m k J = some K → ∃ A', run (d + 2) mt_128 80 [some (.ref a), some (.int (nI ia)), some (.int (nI ib)), some (.int x3), some (.int (nI (onI U ia ib))), some (.int (nI J.1)), some (.int (nI k)), none, none, none, none, none, none] [] (mkR h a I A) = run (d + 2) mt_128 80 [some (.ref a), some (.int (nI ia)), some (.int (nI ib)), some (.int x3), some (.int (nI (onI U ia ib))), some (.int (nI K.1)), some (.int (nI K.1)), none, none, none, none, none, none] [] (mkR h a I A') ∧ RJ A' (jrg T U) (9 * K.1) K ∧ fra I I A A' [] [9, 10, 11]) ∧ (jall T U m k J = none → ∃ A', run (d + 2) mt_128 80 [some (.ref a), some (.int (nI ia)), some (.int (nI ib)), some (.int x3), some (.int (nI (onI U ia ib))), some (.int (nI J.1)), some (.int (nI k)), none, none, none, none, none, none] [] (mkR h a I A) = some (some (.int (-2)), mkR h a I A') ∧ fra I I A A' [] [9, 10, 11]) := by
  intro m
  induction m with
  | zero =>
    intro k A J hm iT iU g hk
    have := g.2.1
    omega
  | succ m ih =>
    intro k A J hm iT iU g hk r
    have n6 := g.2.1
    unfold jall
    by_cases hkn : k < J.1
    · rw [if_pos hkn]
      obtain ⟨s1, s2⟩ := l_rrow (d := d) (a := a) (h := h) (I := I) hT hU h0 ha hb x3 k 9 0 A J rfl iT iU g hkn r
      have e80 : run (d + 2) mt_128 80 [some (.ref a), some (.int (nI ia)), some (.int (nI ib)), some (.int x3), some (.int (nI (onI U ia ib))), some (.int (nI J.1)), some (.int (nI k)), none, none, none, none, none, none] [] (mkR h a I A) = run (d + 2) mt_128 90 [some (.ref a), some (.int (nI ia)), some (.int (nI ib)), some (.int x3), some (.int (nI (onI U ia ib))), some (.int (nI J.1)), some (.int (nI k)), some (.int (nI 0)), none, none, none, none, none] [] (mkR h a I A) := by
        rw [nd_128_80 (St_run (d + 2) mt_128), if_neg (nI_ge hkn (by omega))]
        rfl
      rw [e80]
      cases hr : jrow T U k 9 0 J with
      | none => exact ⟨fun K hK => (by cases hK), fun _ => s2 hr⟩
      | some J1 =>
        obtain ⟨g1, g2, g3⟩ := jrow_ok hT hU 9 0 J J1 rfl g hkn hr
        obtain ⟨A1, e1, e2, e3⟩ := s1 J1 hr
        have e90 : run (d + 2) mt_128 90 [some (.ref a), some (.int (nI ia)), some (.int (nI ib)), some (.int x3), some (.int (nI (onI U ia ib))), some (.int (nI J1.1)), some (.int (nI k)), some (.int (nI 9)), none, none, none, none, none] [] (mkR h a I A1) = run (d + 2) mt_128 80 [some (.ref a), some (.int (nI ia)), some (.int (nI ib)), some (.int x3), some (.int (nI (onI U ia ib))), some (.int (nI J1.1)), some (.int (nI (k + 1))), none, none, none, none, none, none] [] (mkR h a I A1) := by
          rw [nd_128_90 (St_run (d + 2) mt_128), if_pos (by decide), nI_1]
        obtain ⟨y1, y2⟩ := ih (k + 1) A1 J1 (by omega) (iT.fa e3 (by decide)) (iU.fa e3 (by decide)) g1 (by omega) e2
        constructor
        · intro K hK
          obtain ⟨A2, z1, z2, z3⟩ := y1 K hK
          exact ⟨A2, (e1.trans e90).trans z1, z2, e3.tr z3⟩
        · intro hK
          obtain ⟨A2, z1, z2⟩ := y2 hK
          exact ⟨A2, (e1.trans e90).trans z1, e3.tr z2⟩
    · rw [if_neg hkn]
      refine ⟨fun K hK => ?_, fun hK => by cases hK⟩
      cases hK
      have hkJ : k = J.1 := by omega
      rw [hkJ] at r ⊢
      exact ⟨A, rfl, r, fra.rf _ _ _ _⟩
/-- what has been written of the new machine up to place z -/
def NWz (A : Nat → Nat → Int32) (t z : Nat) (K : JS) : Prop := ∀ y, y < 54 → A 7 (54 * t + y) = nI (if y < z then K.2.2.1 y else y / 9) ∧ A 8 (54 * t + y) = kI (if y < z then K.2.2.2 y else 2)
theorem l_rfin1 {K : JS} {t k : Nat} {rg : Nat} {x1 x2 x3 : Int32} {on : Nat} (hon : on < 6) (hr2 : rg ≤ 2) (ht : t < 6) (hk : k < K.1) (hk6 : K.1 ≤ 6) (hJ : ∀ y, vcs rg (y % 3) = false → K.2.2.1 y = y / 9 ∧ K.2.2.2 y = 2) : ∀ (m i : Nat) (A : Nat → Nat → Int32), i + m = 9 → A 5 on = nI rg → (∀ y, y < 9 * K.1 → vcs rg (y % 3) = true → A 10 y = nI (K.2.2.1 y) ∧ A 11 y = kI (K.2.2.2 y)) → NWz A t (9 * k + i) K → ∃ A', run (d + 2) mt_128 460 [some (.ref a), some (.int x1), some (.int x2), some (.int x3), some (.int (nI on)), some (.int (nI K.1)), some (.int (nI t)), some (.int (nI k)), none, none, some (.int (nI i)), none, none] [] (mkR h a I A) = run (d + 2) mt_128 336 [some (.ref a), some (.int x1), some (.int x2), some (.int x3), some (.int (nI on)), some (.int (nI K.1)), some (.int (nI t)), some (.int (nI (k + 1))), none, none, none, none, none] [] (mkR h a I A') ∧ NWz A' t (9 * (k + 1)) K ∧ (∀ j, ¬ (54 * t ≤ j ∧ j < 54 * t + 54) → A' 7 j = A 7 j ∧ A' 8 j = A 8 j) ∧ (∀ k, k ≠ 7 → k ≠ 8 → A' k = A k) := by
  intro m
  induction m with
  | zero =>
    intro i A hi a5 hb nw
    have : i = 9 := by omega
    subst this
    refine ⟨A, ?_, nw, fun _ _ => ⟨rfl, rfl⟩, fun _ _ _ => rfl⟩
    rw [nd_128_460 (St_run (d + 2) mt_128), if_pos (by decide), nI_1]
  | succ m ih =>
    intro i A hi a5 hb nw
    have ic := R_isCase (d := d) (a := a) (h := h) (I := I) (A := A) on (i % 3) rg hon (by omega) hr2 a5
    have e544 : ∀ C, run (d + 2) mt_128 544 [some (.ref a), some (.int x1), some (.int x2), some (.int x3), some (.int (nI on)), some (.int (nI K.1)), some (.int (nI t)), some (.int (nI k)), none, none, some (.int (nI i)), none, none] [] (mkR h a I C) = run (d + 2) mt_128 460 [some (.ref a), some (.int x1), some (.int x2), some (.int x3), some (.int (nI on)), some (.int (nI K.1)), some (.int (nI t)), some (.int (nI k)), none, none, some (.int (nI (i + 1))), none, none] [] (mkR h a I C) := fun C => by
      rw [nd_128_544 (St_run (d + 2) mt_128), nI_1]
    have ez : (9 * k + i) % 3 = i % 3 := by omega
    cases hv : vcs rg (i % 3) with
    | false =>
      rw [hv] at ic
      obtain ⟨A', e1, e2, e3, e4⟩ := ih (i + 1) A (by omega) a5 hb (fun y hy => by
        have := nw y hy
        by_cases e : y = 9 * k + i
        · have h2 := hJ y (by rw [e, ez]; exact hv)
          rw [if_pos (by omega), if_pos (by omega), h2.1, h2.2]
          rw [if_neg (by omega), if_neg (by omega)] at this
          exact this
        · by_cases e2 : y < 9 * k + i
          · rw [if_pos (by omega), if_pos (by omega)]
            rw [if_pos e2, if_pos e2] at this
            exact this
          · rw [if_neg (by omega), if_neg (by omega)]
            rw [if_neg e2, if_neg e2] at this
            exact this)
      refine ⟨A', ?_, e2, e3, e4⟩
      rw [nd_128_460 (St_run (d + 2) mt_128)]
      simp (disch := omega) only [↓L_m4, ↓L_m1, L_0, L_1, L_2, L_3, L_4, L_5, L_6, L_8, L_9, L_15, L_20, L_30, L_40, L_54, L_60, L_120, L_1872, L_4320, L_22500, le_t, le_f, lt_t, lt_f, eq_t, eq_f, eq_NO, NO_eq, NO_neg, MO_neg, bI_0, nI_add, pk_mul, pk_ds, rem_, nI_MO, nI_0MO, ↓reduceIte, eq_self, reduceCtorEq, Bool.true_eq_false, Bool.false_eq_true, isZn0, isZn1, isZb, bind_some', rI_some, rV_some, rQ_some, rQ_null, updA_at, updA_ne, pk_us, pk_un, ne_eq, not_false_eq_true, Nat.reduceEqDiff, updA_updA, Nat.reduceSub, Nat.reduceAdd, Nat.reduceMul, Nat.reduceDiv, Nat.zero_add, Nat.add_zero, mkR_o, mkR_g0, mkR_p0, mkR_g1, mkR_l1, mkR_n1, mkR_s1, mkR_g2, mkR_l2, mkR_n2, mkR_s2, mkR_g3, mkR_p3, mkR_g4, mkR_l4, mkR_n4, mkR_s4, mkR_g5, mkR_l5, mkR_n5, mkR_s5, mkR_g6, mkR_l6, mkR_n6, mkR_s6, mkR_t6, mkR_f6, mkR_g7, mkR_l7, mkR_n7, mkR_s7, mkR_g8, mkR_l8, mkR_n8, mkR_s8, mkR_g9, mkR_l9, mkR_n9, mkR_s9, mkR_g10, mkR_l10, mkR_n10, mkR_s10, mkR_g11, mkR_l11, mkR_n11, mkR_s11, mkR_g12, mkR_p12, mkR_g13, mkR_l13, mkR_n13, mkR_s13, mkR_t13, mkR_f13, mkR_g14, mkR_l14, mkR_n14, mkR_s14, mkR_g15, mkR_l15, mkR_n15, mkR_s15, mkR_g16, mkR_p16, mkR_g17, mkR_l17, mkR_n17, mkR_s17, mkR_t17, mkR_f17, mkR_g18, mkR_l18, mkR_n18, mkR_s18, mkR_t18, mkR_f18, mkR_g19, mkR_l19, mkR_n19, mkR_s19, mkR_g20, mkR_l20, mkR_n20, mkR_s20, mkR_g21, mkR_l21, mkR_n21, mkR_s21, mkR_g22, mkR_p22, mkR_g23, mkR_p23, mkR_g24, mkR_p24, mkR_g25, mkR_l25, mkR_n25, mkR_s25, mkR_g26, mkR_l26, mkR_n26, mkR_s26, mkR_g27, mkR_l27, mkR_n27, mkR_s27, mkR_g28, mkR_p28, mkR_g29, mkR_p29, mkR_g30, mkR_l30, mkR_n30, mkR_s30, mkR_g31, mkR_p31, mkR_g32, mkR_l32, mkR_n32, mkR_s32, mkR_g33, mkR_l33, mkR_n33, mkR_s33, mkR_g34, mkR_l34, mkR_n34, mkR_s34, mkR_t34, mkR_f34, mkR_g35, mkR_l35, mkR_n35, mkR_s35, mkR_g36, mkR_l36, mkR_n36, mkR_s36, mkR_g37, mkR_l37, mkR_n37, mkR_s37, mkR_g38, mkR_l38, mkR_n38, mkR_s38, mkR_g39, mkR_l39, mkR_n39, mkR_s39, mkR_g40, mkR_l40, mkR_n40, mkR_s40, mkR_g41, mkR_l41, mkR_n41, mkR_s41, ic]
      exact (e544 A).trans e1
    | true =>
      rw [hv] at ic
      obtain ⟨b1, b2⟩ := hb (9 * k + i) (by omega) (by rw [ez]; exact hv)
      obtain ⟨A', e1, e2, e3, e4⟩ := ih (i + 1) (updA (updA A 7 (upd (A 7) (54 * t + 9 * k + i) (nI (K.2.2.1 (9 * k + i))))) 8 (upd (A 8) (54 * t + 9 * k + i) (kI (K.2.2.2 (9 * k + i))))) (by omega) a5 hb (fun y hy => by
        show upd (A 7) _ _ (54 * t + y) = _ ∧ upd (A 8) _ _ (54 * t + y) = _
        have := nw y hy
        by_cases e : y = 9 * k + i
        · rw [if_pos (by omega), if_pos (by omega), show 54 * t + y = 54 * t + 9 * k + i by omega, pk_us, pk_us, e]
          exact ⟨rfl, rfl⟩
        · rw [pk_un (by omega), pk_un (by omega)]
          by_cases e2 : y < 9 * k + i
          · rw [if_pos (by omega), if_pos (by omega)]
            rw [if_pos e2, if_pos e2] at this
            exact this
          · rw [if_neg (by omega), if_neg (by omega)]
            rw [if_neg e2, if_neg e2] at this
            exact this)
      refine ⟨A', ?_, e2, fun j hj => ?_, fun k h7 h8 => by rw [e4 k h7 h8, updA_ne h8, updA_ne h7]⟩
      · rw [nd_128_460 (St_run (d + 2) mt_128)]
        simp (disch := omega) only [↓L_m4, ↓L_m1, L_0, L_1, L_2, L_3, L_4, L_5, L_6, L_8, L_9, L_15, L_20, L_30, L_40, L_54, L_60, L_120, L_1872, L_4320, L_22500, le_t, le_f, lt_t, lt_f, eq_t, eq_f, eq_NO, NO_eq, NO_neg, MO_neg, bI_0, nI_add, pk_mul, pk_ds, rem_, nI_MO, nI_0MO, ↓reduceIte, eq_self, reduceCtorEq, Bool.true_eq_false, Bool.false_eq_true, isZn0, isZn1, isZb, bind_some', rI_some, rV_some, rQ_some, rQ_null, updA_at, updA_ne, pk_us, pk_un, ne_eq, not_false_eq_true, Nat.reduceEqDiff, updA_updA, Nat.reduceSub, Nat.reduceAdd, Nat.reduceMul, Nat.reduceDiv, Nat.zero_add, Nat.add_zero, mkR_o, mkR_g0, mkR_p0, mkR_g1, mkR_l1, mkR_n1, mkR_s1, mkR_g2, mkR_l2, mkR_n2, mkR_s2, mkR_g3, mkR_p3, mkR_g4, mkR_l4, mkR_n4, mkR_s4, mkR_g5, mkR_l5, mkR_n5, mkR_s5, mkR_g6, mkR_l6, mkR_n6, mkR_s6, mkR_t6, mkR_f6, mkR_g7, mkR_l7, mkR_n7, mkR_s7, mkR_g8, mkR_l8, mkR_n8, mkR_s8, mkR_g9, mkR_l9, mkR_n9, mkR_s9, mkR_g10, mkR_l10, mkR_n10, mkR_s10, mkR_g11, mkR_l11, mkR_n11, mkR_s11, mkR_g12, mkR_p12, mkR_g13, mkR_l13, mkR_n13, mkR_s13, mkR_t13, mkR_f13, mkR_g14, mkR_l14, mkR_n14, mkR_s14, mkR_g15, mkR_l15, mkR_n15, mkR_s15, mkR_g16, mkR_p16, mkR_g17, mkR_l17, mkR_n17, mkR_s17, mkR_t17, mkR_f17, mkR_g18, mkR_l18, mkR_n18, mkR_s18, mkR_t18, mkR_f18, mkR_g19, mkR_l19, mkR_n19, mkR_s19, mkR_g20, mkR_l20, mkR_n20, mkR_s20, mkR_g21, mkR_l21, mkR_n21, mkR_s21, mkR_g22, mkR_p22, mkR_g23, mkR_p23, mkR_g24, mkR_p24, mkR_g25, mkR_l25, mkR_n25, mkR_s25, mkR_g26, mkR_l26, mkR_n26, mkR_s26, mkR_g27, mkR_l27, mkR_n27, mkR_s27, mkR_g28, mkR_p28, mkR_g29, mkR_p29, mkR_g30, mkR_l30, mkR_n30, mkR_s30, mkR_g31, mkR_p31, mkR_g32, mkR_l32, mkR_n32, mkR_s32, mkR_g33, mkR_l33, mkR_n33, mkR_s33, mkR_g34, mkR_l34, mkR_n34, mkR_s34, mkR_t34, mkR_f34, mkR_g35, mkR_l35, mkR_n35, mkR_s35, mkR_g36, mkR_l36, mkR_n36, mkR_s36, mkR_g37, mkR_l37, mkR_n37, mkR_s37, mkR_g38, mkR_l38, mkR_n38, mkR_s38, mkR_g39, mkR_l39, mkR_n39, mkR_s39, mkR_g40, mkR_l40, mkR_n40, mkR_s40, mkR_g41, mkR_l41, mkR_n41, mkR_s41, ic, b1, b2]
        exact (e544 _).trans e1
      · have := e3 j hj
        refine ⟨this.1.trans ?_, this.2.trans ?_⟩
        · show upd (A 7) _ _ j = A 7 j
          rw [pk_un (by omega)]
        · show upd (A 8) _ _ j = A 8 j
          rw [pk_un (by omega)]
theorem l_rfin2 (hT : WFT T) (hU : WFT U) {K : JS} {t : Nat} {w : Nat} (hw : w < 3) (hI3 : I 3 = nI t) (hon : onI U ia ib < 6) (ht : t < 6) (ha : ia < t) (hb : ib < t) (g : JI T U (9 * K.1) K) : ∀ (m k : Nat) (A : Nat → Nat → Int32), k + m = K.1 → isT A ia T → isT A ib U → A 5 (onI U ia ib) = nI (jrg T U) → RJ A (jrg T U) (9 * K.1) K → NWz A t (9 * k) K → (∀ j, j < 6 → A 6 (6 * t + j) = bI (decide (j < k) && gdw w (T.2.2.2 (K.2.1 j / 6)) (U.2.2.2 (K.2.1 j % 6)))) → ∃ A', run (d + 2) mt_128 336 [some (.ref a), some (.int (nI ia)), some (.int (nI ib)), some (.int (nI w)), some (.int (nI (onI U ia ib))), some (.int (nI K.1)), some (.int (nI t)), some (.int (nI k)), none, none, none, none, none] [] (mkR h a I A) = some (some (.int (nI t)), mkR h a (upd I 3 (nI (t + 1))) A') ∧ NWz A' t (9 * K.1) K ∧ (∀ j, j < 6 → A' 6 (6 * t + j) = bI (jgd T U w K j)) ∧ (∀ j, ¬ (54 * t ≤ j ∧ j < 54 * t + 54) → A' 7 j = A 7 j ∧ A' 8 j = A 8 j) ∧ (∀ j, ¬ (6 * t ≤ j ∧ j < 6 * t + 6) → A' 6 j = A 6 j) ∧ (∀ k, k ∉ [6, 7, 8] → A' k = A k) := by
  have n6 := g.2.1
  have rT := hT.2.2.1
  have rU := hU.2.2.1
  have rg2 : jrg T U ≤ 2 := by unfold jrg; omega
  intro m
  induction m with
  | zero =>
    intro k A hk iT iU a5 r nw hg
    have : k = K.1 := by omega
    subst this
    refine ⟨A, ?_, nw, hg, fun _ _ => ⟨rfl, rfl⟩, fun _ _ => rfl, fun _ _ => rfl⟩
    rw [nd_128_336 (St_run (d + 2) mt_128)]
    simp (disch := omega) only [↓L_m4, ↓L_m1, L_0, L_1, L_2, L_3, L_4, L_5, L_6, L_8, L_9, L_15, L_20, L_30, L_40, L_54, L_60, L_120, L_1872, L_4320, L_22500, le_t, le_f, lt_t, lt_f, eq_t, eq_f, eq_NO, NO_eq, NO_neg, MO_neg, bI_0, nI_add, pk_mul, pk_ds, rem_, nI_MO, nI_0MO, ↓reduceIte, eq_self, reduceCtorEq, Bool.true_eq_false, Bool.false_eq_true, isZn0, isZn1, isZb, bind_some', rI_some, rV_some, rQ_some, rQ_null, updA_at, updA_ne, pk_us, pk_un, ne_eq, not_false_eq_true, Nat.reduceEqDiff, updA_updA, Nat.reduceSub, Nat.reduceAdd, Nat.reduceMul, Nat.reduceDiv, Nat.zero_add, Nat.add_zero, mkR_o, mkR_g0, mkR_p0, mkR_g1, mkR_l1, mkR_n1, mkR_s1, mkR_g2, mkR_l2, mkR_n2, mkR_s2, mkR_g3, mkR_p3, mkR_g4, mkR_l4, mkR_n4, mkR_s4, mkR_g5, mkR_l5, mkR_n5, mkR_s5, mkR_g6, mkR_l6, mkR_n6, mkR_s6, mkR_t6, mkR_f6, mkR_g7, mkR_l7, mkR_n7, mkR_s7, mkR_g8, mkR_l8, mkR_n8, mkR_s8, mkR_g9, mkR_l9, mkR_n9, mkR_s9, mkR_g10, mkR_l10, mkR_n10, mkR_s10, mkR_g11, mkR_l11, mkR_n11, mkR_s11, mkR_g12, mkR_p12, mkR_g13, mkR_l13, mkR_n13, mkR_s13, mkR_t13, mkR_f13, mkR_g14, mkR_l14, mkR_n14, mkR_s14, mkR_g15, mkR_l15, mkR_n15, mkR_s15, mkR_g16, mkR_p16, mkR_g17, mkR_l17, mkR_n17, mkR_s17, mkR_t17, mkR_f17, mkR_g18, mkR_l18, mkR_n18, mkR_s18, mkR_t18, mkR_f18, mkR_g19, mkR_l19, mkR_n19, mkR_s19, mkR_g20, mkR_l20, mkR_n20, mkR_s20, mkR_g21, mkR_l21, mkR_n21, mkR_s21, mkR_g22, mkR_p22, mkR_g23, mkR_p23, mkR_g24, mkR_p24, mkR_g25, mkR_l25, mkR_n25, mkR_s25, mkR_g26, mkR_l26, mkR_n26, mkR_s26, mkR_g27, mkR_l27, mkR_n27, mkR_s27, mkR_g28, mkR_p28, mkR_g29, mkR_p29, mkR_g30, mkR_l30, mkR_n30, mkR_s30, mkR_g31, mkR_p31, mkR_g32, mkR_l32, mkR_n32, mkR_s32, mkR_g33, mkR_l33, mkR_n33, mkR_s33, mkR_g34, mkR_l34, mkR_n34, mkR_s34, mkR_t34, mkR_f34, mkR_g35, mkR_l35, mkR_n35, mkR_s35, mkR_g36, mkR_l36, mkR_n36, mkR_s36, mkR_g37, mkR_l37, mkR_n37, mkR_s37, mkR_g38, mkR_l38, mkR_n38, mkR_s38, mkR_g39, mkR_l39, mkR_n39, mkR_s39, mkR_g40, mkR_l40, mkR_n40, mkR_s40, mkR_g41, mkR_l41, mkR_n41, mkR_s41, hI3]
  | succ m ih =>
    intro k A hk iT iU a5 r nw hg
    have hkK : k < K.1 := by omega
    have gk := g.2.2.1 k hkK
    have t6 := hT.2.1
    have u6 := hU.2.1
    have q36 : K.2.1 k < 36 := by omega
    have a9 := r.1 k hkK
    have gA := iT.g (i := 6 * ia + K.2.1 k / 6) (j := K.2.1 k / 6) (by omega) rfl
    have gB := iU.g (i := 6 * ib + K.2.1 k % 6) (j := K.2.1 k % 6) (by omega) rfl
    -- the good one
    have h456 : ∀ x : Bool, run (d + 2) mt_128 456 [some (.ref a), some (.int (nI ia)), some (.int (nI ib)), some (.int (nI w)), some (.int (nI (onI U ia ib))), some (.int (nI K.1)), some (.int (nI t)), some (.int (nI k)), none, none, none, none, none] [.int (bI x), .int (nI (6 * t + k)), .ref (a + 5)] (mkR h a I A) = run (d + 2) mt_128 460 [some (.ref a), some (.int (nI ia)), some (.int (nI ib)), some (.int (nI w)), some (.int (nI (onI U ia ib))), some (.int (nI K.1)), some (.int (nI t)), some (.int (nI k)), none, none, some (.int (nI 0)), none, none] [] (mkR h a I (updA A 6 (upd (A 6) (6 * t + k) (bI x)))) := fun x => by
      rw [nd_128_456 (St_run (d + 2) mt_128), mkR_s6 _ _ _ _ (by omega)]
      rfl
    have head : run (d + 2) mt_128 336 [some (.ref a), some (.int (nI ia)), some (.int (nI ib)), some (.int (nI w)), some (.int (nI (onI U ia ib))), some (.int (nI K.1)), some (.int (nI t)), some (.int (nI k)), none, none, none, none, none] [] (mkR h a I A) = run (d + 2) mt_128 460 [some (.ref a), some (.int (nI ia)), some (.int (nI ib)), some (.int (nI w)), some (.int (nI (onI U ia ib))), some (.int (nI K.1)), some (.int (nI t)), some (.int (nI k)), none, none, some (.int (nI 0)), none, none] [] (mkR h a I (updA A 6 (upd (A 6) (6 * t + k) (bI (gdw w (T.2.2.2 (K.2.1 k / 6)) (U.2.2.2 (K.2.1 k % 6))))))) := by
      rw [← h456, nd_128_336 (St_run (d + 2) mt_128)]
      have x0 : ∀ z y : Int32, bI false = nI 0 := fun _ _ => rfl
      have x1 : bI true = nI 1 := rfl
      cases hu : T.2.2.2 (K.2.1 k / 6) <;> cases hv : U.2.2.2 (K.2.1 k % 6) <;> rw [hu] at gA <;> rw [hv] at gB <;> rcases (show w = 0 ∨ w = 1 ∨ w = 2 by omega) with rfl | rfl | rfl <;> simp (disch := omega) only [nd_128_417 (St_run (d + 2) mt_128), nd_128_436 (St_run (d + 2) mt_128), ↓L_m4, ↓L_m1, L_0, L_1, L_2, L_3, L_4, L_5, L_6, L_8, L_9, L_15, L_20, L_30, L_40, L_54, L_60, L_120, L_1872, L_4320, L_22500, le_t, le_f, lt_t, lt_f, eq_t, eq_f, eq_NO, NO_eq, NO_neg, MO_neg, bI_0, nI_add, pk_mul, pk_ds, rem_, nI_MO, nI_0MO, ↓reduceIte, eq_self, reduceCtorEq, Bool.true_eq_false, Bool.false_eq_true, isZn0, isZn1, isZb, bind_some', rI_some, rV_some, rQ_some, rQ_null, updA_at, updA_ne, pk_us, pk_un, ne_eq, not_false_eq_true, Nat.reduceEqDiff, updA_updA, Nat.reduceSub, Nat.reduceAdd, Nat.reduceMul, Nat.reduceDiv, Nat.zero_add, Nat.add_zero, mkR_o, mkR_g0, mkR_p0, mkR_g1, mkR_l1, mkR_n1, mkR_s1, mkR_g2, mkR_l2, mkR_n2, mkR_s2, mkR_g3, mkR_p3, mkR_g4, mkR_l4, mkR_n4, mkR_s4, mkR_g5, mkR_l5, mkR_n5, mkR_s5, mkR_g6, mkR_l6, mkR_n6, mkR_s6, mkR_t6, mkR_f6, mkR_g7, mkR_l7, mkR_n7, mkR_s7, mkR_g8, mkR_l8, mkR_n8, mkR_s8, mkR_g9, mkR_l9, mkR_n9, mkR_s9, mkR_g10, mkR_l10, mkR_n10, mkR_s10, mkR_g11, mkR_l11, mkR_n11, mkR_s11, mkR_g12, mkR_p12, mkR_g13, mkR_l13, mkR_n13, mkR_s13, mkR_t13, mkR_f13, mkR_g14, mkR_l14, mkR_n14, mkR_s14, mkR_g15, mkR_l15, mkR_n15, mkR_s15, mkR_g16, mkR_p16, mkR_g17, mkR_l17, mkR_n17, mkR_s17, mkR_t17, mkR_f17, mkR_g18, mkR_l18, mkR_n18, mkR_s18, mkR_t18, mkR_f18, mkR_g19, mkR_l19, mkR_n19, mkR_s19, mkR_g20, mkR_l20, mkR_n20, mkR_s20, mkR_g21, mkR_l21, mkR_n21, mkR_s21, mkR_g22, mkR_p22, mkR_g23, mkR_p23, mkR_g24, mkR_p24, mkR_g25, mkR_l25, mkR_n25, mkR_s25, mkR_g26, mkR_l26, mkR_n26, mkR_s26, mkR_g27, mkR_l27, mkR_n27, mkR_s27, mkR_g28, mkR_p28, mkR_g29, mkR_p29, mkR_g30, mkR_l30, mkR_n30, mkR_s30, mkR_g31, mkR_p31, mkR_g32, mkR_l32, mkR_n32, mkR_s32, mkR_g33, mkR_l33, mkR_n33, mkR_s33, mkR_g34, mkR_l34, mkR_n34, mkR_s34, mkR_t34, mkR_f34, mkR_g35, mkR_l35, mkR_n35, mkR_s35, mkR_g36, mkR_l36, mkR_n36, mkR_s36, mkR_g37, mkR_l37, mkR_n37, mkR_s37, mkR_g38, mkR_l38, mkR_n38, mkR_s38, mkR_g39, mkR_l39, mkR_n39, mkR_s39, mkR_g40, mkR_l40, mkR_n40, mkR_s40, mkR_g41, mkR_l41, mkR_n41, mkR_s41, a9, gA, gB, bI_eq] <;> rfl
    have p6 : frT A (updA A 6 (upd (A 6) (6 * t + k) (bI (gdw w (T.2.2.2 (K.2.1 k / 6)) (U.2.2.2 (K.2.1 k % 6)))))) t := ⟨fun _ _ => ⟨rfl, rfl⟩, fun j hj => by rw [updA_at, pk_un (by omega)], fun _ _ => ⟨rfl, rfl⟩⟩
    obtain ⟨A1, e1, e2, e3, e4⟩ := l_rfin1 (d := d) (a := a) (h := h) (I := I) (x1 := nI ia) (x2 := nI ib) (x3 := nI w) hon rg2 ht hkK n6 (fun y hy => g.2.2.2.1 y (Or.inr hy)) 9 0 (updA A 6 (upd (A 6) (6 * t + k) (bI (gdw w (T.2.2.2 (K.2.1 k / 6)) (U.2.2.2 (K.2.1 k % 6)))))) rfl a5 r.2 nw
    have p7 : frT (updA A 6 (upd (A 6) (6 * t + k) (bI (gdw w (T.2.2.2 (K.2.1 k / 6)) (U.2.2.2 (K.2.1 k % 6)))))) A1 t := ⟨fun m hm => ⟨by rw [e4 4 (by decide) (by decide)], by rw [e4 5 (by decide) (by decide)]⟩, fun j hj => by rw [e4 6 (by decide) (by decide)], e3⟩
    have p8 := p6.tr p7
    have e9 : A1 9 = A 9 := e4 9 (by decide) (by decide)
    have e10 : A1 10 = A 10 := e4 10 (by decide) (by decide)
    have e11 : A1 11 = A 11 := e4 11 (by decide) (by decide)
    obtain ⟨A2, f1, f2, f3, f4, f5, f6⟩ := ih (k + 1) A1 (by omega) (iT.ot p8 (by omega)) (iU.ot p8 (by omega)) (by rw [e4 5 (by decide) (by decide)]; exact a5) (by
      unfold RJ
      rw [e9, e10, e11]
      exact r) e2 (fun j hj => by
      rw [e4 6 (by decide) (by decide), updA_at]
      by_cases e : j = k
      · rw [e, pk_us, decide_eq_true (show k < k + 1 by omega), Bool.true_and]
      · rw [pk_un (by omega), hg j hj]
        by_cases e2 : j < k
        · rw [decide_eq_true e2, decide_eq_true (show j < k + 1 by omega)]
        · rw [decide_eq_false e2, decide_eq_false (show ¬ j < k + 1 by omega), Bool.false_and])
    refine ⟨A2, (head.trans e1).trans f1, f2, f3, fun j hj => ⟨(f4 j hj).1.trans (p8.2.2 j hj).1, (f4 j hj).2.trans (p8.2.2 j hj).2⟩, fun j hj => (f5 j hj).trans (p8.2.1 j hj), fun k hk => ?_⟩
    rw [f6 k hk, e4 k (fun e => hk (by simp [e])) (fun e => hk (by simp [e])), updA_ne (fun e => hk (by simp [e]))]
/-- both(a, b, way): its answer -/
theorem R_both {A : Nat → Nat → Int32} {t : Nat} {w : Nat} (hT : WFT T) (hU : WFT U) (h0 : T.1.2 = 0 ∨ U.1.2 = 0) (hw : w < 3) (ht : t ≤ 6) (ha : ia < t) (hb : ib < t) (h3 : I 3 = nI t) (iT : isT A ia T) (iU : isT A ib U) : (jall T U 7 0 J0 = none → ∃ A', call (d + 3) 128 [.ref a, .int (nI ia), .int (nI ib), .int (nI w)] (mkR h a I A) = some (some (.int (-2)), mkR h a I A') ∧ fra I I A A' [] [9, 10, 11]) ∧ (∀ K, jall T U 7 0 J0 = some K → (t = 6 → ∃ A', call (d + 3) 128 [.ref a, .int (nI ia), .int (nI ib), .int (nI w)] (mkR h a I A) = some (some (.int (-3)), mkR h a I A') ∧ fra I I A A' [] [9, 10, 11]) ∧ (t < 6 → ∃ A', call (d + 3) 128 [.ref a, .int (nI ia), .int (nI ib), .int (nI w)] (mkR h a I A) = some (some (.int (nI t)), mkR h a (upd I 3 (nI (t + 1))) A') ∧ isT A' t (jTM T U w K) ∧ frT A A' t ∧ (∀ k, k ∉ [4, 5, 6, 7, 8, 9, 10, 11] → A' k = A k))) := by
  have rT := hT.2.2.1
  have rU := hU.2.2.1
  obtain ⟨o1, o2, o3⟩ := on_ok hT hU iT iU h0
  have on6 : onI U ia ib < 6 := by unfold onI; split <;> omega
  have p0 : fra I I A (updA A 9 (upd (A 9) 0 (nI 0))) [] [9, 10, 11] := (fra.rf _ _ _ _).w _ (by decide)
  obtain ⟨l1, l2⟩ := l_rall (d := d) (a := a) (h := h) (I := I) hT hU h0 (show ia < 6 by omega) (show ib < 6 by omega) (nI w) 7 0 (updA A 9 (upd (A 9) 0 (nI 0))) J0 rfl (iT.fa p0 (by decide)) (iU.fa p0 (by decide)) (J0_JI hT hU) (Nat.zero_le _) ⟨fun j hj => (by
    have : j = 0 := by dsimp only [J0] at hj; omega
    subst this
    rfl), fun y hy => by omega⟩
  have e0 : call (d + 3) 128 [.ref a, .int (nI ia), .int (nI ib), .int (nI w)] (mkR h a I A) = run (d + 2) mt_128 80 [some (.ref a), some (.int (nI ia)), some (.int (nI ib)), some (.int (nI w)), some (.int (nI (onI U ia ib))), some (.int (nI J0.1)), some (.int (nI 0)), none, none, none, none, none, none] [] (mkR h a I (updA A 9 (upd (A 9) 0 (nI 0)))) := by
    have v1 : v_in (nI ia) (nI t - 1) = 1 := v_in_ok (by omega) ha
    have v2 : v_in (nI ib) (nI t - 1) = 1 := v_in_ok (by omega) hb
    have v3 : v_in (nI w) 2 = 1 := by rcases (show w = 0 ∨ w = 1 ∨ w = 2 by omega) with rfl | rfl | rfl <;> decide
    have i1 := R_isMachine (d := d) (a := a) (h := h) (I := I) (A := A) (nI ia)
    have i2 := R_isMachine (d := d) (a := a) (h := h) (I := I) (A := A) (nI ib)
    rw [h3, v1] at i1
    rw [h3, v2] at i2
    have i3 : call (d + 2) 107 [.long (nI w).toInt64, .long 0, .long 2] (mkR h a I A) = some (some (.int 1), mkR h a I A) := by rw [show (2 : Int64) = (2 : Int32).toInt64 from by decide, m_in0, v3]
    have a5 := iT.2.1
    have b5 := iU.2.1
    have e51 : run (d + 2) mt_128 51 [some (.ref a), some (.int (nI ia)), some (.int (nI ib)), some (.int (nI w)), none, none, none, none, none, none, none, none, none] [] (mkR h a I A) = run (d + 2) mt_128 80 [some (.ref a), some (.int (nI ia)), some (.int (nI ib)), some (.int (nI w)), some (.int (nI (onI U ia ib))), some (.int (nI J0.1)), some (.int (nI 0)), none, none, none, none, none, none] [] (mkR h a I (updA A 9 (upd (A 9) 0 (nI 0)))) := by
      rw [nd_128_51 (St_run (d + 2) mt_128)]
      unfold onI
      by_cases z : 0 < U.1.2
      · rw [if_pos z]
        simp (disch := omega) only [nd_128_65 (St_run (d + 2) mt_128), ↓L_m4, ↓L_m1, L_0, L_1, L_2, L_3, L_4, L_5, L_6, L_8, L_9, L_15, L_20, L_30, L_40, L_54, L_60, L_120, L_1872, L_4320, L_22500, le_t, le_f, lt_t, lt_f, eq_t, eq_f, eq_NO, NO_eq, NO_neg, MO_neg, bI_0, nI_add, pk_mul, pk_ds, rem_, nI_MO, nI_0MO, ↓reduceIte, eq_self, reduceCtorEq, Bool.true_eq_false, Bool.false_eq_true, isZn0, isZn1, isZb, bind_some', rI_some, rV_some, rQ_some, rQ_null, updA_at, updA_ne, pk_us, pk_un, ne_eq, not_false_eq_true, Nat.reduceEqDiff, updA_updA, Nat.reduceSub, Nat.reduceAdd, Nat.reduceMul, Nat.reduceDiv, Nat.zero_add, Nat.add_zero, mkR_o, mkR_g0, mkR_p0, mkR_g1, mkR_l1, mkR_n1, mkR_s1, mkR_g2, mkR_l2, mkR_n2, mkR_s2, mkR_g3, mkR_p3, mkR_g4, mkR_l4, mkR_n4, mkR_s4, mkR_g5, mkR_l5, mkR_n5, mkR_s5, mkR_g6, mkR_l6, mkR_n6, mkR_s6, mkR_t6, mkR_f6, mkR_g7, mkR_l7, mkR_n7, mkR_s7, mkR_g8, mkR_l8, mkR_n8, mkR_s8, mkR_g9, mkR_l9, mkR_n9, mkR_s9, mkR_g10, mkR_l10, mkR_n10, mkR_s10, mkR_g11, mkR_l11, mkR_n11, mkR_s11, mkR_g12, mkR_p12, mkR_g13, mkR_l13, mkR_n13, mkR_s13, mkR_t13, mkR_f13, mkR_g14, mkR_l14, mkR_n14, mkR_s14, mkR_g15, mkR_l15, mkR_n15, mkR_s15, mkR_g16, mkR_p16, mkR_g17, mkR_l17, mkR_n17, mkR_s17, mkR_t17, mkR_f17, mkR_g18, mkR_l18, mkR_n18, mkR_s18, mkR_t18, mkR_f18, mkR_g19, mkR_l19, mkR_n19, mkR_s19, mkR_g20, mkR_l20, mkR_n20, mkR_s20, mkR_g21, mkR_l21, mkR_n21, mkR_s21, mkR_g22, mkR_p22, mkR_g23, mkR_p23, mkR_g24, mkR_p24, mkR_g25, mkR_l25, mkR_n25, mkR_s25, mkR_g26, mkR_l26, mkR_n26, mkR_s26, mkR_g27, mkR_l27, mkR_n27, mkR_s27, mkR_g28, mkR_p28, mkR_g29, mkR_p29, mkR_g30, mkR_l30, mkR_n30, mkR_s30, mkR_g31, mkR_p31, mkR_g32, mkR_l32, mkR_n32, mkR_s32, mkR_g33, mkR_l33, mkR_n33, mkR_s33, mkR_g34, mkR_l34, mkR_n34, mkR_s34, mkR_t34, mkR_f34, mkR_g35, mkR_l35, mkR_n35, mkR_s35, mkR_g36, mkR_l36, mkR_n36, mkR_s36, mkR_g37, mkR_l37, mkR_n37, mkR_s37, mkR_g38, mkR_l38, mkR_n38, mkR_s38, mkR_g39, mkR_l39, mkR_n39, mkR_s39, mkR_g40, mkR_l40, mkR_n40, mkR_s40, mkR_g41, mkR_l41, mkR_n41, mkR_s41, b5]
        rfl
      · rw [if_neg z]
        have z0 : U.1.2 = 0 := by omega
        rw [z0] at b5
        simp (disch := omega) only [nd_128_65 (St_run (d + 2) mt_128), ↓L_m4, ↓L_m1, L_0, L_1, L_2, L_3, L_4, L_5, L_6, L_8, L_9, L_15, L_20, L_30, L_40, L_54, L_60, L_120, L_1872, L_4320, L_22500, le_t, le_f, lt_t, lt_f, eq_t, eq_f, eq_NO, NO_eq, NO_neg, MO_neg, bI_0, nI_add, pk_mul, pk_ds, rem_, nI_MO, nI_0MO, ↓reduceIte, eq_self, reduceCtorEq, Bool.true_eq_false, Bool.false_eq_true, isZn0, isZn1, isZb, bind_some', rI_some, rV_some, rQ_some, rQ_null, updA_at, updA_ne, pk_us, pk_un, ne_eq, not_false_eq_true, Nat.reduceEqDiff, updA_updA, Nat.reduceSub, Nat.reduceAdd, Nat.reduceMul, Nat.reduceDiv, Nat.zero_add, Nat.add_zero, mkR_o, mkR_g0, mkR_p0, mkR_g1, mkR_l1, mkR_n1, mkR_s1, mkR_g2, mkR_l2, mkR_n2, mkR_s2, mkR_g3, mkR_p3, mkR_g4, mkR_l4, mkR_n4, mkR_s4, mkR_g5, mkR_l5, mkR_n5, mkR_s5, mkR_g6, mkR_l6, mkR_n6, mkR_s6, mkR_t6, mkR_f6, mkR_g7, mkR_l7, mkR_n7, mkR_s7, mkR_g8, mkR_l8, mkR_n8, mkR_s8, mkR_g9, mkR_l9, mkR_n9, mkR_s9, mkR_g10, mkR_l10, mkR_n10, mkR_s10, mkR_g11, mkR_l11, mkR_n11, mkR_s11, mkR_g12, mkR_p12, mkR_g13, mkR_l13, mkR_n13, mkR_s13, mkR_t13, mkR_f13, mkR_g14, mkR_l14, mkR_n14, mkR_s14, mkR_g15, mkR_l15, mkR_n15, mkR_s15, mkR_g16, mkR_p16, mkR_g17, mkR_l17, mkR_n17, mkR_s17, mkR_t17, mkR_f17, mkR_g18, mkR_l18, mkR_n18, mkR_s18, mkR_t18, mkR_f18, mkR_g19, mkR_l19, mkR_n19, mkR_s19, mkR_g20, mkR_l20, mkR_n20, mkR_s20, mkR_g21, mkR_l21, mkR_n21, mkR_s21, mkR_g22, mkR_p22, mkR_g23, mkR_p23, mkR_g24, mkR_p24, mkR_g25, mkR_l25, mkR_n25, mkR_s25, mkR_g26, mkR_l26, mkR_n26, mkR_s26, mkR_g27, mkR_l27, mkR_n27, mkR_s27, mkR_g28, mkR_p28, mkR_g29, mkR_p29, mkR_g30, mkR_l30, mkR_n30, mkR_s30, mkR_g31, mkR_p31, mkR_g32, mkR_l32, mkR_n32, mkR_s32, mkR_g33, mkR_l33, mkR_n33, mkR_s33, mkR_g34, mkR_l34, mkR_n34, mkR_s34, mkR_t34, mkR_f34, mkR_g35, mkR_l35, mkR_n35, mkR_s35, mkR_g36, mkR_l36, mkR_n36, mkR_s36, mkR_g37, mkR_l37, mkR_n37, mkR_s37, mkR_g38, mkR_l38, mkR_n38, mkR_s38, mkR_g39, mkR_l39, mkR_n39, mkR_s39, mkR_g40, mkR_l40, mkR_n40, mkR_s40, mkR_g41, mkR_l41, mkR_n41, mkR_s41, b5]
        rfl
    rw [call_at mt_128 [some (.ref a), some (.int (nI ia)), some (.int (nI ib)), some (.int (nI w)), none, none, none, none, none, none, none, none, none] rfl rfl rfl, nd_128_0 (St_run (d + 2) mt_128), mkR_o, i1, bind_some', rI_some, if_neg (by decide), mkR_o, i2, bind_some', rI_some, if_neg (by decide), i3, bind_some', rI_some, if_neg (by decide)]
    rw [e51]
    by_cases zT : T.1.2 = 0
    · rw [zT] at a5
      simp (disch := omega) only [↓L_m4, ↓L_m1, L_0, L_1, L_2, L_3, L_4, L_5, L_6, L_8, L_9, L_15, L_20, L_30, L_40, L_54, L_60, L_120, L_1872, L_4320, L_22500, le_t, le_f, lt_t, lt_f, eq_t, eq_f, eq_NO, NO_eq, NO_neg, MO_neg, bI_0, nI_add, pk_mul, pk_ds, rem_, nI_MO, nI_0MO, ↓reduceIte, eq_self, reduceCtorEq, Bool.true_eq_false, Bool.false_eq_true, isZn0, isZn1, isZb, bind_some', rI_some, rV_some, rQ_some, rQ_null, updA_at, updA_ne, pk_us, pk_un, ne_eq, not_false_eq_true, Nat.reduceEqDiff, updA_updA, Nat.reduceSub, Nat.reduceAdd, Nat.reduceMul, Nat.reduceDiv, Nat.zero_add, Nat.add_zero, mkR_o, mkR_g0, mkR_p0, mkR_g1, mkR_l1, mkR_n1, mkR_s1, mkR_g2, mkR_l2, mkR_n2, mkR_s2, mkR_g3, mkR_p3, mkR_g4, mkR_l4, mkR_n4, mkR_s4, mkR_g5, mkR_l5, mkR_n5, mkR_s5, mkR_g6, mkR_l6, mkR_n6, mkR_s6, mkR_t6, mkR_f6, mkR_g7, mkR_l7, mkR_n7, mkR_s7, mkR_g8, mkR_l8, mkR_n8, mkR_s8, mkR_g9, mkR_l9, mkR_n9, mkR_s9, mkR_g10, mkR_l10, mkR_n10, mkR_s10, mkR_g11, mkR_l11, mkR_n11, mkR_s11, mkR_g12, mkR_p12, mkR_g13, mkR_l13, mkR_n13, mkR_s13, mkR_t13, mkR_f13, mkR_g14, mkR_l14, mkR_n14, mkR_s14, mkR_g15, mkR_l15, mkR_n15, mkR_s15, mkR_g16, mkR_p16, mkR_g17, mkR_l17, mkR_n17, mkR_s17, mkR_t17, mkR_f17, mkR_g18, mkR_l18, mkR_n18, mkR_s18, mkR_t18, mkR_f18, mkR_g19, mkR_l19, mkR_n19, mkR_s19, mkR_g20, mkR_l20, mkR_n20, mkR_s20, mkR_g21, mkR_l21, mkR_n21, mkR_s21, mkR_g22, mkR_p22, mkR_g23, mkR_p23, mkR_g24, mkR_p24, mkR_g25, mkR_l25, mkR_n25, mkR_s25, mkR_g26, mkR_l26, mkR_n26, mkR_s26, mkR_g27, mkR_l27, mkR_n27, mkR_s27, mkR_g28, mkR_p28, mkR_g29, mkR_p29, mkR_g30, mkR_l30, mkR_n30, mkR_s30, mkR_g31, mkR_p31, mkR_g32, mkR_l32, mkR_n32, mkR_s32, mkR_g33, mkR_l33, mkR_n33, mkR_s33, mkR_g34, mkR_l34, mkR_n34, mkR_s34, mkR_t34, mkR_f34, mkR_g35, mkR_l35, mkR_n35, mkR_s35, mkR_g36, mkR_l36, mkR_n36, mkR_s36, mkR_g37, mkR_l37, mkR_n37, mkR_s37, mkR_g38, mkR_l38, mkR_n38, mkR_s38, mkR_g39, mkR_l39, mkR_n39, mkR_s39, mkR_g40, mkR_l40, mkR_n40, mkR_s40, mkR_g41, mkR_l41, mkR_n41, mkR_s41, a5]
    · have zU : U.1.2 = 0 := by omega
      rw [zU] at b5
      simp (disch := omega) only [↓L_m4, ↓L_m1, L_0, L_1, L_2, L_3, L_4, L_5, L_6, L_8, L_9, L_15, L_20, L_30, L_40, L_54, L_60, L_120, L_1872, L_4320, L_22500, le_t, le_f, lt_t, lt_f, eq_t, eq_f, eq_NO, NO_eq, NO_neg, MO_neg, bI_0, nI_add, pk_mul, pk_ds, rem_, nI_MO, nI_0MO, ↓reduceIte, eq_self, reduceCtorEq, Bool.true_eq_false, Bool.false_eq_true, isZn0, isZn1, isZb, bind_some', rI_some, rV_some, rQ_some, rQ_null, updA_at, updA_ne, pk_us, pk_un, ne_eq, not_false_eq_true, Nat.reduceEqDiff, updA_updA, Nat.reduceSub, Nat.reduceAdd, Nat.reduceMul, Nat.reduceDiv, Nat.zero_add, Nat.add_zero, mkR_o, mkR_g0, mkR_p0, mkR_g1, mkR_l1, mkR_n1, mkR_s1, mkR_g2, mkR_l2, mkR_n2, mkR_s2, mkR_g3, mkR_p3, mkR_g4, mkR_l4, mkR_n4, mkR_s4, mkR_g5, mkR_l5, mkR_n5, mkR_s5, mkR_g6, mkR_l6, mkR_n6, mkR_s6, mkR_t6, mkR_f6, mkR_g7, mkR_l7, mkR_n7, mkR_s7, mkR_g8, mkR_l8, mkR_n8, mkR_s8, mkR_g9, mkR_l9, mkR_n9, mkR_s9, mkR_g10, mkR_l10, mkR_n10, mkR_s10, mkR_g11, mkR_l11, mkR_n11, mkR_s11, mkR_g12, mkR_p12, mkR_g13, mkR_l13, mkR_n13, mkR_s13, mkR_t13, mkR_f13, mkR_g14, mkR_l14, mkR_n14, mkR_s14, mkR_g15, mkR_l15, mkR_n15, mkR_s15, mkR_g16, mkR_p16, mkR_g17, mkR_l17, mkR_n17, mkR_s17, mkR_t17, mkR_f17, mkR_g18, mkR_l18, mkR_n18, mkR_s18, mkR_t18, mkR_f18, mkR_g19, mkR_l19, mkR_n19, mkR_s19, mkR_g20, mkR_l20, mkR_n20, mkR_s20, mkR_g21, mkR_l21, mkR_n21, mkR_s21, mkR_g22, mkR_p22, mkR_g23, mkR_p23, mkR_g24, mkR_p24, mkR_g25, mkR_l25, mkR_n25, mkR_s25, mkR_g26, mkR_l26, mkR_n26, mkR_s26, mkR_g27, mkR_l27, mkR_n27, mkR_s27, mkR_g28, mkR_p28, mkR_g29, mkR_p29, mkR_g30, mkR_l30, mkR_n30, mkR_s30, mkR_g31, mkR_p31, mkR_g32, mkR_l32, mkR_n32, mkR_s32, mkR_g33, mkR_l33, mkR_n33, mkR_s33, mkR_g34, mkR_l34, mkR_n34, mkR_s34, mkR_t34, mkR_f34, mkR_g35, mkR_l35, mkR_n35, mkR_s35, mkR_g36, mkR_l36, mkR_n36, mkR_s36, mkR_g37, mkR_l37, mkR_n37, mkR_s37, mkR_g38, mkR_l38, mkR_n38, mkR_s38, mkR_g39, mkR_l39, mkR_n39, mkR_s39, mkR_g40, mkR_l40, mkR_n40, mkR_s40, mkR_g41, mkR_l41, mkR_n41, mkR_s41, a5, b5]
  rw [e0]
  refine ⟨fun hK => ?_, fun K hK => ?_⟩
  · obtain ⟨A', z1, z2⟩ := l2 hK
    exact ⟨A', z1, p0.tr z2⟩
  · obtain ⟨A1, z1, z2, z3⟩ := l1 K hK
    have g := jall_ok hT hU 7 0 J0 K rfl (J0_JI hT hU) (Nat.zero_le _) hK
    have p1 := p0.tr z3
    refine ⟨fun h6 => ⟨A1, ?_, p1⟩, fun h6 => ?_⟩
    · rw [z1, nd_128_80 (St_run (d + 2) mt_128)]
      rw [h6] at h3
      have n6 := g.2.1
      simp (disch := omega) only [↓L_m4, ↓L_m1, L_0, L_1, L_2, L_3, L_4, L_5, L_6, L_8, L_9, L_15, L_20, L_30, L_40, L_54, L_60, L_120, L_1872, L_4320, L_22500, le_t, le_f, lt_t, lt_f, eq_t, eq_f, eq_NO, NO_eq, NO_neg, MO_neg, bI_0, nI_add, pk_mul, pk_ds, rem_, nI_MO, nI_0MO, ↓reduceIte, eq_self, reduceCtorEq, Bool.true_eq_false, Bool.false_eq_true, isZn0, isZn1, isZb, bind_some', rI_some, rV_some, rQ_some, rQ_null, updA_at, updA_ne, pk_us, pk_un, ne_eq, not_false_eq_true, Nat.reduceEqDiff, updA_updA, Nat.reduceSub, Nat.reduceAdd, Nat.reduceMul, Nat.reduceDiv, Nat.zero_add, Nat.add_zero, mkR_o, mkR_g0, mkR_p0, mkR_g1, mkR_l1, mkR_n1, mkR_s1, mkR_g2, mkR_l2, mkR_n2, mkR_s2, mkR_g3, mkR_p3, mkR_g4, mkR_l4, mkR_n4, mkR_s4, mkR_g5, mkR_l5, mkR_n5, mkR_s5, mkR_g6, mkR_l6, mkR_n6, mkR_s6, mkR_t6, mkR_f6, mkR_g7, mkR_l7, mkR_n7, mkR_s7, mkR_g8, mkR_l8, mkR_n8, mkR_s8, mkR_g9, mkR_l9, mkR_n9, mkR_s9, mkR_g10, mkR_l10, mkR_n10, mkR_s10, mkR_g11, mkR_l11, mkR_n11, mkR_s11, mkR_g12, mkR_p12, mkR_g13, mkR_l13, mkR_n13, mkR_s13, mkR_t13, mkR_f13, mkR_g14, mkR_l14, mkR_n14, mkR_s14, mkR_g15, mkR_l15, mkR_n15, mkR_s15, mkR_g16, mkR_p16, mkR_g17, mkR_l17, mkR_n17, mkR_s17, mkR_t17, mkR_f17, mkR_g18, mkR_l18, mkR_n18, mkR_s18, mkR_t18, mkR_f18, mkR_g19, mkR_l19, mkR_n19, mkR_s19, mkR_g20, mkR_l20, mkR_n20, mkR_s20, mkR_g21, mkR_l21, mkR_n21, mkR_s21, mkR_g22, mkR_p22, mkR_g23, mkR_p23, mkR_g24, mkR_p24, mkR_g25, mkR_l25, mkR_n25, mkR_s25, mkR_g26, mkR_l26, mkR_n26, mkR_s26, mkR_g27, mkR_l27, mkR_n27, mkR_s27, mkR_g28, mkR_p28, mkR_g29, mkR_p29, mkR_g30, mkR_l30, mkR_n30, mkR_s30, mkR_g31, mkR_p31, mkR_g32, mkR_l32, mkR_n32, mkR_s32, mkR_g33, mkR_l33, mkR_n33, mkR_s33, mkR_g34, mkR_l34, mkR_n34, mkR_s34, mkR_t34, mkR_f34, mkR_g35, mkR_l35, mkR_n35, mkR_s35, mkR_g36, mkR_l36, mkR_n36, mkR_s36, mkR_g37, mkR_l37, mkR_n37, mkR_s37, mkR_g38, mkR_l38, mkR_n38, mkR_s38, mkR_g39, mkR_l39, mkR_n39, mkR_s39, mkR_g40, mkR_l40, mkR_n40, mkR_s40, mkR_g41, mkR_l41, mkR_n41, mkR_s41, h3]
    · have n6 := g.2.1
      have c5 : A1 5 (onI U ia ib) = nI (jrg T U) := by rw [p1.2 5 (by decide)]; exact o1
      obtain ⟨A2, f1, f2⟩ := R_begins (d := d + 1) (a := a) (h := h) (I := I) (A := A1) t h6 (nI K.1) (nI (jrg T U))
      have iT1 := (iT.fa p1 (by decide)).ot f2.fr (show ia ≠ t by omega)
      have iU1 := (iU.fa p1 (by decide)).ot f2.fr (show ib ≠ t by omega)
      have fr2 := f2.fr
      obtain ⟨s1, s4, s5, s6, s7, s8⟩ := f2
      have ont : onI U ia ib ≠ t := by unfold onI; split <;> omega
      obtain ⟨A3, y1, y2, y3, y4, y5, y6⟩ := l_rfin2 (d := d) (a := a) (h := h) (I := I) hT hU hw h3 on6 h6 ha hb g K.1 0 A2 (by omega) iT1 iU1 (by rw [s5, pk_un ont]; exact c5) (by
        unfold RJ
        rw [← s1 9 (by decide), ← s1 10 (by decide), ← s1 11 (by decide)]
        exact z2) (fun y hy => by
        have hin : 54 * t ≤ 54 * t + y ∧ 54 * t + y < 54 * t + 54 := by omega
        have hno : ¬ y < 9 * 0 := by omega
        rw [s7, s8, if_pos hin, if_pos hin, if_neg hno, if_neg hno]
        refine ⟨?_, rfl⟩
        congr 1
        omega) (fun j hj => by
        rw [s6, if_pos (by omega)]
        rfl)
      refine ⟨A3, ?_, ⟨?_, ?_, fun j hj => ?_, fun j hj => ?_, y3⟩, ⟨fun m hm => ?_, fun j hj => ?_, fun j hj => ?_⟩, fun k hk => ?_⟩
      · rw [z1, nd_128_80 (St_run (d + 2) mt_128)]
        simp (disch := omega) only [↓L_m4, ↓L_m1, L_0, L_1, L_2, L_3, L_4, L_5, L_6, L_8, L_9, L_15, L_20, L_30, L_40, L_54, L_60, L_120, L_1872, L_4320, L_22500, le_t, le_f, lt_t, lt_f, eq_t, eq_f, eq_NO, NO_eq, NO_neg, MO_neg, bI_0, nI_add, pk_mul, pk_ds, rem_, nI_MO, nI_0MO, ↓reduceIte, eq_self, reduceCtorEq, Bool.true_eq_false, Bool.false_eq_true, isZn0, isZn1, isZb, bind_some', rI_some, rV_some, rQ_some, rQ_null, updA_at, updA_ne, pk_us, pk_un, ne_eq, not_false_eq_true, Nat.reduceEqDiff, updA_updA, Nat.reduceSub, Nat.reduceAdd, Nat.reduceMul, Nat.reduceDiv, Nat.zero_add, Nat.add_zero, mkR_o, mkR_g0, mkR_p0, mkR_g1, mkR_l1, mkR_n1, mkR_s1, mkR_g2, mkR_l2, mkR_n2, mkR_s2, mkR_g3, mkR_p3, mkR_g4, mkR_l4, mkR_n4, mkR_s4, mkR_g5, mkR_l5, mkR_n5, mkR_s5, mkR_g6, mkR_l6, mkR_n6, mkR_s6, mkR_t6, mkR_f6, mkR_g7, mkR_l7, mkR_n7, mkR_s7, mkR_g8, mkR_l8, mkR_n8, mkR_s8, mkR_g9, mkR_l9, mkR_n9, mkR_s9, mkR_g10, mkR_l10, mkR_n10, mkR_s10, mkR_g11, mkR_l11, mkR_n11, mkR_s11, mkR_g12, mkR_p12, mkR_g13, mkR_l13, mkR_n13, mkR_s13, mkR_t13, mkR_f13, mkR_g14, mkR_l14, mkR_n14, mkR_s14, mkR_g15, mkR_l15, mkR_n15, mkR_s15, mkR_g16, mkR_p16, mkR_g17, mkR_l17, mkR_n17, mkR_s17, mkR_t17, mkR_f17, mkR_g18, mkR_l18, mkR_n18, mkR_s18, mkR_t18, mkR_f18, mkR_g19, mkR_l19, mkR_n19, mkR_s19, mkR_g20, mkR_l20, mkR_n20, mkR_s20, mkR_g21, mkR_l21, mkR_n21, mkR_s21, mkR_g22, mkR_p22, mkR_g23, mkR_p23, mkR_g24, mkR_p24, mkR_g25, mkR_l25, mkR_n25, mkR_s25, mkR_g26, mkR_l26, mkR_n26, mkR_s26, mkR_g27, mkR_l27, mkR_n27, mkR_s27, mkR_g28, mkR_p28, mkR_g29, mkR_p29, mkR_g30, mkR_l30, mkR_n30, mkR_s30, mkR_g31, mkR_p31, mkR_g32, mkR_l32, mkR_n32, mkR_s32, mkR_g33, mkR_l33, mkR_n33, mkR_s33, mkR_g34, mkR_l34, mkR_n34, mkR_s34, mkR_t34, mkR_f34, mkR_g35, mkR_l35, mkR_n35, mkR_s35, mkR_g36, mkR_l36, mkR_n36, mkR_s36, mkR_g37, mkR_l37, mkR_n37, mkR_s37, mkR_g38, mkR_l38, mkR_n38, mkR_s38, mkR_g39, mkR_l39, mkR_n39, mkR_s39, mkR_g40, mkR_l40, mkR_n40, mkR_s40, mkR_g41, mkR_l41, mkR_n41, mkR_s41, h3, c5, f1]
        exact y1
      · rw [y6 4 (by decide), s4, pk_us]; rfl
      · rw [y6 5 (by decide), s5, pk_us]; rfl
      · have := (y2 j hj).1
        by_cases e : j < 9 * K.1
        · rw [if_pos e] at this; exact this
        · rw [if_neg e] at this
          rw [this, ← (g.2.2.2.1 j (Or.inl (by omega))).1]
          rfl
      · have := (y2 j hj).2
        by_cases e : j < 9 * K.1
        · rw [if_pos e] at this; exact this
        · rw [if_neg e] at this
          rw [this, ← (g.2.2.2.1 j (Or.inl (by omega))).2]
          rfl
      · rw [y6 4 (by decide), y6 5 (by decide), (fr2.1 m hm).1, (fr2.1 m hm).2, p1.2 4 (by decide), p1.2 5 (by decide)]
        exact ⟨rfl, rfl⟩
      · rw [y5 j hj, fr2.2.1 j hj, p1.2 6 (by decide)]
      · rw [(y4 j hj).1, (y4 j hj).2, (fr2.2.2 j hj).1, (fr2.2.2 j hj).2, p1.2 7 (by decide), p1.2 8 (by decide)]
        exact ⟨rfl, rfl⟩
      · rw [y6 k (fun e => hk (by revert e; simp; omega)), ← s1 k (fun e => hk (by revert e; simp; omega)), p1.2 k (fun e => hk (by revert e; simp; omega))]
end RK
