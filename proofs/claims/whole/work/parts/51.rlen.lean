/-! ===== the reference: lengthOf, atOf, findAlive ===== -/
theorem fw_lt {p : Nat → Bool} : ∀ {m i e : Nat}, fw p m i = some e → i ≤ e ∧ e < i + m ∧ p e = true
  | 0, i, e, h => by cases h
  | m + 1, i, e, h => by
    unfold fw at h
    by_cases hp : p i = true
    · rw [if_pos hp] at h
      cases h
      exact ⟨Nat.le_refl _, by omega, hp⟩
    · rw [if_neg hp] at h
      have := fw_lt h
      exact ⟨by omega, by omega, this.2.2⟩
theorem fw_none {p : Nat → Bool} : ∀ {m i : Nat}, fw p m i = none ↔ ∀ j, i ≤ j → j < i + m → p j = false
  | 0, i => ⟨fun _ j h1 h2 => by omega, fun _ => rfl⟩
  | m + 1, i => by
    unfold fw
    by_cases hp : p i = true
    · rw [if_pos hp]
      constructor
      · intro e; cases e
      · intro h; have := h i (Nat.le_refl _) (by omega); rw [hp] at this; cases this
    · rw [if_neg hp, fw_none (m := m)]
      constructor
      · intro h j h1 h2
        by_cases hj : j = i
        · rw [hj]; simpa using hp
        · exact h j (by omega) (by omega)
      · intro h j h1 h2
        exact h j (by omega) (by omega)
/-- how long the least row is -/
def lenF (T U : TM) : Option Nat := (wF T U).map (wn (bF T U))
theorem wF_lt {T U : TM} {e : Nat} (h : wF T U = some e) : e < (bF T U).1 := by
  have := fw_lt h
  omega
theorem v_in_NO (x : Int32) : v_in x (NO - 1) = 0 := by
  unfold v_in
  by_cases h : x < 0
  · rw [if_pos h]
  · rw [if_neg h, if_pos]
    have h1 : NO - 1 < 0 := by decide
    have h2 : 0 ≤ x := Int32.not_lt.mp h
    exact Int32.lt_of_lt_of_le h1 h2
section RL
variable {d a : Nat} {h : AH}
theorem R_lengthOf {m0 : Nat} {b : Int32} {T U : TM} {I : Nat → Int32} {A : Nat → Nat → Int32} (hT : WFT T) (hm : m0 < 6) (hU : WFT U) (iT : isT A m0 T) (iU : isTo A b U) : ∃ I' A', call (d + 6) 147 [.ref a, .int (nI m0), .int b] (mkR h a I A) = some (some (.int (oI (lenF T U))), mkR h a I' A') ∧ RB I' A' (bF T U) ∧ (∀ e, wF T U = some e → ∀ j, j < wn (bF T U) e → A' 27 j = nI (wX (bF T U) e (j + 1))) ∧ fra I I' A A' [22, 23, 24] [17, 19, 20, 21, 25, 26, 27] := by
  have g := bF_GB hT hU
  obtain ⟨I1, A1, e1, e2, e3⟩ := R_wanted (d := d) (a := a) (h := h) (I := I) (A := A) hT hm hU iT iU
  have e3' := e3.sub (js' := [22, 23, 24]) (ks' := [17, 19, 20, 21, 25, 26, 27]) (by decide) (by decide)
  rw [call_at mt_147 [some (.ref a), some (.int (nI m0)), some (.int b), none] rfl rfl rfl, nd_147_0 (St_run (d + 5) mt_147)]
  unfold lenF
  cases hw : wF T U with
  | none =>
    rw [hw] at e1
    refine ⟨I1, A1, ?_, e2, fun e he => (by cases he), e3'⟩
    have e1' : call (d + 5) 143 [.ref a, .int (nI m0), .int b] (mkR h a I A) = some (some (.int NO), mkR h a I1 A1) := e1
    simp (disch := omega) only [nd_147_23 (St_run (d + 5) mt_147), ↓L_m4, ↓L_m1, L_0, L_1, L_2, L_3, L_4, L_5, L_6, L_8, L_9, L_15, L_20, L_30, L_40, L_54, L_60, L_120, L_1872, L_4320, L_22500, le_t, le_f, lt_t, lt_f, eq_t, eq_f, eq_NO, NO_eq, NO_neg, MO_neg, bI_0, nI_add, pk_mul, pk_ds, rem_, nI_MO, nI_0MO, ↓reduceIte, eq_self, reduceCtorEq, Bool.true_eq_false, Bool.false_eq_true, isZn0, isZn1, isZb, bind_some', rI_some, rV_some, rQ_some, rQ_null, updA_at, updA_ne, pk_us, pk_un, ne_eq, not_false_eq_true, Nat.reduceEqDiff, updA_updA, Nat.reduceSub, Nat.reduceAdd, Nat.reduceMul, Nat.reduceDiv, Nat.zero_add, Nat.add_zero, mkR_o, mkR_g0, mkR_p0, mkR_g1, mkR_l1, mkR_n1, mkR_s1, mkR_g2, mkR_l2, mkR_n2, mkR_s2, mkR_g3, mkR_p3, mkR_g4, mkR_l4, mkR_n4, mkR_s4, mkR_g5, mkR_l5, mkR_n5, mkR_s5, mkR_g6, mkR_l6, mkR_n6, mkR_s6, mkR_t6, mkR_f6, mkR_g7, mkR_l7, mkR_n7, mkR_s7, mkR_g8, mkR_l8, mkR_n8, mkR_s8, mkR_g9, mkR_l9, mkR_n9, mkR_s9, mkR_g10, mkR_l10, mkR_n10, mkR_s10, mkR_g11, mkR_l11, mkR_n11, mkR_s11, mkR_g12, mkR_p12, mkR_g13, mkR_l13, mkR_n13, mkR_s13, mkR_t13, mkR_f13, mkR_g14, mkR_l14, mkR_n14, mkR_s14, mkR_g15, mkR_l15, mkR_n15, mkR_s15, mkR_g16, mkR_p16, mkR_g17, mkR_l17, mkR_n17, mkR_s17, mkR_t17, mkR_f17, mkR_g18, mkR_l18, mkR_n18, mkR_s18, mkR_t18, mkR_f18, mkR_g19, mkR_l19, mkR_n19, mkR_s19, mkR_g20, mkR_l20, mkR_n20, mkR_s20, mkR_g21, mkR_l21, mkR_n21, mkR_s21, mkR_g22, mkR_p22, mkR_g23, mkR_p23, mkR_g24, mkR_p24, mkR_g25, mkR_l25, mkR_n25, mkR_s25, mkR_g26, mkR_l26, mkR_n26, mkR_s26, mkR_g27, mkR_l27, mkR_n27, mkR_s27, mkR_g28, mkR_p28, mkR_g29, mkR_p29, mkR_g30, mkR_l30, mkR_n30, mkR_s30, mkR_g31, mkR_p31, mkR_g32, mkR_l32, mkR_n32, mkR_s32, mkR_g33, mkR_l33, mkR_n33, mkR_s33, mkR_g34, mkR_l34, mkR_n34, mkR_s34, mkR_t34, mkR_f34, mkR_g35, mkR_l35, mkR_n35, mkR_s35, mkR_g36, mkR_l36, mkR_n36, mkR_s36, mkR_g37, mkR_l37, mkR_n37, mkR_s37, mkR_g38, mkR_l38, mkR_n38, mkR_s38, mkR_g39, mkR_l39, mkR_n39, mkR_s39, mkR_g40, mkR_l40, mkR_n40, mkR_s40, mkR_g41, mkR_l41, mkR_n41, mkR_s41, e1']
    rfl
  | some e =>
    rw [hw] at e1
    have he := wF_lt hw
    have hn := GB_most hT hU g
    obtain ⟨A2, f1, f2, f3⟩ := R_lines (d := d + 4) (a := a) (h := h) hT hU g e2 e he
    refine ⟨I1, A2, ?_, e2.fa f3 (by decide) (by decide), fun e' he' => (by cases he'; exact f2), e3'.tr (f3.sub (by decide) (by decide))⟩
    have e1' : call (d + 5) 143 [.ref a, .int (nI m0), .int b] (mkR h a I A) = some (some (.int (nI e)), mkR h a I1 A1) := e1
    simp (disch := omega) only [nd_147_23 (St_run (d + 5) mt_147), ↓L_m4, ↓L_m1, L_0, L_1, L_2, L_3, L_4, L_5, L_6, L_8, L_9, L_15, L_20, L_30, L_40, L_54, L_60, L_120, L_1872, L_4320, L_22500, le_t, le_f, lt_t, lt_f, eq_t, eq_f, eq_NO, NO_eq, NO_neg, MO_neg, bI_0, nI_add, pk_mul, pk_ds, rem_, nI_MO, nI_0MO, ↓reduceIte, eq_self, reduceCtorEq, Bool.true_eq_false, Bool.false_eq_true, isZn0, isZn1, isZb, bind_some', rI_some, rV_some, rQ_some, rQ_null, updA_at, updA_ne, pk_us, pk_un, ne_eq, not_false_eq_true, Nat.reduceEqDiff, updA_updA, Nat.reduceSub, Nat.reduceAdd, Nat.reduceMul, Nat.reduceDiv, Nat.zero_add, Nat.add_zero, mkR_o, mkR_g0, mkR_p0, mkR_g1, mkR_l1, mkR_n1, mkR_s1, mkR_g2, mkR_l2, mkR_n2, mkR_s2, mkR_g3, mkR_p3, mkR_g4, mkR_l4, mkR_n4, mkR_s4, mkR_g5, mkR_l5, mkR_n5, mkR_s5, mkR_g6, mkR_l6, mkR_n6, mkR_s6, mkR_t6, mkR_f6, mkR_g7, mkR_l7, mkR_n7, mkR_s7, mkR_g8, mkR_l8, mkR_n8, mkR_s8, mkR_g9, mkR_l9, mkR_n9, mkR_s9, mkR_g10, mkR_l10, mkR_n10, mkR_s10, mkR_g11, mkR_l11, mkR_n11, mkR_s11, mkR_g12, mkR_p12, mkR_g13, mkR_l13, mkR_n13, mkR_s13, mkR_t13, mkR_f13, mkR_g14, mkR_l14, mkR_n14, mkR_s14, mkR_g15, mkR_l15, mkR_n15, mkR_s15, mkR_g16, mkR_p16, mkR_g17, mkR_l17, mkR_n17, mkR_s17, mkR_t17, mkR_f17, mkR_g18, mkR_l18, mkR_n18, mkR_s18, mkR_t18, mkR_f18, mkR_g19, mkR_l19, mkR_n19, mkR_s19, mkR_g20, mkR_l20, mkR_n20, mkR_s20, mkR_g21, mkR_l21, mkR_n21, mkR_s21, mkR_g22, mkR_p22, mkR_g23, mkR_p23, mkR_g24, mkR_p24, mkR_g25, mkR_l25, mkR_n25, mkR_s25, mkR_g26, mkR_l26, mkR_n26, mkR_s26, mkR_g27, mkR_l27, mkR_n27, mkR_s27, mkR_g28, mkR_p28, mkR_g29, mkR_p29, mkR_g30, mkR_l30, mkR_n30, mkR_s30, mkR_g31, mkR_p31, mkR_g32, mkR_l32, mkR_n32, mkR_s32, mkR_g33, mkR_l33, mkR_n33, mkR_s33, mkR_g34, mkR_l34, mkR_n34, mkR_s34, mkR_t34, mkR_f34, mkR_g35, mkR_l35, mkR_n35, mkR_s35, mkR_g36, mkR_l36, mkR_n36, mkR_s36, mkR_g37, mkR_l37, mkR_n37, mkR_s37, mkR_g38, mkR_l38, mkR_n38, mkR_s38, mkR_g39, mkR_l39, mkR_n39, mkR_s39, mkR_g40, mkR_l40, mkR_n40, mkR_s40, mkR_g41, mkR_l41, mkR_n41, mkR_s41, e1', f1]
    rfl
/-- letter and name of place i of the least row -/
def LLo (B : BS) (o : Option Nat) (i : Nat) : Nat := match o with
  | some e => wL B e i
  | none => 0
def NNo (T U : TM) (B : BS) (o : Option Nat) (i : Nat) : Nat := match o with
  | some e => tlx T U (wC B e) (wL B e) (wV B e) i
  | none => 0
theorem LLo_s (B : BS) (e i : Nat) : LLo B (some e) i = wL B e i := rfl
theorem NNo_s (T U : TM) (B : BS) (e i : Nat) : NNo T U B (some e) i = tlx T U (wC B e) (wL B e) (wV B e) i := rfl
def LLf (T U : TM) (i : Nat) : Nat := LLo (bF T U) (wF T U) i
def NNf (T U : TM) (i : Nat) : Nat := NNo T U (bF T U) (wF T U) i
theorem R_atOf1 {m0 : Nat} {b : Int32} {T U : TM} {I : Nat → Int32} {A : Nat → Nat → Int32} {B : BS} (hT : WFT T) (hm : m0 < 6) (hU : WFT U) (g : GB T U B) {e n i : Nat} (he : e < B.1) (hn : wn B e = n) (hi : i < n) (w : Nat) (hw2 : w < 2) (e1 : ∃ I1 A1, call (d + 6) 147 [.ref a, .int (nI m0), .int b] (mkR h a I A) = some (some (.int (nI n)), mkR h a I1 A1) ∧ RB I1 A1 B ∧ isT A1 m0 T ∧ isTo A1 b U ∧ (∀ j, j < n → A1 27 j = nI (wX B e (j + 1))) ∧ fra I I1 A A1 [22, 23, 24] [17, 19, 20, 21, 25, 26, 27]) : ∃ I' A', call (d + 7) 148 [.ref a, .int (nI m0), .int b, .int (nI i), .int (nI w)] (mkR h a I A) = some (some (.int (if w = 0 then nI (wL B e i) else nI (tlx T U (wC B e) (wL B e) (wV B e) i))), mkR h a I' A') ∧ fra I I' A A' [22, 23, 24, 28, 29] [17, 19, 20, 21, 25, 26, 27, 30] := by
  have h1872 := GB_most hT hU g
  obtain ⟨I1, A1, e1, e2, iT, iU, e3, e4⟩ := e1
  have hle := (wX_ok g he).2.2.1
  obtain ⟨I2, A2, f1, f2, f3, f4⟩ := R_tells (d := d + 3) (a := a) (h := h) hT hm hU g e he i (by omega) iT iU e2 (fun j hj => e3 j (by omega))
  have v1 : v_in (nI i) (nI n - 1) = 1 := v_in_ok (by omega) hi
  have v2 : v_in (nI w) 1 = 1 := by rcases (show w = 0 ∨ w = 1 by omega) with rfl | rfl <;> decide
  have i1 : call (d + 6) 107 [.long (nI i).toInt64, .long 0, .long (nI n - 1).toInt64] (mkR h a I1 A1) = some (some (.int 1), mkR h a I1 A1) := by rw [m_in0, v1]
  have i2 : call (d + 6) 107 [.long (nI w).toInt64, .long 0, .long 1] (mkR h a I1 A1) = some (some (.int 1), mkR h a I1 A1) := by rw [show (1 : Int64) = (1 : Int32).toInt64 from by decide, m_in0, v2]
  refine ⟨I2, A2, ?_, (e4.sub (by decide) (by decide)).tr (f4.sub (by decide) (by decide))⟩
  rw [call_at mt_148 [some (.ref a), some (.int (nI m0)), some (.int b), some (.int (nI i)), some (.int (nI w)), none] rfl rfl rfl, nd_148_0 (St_run (d + 6) mt_148), mkR_o, e1, bind_some', rI_some, i1, bind_some', rI_some, if_neg (by decide), i2, bind_some', rI_some, if_neg (by decide), mkR_o, f1, bind_some', rV_some, mkR_g28, mkR_g29, nd_148_58 (St_run (d + 6) mt_148), nd_148_58 (St_run (d + 6) mt_148), f2, f3]
  rcases (show w = 0 ∨ w = 1 by omega) with rfl | rfl
  · rw [if_pos (show nI 0 = 0 from rfl), if_pos (show 0 = 0 from rfl)]
  · rw [if_neg (show ¬ nI 1 = 0 by decide), if_neg (show ¬ 1 = 0 by decide)]
theorem lenF_some {T U : TM} {n : Nat} (hn : lenF T U = some n) : ∃ e, wF T U = some e ∧ wn (bF T U) e = n := by
  unfold lenF at hn
  cases hw : wF T U with
  | none => rw [hw] at hn; cases hn
  | some e =>
    rw [hw] at hn
    exact ⟨e, rfl, Option.some.inj hn⟩
theorem LLf_of {T U : TM} {e : Nat} (hw : wF T U = some e) (i : Nat) : LLf T U i = wL (bF T U) e i := by unfold LLf; rw [hw, LLo_s]
theorem NNf_of {T U : TM} {e : Nat} (hw : wF T U = some e) (i : Nat) : NNf T U i = tlx T U (wC (bF T U) e) (wL (bF T U) e) (wV (bF T U) e) i := by unfold NNf; rw [hw, NNo_s]
theorem R_atOf {m0 : Nat} {b : Int32} {T U : TM} {I : Nat → Int32} {A : Nat → Nat → Int32} (hT : WFT T) (hm : m0 < 6) (hU : WFT U) (iT : isT A m0 T) (iU : isTo A b U) {n i : Nat} (hn : lenF T U = some n) (hi : i < n) (w : Nat) (hw2 : w < 2) : ∃ I' A', call (d + 7) 148 [.ref a, .int (nI m0), .int b, .int (nI i), .int (nI w)] (mkR h a I A) = some (some (.int (if w = 0 then nI (LLf T U i) else nI (NNf T U i))), mkR h a I' A') ∧ fra I I' A A' [22, 23, 24, 28, 29] [17, 19, 20, 21, 25, 26, 27, 30] := by
  have g := bF_GB hT hU
  obtain ⟨e, hw, hwn⟩ := lenF_some hn
  obtain ⟨I1, A1, e1, e2, e3, e4⟩ := R_lengthOf (d := d) (a := a) (h := h) (I := I) (A := A) hT hm hU iT iU
  rw [hn] at e1
  rw [LLf_of hw, NNf_of hw]
  refine R_atOf1 (B := bF T U) hT hm hU g (wF_lt hw) hwn hi w hw2 ⟨I1, A1, e1, e2, iT.fa e4 (by decide), iU.fa e4 (by decide), fun j hj => e3 e hw j (by rw [hwn]; exact hj), e4⟩
theorem R_atOf_bad {m0 : Nat} {b : Int32} {T U : TM} {I : Nat → Int32} {A : Nat → Nat → Int32} (hT : WFT T) (hm : m0 < 6) (hU : WFT U) (iT : isT A m0 T) (iU : isTo A b U) (x y : Int32) (hb : (∀ n i, lenF T U = some n → i < n → x ≠ nI i) ∨ v_in y 1 = 0) : ∃ I' A', call (d + 7) 148 [.ref a, .int (nI m0), .int b, .int x, .int y] (mkR h a I A) = some (some (.int (-1)), mkR h a I' A') ∧ fra I I' A A' [22, 23, 24, 28, 29] [17, 19, 20, 21, 25, 26, 27, 30] := by
  have g := bF_GB hT hU
  have h1872 := GB_most hT hU g
  obtain ⟨I1, A1, e1, e2, e3, e4⟩ := R_lengthOf (d := d) (a := a) (h := h) (I := I) (A := A) hT hm hU iT iU
  refine ⟨I1, A1, ?_, e4.sub (by decide) (by decide)⟩
  have hx : v_in x (oI (lenF T U) - 1) = 0 ∨ v_in y 1 = 0 := by
    rcases hb with hb | hb
    · left
      cases hn : lenF T U with
      | none => exact v_in_NO x
      | some n =>
        have hn5 : n < 2 ^ 30 := by
          unfold lenF at hn
          cases hw : wF T U with
          | none => rw [hw] at hn; cases hn
          | some e =>
            rw [hw] at hn
            have hn' : wn (bF T U) e = n := Option.some.inj hn
            have he := wF_lt hw
            have hle := (wX_ok g he).2.2.1
            omega
        rcases v_in_cases x n hn5 with ⟨j, h1, h2, h3⟩ | ⟨h1, h2⟩
        · exact absurd h2 (hb n j hn h1)
        · exact h1
    · exact Or.inr hb
  rw [call_at mt_148 [some (.ref a), some (.int (nI m0)), some (.int b), some (.int x), some (.int y), none] rfl rfl rfl, nd_148_0 (St_run (d + 6) mt_148), mkR_o, e1, bind_some', rI_some, m_in0, bind_some', rI_some, show (1 : Int64) = (1 : Int32).toInt64 from by decide, m_in0, bind_some', rI_some, nd_148_33 (St_run (d + 6) mt_148)]
  by_cases h1 : v_in x (oI (lenF T U) - 1) = 0
  · rw [if_pos h1]
  · rw [if_neg h1, if_pos (hx.resolve_left h1)]
/-! findAlive -/
theorem l_lo1 {m0 : Nat} {T : TM} (hT : WFT T) (hm : m0 < 6) (i l : Nat) (hi : i < (bF T T0).1) (hl : l < 3) {S : Nat → Bool} : ∀ (m v : Nat) (I : Nat → Int32) (A : Nat → Nat → Int32) (is : Bool), v + m = top ((bF T T0).2.1 i) + 2 → 1 ≤ v → isT A m0 T → (∀ j, j < (bF T T0).1 → A 18 ((bF T T0).2.1 j) = bI (S j)) → ∃ I' A' is', run (d + 3) mt_150 21 [some (.ref a), some (.int (nI m0)), some (.int (nI ((bF T T0).2.1 i))), some (.int (nI (top ((bF T T0).2.1 i)))), some (.int (bI is)), some (.int (nI l)), some (.int (nI v))] [] (mkR h a I A) = run (d + 3) mt_150 12 [some (.ref a), some (.int (nI m0)), some (.int (nI ((bF T T0).2.1 i))), some (.int (nI (top ((bF T T0).2.1 i)))), some (.int (bI is')), some (.int (nI (l + 1))), none] [] (mkR h a I' A') ∧ (is' = true ↔ is = true ∨ ∃ w j, v ≤ w ∧ w ≤ top ((bF T T0).2.1 i) + 1 ∧ j < (bF T T0).1 ∧ (bF T T0).2.1 j = chd T T0 ((bF T T0).2.1 i) l w ∧ S j = true) ∧ fra I I' A A' [23, 24] [25, 26] := by
  have g := bF_GB hT T0_wf
  have vc := g.2.2.1 i hi
  have ht := top_le vc
  have hc := vc.1
  have hz := T0_vd vc
  intro m
  induction m with
  | zero =>
    intro v I A is hv h1 iT hA
    refine ⟨I, A, is, ?_, ⟨fun e => Or.inl e, fun e => e.elim id (fun ⟨w, j, h1, h2, _⟩ => by omega)⟩, fra.rf _ _ _ _⟩
    rw [nd_150_21 (St_run (d + 3) mt_150)]
    simp (disch := omega) only [↓L_m4, ↓L_m1, L_0, L_1, L_2, L_3, L_4, L_5, L_6, L_8, L_9, L_15, L_20, L_30, L_40, L_54, L_60, L_120, L_1872, L_4320, L_22500, le_t, le_f, lt_t, lt_f, eq_t, eq_f, eq_NO, NO_eq, NO_neg, MO_neg, bI_0, nI_add, pk_mul, pk_ds, rem_, nI_MO, nI_0MO, ↓reduceIte, eq_self, reduceCtorEq, Bool.true_eq_false, Bool.false_eq_true, isZn0, isZn1, isZb, bind_some', rI_some, rV_some, rQ_some, rQ_null, updA_at, updA_ne, pk_us, pk_un, ne_eq, not_false_eq_true, Nat.reduceEqDiff, updA_updA, Nat.reduceSub, Nat.reduceAdd, Nat.reduceMul, Nat.reduceDiv, Nat.zero_add, Nat.add_zero, mkR_o, mkR_g0, mkR_p0, mkR_g1, mkR_l1, mkR_n1, mkR_s1, mkR_g2, mkR_l2, mkR_n2, mkR_s2, mkR_g3, mkR_p3, mkR_g4, mkR_l4, mkR_n4, mkR_s4, mkR_g5, mkR_l5, mkR_n5, mkR_s5, mkR_g6, mkR_l6, mkR_n6, mkR_s6, mkR_t6, mkR_f6, mkR_g7, mkR_l7, mkR_n7, mkR_s7, mkR_g8, mkR_l8, mkR_n8, mkR_s8, mkR_g9, mkR_l9, mkR_n9, mkR_s9, mkR_g10, mkR_l10, mkR_n10, mkR_s10, mkR_g11, mkR_l11, mkR_n11, mkR_s11, mkR_g12, mkR_p12, mkR_g13, mkR_l13, mkR_n13, mkR_s13, mkR_t13, mkR_f13, mkR_g14, mkR_l14, mkR_n14, mkR_s14, mkR_g15, mkR_l15, mkR_n15, mkR_s15, mkR_g16, mkR_p16, mkR_g17, mkR_l17, mkR_n17, mkR_s17, mkR_t17, mkR_f17, mkR_g18, mkR_l18, mkR_n18, mkR_s18, mkR_t18, mkR_f18, mkR_g19, mkR_l19, mkR_n19, mkR_s19, mkR_g20, mkR_l20, mkR_n20, mkR_s20, mkR_g21, mkR_l21, mkR_n21, mkR_s21, mkR_g22, mkR_p22, mkR_g23, mkR_p23, mkR_g24, mkR_p24, mkR_g25, mkR_l25, mkR_n25, mkR_s25, mkR_g26, mkR_l26, mkR_n26, mkR_s26, mkR_g27, mkR_l27, mkR_n27, mkR_s27, mkR_g28, mkR_p28, mkR_g29, mkR_p29, mkR_g30, mkR_l30, mkR_n30, mkR_s30, mkR_g31, mkR_p31, mkR_g32, mkR_l32, mkR_n32, mkR_s32, mkR_g33, mkR_l33, mkR_n33, mkR_s33, mkR_g34, mkR_l34, mkR_n34, mkR_s34, mkR_t34, mkR_f34, mkR_g35, mkR_l35, mkR_n35, mkR_s35, mkR_g36, mkR_l36, mkR_n36, mkR_s36, mkR_g37, mkR_l37, mkR_n37, mkR_s37, mkR_g38, mkR_l38, mkR_n38, mkR_s38, mkR_g39, mkR_l39, mkR_n39, mkR_s39, mkR_g40, mkR_l40, mkR_n40, mkR_s40, mkR_g41, mkR_l41, mkR_n41, mkR_s41]
  | succ m ih =>
    intro v I A is hv h1 iT hA
    obtain ⟨j, hj, ej⟩ := bF_closed hT T0_wf hi hl h1 (show v ≤ top ((bF T T0).2.1 i) + 1 by omega)
    cases is with
    | true =>
      obtain ⟨I', A', is', e1, e2, e3⟩ := ih (v + 1) I A true (by omega) (by omega) iT hA
      refine ⟨I', A', is', ?_, e2.trans ⟨fun _ => Or.inl rfl, fun _ => Or.inl rfl⟩, e3⟩
      rw [nd_150_21 (St_run (d + 3) mt_150)]
      simp (disch := omega) only [nd_150_58 (St_run (d + 3) mt_150), nd_150_63 (St_run (d + 3) mt_150), ↓L_m4, ↓L_m1, L_0, L_1, L_2, L_3, L_4, L_5, L_6, L_8, L_9, L_15, L_20, L_30, L_40, L_54, L_60, L_120, L_1872, L_4320, L_22500, le_t, le_f, lt_t, lt_f, eq_t, eq_f, eq_NO, NO_eq, NO_neg, MO_neg, bI_0, nI_add, pk_mul, pk_ds, rem_, nI_MO, nI_0MO, ↓reduceIte, eq_self, reduceCtorEq, Bool.true_eq_false, Bool.false_eq_true, isZn0, isZn1, isZb, bind_some', rI_some, rV_some, rQ_some, rQ_null, updA_at, updA_ne, pk_us, pk_un, ne_eq, not_false_eq_true, Nat.reduceEqDiff, updA_updA, Nat.reduceSub, Nat.reduceAdd, Nat.reduceMul, Nat.reduceDiv, Nat.zero_add, Nat.add_zero, mkR_o, mkR_g0, mkR_p0, mkR_g1, mkR_l1, mkR_n1, mkR_s1, mkR_g2, mkR_l2, mkR_n2, mkR_s2, mkR_g3, mkR_p3, mkR_g4, mkR_l4, mkR_n4, mkR_s4, mkR_g5, mkR_l5, mkR_n5, mkR_s5, mkR_g6, mkR_l6, mkR_n6, mkR_s6, mkR_t6, mkR_f6, mkR_g7, mkR_l7, mkR_n7, mkR_s7, mkR_g8, mkR_l8, mkR_n8, mkR_s8, mkR_g9, mkR_l9, mkR_n9, mkR_s9, mkR_g10, mkR_l10, mkR_n10, mkR_s10, mkR_g11, mkR_l11, mkR_n11, mkR_s11, mkR_g12, mkR_p12, mkR_g13, mkR_l13, mkR_n13, mkR_s13, mkR_t13, mkR_f13, mkR_g14, mkR_l14, mkR_n14, mkR_s14, mkR_g15, mkR_l15, mkR_n15, mkR_s15, mkR_g16, mkR_p16, mkR_g17, mkR_l17, mkR_n17, mkR_s17, mkR_t17, mkR_f17, mkR_g18, mkR_l18, mkR_n18, mkR_s18, mkR_t18, mkR_f18, mkR_g19, mkR_l19, mkR_n19, mkR_s19, mkR_g20, mkR_l20, mkR_n20, mkR_s20, mkR_g21, mkR_l21, mkR_n21, mkR_s21, mkR_g22, mkR_p22, mkR_g23, mkR_p23, mkR_g24, mkR_p24, mkR_g25, mkR_l25, mkR_n25, mkR_s25, mkR_g26, mkR_l26, mkR_n26, mkR_s26, mkR_g27, mkR_l27, mkR_n27, mkR_s27, mkR_g28, mkR_p28, mkR_g29, mkR_p29, mkR_g30, mkR_l30, mkR_n30, mkR_s30, mkR_g31, mkR_p31, mkR_g32, mkR_l32, mkR_n32, mkR_s32, mkR_g33, mkR_l33, mkR_n33, mkR_s33, mkR_g34, mkR_l34, mkR_n34, mkR_s34, mkR_t34, mkR_f34, mkR_g35, mkR_l35, mkR_n35, mkR_s35, mkR_g36, mkR_l36, mkR_n36, mkR_s36, mkR_g37, mkR_l37, mkR_n37, mkR_s37, mkR_g38, mkR_l38, mkR_n38, mkR_s38, mkR_g39, mkR_l39, mkR_n39, mkR_s39, mkR_g40, mkR_l40, mkR_n40, mkR_s40, mkR_g41, mkR_l41, mkR_n41, mkR_s41]
      exact e1
    | false =>
      obtain ⟨I1, A1, f1, f2, f3⟩ := R_behind (d := d) (a := a) (h := h) (I := I) (A := A) iT hT hm (Or.inr ⟨rfl, rfl⟩) T0_wf ((bF T T0).2.1 i) l v hc (fun _ => hz.1) hl (by omega)
      have p1 : fra I I1 A A1 [23, 24] [25, 26] := ⟨fun k hk => f3 k (fun e => hk (by simp [e])) (fun e => hk (by simp [e])), fun k hk => (f2 k hk).symm⟩
      have vj := (g.2.2.1 j hj).1
      have a18 : A1 18 ((bF T T0).2.1 j) = bI (S j) := by rw [← f2 18 (by decide)]; exact hA j hj
      rw [← ej] at f1
      obtain ⟨I', A', is', e1, e2, e3⟩ := ih (v + 1) I1 A1 (S j) (by omega) (by omega) (iT.fa p1 (by decide)) (fun j hj => by rw [← f2 18 (by decide)]; exact hA j hj)
      refine ⟨I', A', is', ?_, e2.trans ⟨fun e => ?_, fun e => ?_⟩, p1.tr e3⟩
      · rw [nd_150_21 (St_run (d + 3) mt_150)]
        cases hS : S j with
        | true =>
          rw [hS] at a18 e1
          simp (disch := omega) only [nd_150_58 (St_run (d + 3) mt_150), nd_150_63 (St_run (d + 3) mt_150), ↓L_m4, ↓L_m1, L_0, L_1, L_2, L_3, L_4, L_5, L_6, L_8, L_9, L_15, L_20, L_30, L_40, L_54, L_60, L_120, L_1872, L_4320, L_22500, le_t, le_f, lt_t, lt_f, eq_t, eq_f, eq_NO, NO_eq, NO_neg, MO_neg, bI_0, nI_add, pk_mul, pk_ds, rem_, nI_MO, nI_0MO, ↓reduceIte, eq_self, reduceCtorEq, Bool.true_eq_false, Bool.false_eq_true, isZn0, isZn1, isZb, bind_some', rI_some, rV_some, rQ_some, rQ_null, updA_at, updA_ne, pk_us, pk_un, ne_eq, not_false_eq_true, Nat.reduceEqDiff, updA_updA, Nat.reduceSub, Nat.reduceAdd, Nat.reduceMul, Nat.reduceDiv, Nat.zero_add, Nat.add_zero, mkR_o, mkR_g0, mkR_p0, mkR_g1, mkR_l1, mkR_n1, mkR_s1, mkR_g2, mkR_l2, mkR_n2, mkR_s2, mkR_g3, mkR_p3, mkR_g4, mkR_l4, mkR_n4, mkR_s4, mkR_g5, mkR_l5, mkR_n5, mkR_s5, mkR_g6, mkR_l6, mkR_n6, mkR_s6, mkR_t6, mkR_f6, mkR_g7, mkR_l7, mkR_n7, mkR_s7, mkR_g8, mkR_l8, mkR_n8, mkR_s8, mkR_g9, mkR_l9, mkR_n9, mkR_s9, mkR_g10, mkR_l10, mkR_n10, mkR_s10, mkR_g11, mkR_l11, mkR_n11, mkR_s11, mkR_g12, mkR_p12, mkR_g13, mkR_l13, mkR_n13, mkR_s13, mkR_t13, mkR_f13, mkR_g14, mkR_l14, mkR_n14, mkR_s14, mkR_g15, mkR_l15, mkR_n15, mkR_s15, mkR_g16, mkR_p16, mkR_g17, mkR_l17, mkR_n17, mkR_s17, mkR_t17, mkR_f17, mkR_g18, mkR_l18, mkR_n18, mkR_s18, mkR_t18, mkR_f18, mkR_g19, mkR_l19, mkR_n19, mkR_s19, mkR_g20, mkR_l20, mkR_n20, mkR_s20, mkR_g21, mkR_l21, mkR_n21, mkR_s21, mkR_g22, mkR_p22, mkR_g23, mkR_p23, mkR_g24, mkR_p24, mkR_g25, mkR_l25, mkR_n25, mkR_s25, mkR_g26, mkR_l26, mkR_n26, mkR_s26, mkR_g27, mkR_l27, mkR_n27, mkR_s27, mkR_g28, mkR_p28, mkR_g29, mkR_p29, mkR_g30, mkR_l30, mkR_n30, mkR_s30, mkR_g31, mkR_p31, mkR_g32, mkR_l32, mkR_n32, mkR_s32, mkR_g33, mkR_l33, mkR_n33, mkR_s33, mkR_g34, mkR_l34, mkR_n34, mkR_s34, mkR_t34, mkR_f34, mkR_g35, mkR_l35, mkR_n35, mkR_s35, mkR_g36, mkR_l36, mkR_n36, mkR_s36, mkR_g37, mkR_l37, mkR_n37, mkR_s37, mkR_g38, mkR_l38, mkR_n38, mkR_s38, mkR_g39, mkR_l39, mkR_n39, mkR_s39, mkR_g40, mkR_l40, mkR_n40, mkR_s40, mkR_g41, mkR_l41, mkR_n41, mkR_s41, f1, a18]
          exact e1
        | false =>
          rw [hS] at a18 e1
          simp (disch := omega) only [nd_150_58 (St_run (d + 3) mt_150), nd_150_63 (St_run (d + 3) mt_150), ↓L_m4, ↓L_m1, L_0, L_1, L_2, L_3, L_4, L_5, L_6, L_8, L_9, L_15, L_20, L_30, L_40, L_54, L_60, L_120, L_1872, L_4320, L_22500, le_t, le_f, lt_t, lt_f, eq_t, eq_f, eq_NO, NO_eq, NO_neg, MO_neg, bI_0, nI_add, pk_mul, pk_ds, rem_, nI_MO, nI_0MO, ↓reduceIte, eq_self, reduceCtorEq, Bool.true_eq_false, Bool.false_eq_true, isZn0, isZn1, isZb, bind_some', rI_some, rV_some, rQ_some, rQ_null, updA_at, updA_ne, pk_us, pk_un, ne_eq, not_false_eq_true, Nat.reduceEqDiff, updA_updA, Nat.reduceSub, Nat.reduceAdd, Nat.reduceMul, Nat.reduceDiv, Nat.zero_add, Nat.add_zero, mkR_o, mkR_g0, mkR_p0, mkR_g1, mkR_l1, mkR_n1, mkR_s1, mkR_g2, mkR_l2, mkR_n2, mkR_s2, mkR_g3, mkR_p3, mkR_g4, mkR_l4, mkR_n4, mkR_s4, mkR_g5, mkR_l5, mkR_n5, mkR_s5, mkR_g6, mkR_l6, mkR_n6, mkR_s6, mkR_t6, mkR_f6, mkR_g7, mkR_l7, mkR_n7, mkR_s7, mkR_g8, mkR_l8, mkR_n8, mkR_s8, mkR_g9, mkR_l9, mkR_n9, mkR_s9, mkR_g10, mkR_l10, mkR_n10, mkR_s10, mkR_g11, mkR_l11, mkR_n11, mkR_s11, mkR_g12, mkR_p12, mkR_g13, mkR_l13, mkR_n13, mkR_s13, mkR_t13, mkR_f13, mkR_g14, mkR_l14, mkR_n14, mkR_s14, mkR_g15, mkR_l15, mkR_n15, mkR_s15, mkR_g16, mkR_p16, mkR_g17, mkR_l17, mkR_n17, mkR_s17, mkR_t17, mkR_f17, mkR_g18, mkR_l18, mkR_n18, mkR_s18, mkR_t18, mkR_f18, mkR_g19, mkR_l19, mkR_n19, mkR_s19, mkR_g20, mkR_l20, mkR_n20, mkR_s20, mkR_g21, mkR_l21, mkR_n21, mkR_s21, mkR_g22, mkR_p22, mkR_g23, mkR_p23, mkR_g24, mkR_p24, mkR_g25, mkR_l25, mkR_n25, mkR_s25, mkR_g26, mkR_l26, mkR_n26, mkR_s26, mkR_g27, mkR_l27, mkR_n27, mkR_s27, mkR_g28, mkR_p28, mkR_g29, mkR_p29, mkR_g30, mkR_l30, mkR_n30, mkR_s30, mkR_g31, mkR_p31, mkR_g32, mkR_l32, mkR_n32, mkR_s32, mkR_g33, mkR_l33, mkR_n33, mkR_s33, mkR_g34, mkR_l34, mkR_n34, mkR_s34, mkR_t34, mkR_f34, mkR_g35, mkR_l35, mkR_n35, mkR_s35, mkR_g36, mkR_l36, mkR_n36, mkR_s36, mkR_g37, mkR_l37, mkR_n37, mkR_s37, mkR_g38, mkR_l38, mkR_n38, mkR_s38, mkR_g39, mkR_l39, mkR_n39, mkR_s39, mkR_g40, mkR_l40, mkR_n40, mkR_s40, mkR_g41, mkR_l41, mkR_n41, mkR_s41, f1, a18]
          exact e1
      · rcases e with e | ⟨w, j', h1', h2', h3', h4', h5'⟩
        · exact Or.inr ⟨v, j, Nat.le_refl _, by omega, hj, ej, e⟩
        · exact Or.inr ⟨w, j', by omega, h2', h3', h4', h5'⟩
      · rcases e with e | ⟨w, j', h1', h2', h3', h4', h5'⟩
        · cases e
        · by_cases hw : w = v
          · subst hw
            rw [← ej] at h4'
            have := g.2.2.2.1 j' j h3' hj h4'
            subst this
            exact Or.inl h5'
          · exact Or.inr ⟨w, j', by omega, h2', h3', h4', h5'⟩
theorem R_leadsOn {m0 : Nat} {T : TM} {I : Nat → Int32} {A : Nat → Nat → Int32} (hT : WFT T) (hm : m0 < 6) (i : Nat) (hi : i < (bF T T0).1) {S : Nat → Bool} (iT : isT A m0 T) (hA : ∀ j, j < (bF T T0).1 → A 18 ((bF T T0).2.1 j) = bI (S j)) : ∃ I' A' is, call (d + 4) 150 [.ref a, .int (nI m0), .int (nI ((bF T T0).2.1 i))] (mkR h a I A) = some (some (.int (bI is)), mkR h a I' A') ∧ (is = true ↔ ∃ j, j < (bF T T0).1 ∧ nxt T (bF T T0).2.1 i j ∧ S j = true) ∧ fra I I' A A' [23, 24] [25, 26] := by
  have g := bF_GB hT T0_wf
  have vc := g.2.2.1 i hi
  have ht := top_le vc
  have hc := vc.1
  have p0 : fra I (upd (upd I 24 (nI ((bF T T0).2.1 i / 625 % 6))) 23 (nI ((bF T T0).2.1 i / 625 / 6))) A (updA A 25 (qL (A 25) (lb ((bF T T0).2.1 i)))) [23, 24] [25, 26] := (((fra.rf _ _ _ _).u _ (by decide)).u _ (by decide)).w _ (by decide)
  have al : ∀ {I2 A2}, fra I I2 A A2 [23, 24] [25, 26] → ∀ j, j < (bF T T0).1 → A2 18 ((bF T T0).2.1 j) = bI (S j) := fun p j hj => by rw [p.2 18 (by decide)]; exact hA j hj
  obtain ⟨I1, A1, s1, e1, e2, e3⟩ := l_lo1 (d := d) (a := a) (h := h) hT hm i 0 hi (by omega) (top ((bF T T0).2.1 i) + 1) 1 _ _ false (by omega) (by omega) (iT.fa p0 (by decide)) (al p0)
  have p1 := p0.tr e3
  obtain ⟨I2, A2, s2, f1, f2, f3⟩ := l_lo1 (d := d) (a := a) (h := h) hT hm i 1 hi (by omega) (top ((bF T T0).2.1 i) + 1) 1 I1 A1 s1 (by omega) (by omega) (iT.fa p1 (by decide)) (al p1)
  have p2 := p1.tr f3
  obtain ⟨I3, A3, s3, g1, g2, g3⟩ := l_lo1 (d := d) (a := a) (h := h) hT hm i 2 hi (by omega) (top ((bF T T0).2.1 i) + 1) 1 I2 A2 s2 (by omega) (by omega) (iT.fa p2 (by decide)) (al p2)
  have step : ∀ l, l < 3 → ∀ (x : Int32) J C, run (d + 3) mt_150 12 [some (.ref a), some (.int (nI m0)), some (.int (nI ((bF T T0).2.1 i))), some (.int (nI (top ((bF T T0).2.1 i)))), some (.int x), some (.int (nI l)), none] [] (mkR h a J C) = run (d + 3) mt_150 21 [some (.ref a), some (.int (nI m0)), some (.int (nI ((bF T T0).2.1 i))), some (.int (nI (top ((bF T T0).2.1 i)))), some (.int x), some (.int (nI l)), some (.int (nI 1))] [] (mkR h a J C) := fun l hl x J C => by
    rw [nd_150_12 (St_run (d + 3) mt_150)]
    simp (disch := omega) only [↓L_m4, ↓L_m1, L_0, L_1, L_2, L_3, L_4, L_5, L_6, L_8, L_9, L_15, L_20, L_30, L_40, L_54, L_60, L_120, L_1872, L_4320, L_22500, le_t, le_f, lt_t, lt_f, eq_t, eq_f, eq_NO, NO_eq, NO_neg, MO_neg, bI_0, nI_add, pk_mul, pk_ds, rem_, nI_MO, nI_0MO, ↓reduceIte, eq_self, reduceCtorEq, Bool.true_eq_false, Bool.false_eq_true, isZn0, isZn1, isZb, bind_some', rI_some, rV_some, rQ_some, rQ_null, updA_at, updA_ne, pk_us, pk_un, ne_eq, not_false_eq_true, Nat.reduceEqDiff, updA_updA, Nat.reduceSub, Nat.reduceAdd, Nat.reduceMul, Nat.reduceDiv, Nat.zero_add, Nat.add_zero, mkR_o, mkR_g0, mkR_p0, mkR_g1, mkR_l1, mkR_n1, mkR_s1, mkR_g2, mkR_l2, mkR_n2, mkR_s2, mkR_g3, mkR_p3, mkR_g4, mkR_l4, mkR_n4, mkR_s4, mkR_g5, mkR_l5, mkR_n5, mkR_s5, mkR_g6, mkR_l6, mkR_n6, mkR_s6, mkR_t6, mkR_f6, mkR_g7, mkR_l7, mkR_n7, mkR_s7, mkR_g8, mkR_l8, mkR_n8, mkR_s8, mkR_g9, mkR_l9, mkR_n9, mkR_s9, mkR_g10, mkR_l10, mkR_n10, mkR_s10, mkR_g11, mkR_l11, mkR_n11, mkR_s11, mkR_g12, mkR_p12, mkR_g13, mkR_l13, mkR_n13, mkR_s13, mkR_t13, mkR_f13, mkR_g14, mkR_l14, mkR_n14, mkR_s14, mkR_g15, mkR_l15, mkR_n15, mkR_s15, mkR_g16, mkR_p16, mkR_g17, mkR_l17, mkR_n17, mkR_s17, mkR_t17, mkR_f17, mkR_g18, mkR_l18, mkR_n18, mkR_s18, mkR_t18, mkR_f18, mkR_g19, mkR_l19, mkR_n19, mkR_s19, mkR_g20, mkR_l20, mkR_n20, mkR_s20, mkR_g21, mkR_l21, mkR_n21, mkR_s21, mkR_g22, mkR_p22, mkR_g23, mkR_p23, mkR_g24, mkR_p24, mkR_g25, mkR_l25, mkR_n25, mkR_s25, mkR_g26, mkR_l26, mkR_n26, mkR_s26, mkR_g27, mkR_l27, mkR_n27, mkR_s27, mkR_g28, mkR_p28, mkR_g29, mkR_p29, mkR_g30, mkR_l30, mkR_n30, mkR_s30, mkR_g31, mkR_p31, mkR_g32, mkR_l32, mkR_n32, mkR_s32, mkR_g33, mkR_l33, mkR_n33, mkR_s33, mkR_g34, mkR_l34, mkR_n34, mkR_s34, mkR_t34, mkR_f34, mkR_g35, mkR_l35, mkR_n35, mkR_s35, mkR_g36, mkR_l36, mkR_n36, mkR_s36, mkR_g37, mkR_l37, mkR_n37, mkR_s37, mkR_g38, mkR_l38, mkR_n38, mkR_s38, mkR_g39, mkR_l39, mkR_n39, mkR_s39, mkR_g40, mkR_l40, mkR_n40, mkR_s40, mkR_g41, mkR_l41, mkR_n41, mkR_s41]
  refine ⟨I3, A3, s3, ?_, ?_, p2.tr g3⟩
  · have hlI : call (d + 3) 139 [.ref a, .int (nI ((bF T T0).2.1 i))] (mkR h a I A) = some (some (.int (nI (top ((bF T T0).2.1 i)))), mkR h a (upd (upd I 24 (nI ((bF T T0).2.1 i / 625 % 6))) 23 (nI ((bF T T0).2.1 i / 625 / 6))) (updA A 25 (qL (A 25) (lb ((bF T T0).2.1 i))))) := R_labelsIn (d := d + 1) _ hc
    rw [call_at mt_150 [some (.ref a), some (.int (nI m0)), some (.int (nI ((bF T T0).2.1 i))), none, none, none, none] rfl rfl rfl, nd_150_0 (St_run (d + 3) mt_150), mkR_o, hlI, bind_some', rI_some]
    refine (step 0 (by omega) 0 _ _).trans (e1.trans ((step 1 (by omega) _ _ _).trans (f1.trans ((step 2 (by omega) _ _ _).trans (g1.trans ?_)))))
    rw [nd_150_12 (St_run (d + 3) mt_150)]
    simp (disch := omega) only [↓L_m4, ↓L_m1, L_0, L_1, L_2, L_3, L_4, L_5, L_6, L_8, L_9, L_15, L_20, L_30, L_40, L_54, L_60, L_120, L_1872, L_4320, L_22500, le_t, le_f, lt_t, lt_f, eq_t, eq_f, eq_NO, NO_eq, NO_neg, MO_neg, bI_0, nI_add, pk_mul, pk_ds, rem_, nI_MO, nI_0MO, ↓reduceIte, eq_self, reduceCtorEq, Bool.true_eq_false, Bool.false_eq_true, isZn0, isZn1, isZb, bind_some', rI_some, rV_some, rQ_some, rQ_null, updA_at, updA_ne, pk_us, pk_un, ne_eq, not_false_eq_true, Nat.reduceEqDiff, updA_updA, Nat.reduceSub, Nat.reduceAdd, Nat.reduceMul, Nat.reduceDiv, Nat.zero_add, Nat.add_zero, mkR_o, mkR_g0, mkR_p0, mkR_g1, mkR_l1, mkR_n1, mkR_s1, mkR_g2, mkR_l2, mkR_n2, mkR_s2, mkR_g3, mkR_p3, mkR_g4, mkR_l4, mkR_n4, mkR_s4, mkR_g5, mkR_l5, mkR_n5, mkR_s5, mkR_g6, mkR_l6, mkR_n6, mkR_s6, mkR_t6, mkR_f6, mkR_g7, mkR_l7, mkR_n7, mkR_s7, mkR_g8, mkR_l8, mkR_n8, mkR_s8, mkR_g9, mkR_l9, mkR_n9, mkR_s9, mkR_g10, mkR_l10, mkR_n10, mkR_s10, mkR_g11, mkR_l11, mkR_n11, mkR_s11, mkR_g12, mkR_p12, mkR_g13, mkR_l13, mkR_n13, mkR_s13, mkR_t13, mkR_f13, mkR_g14, mkR_l14, mkR_n14, mkR_s14, mkR_g15, mkR_l15, mkR_n15, mkR_s15, mkR_g16, mkR_p16, mkR_g17, mkR_l17, mkR_n17, mkR_s17, mkR_t17, mkR_f17, mkR_g18, mkR_l18, mkR_n18, mkR_s18, mkR_t18, mkR_f18, mkR_g19, mkR_l19, mkR_n19, mkR_s19, mkR_g20, mkR_l20, mkR_n20, mkR_s20, mkR_g21, mkR_l21, mkR_n21, mkR_s21, mkR_g22, mkR_p22, mkR_g23, mkR_p23, mkR_g24, mkR_p24, mkR_g25, mkR_l25, mkR_n25, mkR_s25, mkR_g26, mkR_l26, mkR_n26, mkR_s26, mkR_g27, mkR_l27, mkR_n27, mkR_s27, mkR_g28, mkR_p28, mkR_g29, mkR_p29, mkR_g30, mkR_l30, mkR_n30, mkR_s30, mkR_g31, mkR_p31, mkR_g32, mkR_l32, mkR_n32, mkR_s32, mkR_g33, mkR_l33, mkR_n33, mkR_s33, mkR_g34, mkR_l34, mkR_n34, mkR_s34, mkR_t34, mkR_f34, mkR_g35, mkR_l35, mkR_n35, mkR_s35, mkR_g36, mkR_l36, mkR_n36, mkR_s36, mkR_g37, mkR_l37, mkR_n37, mkR_s37, mkR_g38, mkR_l38, mkR_n38, mkR_s38, mkR_g39, mkR_l39, mkR_n39, mkR_s39, mkR_g40, mkR_l40, mkR_n40, mkR_s40, mkR_g41, mkR_l41, mkR_n41, mkR_s41]
  · constructor
    · intro e
      rcases g2.mp e with e | ⟨w, j, h1, h2, h3, h4, h5⟩
      · rcases f2.mp e with e | ⟨w, j, h1, h2, h3, h4, h5⟩
        · rcases e2.mp e with e | ⟨w, j, h1, h2, h3, h4, h5⟩
          · cases e
          · exact ⟨j, h3, ⟨0, w, by omega, h1, h2, h4⟩, h5⟩
        · exact ⟨j, h3, ⟨1, w, by omega, h1, h2, h4⟩, h5⟩
      · exact ⟨j, h3, ⟨2, w, by omega, h1, h2, h4⟩, h5⟩
    · rintro ⟨j, hj, ⟨l, w, hl, h1, h2, h4⟩, h5⟩
      rcases (show l = 0 ∨ l = 1 ∨ l = 2 by omega) with rfl | rfl | rfl
      · exact g2.mpr (Or.inl (f2.mpr (Or.inl (e2.mpr (Or.inr ⟨w, j, h1, h2, hj, h4, h5⟩)))))
      · exact g2.mpr (Or.inl (f2.mpr (Or.inr ⟨w, j, h1, h2, hj, h4, h5⟩)))
      · exact g2.mpr (Or.inr ⟨w, j, h1, h2, hj, h4, h5⟩)
end RL
