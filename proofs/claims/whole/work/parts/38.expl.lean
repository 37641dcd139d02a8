/-! ===== the reference: explores, wanted ===== -/
def fra (I I' : Nat → Int32) (A A' : Nat → Nat → Int32) (js ks : List Nat) : Prop := (∀ k, k ∉ js → I' k = I k) ∧ (∀ k, k ∉ ks → A' k = A k)
theorem fra.rf (I : Nat → Int32) (A : Nat → Nat → Int32) (js ks : List Nat) : fra I I A A js ks := ⟨fun _ _ => rfl, fun _ _ => rfl⟩
theorem fra.tr {I I1 I2 : Nat → Int32} {A A1 A2 : Nat → Nat → Int32} {js ks : List Nat} (p : fra I I1 A A1 js ks) (q : fra I1 I2 A1 A2 js ks) : fra I I2 A A2 js ks := ⟨fun k hk => (q.1 k hk).trans (p.1 k hk), fun k hk => (q.2 k hk).trans (p.2 k hk)⟩
theorem fra.sub {I I1 : Nat → Int32} {A A1 : Nat → Nat → Int32} {js ks js' ks' : List Nat} (p : fra I I1 A A1 js ks) (h1 : ∀ k ∈ js, k ∈ js') (h2 : ∀ k ∈ ks, k ∈ ks') : fra I I1 A A1 js' ks' := ⟨fun k hk => p.1 k (fun e => hk (h1 k e)), fun k hk => p.2 k (fun e => hk (h2 k e))⟩
theorem fra.u {I I1 : Nat → Int32} {A A1 : Nat → Nat → Int32} {js ks : List Nat} (p : fra I I1 A A1 js ks) {k : Nat} (x : Int32) (hk : k ∈ js) : fra I (upd I1 k x) A A1 js ks := ⟨fun j hj => (pk_un (fun e : j = k => hj (by rw [e]; exact hk))).trans (p.1 j hj), p.2⟩
theorem fra.w {I I1 : Nat → Int32} {A A1 : Nat → Nat → Int32} {js ks : List Nat} (p : fra I I1 A A1 js ks) {k : Nat} (f : Nat → Int32) (hk : k ∈ ks) : fra I I1 A (updA A1 k f) js ks := ⟨p.1, fun j hj => (updA_ne (fun e : j = k => hj (by rw [e]; exact hk))).trans (p.2 j hj)⟩
theorem isT.fa {I I1 : Nat → Int32} {A A1 : Nat → Nat → Int32} {js ks : List Nat} {m : Nat} {T : TM} (hT : isT A m T) (p : fra I I1 A A1 js ks) (hk : 4 ∉ ks ∧ 5 ∉ ks ∧ 6 ∉ ks ∧ 7 ∉ ks ∧ 8 ∉ ks) : isT A1 m T := hT.cg (p.2 4 hk.1) (p.2 5 hk.2.1) (p.2 6 hk.2.2.1) (p.2 7 hk.2.2.2.1) (p.2 8 hk.2.2.2.2)
theorem isTo.fa {I I1 : Nat → Int32} {A A1 : Nat → Nat → Int32} {js ks : List Nat} {b : Int32} {T : TM} (hT : isTo A b T) (p : fra I I1 A A1 js ks) (hk : 4 ∉ ks ∧ 5 ∉ ks ∧ 6 ∉ ks ∧ 7 ∉ ks ∧ 8 ∉ ks) : isTo A1 b T := by
  rcases hT with ⟨m, h1, h2, h3⟩ | h
  · exact Or.inl ⟨m, h1, h2, h3.fa p hk⟩
  · exact Or.inr h
/-- the search as it stands in the reference -/
def RB (I : Nat → Int32) (A : Nat → Nat → Int32) (B : BS) : Prop := I 22 = nI B.1 ∧ (∀ j, j < B.1 → A 19 j = nI (B.2.1 j)) ∧ A 20 0 = NO ∧ (∀ j, 0 < j → j < B.1 → A 20 j = nI (B.2.2.1 j) ∧ A 21 j = nI (B.2.2.2 j)) ∧ (∀ c, c < 22500 → A 17 c = bI (memN B.2.1 c B.1))
theorem RB.fa {I I1 : Nat → Int32} {A A1 : Nat → Nat → Int32} {js ks : List Nat} {B : BS} (r : RB I A B) (p : fra I I1 A A1 js ks) (hj : 22 ∉ js) (hk : 17 ∉ ks ∧ 19 ∉ ks ∧ 20 ∉ ks ∧ 21 ∉ ks) : RB I1 A1 B := by
  unfold RB
  rw [p.1 22 hj, p.2 17 hk.1, p.2 19 hk.2.1, p.2 20 hk.2.2.1, p.2 21 hk.2.2.2]
  exact r
theorem memN_upd {q : Nat → Nat} {z c : Nat} {n : Nat} : memN (updN q n z) c (n + 1) = (memN q c n || z == c) := by
  have e : ∀ m, m ≤ n → memN (updN q n z) c m = memN q c m := by
    intro m
    induction m with
    | zero => intro _; rfl
    | succ m ih =>
      intro hm
      unfold memN
      rw [ih (by omega), updN_ne (by omega)]
  show (memN (updN q n z) c n || updN q n z n == c) = _
  rw [e n (Nat.le_refl _), updN_at]
theorem RB_new {I : Nat → Int32} {A : Nat → Nat → Int32} {B : BS} (r : RB I A B) (z i w : Nat) (h1 : 1 ≤ B.1) : RB (upd I 22 (nI (B.1 + 1))) (updA (updA (updA (updA A 17 (upd (A 17) z (bI true))) 19 (upd (A 19) B.1 (nI z))) 20 (upd (A 20) B.1 (nI i))) 21 (upd (A 21) B.1 (nI w))) (B.1 + 1, (updN B.2.1 B.1 z, (updN B.2.2.1 B.1 i, updN B.2.2.2 B.1 w))) := by
  obtain ⟨r1, r2, r3, r4, r5⟩ := r
  refine ⟨rfl, fun j hj => ?_, ?_, fun j h0 hj => ?_, fun c hc => ?_⟩
  · show upd (A 19) B.1 (nI z) j = nI (updN B.2.1 B.1 z j)
    by_cases h : j = B.1
    · rw [h, pk_us, updN_at]
    · rw [pk_un h, updN_ne h]
      exact r2 j (by dsimp only at hj; omega)
  · show upd (A 20) B.1 (nI i) 0 = NO
    rw [pk_un (by omega)]
    exact r3
  · show upd (A 20) B.1 (nI i) j = nI (updN B.2.2.1 B.1 i j) ∧ upd (A 21) B.1 (nI w) j = nI (updN B.2.2.2 B.1 w j)
    by_cases h : j = B.1
    · rw [h, pk_us, updN_at, pk_us, updN_at]
      exact ⟨rfl, rfl⟩
    · rw [pk_un h, updN_ne h, pk_un h, updN_ne h]
      exact r4 j h0 (by dsimp only at hj; omega)
  · show upd (A 17) z (bI true) c = bI (memN (updN B.2.1 B.1 z) c (B.1 + 1))
    rw [memN_upd]
    by_cases h : c = z
    · rw [h, pk_us, beq_self_eq_true, Bool.or_true]
    · rw [pk_un h, r5 c hc, beq_eq_false_iff_ne.mpr (fun e => h e.symm), Bool.or_false]
section EX
variable {d a : Nat} {h : AH}
theorem l_expl1 {m0 : Nat} {b : Int32} {T U : TM} (hw : WFT T) (hm : m0 < 6) (hu : WFT U) (hbU : b = NO → U = T0) (c i l : Nat) (hi : i < 1872) (hl : l < 3) : ∀ (m v : Nat) (I : Nat → Int32) (A : Nat → Nat → Int32) (B : BS), v + m = top c + 2 → 1 ≤ v → isT A m0 T → isTo A b U → RB I A B → GB T U B → i < B.1 → B.2.1 i = c → ∃ I' A', run (d + 3) mt_140 83 [some (.ref a), some (.int (nI m0)), some (.int b), some (.int (nI i)), some (.int (nI (top c))), some (.int (nI l)), some (.int (nI v)), none] [] (mkR h a I A) = run (d + 3) mt_140 74 [some (.ref a), some (.int (nI m0)), some (.int b), some (.int (nI i)), some (.int (nI (top c))), some (.int (nI (l + 1))), none, none] [] (mkR h a I' A') ∧ RB I' A' (exV (chd T U c l) i l (List.range' v m) B) ∧ fra I I' A A' [22, 23, 24] [17, 19, 20, 21, 25, 26] := by
  intro m
  induction m with
  | zero =>
    intro v I A B hv h1 hT hU r g hiB hq
    refine ⟨I, A, ?_, r, fra.rf _ _ _ _⟩
    have ht : top c ≤ 4 := by
      have e := g.2.2.1 i hiB
      rw [hq] at e
      have := (nxP_ok (p := c % 625) (v := 1) (kA := 2) (kB := 2) (by omega) e.2.1 (by omega) (by omega) (by omega) (by omega)).2.2.2
      rw [top_mod]
      exact this
    rw [nd_140_83 (St_run (d + 3) mt_140)]
    simp (disch := omega) only [↓L_m4, ↓L_m1, L_0, L_1, L_2, L_3, L_4, L_5, L_6, L_8, L_9, L_15, L_20, L_30, L_40, L_54, L_60, L_120, L_1872, L_4320, L_22500, le_t, le_f, lt_t, lt_f, eq_t, eq_f, eq_NO, NO_eq, NO_neg, MO_neg, bI_0, nI_add, pk_mul, pk_ds, rem_, nI_MO, nI_0MO, ↓reduceIte, eq_self, reduceCtorEq, Bool.true_eq_false, Bool.false_eq_true, isZn0, isZn1, isZb, bind_some', rI_some, rV_some, rQ_some, rQ_null, updA_at, updA_ne, pk_us, pk_un, ne_eq, not_false_eq_true, Nat.reduceEqDiff, updA_updA, Nat.reduceSub, Nat.reduceAdd, Nat.reduceMul, Nat.reduceDiv, Nat.zero_add, Nat.add_zero, mkR_o, mkR_g0, mkR_p0, mkR_g1, mkR_l1, mkR_n1, mkR_s1, mkR_g2, mkR_l2, mkR_n2, mkR_s2, mkR_g3, mkR_p3, mkR_g4, mkR_l4, mkR_n4, mkR_s4, mkR_g5, mkR_l5, mkR_n5, mkR_s5, mkR_g6, mkR_l6, mkR_n6, mkR_s6, mkR_t6, mkR_f6, mkR_g7, mkR_l7, mkR_n7, mkR_s7, mkR_g8, mkR_l8, mkR_n8, mkR_s8, mkR_g9, mkR_l9, mkR_n9, mkR_s9, mkR_g10, mkR_l10, mkR_n10, mkR_s10, mkR_g11, mkR_l11, mkR_n11, mkR_s11, mkR_g12, mkR_p12, mkR_g13, mkR_l13, mkR_n13, mkR_s13, mkR_t13, mkR_f13, mkR_g14, mkR_l14, mkR_n14, mkR_s14, mkR_g15, mkR_l15, mkR_n15, mkR_s15, mkR_g16, mkR_p16, mkR_g17, mkR_l17, mkR_n17, mkR_s17, mkR_t17, mkR_f17, mkR_g18, mkR_l18, mkR_n18, mkR_s18, mkR_t18, mkR_f18, mkR_g19, mkR_l19, mkR_n19, mkR_s19, mkR_g20, mkR_l20, mkR_n20, mkR_s20, mkR_g21, mkR_l21, mkR_n21, mkR_s21, mkR_g22, mkR_p22, mkR_g23, mkR_p23, mkR_g24, mkR_p24, mkR_g25, mkR_l25, mkR_n25, mkR_s25, mkR_g26, mkR_l26, mkR_n26, mkR_s26, mkR_g27, mkR_l27, mkR_n27, mkR_s27, mkR_g28, mkR_p28, mkR_g29, mkR_p29, mkR_g30, mkR_l30, mkR_n30, mkR_s30, mkR_g31, mkR_p31, mkR_g32, mkR_l32, mkR_n32, mkR_s32, mkR_g33, mkR_l33, mkR_n33, mkR_s33, mkR_g34, mkR_l34, mkR_n34, mkR_s34, mkR_t34, mkR_f34, mkR_g35, mkR_l35, mkR_n35, mkR_s35, mkR_g36, mkR_l36, mkR_n36, mkR_s36, mkR_g37, mkR_l37, mkR_n37, mkR_s37, mkR_g38, mkR_l38, mkR_n38, mkR_s38, mkR_g39, mkR_l39, mkR_n39, mkR_s39, mkR_g40, mkR_l40, mkR_n40, mkR_s40, mkR_g41, mkR_l41, mkR_n41, mkR_s41]
  | succ m ih =>
    intro v I A B hv h1 hT hU r g hiB hq
    have vc := g.2.2.1 i hiB
    rw [hq] at vc
    have ht : top c ≤ 4 := by
      have := (nxP_ok (p := c % 625) (v := 1) (kA := 2) (kB := 2) (by omega) vc.2.1 (by omega) (by omega) (by omega) (by omega)).2.2.2
      rw [top_mod]
      exact this
    have hn := GB_most hw hu g
    have vch := (chd_ok hw hu vc hl h1 (show v ≤ top c + 1 by omega)).1
    have hz := vch.1
    obtain ⟨I1, A1, e1, e2, e3⟩ := R_behind (d := d) (a := a) (h := h) (I := I) (A := A) hT hw hm hU hu c l v vc.1 (fun e => by
      have := vc.2.2.2.1
      rw [hbU e] at this
      exact Nat.lt_one_iff.mp this) hl (by omega)
    have p1 : fra I I1 A A1 [22, 23, 24] [17, 19, 20, 21, 25, 26] := ⟨fun k hk => e3 k (fun e => hk (by simp [e])) (fun e => hk (by simp [e])), fun k hk => (e2 k (fun e => hk (by revert e; simp; omega))).symm⟩
    have r1 : RB I1 A1 B := by
      unfold RB
      rw [e3 22 (by decide) (by decide), ← e2 17 (by decide), ← e2 19 (by decide), ← e2 20 (by decide), ← e2 21 (by decide)]
      exact r
    have a19 : A 19 i = nI c := by rw [r.2.1 i hiB, hq]
    have a22 := r1.1
    have a17 := r1.2.2.2.2 _ hz
    rw [nd_140_83 (St_run (d + 3) mt_140)]
    have eV : exV (chd T U c l) i l (List.range' v (m + 1)) B = exV (chd T U c l) i l (List.range' (v + 1) m) (vis B (chd T U c l v) i (8 * l + v)) := rfl
    rw [eV]
    have gv := vis_GB hw hu g hiB hl h1 (by rw [hq]; omega : v ≤ top (B.2.1 i) + 1)
    have pv := vis_pre B (chd T U c l v) i (8 * l + v)
    rw [hq] at gv
    cases hmem : memN B.2.1 (chd T U c l v) B.1 with
    | true =>
      have ev : vis B (chd T U c l v) i (8 * l + v) = B := if_pos hmem
      rw [ev]
      rw [hmem] at a17
      obtain ⟨I2, A2, f1, f2, f3⟩ := ih (v + 1) I1 A1 B (by omega) (by omega) (hT.fa p1 (by decide)) (hU.fa p1 (by decide)) r1 g hiB hq
      refine ⟨I2, A2, ?_, f2, p1.tr f3⟩
      simp (disch := omega) only [nd_140_0 (St_run (d + 3) mt_140), nd_140_180 (St_run (d + 3) mt_140), ↓L_m4, ↓L_m1, L_0, L_1, L_2, L_3, L_4, L_5, L_6, L_8, L_9, L_15, L_20, L_30, L_40, L_54, L_60, L_120, L_1872, L_4320, L_22500, le_t, le_f, lt_t, lt_f, eq_t, eq_f, eq_NO, NO_eq, NO_neg, MO_neg, bI_0, nI_add, pk_mul, pk_ds, rem_, nI_MO, nI_0MO, ↓reduceIte, eq_self, reduceCtorEq, Bool.true_eq_false, Bool.false_eq_true, isZn0, isZn1, isZb, bind_some', rI_some, rV_some, rQ_some, rQ_null, updA_at, updA_ne, pk_us, pk_un, ne_eq, not_false_eq_true, Nat.reduceEqDiff, updA_updA, Nat.reduceSub, Nat.reduceAdd, Nat.reduceMul, Nat.reduceDiv, Nat.zero_add, Nat.add_zero, mkR_o, mkR_g0, mkR_p0, mkR_g1, mkR_l1, mkR_n1, mkR_s1, mkR_g2, mkR_l2, mkR_n2, mkR_s2, mkR_g3, mkR_p3, mkR_g4, mkR_l4, mkR_n4, mkR_s4, mkR_g5, mkR_l5, mkR_n5, mkR_s5, mkR_g6, mkR_l6, mkR_n6, mkR_s6, mkR_t6, mkR_f6, mkR_g7, mkR_l7, mkR_n7, mkR_s7, mkR_g8, mkR_l8, mkR_n8, mkR_s8, mkR_g9, mkR_l9, mkR_n9, mkR_s9, mkR_g10, mkR_l10, mkR_n10, mkR_s10, mkR_g11, mkR_l11, mkR_n11, mkR_s11, mkR_g12, mkR_p12, mkR_g13, mkR_l13, mkR_n13, mkR_s13, mkR_t13, mkR_f13, mkR_g14, mkR_l14, mkR_n14, mkR_s14, mkR_g15, mkR_l15, mkR_n15, mkR_s15, mkR_g16, mkR_p16, mkR_g17, mkR_l17, mkR_n17, mkR_s17, mkR_t17, mkR_f17, mkR_g18, mkR_l18, mkR_n18, mkR_s18, mkR_t18, mkR_f18, mkR_g19, mkR_l19, mkR_n19, mkR_s19, mkR_g20, mkR_l20, mkR_n20, mkR_s20, mkR_g21, mkR_l21, mkR_n21, mkR_s21, mkR_g22, mkR_p22, mkR_g23, mkR_p23, mkR_g24, mkR_p24, mkR_g25, mkR_l25, mkR_n25, mkR_s25, mkR_g26, mkR_l26, mkR_n26, mkR_s26, mkR_g27, mkR_l27, mkR_n27, mkR_s27, mkR_g28, mkR_p28, mkR_g29, mkR_p29, mkR_g30, mkR_l30, mkR_n30, mkR_s30, mkR_g31, mkR_p31, mkR_g32, mkR_l32, mkR_n32, mkR_s32, mkR_g33, mkR_l33, mkR_n33, mkR_s33, mkR_g34, mkR_l34, mkR_n34, mkR_s34, mkR_t34, mkR_f34, mkR_g35, mkR_l35, mkR_n35, mkR_s35, mkR_g36, mkR_l36, mkR_n36, mkR_s36, mkR_g37, mkR_l37, mkR_n37, mkR_s37, mkR_g38, mkR_l38, mkR_n38, mkR_s38, mkR_g39, mkR_l39, mkR_n39, mkR_s39, mkR_g40, mkR_l40, mkR_n40, mkR_s40, mkR_g41, mkR_l41, mkR_n41, mkR_s41, a19, e1, a17]
      exact f1
    | false =>
      have ev : vis B (chd T U c l v) i (8 * l + v) = (B.1 + 1, (updN B.2.1 B.1 (chd T U c l v), (updN B.2.2.1 B.1 i, updN B.2.2.2 B.1 (8 * l + v)))) := if_neg (by rw [hmem]; decide)
      rw [ev] at gv pv ⊢
      rw [hmem] at a17
      have p2 : fra I (upd I1 22 (nI (B.1 + 1))) A (updA (updA (updA (updA A1 17 (upd (A1 17) (chd T U c l v) (bI true))) 19 (upd (A1 19) B.1 (nI (chd T U c l v)))) 20 (upd (A1 20) B.1 (nI i))) 21 (upd (A1 21) B.1 (nI (8 * l + v)))) [22, 23, 24] [17, 19, 20, 21, 25, 26] := ((((p1.u _ (by decide)).w _ (by decide)).w _ (by decide)).w _ (by decide)).w _ (by decide)
      obtain ⟨I2, A2, f1, f2, f3⟩ := ih (v + 1) _ _ _ (by omega) (by omega) (hT.fa p2 (by decide)) (hU.fa p2 (by decide)) (RB_new r1 (chd T U c l v) i (8 * l + v) g.1) gv (by show i < B.1 + 1; omega) ((pv.2 i hiB).1.trans hq)
      refine ⟨I2, A2, ?_, f2, p2.tr f3⟩
      simp (disch := omega) only [nd_140_0 (St_run (d + 3) mt_140), nd_140_180 (St_run (d + 3) mt_140), ↓L_m4, ↓L_m1, L_0, L_1, L_2, L_3, L_4, L_5, L_6, L_8, L_9, L_15, L_20, L_30, L_40, L_54, L_60, L_120, L_1872, L_4320, L_22500, le_t, le_f, lt_t, lt_f, eq_t, eq_f, eq_NO, NO_eq, NO_neg, MO_neg, bI_0, nI_add, pk_mul, pk_ds, rem_, nI_MO, nI_0MO, ↓reduceIte, eq_self, reduceCtorEq, Bool.true_eq_false, Bool.false_eq_true, isZn0, isZn1, isZb, bind_some', rI_some, rV_some, rQ_some, rQ_null, updA_at, updA_ne, pk_us, pk_un, ne_eq, not_false_eq_true, Nat.reduceEqDiff, updA_updA, Nat.reduceSub, Nat.reduceAdd, Nat.reduceMul, Nat.reduceDiv, Nat.zero_add, Nat.add_zero, mkR_o, mkR_g0, mkR_p0, mkR_g1, mkR_l1, mkR_n1, mkR_s1, mkR_g2, mkR_l2, mkR_n2, mkR_s2, mkR_g3, mkR_p3, mkR_g4, mkR_l4, mkR_n4, mkR_s4, mkR_g5, mkR_l5, mkR_n5, mkR_s5, mkR_g6, mkR_l6, mkR_n6, mkR_s6, mkR_t6, mkR_f6, mkR_g7, mkR_l7, mkR_n7, mkR_s7, mkR_g8, mkR_l8, mkR_n8, mkR_s8, mkR_g9, mkR_l9, mkR_n9, mkR_s9, mkR_g10, mkR_l10, mkR_n10, mkR_s10, mkR_g11, mkR_l11, mkR_n11, mkR_s11, mkR_g12, mkR_p12, mkR_g13, mkR_l13, mkR_n13, mkR_s13, mkR_t13, mkR_f13, mkR_g14, mkR_l14, mkR_n14, mkR_s14, mkR_g15, mkR_l15, mkR_n15, mkR_s15, mkR_g16, mkR_p16, mkR_g17, mkR_l17, mkR_n17, mkR_s17, mkR_t17, mkR_f17, mkR_g18, mkR_l18, mkR_n18, mkR_s18, mkR_t18, mkR_f18, mkR_g19, mkR_l19, mkR_n19, mkR_s19, mkR_g20, mkR_l20, mkR_n20, mkR_s20, mkR_g21, mkR_l21, mkR_n21, mkR_s21, mkR_g22, mkR_p22, mkR_g23, mkR_p23, mkR_g24, mkR_p24, mkR_g25, mkR_l25, mkR_n25, mkR_s25, mkR_g26, mkR_l26, mkR_n26, mkR_s26, mkR_g27, mkR_l27, mkR_n27, mkR_s27, mkR_g28, mkR_p28, mkR_g29, mkR_p29, mkR_g30, mkR_l30, mkR_n30, mkR_s30, mkR_g31, mkR_p31, mkR_g32, mkR_l32, mkR_n32, mkR_s32, mkR_g33, mkR_l33, mkR_n33, mkR_s33, mkR_g34, mkR_l34, mkR_n34, mkR_s34, mkR_t34, mkR_f34, mkR_g35, mkR_l35, mkR_n35, mkR_s35, mkR_g36, mkR_l36, mkR_n36, mkR_s36, mkR_g37, mkR_l37, mkR_n37, mkR_s37, mkR_g38, mkR_l38, mkR_n38, mkR_s38, mkR_g39, mkR_l39, mkR_n39, mkR_s39, mkR_g40, mkR_l40, mkR_n40, mkR_s40, mkR_g41, mkR_l41, mkR_n41, mkR_s41, a19, e1, a17, a22]
      exact f1
theorem top_le {T U : TM} {c : Nat} (vc : vd T U c) : top c ≤ 4 := by
  have := (nxP_ok (p := c % 625) (v := 1) (kA := 2) (kB := 2) (by omega) vc.2.1 (by omega) (by omega) (by omega) (by omega)).2.2.2
  rw [top_mod]
  exact this
theorem l_expl2 {m0 : Nat} {b : Int32} {T U : TM} (hw : WFT T) (hm : m0 < 6) (hu : WFT U) (hbU : b = NO → U = T0) (i : Nat) (I : Nat → Int32) (A : Nat → Nat → Int32) (B : BS) (hT : isT A m0 T) (hU : isTo A b U) (r : RB I A B) (g : GB T U B) (hiB : i < B.1) : ∃ I' A', run (d + 3) mt_140 74 [some (.ref a), some (.int (nI m0)), some (.int b), some (.int (nI i)), some (.int (nI (top (B.2.1 i)))), some (.int (nI 0)), none, none] [] (mkR h a I A) = run (d + 3) mt_140 51 [some (.ref a), some (.int (nI m0)), some (.int b), some (.int (nI (i + 1))), none, none, none, none] [] (mkR h a I' A') ∧ RB I' A' (exN T U i B) ∧ fra I I' A A' [22, 23, 24] [17, 19, 20, 21, 25, 26] := by
  have hn := GB_most hw hu g
  have hi : i < 1872 := by omega
  have hv : ∀ v ∈ vsN (B.2.1 i), 1 ≤ v ∧ v ≤ top (B.2.1 i) + 1 := fun v h => vsN_mem.mp h
  obtain ⟨a1, a2, a3⟩ := exV_ok hw hu (show 0 < 3 by decide) (vsN (B.2.1 i)) B g hiB rfl hv
  obtain ⟨b1, b2, b3⟩ := exV_ok hw hu (show 1 < 3 by decide) (vsN (B.2.1 i)) _ a1 (Nat.lt_of_lt_of_le hiB a2.1) (a2.2 i hiB).1 hv
  have p2 := a2.tr b2
  have step : ∀ l, l < 3 → ∀ J C, run (d + 3) mt_140 74 [some (.ref a), some (.int (nI m0)), some (.int b), some (.int (nI i)), some (.int (nI (top (B.2.1 i)))), some (.int (nI l)), none, none] [] (mkR h a J C) = run (d + 3) mt_140 83 [some (.ref a), some (.int (nI m0)), some (.int b), some (.int (nI i)), some (.int (nI (top (B.2.1 i)))), some (.int (nI l)), some (.int (nI 1)), none] [] (mkR h a J C) := fun l hl J C => by
    rw [nd_140_74 (St_run (d + 3) mt_140)]
    simp (disch := omega) only [↓L_m4, ↓L_m1, L_0, L_1, L_2, L_3, L_4, L_5, L_6, L_8, L_9, L_15, L_20, L_30, L_40, L_54, L_60, L_120, L_1872, L_4320, L_22500, le_t, le_f, lt_t, lt_f, eq_t, eq_f, eq_NO, NO_eq, NO_neg, MO_neg, bI_0, nI_add, pk_mul, pk_ds, rem_, nI_MO, nI_0MO, ↓reduceIte, eq_self, reduceCtorEq, Bool.true_eq_false, Bool.false_eq_true, isZn0, isZn1, isZb, bind_some', rI_some, rV_some, rQ_some, rQ_null, updA_at, updA_ne, pk_us, pk_un, ne_eq, not_false_eq_true, Nat.reduceEqDiff, updA_updA, Nat.reduceSub, Nat.reduceAdd, Nat.reduceMul, Nat.reduceDiv, Nat.zero_add, Nat.add_zero, mkR_o, mkR_g0, mkR_p0, mkR_g1, mkR_l1, mkR_n1, mkR_s1, mkR_g2, mkR_l2, mkR_n2, mkR_s2, mkR_g3, mkR_p3, mkR_g4, mkR_l4, mkR_n4, mkR_s4, mkR_g5, mkR_l5, mkR_n5, mkR_s5, mkR_g6, mkR_l6, mkR_n6, mkR_s6, mkR_t6, mkR_f6, mkR_g7, mkR_l7, mkR_n7, mkR_s7, mkR_g8, mkR_l8, mkR_n8, mkR_s8, mkR_g9, mkR_l9, mkR_n9, mkR_s9, mkR_g10, mkR_l10, mkR_n10, mkR_s10, mkR_g11, mkR_l11, mkR_n11, mkR_s11, mkR_g12, mkR_p12, mkR_g13, mkR_l13, mkR_n13, mkR_s13, mkR_t13, mkR_f13, mkR_g14, mkR_l14, mkR_n14, mkR_s14, mkR_g15, mkR_l15, mkR_n15, mkR_s15, mkR_g16, mkR_p16, mkR_g17, mkR_l17, mkR_n17, mkR_s17, mkR_t17, mkR_f17, mkR_g18, mkR_l18, mkR_n18, mkR_s18, mkR_t18, mkR_f18, mkR_g19, mkR_l19, mkR_n19, mkR_s19, mkR_g20, mkR_l20, mkR_n20, mkR_s20, mkR_g21, mkR_l21, mkR_n21, mkR_s21, mkR_g22, mkR_p22, mkR_g23, mkR_p23, mkR_g24, mkR_p24, mkR_g25, mkR_l25, mkR_n25, mkR_s25, mkR_g26, mkR_l26, mkR_n26, mkR_s26, mkR_g27, mkR_l27, mkR_n27, mkR_s27, mkR_g28, mkR_p28, mkR_g29, mkR_p29, mkR_g30, mkR_l30, mkR_n30, mkR_s30, mkR_g31, mkR_p31, mkR_g32, mkR_l32, mkR_n32, mkR_s32, mkR_g33, mkR_l33, mkR_n33, mkR_s33, mkR_g34, mkR_l34, mkR_n34, mkR_s34, mkR_t34, mkR_f34, mkR_g35, mkR_l35, mkR_n35, mkR_s35, mkR_g36, mkR_l36, mkR_n36, mkR_s36, mkR_g37, mkR_l37, mkR_n37, mkR_s37, mkR_g38, mkR_l38, mkR_n38, mkR_s38, mkR_g39, mkR_l39, mkR_n39, mkR_s39, mkR_g40, mkR_l40, mkR_n40, mkR_s40, mkR_g41, mkR_l41, mkR_n41, mkR_s41]
  obtain ⟨I1, A1, e1, e2, e3⟩ := l_expl1 (d := d) (a := a) (h := h) hw hm hu hbU (B.2.1 i) i 0 hi (by omega) (top (B.2.1 i) + 1) 1 I A B (by omega) (by omega) hT hU r g hiB rfl
  obtain ⟨I2, A2, f1, f2, f3⟩ := l_expl1 (d := d) (a := a) (h := h) hw hm hu hbU (B.2.1 i) i 1 hi (by omega) (top (B.2.1 i) + 1) 1 I1 A1 _ (by omega) (by omega) (hT.fa e3 (by decide)) (hU.fa e3 (by decide)) e2 a1 (Nat.lt_of_lt_of_le hiB a2.1) (a2.2 i hiB).1
  have e4 := e3.tr f3
  obtain ⟨I3, A3, g1, g2, g3⟩ := l_expl1 (d := d) (a := a) (h := h) hw hm hu hbU (B.2.1 i) i 2 hi (by omega) (top (B.2.1 i) + 1) 1 I2 A2 _ (by omega) (by omega) (hT.fa e4 (by decide)) (hU.fa e4 (by decide)) f2 b1 (Nat.lt_of_lt_of_le hiB p2.1) (p2.2 i hiB).1
  refine ⟨I3, A3, ?_, g2, e4.tr g3⟩
  rw [step 0 (by omega), e1, step 1 (by omega), f1, step 2 (by omega), g1, nd_140_74 (St_run (d + 3) mt_140)]
  simp (disch := omega) only [↓L_m4, ↓L_m1, L_0, L_1, L_2, L_3, L_4, L_5, L_6, L_8, L_9, L_15, L_20, L_30, L_40, L_54, L_60, L_120, L_1872, L_4320, L_22500, le_t, le_f, lt_t, lt_f, eq_t, eq_f, eq_NO, NO_eq, NO_neg, MO_neg, bI_0, nI_add, pk_mul, pk_ds, rem_, nI_MO, nI_0MO, ↓reduceIte, eq_self, reduceCtorEq, Bool.true_eq_false, Bool.false_eq_true, isZn0, isZn1, isZb, bind_some', rI_some, rV_some, rQ_some, rQ_null, updA_at, updA_ne, pk_us, pk_un, ne_eq, not_false_eq_true, Nat.reduceEqDiff, updA_updA, Nat.reduceSub, Nat.reduceAdd, Nat.reduceMul, Nat.reduceDiv, Nat.zero_add, Nat.add_zero, mkR_o, mkR_g0, mkR_p0, mkR_g1, mkR_l1, mkR_n1, mkR_s1, mkR_g2, mkR_l2, mkR_n2, mkR_s2, mkR_g3, mkR_p3, mkR_g4, mkR_l4, mkR_n4, mkR_s4, mkR_g5, mkR_l5, mkR_n5, mkR_s5, mkR_g6, mkR_l6, mkR_n6, mkR_s6, mkR_t6, mkR_f6, mkR_g7, mkR_l7, mkR_n7, mkR_s7, mkR_g8, mkR_l8, mkR_n8, mkR_s8, mkR_g9, mkR_l9, mkR_n9, mkR_s9, mkR_g10, mkR_l10, mkR_n10, mkR_s10, mkR_g11, mkR_l11, mkR_n11, mkR_s11, mkR_g12, mkR_p12, mkR_g13, mkR_l13, mkR_n13, mkR_s13, mkR_t13, mkR_f13, mkR_g14, mkR_l14, mkR_n14, mkR_s14, mkR_g15, mkR_l15, mkR_n15, mkR_s15, mkR_g16, mkR_p16, mkR_g17, mkR_l17, mkR_n17, mkR_s17, mkR_t17, mkR_f17, mkR_g18, mkR_l18, mkR_n18, mkR_s18, mkR_t18, mkR_f18, mkR_g19, mkR_l19, mkR_n19, mkR_s19, mkR_g20, mkR_l20, mkR_n20, mkR_s20, mkR_g21, mkR_l21, mkR_n21, mkR_s21, mkR_g22, mkR_p22, mkR_g23, mkR_p23, mkR_g24, mkR_p24, mkR_g25, mkR_l25, mkR_n25, mkR_s25, mkR_g26, mkR_l26, mkR_n26, mkR_s26, mkR_g27, mkR_l27, mkR_n27, mkR_s27, mkR_g28, mkR_p28, mkR_g29, mkR_p29, mkR_g30, mkR_l30, mkR_n30, mkR_s30, mkR_g31, mkR_p31, mkR_g32, mkR_l32, mkR_n32, mkR_s32, mkR_g33, mkR_l33, mkR_n33, mkR_s33, mkR_g34, mkR_l34, mkR_n34, mkR_s34, mkR_t34, mkR_f34, mkR_g35, mkR_l35, mkR_n35, mkR_s35, mkR_g36, mkR_l36, mkR_n36, mkR_s36, mkR_g37, mkR_l37, mkR_n37, mkR_s37, mkR_g38, mkR_l38, mkR_n38, mkR_s38, mkR_g39, mkR_l39, mkR_n39, mkR_s39, mkR_g40, mkR_l40, mkR_n40, mkR_s40, mkR_g41, mkR_l41, mkR_n41, mkR_s41]
theorem l_expl3 {m0 : Nat} {b : Int32} {T U : TM} (hw : WFT T) (hm : m0 < 6) (hu : WFT U) (hbU : b = NO → U = T0) : ∀ (m i : Nat) (I : Nat → Int32) (A : Nat → Nat → Int32), i + m = 1873 → isT A m0 T → isTo A b U → RB I A (bf T U i) → ∃ I' A', run (d + 3) mt_140 51 [some (.ref a), some (.int (nI m0)), some (.int b), some (.int (nI i)), none, none, none, none] [] (mkR h a I A) = some (none, mkR h a I' A') ∧ RB I' A' (bF T U) ∧ fra I I' A A' [22, 23, 24] [17, 19, 20, 21, 25, 26] := by
  intro m
  induction m with
  | zero =>
    intro i I A hi hT hU r
    have g := bf_GB hw hu i
    have hn := GB_most hw hu g
    refine ⟨I, A, ?_, by rw [← bF_of hw hu (show (bf T U i).1 ≤ i by omega)]; exact r, fra.rf _ _ _ _⟩
    rw [nd_140_51 (St_run (d + 3) mt_140)]
    have a22 := r.1
    simp (disch := omega) only [↓L_m4, ↓L_m1, L_0, L_1, L_2, L_3, L_4, L_5, L_6, L_8, L_9, L_15, L_20, L_30, L_40, L_54, L_60, L_120, L_1872, L_4320, L_22500, le_t, le_f, lt_t, lt_f, eq_t, eq_f, eq_NO, NO_eq, NO_neg, MO_neg, bI_0, nI_add, pk_mul, pk_ds, rem_, nI_MO, nI_0MO, ↓reduceIte, eq_self, reduceCtorEq, Bool.true_eq_false, Bool.false_eq_true, isZn0, isZn1, isZb, bind_some', rI_some, rV_some, rQ_some, rQ_null, updA_at, updA_ne, pk_us, pk_un, ne_eq, not_false_eq_true, Nat.reduceEqDiff, updA_updA, Nat.reduceSub, Nat.reduceAdd, Nat.reduceMul, Nat.reduceDiv, Nat.zero_add, Nat.add_zero, mkR_o, mkR_g0, mkR_p0, mkR_g1, mkR_l1, mkR_n1, mkR_s1, mkR_g2, mkR_l2, mkR_n2, mkR_s2, mkR_g3, mkR_p3, mkR_g4, mkR_l4, mkR_n4, mkR_s4, mkR_g5, mkR_l5, mkR_n5, mkR_s5, mkR_g6, mkR_l6, mkR_n6, mkR_s6, mkR_t6, mkR_f6, mkR_g7, mkR_l7, mkR_n7, mkR_s7, mkR_g8, mkR_l8, mkR_n8, mkR_s8, mkR_g9, mkR_l9, mkR_n9, mkR_s9, mkR_g10, mkR_l10, mkR_n10, mkR_s10, mkR_g11, mkR_l11, mkR_n11, mkR_s11, mkR_g12, mkR_p12, mkR_g13, mkR_l13, mkR_n13, mkR_s13, mkR_t13, mkR_f13, mkR_g14, mkR_l14, mkR_n14, mkR_s14, mkR_g15, mkR_l15, mkR_n15, mkR_s15, mkR_g16, mkR_p16, mkR_g17, mkR_l17, mkR_n17, mkR_s17, mkR_t17, mkR_f17, mkR_g18, mkR_l18, mkR_n18, mkR_s18, mkR_t18, mkR_f18, mkR_g19, mkR_l19, mkR_n19, mkR_s19, mkR_g20, mkR_l20, mkR_n20, mkR_s20, mkR_g21, mkR_l21, mkR_n21, mkR_s21, mkR_g22, mkR_p22, mkR_g23, mkR_p23, mkR_g24, mkR_p24, mkR_g25, mkR_l25, mkR_n25, mkR_s25, mkR_g26, mkR_l26, mkR_n26, mkR_s26, mkR_g27, mkR_l27, mkR_n27, mkR_s27, mkR_g28, mkR_p28, mkR_g29, mkR_p29, mkR_g30, mkR_l30, mkR_n30, mkR_s30, mkR_g31, mkR_p31, mkR_g32, mkR_l32, mkR_n32, mkR_s32, mkR_g33, mkR_l33, mkR_n33, mkR_s33, mkR_g34, mkR_l34, mkR_n34, mkR_s34, mkR_t34, mkR_f34, mkR_g35, mkR_l35, mkR_n35, mkR_s35, mkR_g36, mkR_l36, mkR_n36, mkR_s36, mkR_g37, mkR_l37, mkR_n37, mkR_s37, mkR_g38, mkR_l38, mkR_n38, mkR_s38, mkR_g39, mkR_l39, mkR_n39, mkR_s39, mkR_g40, mkR_l40, mkR_n40, mkR_s40, mkR_g41, mkR_l41, mkR_n41, mkR_s41, a22]
  | succ m ih =>
    intro i I A hi hT hU r
    have g := bf_GB hw hu i
    have hn := GB_most hw hu g
    have a22 := r.1
    by_cases hiB : i < (bf T U i).1
    · have vc := g.2.2.1 i hiB
      have hc := vc.1
      have ht := top_le vc
      have a19 := r.2.1 i hiB
      have p1 : fra I (upd (upd I 24 (nI ((bf T U i).2.1 i / 625 % 6))) 23 (nI ((bf T U i).2.1 i / 625 / 6))) A (updA A 25 (qL (A 25) (lb ((bf T U i).2.1 i)))) [22, 23, 24] [17, 19, 20, 21, 25, 26] := (((fra.rf _ _ _ _).u _ (by decide)).u _ (by decide)).w _ (by decide)
      obtain ⟨I1, A1, e1, e2, e3⟩ := l_expl2 (d := d) (a := a) (h := h) hw hm hu hbU i (upd (upd I 24 (nI ((bf T U i).2.1 i / 625 % 6))) 23 (nI ((bf T U i).2.1 i / 625 / 6))) (updA A 25 (qL (A 25) (lb ((bf T U i).2.1 i)))) (bf T U i) (hT.fa p1 (by decide)) (hU.fa p1 (by decide)) (show RB _ _ _ from by
        unfold RB
        exact r) g hiB
      have e0 : bf T U (i + 1) = exN T U i (bf T U i) := if_pos hiB
      rw [← e0] at e2
      have p2 := p1.tr e3
      obtain ⟨I2, A2, f1, f2, f3⟩ := ih (i + 1) I1 A1 (by omega) (hT.fa p2 (by decide)) (hU.fa p2 (by decide)) e2
      refine ⟨I2, A2, ?_, f2, p2.tr f3⟩
      rw [nd_140_51 (St_run (d + 3) mt_140)]
      have hlI : ∀ (J : Nat → Int32) (C : Nat → Nat → Int32), call (d + 3) 139 [.ref a, .int (nI ((bf T U i).2.1 i))] (mkR h a J C) = some (some (.int (nI (top ((bf T U i).2.1 i)))), mkR h a (upd (upd J 24 (nI ((bf T U i).2.1 i / 625 % 6))) 23 (nI ((bf T U i).2.1 i / 625 / 6))) (updA C 25 (qL (C 25) (lb ((bf T U i).2.1 i))))) := fun J C => R_labelsIn (d := d + 1) _ hc
      simp (disch := omega) only [↓L_m4, ↓L_m1, L_0, L_1, L_2, L_3, L_4, L_5, L_6, L_8, L_9, L_15, L_20, L_30, L_40, L_54, L_60, L_120, L_1872, L_4320, L_22500, le_t, le_f, lt_t, lt_f, eq_t, eq_f, eq_NO, NO_eq, NO_neg, MO_neg, bI_0, nI_add, pk_mul, pk_ds, rem_, nI_MO, nI_0MO, ↓reduceIte, eq_self, reduceCtorEq, Bool.true_eq_false, Bool.false_eq_true, isZn0, isZn1, isZb, bind_some', rI_some, rV_some, rQ_some, rQ_null, updA_at, updA_ne, pk_us, pk_un, ne_eq, not_false_eq_true, Nat.reduceEqDiff, updA_updA, Nat.reduceSub, Nat.reduceAdd, Nat.reduceMul, Nat.reduceDiv, Nat.zero_add, Nat.add_zero, mkR_o, mkR_g0, mkR_p0, mkR_g1, mkR_l1, mkR_n1, mkR_s1, mkR_g2, mkR_l2, mkR_n2, mkR_s2, mkR_g3, mkR_p3, mkR_g4, mkR_l4, mkR_n4, mkR_s4, mkR_g5, mkR_l5, mkR_n5, mkR_s5, mkR_g6, mkR_l6, mkR_n6, mkR_s6, mkR_t6, mkR_f6, mkR_g7, mkR_l7, mkR_n7, mkR_s7, mkR_g8, mkR_l8, mkR_n8, mkR_s8, mkR_g9, mkR_l9, mkR_n9, mkR_s9, mkR_g10, mkR_l10, mkR_n10, mkR_s10, mkR_g11, mkR_l11, mkR_n11, mkR_s11, mkR_g12, mkR_p12, mkR_g13, mkR_l13, mkR_n13, mkR_s13, mkR_t13, mkR_f13, mkR_g14, mkR_l14, mkR_n14, mkR_s14, mkR_g15, mkR_l15, mkR_n15, mkR_s15, mkR_g16, mkR_p16, mkR_g17, mkR_l17, mkR_n17, mkR_s17, mkR_t17, mkR_f17, mkR_g18, mkR_l18, mkR_n18, mkR_s18, mkR_t18, mkR_f18, mkR_g19, mkR_l19, mkR_n19, mkR_s19, mkR_g20, mkR_l20, mkR_n20, mkR_s20, mkR_g21, mkR_l21, mkR_n21, mkR_s21, mkR_g22, mkR_p22, mkR_g23, mkR_p23, mkR_g24, mkR_p24, mkR_g25, mkR_l25, mkR_n25, mkR_s25, mkR_g26, mkR_l26, mkR_n26, mkR_s26, mkR_g27, mkR_l27, mkR_n27, mkR_s27, mkR_g28, mkR_p28, mkR_g29, mkR_p29, mkR_g30, mkR_l30, mkR_n30, mkR_s30, mkR_g31, mkR_p31, mkR_g32, mkR_l32, mkR_n32, mkR_s32, mkR_g33, mkR_l33, mkR_n33, mkR_s33, mkR_g34, mkR_l34, mkR_n34, mkR_s34, mkR_t34, mkR_f34, mkR_g35, mkR_l35, mkR_n35, mkR_s35, mkR_g36, mkR_l36, mkR_n36, mkR_s36, mkR_g37, mkR_l37, mkR_n37, mkR_s37, mkR_g38, mkR_l38, mkR_n38, mkR_s38, mkR_g39, mkR_l39, mkR_n39, mkR_s39, mkR_g40, mkR_l40, mkR_n40, mkR_s40, mkR_g41, mkR_l41, mkR_n41, mkR_s41, a22, a19, hlI]
      exact e1.trans f1
    · refine ⟨I, A, ?_, by rw [← bF_of hw hu (show (bf T U i).1 ≤ i by omega)]; exact r, fra.rf _ _ _ _⟩
      rw [nd_140_51 (St_run (d + 3) mt_140)]
      simp (disch := omega) only [↓L_m4, ↓L_m1, L_0, L_1, L_2, L_3, L_4, L_5, L_6, L_8, L_9, L_15, L_20, L_30, L_40, L_54, L_60, L_120, L_1872, L_4320, L_22500, le_t, le_f, lt_t, lt_f, eq_t, eq_f, eq_NO, NO_eq, NO_neg, MO_neg, bI_0, nI_add, pk_mul, pk_ds, rem_, nI_MO, nI_0MO, ↓reduceIte, eq_self, reduceCtorEq, Bool.true_eq_false, Bool.false_eq_true, isZn0, isZn1, isZb, bind_some', rI_some, rV_some, rQ_some, rQ_null, updA_at, updA_ne, pk_us, pk_un, ne_eq, not_false_eq_true, Nat.reduceEqDiff, updA_updA, Nat.reduceSub, Nat.reduceAdd, Nat.reduceMul, Nat.reduceDiv, Nat.zero_add, Nat.add_zero, mkR_o, mkR_g0, mkR_p0, mkR_g1, mkR_l1, mkR_n1, mkR_s1, mkR_g2, mkR_l2, mkR_n2, mkR_s2, mkR_g3, mkR_p3, mkR_g4, mkR_l4, mkR_n4, mkR_s4, mkR_g5, mkR_l5, mkR_n5, mkR_s5, mkR_g6, mkR_l6, mkR_n6, mkR_s6, mkR_t6, mkR_f6, mkR_g7, mkR_l7, mkR_n7, mkR_s7, mkR_g8, mkR_l8, mkR_n8, mkR_s8, mkR_g9, mkR_l9, mkR_n9, mkR_s9, mkR_g10, mkR_l10, mkR_n10, mkR_s10, mkR_g11, mkR_l11, mkR_n11, mkR_s11, mkR_g12, mkR_p12, mkR_g13, mkR_l13, mkR_n13, mkR_s13, mkR_t13, mkR_f13, mkR_g14, mkR_l14, mkR_n14, mkR_s14, mkR_g15, mkR_l15, mkR_n15, mkR_s15, mkR_g16, mkR_p16, mkR_g17, mkR_l17, mkR_n17, mkR_s17, mkR_t17, mkR_f17, mkR_g18, mkR_l18, mkR_n18, mkR_s18, mkR_t18, mkR_f18, mkR_g19, mkR_l19, mkR_n19, mkR_s19, mkR_g20, mkR_l20, mkR_n20, mkR_s20, mkR_g21, mkR_l21, mkR_n21, mkR_s21, mkR_g22, mkR_p22, mkR_g23, mkR_p23, mkR_g24, mkR_p24, mkR_g25, mkR_l25, mkR_n25, mkR_s25, mkR_g26, mkR_l26, mkR_n26, mkR_s26, mkR_g27, mkR_l27, mkR_n27, mkR_s27, mkR_g28, mkR_p28, mkR_g29, mkR_p29, mkR_g30, mkR_l30, mkR_n30, mkR_s30, mkR_g31, mkR_p31, mkR_g32, mkR_l32, mkR_n32, mkR_s32, mkR_g33, mkR_l33, mkR_n33, mkR_s33, mkR_g34, mkR_l34, mkR_n34, mkR_s34, mkR_t34, mkR_f34, mkR_g35, mkR_l35, mkR_n35, mkR_s35, mkR_g36, mkR_l36, mkR_n36, mkR_s36, mkR_g37, mkR_l37, mkR_n37, mkR_s37, mkR_g38, mkR_l38, mkR_n38, mkR_s38, mkR_g39, mkR_l39, mkR_n39, mkR_s39, mkR_g40, mkR_l40, mkR_n40, mkR_s40, mkR_g41, mkR_l41, mkR_n41, mkR_s41, a22]
theorem l_expl0 (x1 x2 : Int32) : ∀ (m k : Nat) (I : Nat → Int32) (A : Nat → Nat → Int32), k + m = 22500 → (∀ j, j < k → A 17 j = bI false) → ∃ A', run (d + 3) mt_140 2 [some (.ref a), some (.int x1), some (.int x2), some (.int (nI k)), none, none, none, none] [] (mkR h a I A) = run (d + 3) mt_140 2 [some (.ref a), some (.int x1), some (.int x2), some (.int (nI 22500)), none, none, none, none] [] (mkR h a I A') ∧ (∀ j, j < 22500 → A' 17 j = bI false) ∧ (∀ j, j ≠ 17 → A' j = A j) := by
  intro m
  induction m with
  | zero =>
    intro k I A hk h0
    have : k = 22500 := by omega
    subst this
    exact ⟨A, rfl, h0, fun _ _ => rfl⟩
  | succ m ih =>
    intro k I A hk h0
    obtain ⟨A', e1, e2, e3⟩ := ih (k + 1) I (updA A 17 (upd (A 17) k (bI false))) (by omega) (fun j hj => by
      rw [updA_at]
      by_cases h : j = k
      · rw [h, pk_us]
      · rw [pk_un h]; exact h0 j (by omega))
    refine ⟨A', ?_, e2, fun j hj => (e3 j hj).trans (updA_ne hj)⟩
    rw [nd_140_2 (St_run (d + 3) mt_140)]
    simp (disch := omega) only [↓L_m4, ↓L_m1, L_0, L_1, L_2, L_3, L_4, L_5, L_6, L_8, L_9, L_15, L_20, L_30, L_40, L_54, L_60, L_120, L_1872, L_4320, L_22500, le_t, le_f, lt_t, lt_f, eq_t, eq_f, eq_NO, NO_eq, NO_neg, MO_neg, bI_0, nI_add, pk_mul, pk_ds, rem_, nI_MO, nI_0MO, ↓reduceIte, eq_self, reduceCtorEq, Bool.true_eq_false, Bool.false_eq_true, isZn0, isZn1, isZb, bind_some', rI_some, rV_some, rQ_some, rQ_null, updA_at, updA_ne, pk_us, pk_un, ne_eq, not_false_eq_true, Nat.reduceEqDiff, updA_updA, Nat.reduceSub, Nat.reduceAdd, Nat.reduceMul, Nat.reduceDiv, Nat.zero_add, Nat.add_zero, mkR_o, mkR_g0, mkR_p0, mkR_g1, mkR_l1, mkR_n1, mkR_s1, mkR_g2, mkR_l2, mkR_n2, mkR_s2, mkR_g3, mkR_p3, mkR_g4, mkR_l4, mkR_n4, mkR_s4, mkR_g5, mkR_l5, mkR_n5, mkR_s5, mkR_g6, mkR_l6, mkR_n6, mkR_s6, mkR_t6, mkR_f6, mkR_g7, mkR_l7, mkR_n7, mkR_s7, mkR_g8, mkR_l8, mkR_n8, mkR_s8, mkR_g9, mkR_l9, mkR_n9, mkR_s9, mkR_g10, mkR_l10, mkR_n10, mkR_s10, mkR_g11, mkR_l11, mkR_n11, mkR_s11, mkR_g12, mkR_p12, mkR_g13, mkR_l13, mkR_n13, mkR_s13, mkR_t13, mkR_f13, mkR_g14, mkR_l14, mkR_n14, mkR_s14, mkR_g15, mkR_l15, mkR_n15, mkR_s15, mkR_g16, mkR_p16, mkR_g17, mkR_l17, mkR_n17, mkR_s17, mkR_t17, mkR_f17, mkR_g18, mkR_l18, mkR_n18, mkR_s18, mkR_t18, mkR_f18, mkR_g19, mkR_l19, mkR_n19, mkR_s19, mkR_g20, mkR_l20, mkR_n20, mkR_s20, mkR_g21, mkR_l21, mkR_n21, mkR_s21, mkR_g22, mkR_p22, mkR_g23, mkR_p23, mkR_g24, mkR_p24, mkR_g25, mkR_l25, mkR_n25, mkR_s25, mkR_g26, mkR_l26, mkR_n26, mkR_s26, mkR_g27, mkR_l27, mkR_n27, mkR_s27, mkR_g28, mkR_p28, mkR_g29, mkR_p29, mkR_g30, mkR_l30, mkR_n30, mkR_s30, mkR_g31, mkR_p31, mkR_g32, mkR_l32, mkR_n32, mkR_s32, mkR_g33, mkR_l33, mkR_n33, mkR_s33, mkR_g34, mkR_l34, mkR_n34, mkR_s34, mkR_t34, mkR_f34, mkR_g35, mkR_l35, mkR_n35, mkR_s35, mkR_g36, mkR_l36, mkR_n36, mkR_s36, mkR_g37, mkR_l37, mkR_n37, mkR_s37, mkR_g38, mkR_l38, mkR_n38, mkR_s38, mkR_g39, mkR_l39, mkR_n39, mkR_s39, mkR_g40, mkR_l40, mkR_n40, mkR_s40, mkR_g41, mkR_l41, mkR_n41, mkR_s41]
    exact e1
theorem R_explores {m0 : Nat} {b : Int32} {T U : TM} {I : Nat → Int32} {A : Nat → Nat → Int32} (hw : WFT T) (hm : m0 < 6) (hu : WFT U) (hT : isT A m0 T) (hU : isTo A b U) : ∃ I' A', call (d + 4) 140 [.ref a, .int (nI m0), .int b] (mkR h a I A) = some (none, mkR h a I' A') ∧ RB I' A' (bF T U) ∧ fra I I' A A' [22, 23, 24] [17, 19, 20, 21, 25, 26] := by
  have hbU : b = NO → U = T0 := fun e => by
    rcases hU with ⟨m, h1, h2, h3⟩ | h
    · rw [e] at h2
      have := NO_eq (a := m) (by omega)
      rw [this] at h2
      exact h2.elim
    · exact h.2
  obtain ⟨A1, e1, e2, e3⟩ := l_expl0 (d := d) (a := a) (h := h) (nI m0) b 22500 0 I A (by omega) (fun j hj => by omega)
  have p0 : fra I I A A1 [22, 23, 24] [17, 19, 20, 21, 25, 26] := ⟨fun _ _ => rfl, fun k hk => e3 k (fun e => hk (by simp [e]))⟩
  have p1 : fra I (upd I 22 (nI 1)) A (updA (updA (updA A1 17 (upd (A1 17) 0 (bI true))) 19 (upd (A1 19) 0 (nI 0))) 20 (upd (A1 20) 0 NO)) [22, 23, 24] [17, 19, 20, 21, 25, 26] := (((p0.u _ (by decide)).w _ (by decide)).w _ (by decide)).w _ (by decide)
  obtain ⟨I2, A2, f1, f2, f3⟩ := l_expl3 (d := d) (a := a) (h := h) hw hm hu hbU 1873 0 (upd I 22 (nI 1)) (updA (updA (updA A1 17 (upd (A1 17) 0 (bI true))) 19 (upd (A1 19) 0 (nI 0))) 20 (upd (A1 20) 0 NO)) (by omega) (hT.fa p1 (by decide)) (hU.fa p1 (by decide)) (show RB _ _ B0 from by
    refine ⟨rfl, fun j hj => ?_, rfl, fun j h0 hj => by dsimp only [B0] at hj; omega, fun c hc => ?_⟩
    · have : j = 0 := by dsimp only [B0] at hj; omega
      subst this
      rfl
    · show upd (A1 17) 0 (bI true) c = bI (memN (fun _ => 0) c 1)
      by_cases h : c = 0
      · subst h; rfl
      · rw [pk_un h, e2 c hc]
        unfold memN memN
        rw [Bool.false_or, beq_eq_false_iff_ne.mpr (fun e => h e.symm)])
  refine ⟨I2, A2, ?_, f2, p1.tr f3⟩
  rw [call_at mt_140 [some (.ref a), some (.int (nI m0)), some (.int b), none, none, none, none, none] rfl rfl rfl, nd_140_0 (St_run (d + 3) mt_140)]
  refine e1.trans ?_
  rw [nd_140_2 (St_run (d + 3) mt_140)]
  simp (disch := omega) only [↓L_m4, ↓L_m1, L_0, L_1, L_2, L_3, L_4, L_5, L_6, L_8, L_9, L_15, L_20, L_30, L_40, L_54, L_60, L_120, L_1872, L_4320, L_22500, le_t, le_f, lt_t, lt_f, eq_t, eq_f, eq_NO, NO_eq, NO_neg, MO_neg, bI_0, nI_add, pk_mul, pk_ds, rem_, nI_MO, nI_0MO, ↓reduceIte, eq_self, reduceCtorEq, Bool.true_eq_false, Bool.false_eq_true, isZn0, isZn1, isZb, bind_some', rI_some, rV_some, rQ_some, rQ_null, updA_at, updA_ne, pk_us, pk_un, ne_eq, not_false_eq_true, Nat.reduceEqDiff, updA_updA, Nat.reduceSub, Nat.reduceAdd, Nat.reduceMul, Nat.reduceDiv, Nat.zero_add, Nat.add_zero, mkR_o, mkR_g0, mkR_p0, mkR_g1, mkR_l1, mkR_n1, mkR_s1, mkR_g2, mkR_l2, mkR_n2, mkR_s2, mkR_g3, mkR_p3, mkR_g4, mkR_l4, mkR_n4, mkR_s4, mkR_g5, mkR_l5, mkR_n5, mkR_s5, mkR_g6, mkR_l6, mkR_n6, mkR_s6, mkR_t6, mkR_f6, mkR_g7, mkR_l7, mkR_n7, mkR_s7, mkR_g8, mkR_l8, mkR_n8, mkR_s8, mkR_g9, mkR_l9, mkR_n9, mkR_s9, mkR_g10, mkR_l10, mkR_n10, mkR_s10, mkR_g11, mkR_l11, mkR_n11, mkR_s11, mkR_g12, mkR_p12, mkR_g13, mkR_l13, mkR_n13, mkR_s13, mkR_t13, mkR_f13, mkR_g14, mkR_l14, mkR_n14, mkR_s14, mkR_g15, mkR_l15, mkR_n15, mkR_s15, mkR_g16, mkR_p16, mkR_g17, mkR_l17, mkR_n17, mkR_s17, mkR_t17, mkR_f17, mkR_g18, mkR_l18, mkR_n18, mkR_s18, mkR_t18, mkR_f18, mkR_g19, mkR_l19, mkR_n19, mkR_s19, mkR_g20, mkR_l20, mkR_n20, mkR_s20, mkR_g21, mkR_l21, mkR_n21, mkR_s21, mkR_g22, mkR_p22, mkR_g23, mkR_p23, mkR_g24, mkR_p24, mkR_g25, mkR_l25, mkR_n25, mkR_s25, mkR_g26, mkR_l26, mkR_n26, mkR_s26, mkR_g27, mkR_l27, mkR_n27, mkR_s27, mkR_g28, mkR_p28, mkR_g29, mkR_p29, mkR_g30, mkR_l30, mkR_n30, mkR_s30, mkR_g31, mkR_p31, mkR_g32, mkR_l32, mkR_n32, mkR_s32, mkR_g33, mkR_l33, mkR_n33, mkR_s33, mkR_g34, mkR_l34, mkR_n34, mkR_s34, mkR_t34, mkR_f34, mkR_g35, mkR_l35, mkR_n35, mkR_s35, mkR_g36, mkR_l36, mkR_n36, mkR_s36, mkR_g37, mkR_l37, mkR_n37, mkR_s37, mkR_g38, mkR_l38, mkR_n38, mkR_s38, mkR_g39, mkR_l39, mkR_n39, mkR_s39, mkR_g40, mkR_l40, mkR_n40, mkR_s40, mkR_g41, mkR_l41, mkR_n41, mkR_s41]
  exact f1
/-! wanted -/
theorem R_isGoodA {m : Nat} {T : TM} {I : Nat → Int32} {A : Nat → Nat → Int32} (hT : isT A m T) (hm : m < 6) (c : Nat) (hc : c < 22500) : call (d + 2) 141 [.ref a, .int (nI m), .int (nI c)] (mkR h a I A) = some (some (.int (bI (T.2.2.2 (c / 625 / 6)))), mkR h a (upd (upd I 24 (nI (c / 625 % 6))) 23 (nI (c / 625 / 6))) (updA A 25 (qL (A 25) (lb c)))) := by
  have e6 := hT.g (i := 6 * m + c / 625 / 6) (j := c / 625 / 6) (by omega) rfl
  rw [call_at mt_141 [some (.ref a), some (.int (nI m)), some (.int (nI c))] rfl rfl rfl, nd_141_0 (St_run (d + 1) mt_141)]
  simp (disch := omega) only [↓L_m4, ↓L_m1, L_0, L_1, L_2, L_3, L_4, L_5, L_6, L_8, L_9, L_15, L_20, L_30, L_40, L_54, L_60, L_120, L_1872, L_4320, L_22500, le_t, le_f, lt_t, lt_f, eq_t, eq_f, eq_NO, NO_eq, NO_neg, MO_neg, bI_0, nI_add, pk_mul, pk_ds, rem_, nI_MO, nI_0MO, ↓reduceIte, eq_self, reduceCtorEq, Bool.true_eq_false, Bool.false_eq_true, isZn0, isZn1, isZb, bind_some', rI_some, rV_some, rQ_some, rQ_null, updA_at, updA_ne, pk_us, pk_un, ne_eq, not_false_eq_true, Nat.reduceEqDiff, updA_updA, Nat.reduceSub, Nat.reduceAdd, Nat.reduceMul, Nat.reduceDiv, Nat.zero_add, Nat.add_zero, mkR_o, mkR_g0, mkR_p0, mkR_g1, mkR_l1, mkR_n1, mkR_s1, mkR_g2, mkR_l2, mkR_n2, mkR_s2, mkR_g3, mkR_p3, mkR_g4, mkR_l4, mkR_n4, mkR_s4, mkR_g5, mkR_l5, mkR_n5, mkR_s5, mkR_g6, mkR_l6, mkR_n6, mkR_s6, mkR_t6, mkR_f6, mkR_g7, mkR_l7, mkR_n7, mkR_s7, mkR_g8, mkR_l8, mkR_n8, mkR_s8, mkR_g9, mkR_l9, mkR_n9, mkR_s9, mkR_g10, mkR_l10, mkR_n10, mkR_s10, mkR_g11, mkR_l11, mkR_n11, mkR_s11, mkR_g12, mkR_p12, mkR_g13, mkR_l13, mkR_n13, mkR_s13, mkR_t13, mkR_f13, mkR_g14, mkR_l14, mkR_n14, mkR_s14, mkR_g15, mkR_l15, mkR_n15, mkR_s15, mkR_g16, mkR_p16, mkR_g17, mkR_l17, mkR_n17, mkR_s17, mkR_t17, mkR_f17, mkR_g18, mkR_l18, mkR_n18, mkR_s18, mkR_t18, mkR_f18, mkR_g19, mkR_l19, mkR_n19, mkR_s19, mkR_g20, mkR_l20, mkR_n20, mkR_s20, mkR_g21, mkR_l21, mkR_n21, mkR_s21, mkR_g22, mkR_p22, mkR_g23, mkR_p23, mkR_g24, mkR_p24, mkR_g25, mkR_l25, mkR_n25, mkR_s25, mkR_g26, mkR_l26, mkR_n26, mkR_s26, mkR_g27, mkR_l27, mkR_n27, mkR_s27, mkR_g28, mkR_p28, mkR_g29, mkR_p29, mkR_g30, mkR_l30, mkR_n30, mkR_s30, mkR_g31, mkR_p31, mkR_g32, mkR_l32, mkR_n32, mkR_s32, mkR_g33, mkR_l33, mkR_n33, mkR_s33, mkR_g34, mkR_l34, mkR_n34, mkR_s34, mkR_t34, mkR_f34, mkR_g35, mkR_l35, mkR_n35, mkR_s35, mkR_g36, mkR_l36, mkR_n36, mkR_s36, mkR_g37, mkR_l37, mkR_n37, mkR_s37, mkR_g38, mkR_l38, mkR_n38, mkR_s38, mkR_g39, mkR_l39, mkR_n39, mkR_s39, mkR_g40, mkR_l40, mkR_n40, mkR_s40, mkR_g41, mkR_l41, mkR_n41, mkR_s41, R_apart, e6]
theorem R_isGoodB {m : Nat} {T : TM} {I : Nat → Int32} {A : Nat → Nat → Int32} (hT : isT A m T) (hm : m < 6) (c : Nat) (hc : c < 22500) : call (d + 2) 142 [.ref a, .int (nI m), .int (nI c)] (mkR h a I A) = some (some (.int (bI (T.2.2.2 (c / 625 % 6)))), mkR h a (upd (upd I 24 (nI (c / 625 % 6))) 23 (nI (c / 625 / 6))) (updA A 25 (qL (A 25) (lb c)))) := by
  have e6 := hT.g (i := 6 * m + c / 625 % 6) (j := c / 625 % 6) (by omega) rfl
  rw [call_at mt_142 [some (.ref a), some (.int (nI m)), some (.int (nI c))] rfl rfl rfl, nd_142_0 (St_run (d + 1) mt_142)]
  simp (disch := omega) only [↓L_m4, ↓L_m1, L_0, L_1, L_2, L_3, L_4, L_5, L_6, L_8, L_9, L_15, L_20, L_30, L_40, L_54, L_60, L_120, L_1872, L_4320, L_22500, le_t, le_f, lt_t, lt_f, eq_t, eq_f, eq_NO, NO_eq, NO_neg, MO_neg, bI_0, nI_add, pk_mul, pk_ds, rem_, nI_MO, nI_0MO, ↓reduceIte, eq_self, reduceCtorEq, Bool.true_eq_false, Bool.false_eq_true, isZn0, isZn1, isZb, bind_some', rI_some, rV_some, rQ_some, rQ_null, updA_at, updA_ne, pk_us, pk_un, ne_eq, not_false_eq_true, Nat.reduceEqDiff, updA_updA, Nat.reduceSub, Nat.reduceAdd, Nat.reduceMul, Nat.reduceDiv, Nat.zero_add, Nat.add_zero, mkR_o, mkR_g0, mkR_p0, mkR_g1, mkR_l1, mkR_n1, mkR_s1, mkR_g2, mkR_l2, mkR_n2, mkR_s2, mkR_g3, mkR_p3, mkR_g4, mkR_l4, mkR_n4, mkR_s4, mkR_g5, mkR_l5, mkR_n5, mkR_s5, mkR_g6, mkR_l6, mkR_n6, mkR_s6, mkR_t6, mkR_f6, mkR_g7, mkR_l7, mkR_n7, mkR_s7, mkR_g8, mkR_l8, mkR_n8, mkR_s8, mkR_g9, mkR_l9, mkR_n9, mkR_s9, mkR_g10, mkR_l10, mkR_n10, mkR_s10, mkR_g11, mkR_l11, mkR_n11, mkR_s11, mkR_g12, mkR_p12, mkR_g13, mkR_l13, mkR_n13, mkR_s13, mkR_t13, mkR_f13, mkR_g14, mkR_l14, mkR_n14, mkR_s14, mkR_g15, mkR_l15, mkR_n15, mkR_s15, mkR_g16, mkR_p16, mkR_g17, mkR_l17, mkR_n17, mkR_s17, mkR_t17, mkR_f17, mkR_g18, mkR_l18, mkR_n18, mkR_s18, mkR_t18, mkR_f18, mkR_g19, mkR_l19, mkR_n19, mkR_s19, mkR_g20, mkR_l20, mkR_n20, mkR_s20, mkR_g21, mkR_l21, mkR_n21, mkR_s21, mkR_g22, mkR_p22, mkR_g23, mkR_p23, mkR_g24, mkR_p24, mkR_g25, mkR_l25, mkR_n25, mkR_s25, mkR_g26, mkR_l26, mkR_n26, mkR_s26, mkR_g27, mkR_l27, mkR_n27, mkR_s27, mkR_g28, mkR_p28, mkR_g29, mkR_p29, mkR_g30, mkR_l30, mkR_n30, mkR_s30, mkR_g31, mkR_p31, mkR_g32, mkR_l32, mkR_n32, mkR_s32, mkR_g33, mkR_l33, mkR_n33, mkR_s33, mkR_g34, mkR_l34, mkR_n34, mkR_s34, mkR_t34, mkR_f34, mkR_g35, mkR_l35, mkR_n35, mkR_s35, mkR_g36, mkR_l36, mkR_n36, mkR_s36, mkR_g37, mkR_l37, mkR_n37, mkR_s37, mkR_g38, mkR_l38, mkR_n38, mkR_s38, mkR_g39, mkR_l39, mkR_n39, mkR_s39, mkR_g40, mkR_l40, mkR_n40, mkR_s40, mkR_g41, mkR_l41, mkR_n41, mkR_s41, R_apart, e6]
/-- the first of m from i on that holds p -/
def fw (p : Nat → Bool) : Nat → Nat → Option Nat
  | 0, _ => none
  | m + 1, i => if p i = true then some i else fw p m (i + 1)
def oI (x : Option Nat) : Int32 := match x with
  | some i => nI i
  | none => NO
def wnt (T U : TM) (c : Nat) : Bool := T.2.2.2 (c / 625 / 6) != U.2.2.2 (c / 625 % 6)
theorem bI_eq (x y : Bool) : (bI x = bI y) = (x = y) := by cases x <;> cases y <;> simp [bI]
theorem l_wanted {m0 : Nat} {b : Int32} {T U : TM} (hw : WFT T) (hm : m0 < 6) (hu : WFT U) {B : BS} (g : GB T U B) : ∀ (m i : Nat) (I : Nat → Int32) (A : Nat → Nat → Int32), i + m = B.1 → isT A m0 T → isTo A b U → RB I A B → ∃ I' A', run (d + 4) mt_143 8 [some (.ref a), some (.int (nI m0)), some (.int b), some (.int (nI i))] [] (mkR h a I A) = some (some (.int (oI (fw (fun i => wnt T U (B.2.1 i)) m i))), mkR h a I' A') ∧ fra I I' A A' [23, 24] [25] := by
  have hn := GB_most hw hu g
  intro m
  induction m with
  | zero =>
    intro i I A hi hT hU r
    refine ⟨I, A, ?_, fra.rf _ _ _ _⟩
    have a22 := r.1
    rw [nd_143_8 (St_run (d + 4) mt_143)]
    simp (disch := omega) only [↓L_m4, ↓L_m1, L_0, L_1, L_2, L_3, L_4, L_5, L_6, L_8, L_9, L_15, L_20, L_30, L_40, L_54, L_60, L_120, L_1872, L_4320, L_22500, le_t, le_f, lt_t, lt_f, eq_t, eq_f, eq_NO, NO_eq, NO_neg, MO_neg, bI_0, nI_add, pk_mul, pk_ds, rem_, nI_MO, nI_0MO, ↓reduceIte, eq_self, reduceCtorEq, Bool.true_eq_false, Bool.false_eq_true, isZn0, isZn1, isZb, bind_some', rI_some, rV_some, rQ_some, rQ_null, updA_at, updA_ne, pk_us, pk_un, ne_eq, not_false_eq_true, Nat.reduceEqDiff, updA_updA, Nat.reduceSub, Nat.reduceAdd, Nat.reduceMul, Nat.reduceDiv, Nat.zero_add, Nat.add_zero, mkR_o, mkR_g0, mkR_p0, mkR_g1, mkR_l1, mkR_n1, mkR_s1, mkR_g2, mkR_l2, mkR_n2, mkR_s2, mkR_g3, mkR_p3, mkR_g4, mkR_l4, mkR_n4, mkR_s4, mkR_g5, mkR_l5, mkR_n5, mkR_s5, mkR_g6, mkR_l6, mkR_n6, mkR_s6, mkR_t6, mkR_f6, mkR_g7, mkR_l7, mkR_n7, mkR_s7, mkR_g8, mkR_l8, mkR_n8, mkR_s8, mkR_g9, mkR_l9, mkR_n9, mkR_s9, mkR_g10, mkR_l10, mkR_n10, mkR_s10, mkR_g11, mkR_l11, mkR_n11, mkR_s11, mkR_g12, mkR_p12, mkR_g13, mkR_l13, mkR_n13, mkR_s13, mkR_t13, mkR_f13, mkR_g14, mkR_l14, mkR_n14, mkR_s14, mkR_g15, mkR_l15, mkR_n15, mkR_s15, mkR_g16, mkR_p16, mkR_g17, mkR_l17, mkR_n17, mkR_s17, mkR_t17, mkR_f17, mkR_g18, mkR_l18, mkR_n18, mkR_s18, mkR_t18, mkR_f18, mkR_g19, mkR_l19, mkR_n19, mkR_s19, mkR_g20, mkR_l20, mkR_n20, mkR_s20, mkR_g21, mkR_l21, mkR_n21, mkR_s21, mkR_g22, mkR_p22, mkR_g23, mkR_p23, mkR_g24, mkR_p24, mkR_g25, mkR_l25, mkR_n25, mkR_s25, mkR_g26, mkR_l26, mkR_n26, mkR_s26, mkR_g27, mkR_l27, mkR_n27, mkR_s27, mkR_g28, mkR_p28, mkR_g29, mkR_p29, mkR_g30, mkR_l30, mkR_n30, mkR_s30, mkR_g31, mkR_p31, mkR_g32, mkR_l32, mkR_n32, mkR_s32, mkR_g33, mkR_l33, mkR_n33, mkR_s33, mkR_g34, mkR_l34, mkR_n34, mkR_s34, mkR_t34, mkR_f34, mkR_g35, mkR_l35, mkR_n35, mkR_s35, mkR_g36, mkR_l36, mkR_n36, mkR_s36, mkR_g37, mkR_l37, mkR_n37, mkR_s37, mkR_g38, mkR_l38, mkR_n38, mkR_s38, mkR_g39, mkR_l39, mkR_n39, mkR_s39, mkR_g40, mkR_l40, mkR_n40, mkR_s40, mkR_g41, mkR_l41, mkR_n41, mkR_s41, a22]
    rfl
  | succ m ih =>
    intro i I A hi hT hU r
    have a22 := r.1
    have a19 := r.2.1 i (by omega)
    have hc := (g.2.2.1 i (by omega)).1
    have gA : ∀ (J : Nat → Int32) (C : Nat → Nat → Int32), isT C m0 T → call (d + 4) 141 [.ref a, .int (nI m0), .int (nI (B.2.1 i))] (mkR h a J C) = _ := fun J C hC => R_isGoodA (d := d + 2) (I := J) hC hm (B.2.1 i) hc
    have p1 : fra I (upd (upd I 24 (nI (B.2.1 i / 625 % 6))) 23 (nI (B.2.1 i / 625 / 6))) A (updA A 25 (qL (A 25) (lb (B.2.1 i)))) [23, 24] [25] := (((fra.rf _ _ _ _).u _ (by decide)).u _ (by decide)).w _ (by decide)
    rcases hU with ⟨mb, hmb, rfl, hU⟩ | ⟨rfl, rfl⟩
    · have p2 := (((p1.u (nI (B.2.1 i / 625 % 6)) (show 24 ∈ [23, 24] by decide)).u (nI (B.2.1 i / 625 / 6)) (show 23 ∈ [23, 24] by decide)).w (qL (qL (A 25) (lb (B.2.1 i))) (lb (B.2.1 i))) (show 25 ∈ [25] by decide))
      have gB := R_isGoodB (d := d + 2) (a := a) (h := h) (I := (upd (upd I 24 (nI (B.2.1 i / 625 % 6))) 23 (nI (B.2.1 i / 625 / 6)))) (hU.fa p1 (by decide)) hmb (B.2.1 i) hc
      obtain ⟨I2, A2, f1, f2⟩ := ih (i + 1) _ _ (by omega) (hT.fa p2 (by decide)) (Or.inl ⟨mb, hmb, rfl, hU.fa p2 (by decide)⟩) (r.fa p2 (by decide) (by decide))
      rw [nd_143_8 (St_run (d + 4) mt_143)]
      unfold fw
      cases hwt : wnt T U (B.2.1 i) with
      | true =>
        refine ⟨_, _, ?_, p2⟩
        have hne : (bI (T.2.2.2 (B.2.1 i / 625 / 6)) = bI (U.2.2.2 (B.2.1 i / 625 % 6))) = False := by
          rw [bI_eq]
          exact eq_false (by simpa [wnt] using hwt)
        rw [updA_updA]
        simp (disch := omega) only [nd_143_0 (St_run (d + 4) mt_143), nd_143_64 (St_run (d + 4) mt_143), nd_143_66 (St_run (d + 4) mt_143), ↓L_m4, ↓L_m1, L_0, L_1, L_2, L_3, L_4, L_5, L_6, L_8, L_9, L_15, L_20, L_30, L_40, L_54, L_60, L_120, L_1872, L_4320, L_22500, le_t, le_f, lt_t, lt_f, eq_t, eq_f, eq_NO, NO_eq, NO_neg, MO_neg, bI_0, nI_add, pk_mul, pk_ds, rem_, nI_MO, nI_0MO, ↓reduceIte, eq_self, reduceCtorEq, Bool.true_eq_false, Bool.false_eq_true, isZn0, isZn1, isZb, bind_some', rI_some, rV_some, rQ_some, rQ_null, updA_at, updA_ne, pk_us, pk_un, ne_eq, not_false_eq_true, Nat.reduceEqDiff, updA_updA, Nat.reduceSub, Nat.reduceAdd, Nat.reduceMul, Nat.reduceDiv, Nat.zero_add, Nat.add_zero, mkR_o, mkR_g0, mkR_p0, mkR_g1, mkR_l1, mkR_n1, mkR_s1, mkR_g2, mkR_l2, mkR_n2, mkR_s2, mkR_g3, mkR_p3, mkR_g4, mkR_l4, mkR_n4, mkR_s4, mkR_g5, mkR_l5, mkR_n5, mkR_s5, mkR_g6, mkR_l6, mkR_n6, mkR_s6, mkR_t6, mkR_f6, mkR_g7, mkR_l7, mkR_n7, mkR_s7, mkR_g8, mkR_l8, mkR_n8, mkR_s8, mkR_g9, mkR_l9, mkR_n9, mkR_s9, mkR_g10, mkR_l10, mkR_n10, mkR_s10, mkR_g11, mkR_l11, mkR_n11, mkR_s11, mkR_g12, mkR_p12, mkR_g13, mkR_l13, mkR_n13, mkR_s13, mkR_t13, mkR_f13, mkR_g14, mkR_l14, mkR_n14, mkR_s14, mkR_g15, mkR_l15, mkR_n15, mkR_s15, mkR_g16, mkR_p16, mkR_g17, mkR_l17, mkR_n17, mkR_s17, mkR_t17, mkR_f17, mkR_g18, mkR_l18, mkR_n18, mkR_s18, mkR_t18, mkR_f18, mkR_g19, mkR_l19, mkR_n19, mkR_s19, mkR_g20, mkR_l20, mkR_n20, mkR_s20, mkR_g21, mkR_l21, mkR_n21, mkR_s21, mkR_g22, mkR_p22, mkR_g23, mkR_p23, mkR_g24, mkR_p24, mkR_g25, mkR_l25, mkR_n25, mkR_s25, mkR_g26, mkR_l26, mkR_n26, mkR_s26, mkR_g27, mkR_l27, mkR_n27, mkR_s27, mkR_g28, mkR_p28, mkR_g29, mkR_p29, mkR_g30, mkR_l30, mkR_n30, mkR_s30, mkR_g31, mkR_p31, mkR_g32, mkR_l32, mkR_n32, mkR_s32, mkR_g33, mkR_l33, mkR_n33, mkR_s33, mkR_g34, mkR_l34, mkR_n34, mkR_s34, mkR_t34, mkR_f34, mkR_g35, mkR_l35, mkR_n35, mkR_s35, mkR_g36, mkR_l36, mkR_n36, mkR_s36, mkR_g37, mkR_l37, mkR_n37, mkR_s37, mkR_g38, mkR_l38, mkR_n38, mkR_s38, mkR_g39, mkR_l39, mkR_n39, mkR_s39, mkR_g40, mkR_l40, mkR_n40, mkR_s40, mkR_g41, mkR_l41, mkR_n41, mkR_s41, a22, a19, gA I A hT, gB, hne]
        rfl
      | false =>
        refine ⟨I2, A2, ?_, p2.tr f2⟩
        have hne : (bI (T.2.2.2 (B.2.1 i / 625 / 6)) = bI (U.2.2.2 (B.2.1 i / 625 % 6))) = True := by
          rw [bI_eq]
          exact eq_true (by simpa [wnt] using hwt)
        rw [updA_updA] at f1
        simp (disch := omega) only [nd_143_0 (St_run (d + 4) mt_143), nd_143_64 (St_run (d + 4) mt_143), nd_143_66 (St_run (d + 4) mt_143), ↓L_m4, ↓L_m1, L_0, L_1, L_2, L_3, L_4, L_5, L_6, L_8, L_9, L_15, L_20, L_30, L_40, L_54, L_60, L_120, L_1872, L_4320, L_22500, le_t, le_f, lt_t, lt_f, eq_t, eq_f, eq_NO, NO_eq, NO_neg, MO_neg, bI_0, nI_add, pk_mul, pk_ds, rem_, nI_MO, nI_0MO, ↓reduceIte, eq_self, reduceCtorEq, Bool.true_eq_false, Bool.false_eq_true, isZn0, isZn1, isZb, bind_some', rI_some, rV_some, rQ_some, rQ_null, updA_at, updA_ne, pk_us, pk_un, ne_eq, not_false_eq_true, Nat.reduceEqDiff, updA_updA, Nat.reduceSub, Nat.reduceAdd, Nat.reduceMul, Nat.reduceDiv, Nat.zero_add, Nat.add_zero, mkR_o, mkR_g0, mkR_p0, mkR_g1, mkR_l1, mkR_n1, mkR_s1, mkR_g2, mkR_l2, mkR_n2, mkR_s2, mkR_g3, mkR_p3, mkR_g4, mkR_l4, mkR_n4, mkR_s4, mkR_g5, mkR_l5, mkR_n5, mkR_s5, mkR_g6, mkR_l6, mkR_n6, mkR_s6, mkR_t6, mkR_f6, mkR_g7, mkR_l7, mkR_n7, mkR_s7, mkR_g8, mkR_l8, mkR_n8, mkR_s8, mkR_g9, mkR_l9, mkR_n9, mkR_s9, mkR_g10, mkR_l10, mkR_n10, mkR_s10, mkR_g11, mkR_l11, mkR_n11, mkR_s11, mkR_g12, mkR_p12, mkR_g13, mkR_l13, mkR_n13, mkR_s13, mkR_t13, mkR_f13, mkR_g14, mkR_l14, mkR_n14, mkR_s14, mkR_g15, mkR_l15, mkR_n15, mkR_s15, mkR_g16, mkR_p16, mkR_g17, mkR_l17, mkR_n17, mkR_s17, mkR_t17, mkR_f17, mkR_g18, mkR_l18, mkR_n18, mkR_s18, mkR_t18, mkR_f18, mkR_g19, mkR_l19, mkR_n19, mkR_s19, mkR_g20, mkR_l20, mkR_n20, mkR_s20, mkR_g21, mkR_l21, mkR_n21, mkR_s21, mkR_g22, mkR_p22, mkR_g23, mkR_p23, mkR_g24, mkR_p24, mkR_g25, mkR_l25, mkR_n25, mkR_s25, mkR_g26, mkR_l26, mkR_n26, mkR_s26, mkR_g27, mkR_l27, mkR_n27, mkR_s27, mkR_g28, mkR_p28, mkR_g29, mkR_p29, mkR_g30, mkR_l30, mkR_n30, mkR_s30, mkR_g31, mkR_p31, mkR_g32, mkR_l32, mkR_n32, mkR_s32, mkR_g33, mkR_l33, mkR_n33, mkR_s33, mkR_g34, mkR_l34, mkR_n34, mkR_s34, mkR_t34, mkR_f34, mkR_g35, mkR_l35, mkR_n35, mkR_s35, mkR_g36, mkR_l36, mkR_n36, mkR_s36, mkR_g37, mkR_l37, mkR_n37, mkR_s37, mkR_g38, mkR_l38, mkR_n38, mkR_s38, mkR_g39, mkR_l39, mkR_n39, mkR_s39, mkR_g40, mkR_l40, mkR_n40, mkR_s40, mkR_g41, mkR_l41, mkR_n41, mkR_s41, a22, a19, gA I A hT, gB, hne]
        exact f1
    · obtain ⟨I2, A2, f1, f2⟩ := ih (i + 1) _ _ (by omega) (hT.fa p1 (by decide)) (Or.inr ⟨rfl, rfl⟩) (r.fa p1 (by decide) (by decide))
      rw [nd_143_8 (St_run (d + 4) mt_143)]
      unfold fw
      have e0 : wnt T T0 (B.2.1 i) = T.2.2.2 (B.2.1 i / 625 / 6) := by
        unfold wnt
        show (_ != false) = _
        simp
      rw [e0]
      cases hwt : T.2.2.2 (B.2.1 i / 625 / 6) with
      | true =>
        refine ⟨_, _, ?_, p1⟩
        simp (disch := omega) only [nd_143_0 (St_run (d + 4) mt_143), nd_143_64 (St_run (d + 4) mt_143), nd_143_66 (St_run (d + 4) mt_143), ↓L_m4, ↓L_m1, L_0, L_1, L_2, L_3, L_4, L_5, L_6, L_8, L_9, L_15, L_20, L_30, L_40, L_54, L_60, L_120, L_1872, L_4320, L_22500, le_t, le_f, lt_t, lt_f, eq_t, eq_f, eq_NO, NO_eq, NO_neg, MO_neg, bI_0, nI_add, pk_mul, pk_ds, rem_, nI_MO, nI_0MO, ↓reduceIte, eq_self, reduceCtorEq, Bool.true_eq_false, Bool.false_eq_true, isZn0, isZn1, isZb, bind_some', rI_some, rV_some, rQ_some, rQ_null, updA_at, updA_ne, pk_us, pk_un, ne_eq, not_false_eq_true, Nat.reduceEqDiff, updA_updA, Nat.reduceSub, Nat.reduceAdd, Nat.reduceMul, Nat.reduceDiv, Nat.zero_add, Nat.add_zero, mkR_o, mkR_g0, mkR_p0, mkR_g1, mkR_l1, mkR_n1, mkR_s1, mkR_g2, mkR_l2, mkR_n2, mkR_s2, mkR_g3, mkR_p3, mkR_g4, mkR_l4, mkR_n4, mkR_s4, mkR_g5, mkR_l5, mkR_n5, mkR_s5, mkR_g6, mkR_l6, mkR_n6, mkR_s6, mkR_t6, mkR_f6, mkR_g7, mkR_l7, mkR_n7, mkR_s7, mkR_g8, mkR_l8, mkR_n8, mkR_s8, mkR_g9, mkR_l9, mkR_n9, mkR_s9, mkR_g10, mkR_l10, mkR_n10, mkR_s10, mkR_g11, mkR_l11, mkR_n11, mkR_s11, mkR_g12, mkR_p12, mkR_g13, mkR_l13, mkR_n13, mkR_s13, mkR_t13, mkR_f13, mkR_g14, mkR_l14, mkR_n14, mkR_s14, mkR_g15, mkR_l15, mkR_n15, mkR_s15, mkR_g16, mkR_p16, mkR_g17, mkR_l17, mkR_n17, mkR_s17, mkR_t17, mkR_f17, mkR_g18, mkR_l18, mkR_n18, mkR_s18, mkR_t18, mkR_f18, mkR_g19, mkR_l19, mkR_n19, mkR_s19, mkR_g20, mkR_l20, mkR_n20, mkR_s20, mkR_g21, mkR_l21, mkR_n21, mkR_s21, mkR_g22, mkR_p22, mkR_g23, mkR_p23, mkR_g24, mkR_p24, mkR_g25, mkR_l25, mkR_n25, mkR_s25, mkR_g26, mkR_l26, mkR_n26, mkR_s26, mkR_g27, mkR_l27, mkR_n27, mkR_s27, mkR_g28, mkR_p28, mkR_g29, mkR_p29, mkR_g30, mkR_l30, mkR_n30, mkR_s30, mkR_g31, mkR_p31, mkR_g32, mkR_l32, mkR_n32, mkR_s32, mkR_g33, mkR_l33, mkR_n33, mkR_s33, mkR_g34, mkR_l34, mkR_n34, mkR_s34, mkR_t34, mkR_f34, mkR_g35, mkR_l35, mkR_n35, mkR_s35, mkR_g36, mkR_l36, mkR_n36, mkR_s36, mkR_g37, mkR_l37, mkR_n37, mkR_s37, mkR_g38, mkR_l38, mkR_n38, mkR_s38, mkR_g39, mkR_l39, mkR_n39, mkR_s39, mkR_g40, mkR_l40, mkR_n40, mkR_s40, mkR_g41, mkR_l41, mkR_n41, mkR_s41, a22, a19, gA I A hT, hwt]
        rfl
      | false =>
        refine ⟨I2, A2, ?_, p1.tr f2⟩
        simp (disch := omega) only [nd_143_0 (St_run (d + 4) mt_143), nd_143_64 (St_run (d + 4) mt_143), nd_143_66 (St_run (d + 4) mt_143), ↓L_m4, ↓L_m1, L_0, L_1, L_2, L_3, L_4, L_5, L_6, L_8, L_9, L_15, L_20, L_30, L_40, L_54, L_60, L_120, L_1872, L_4320, L_22500, le_t, le_f, lt_t, lt_f, eq_t, eq_f, eq_NO, NO_eq, NO_neg, MO_neg, bI_0, nI_add, pk_mul, pk_ds, rem_, nI_MO, nI_0MO, ↓reduceIte, eq_self, reduceCtorEq, Bool.true_eq_false, Bool.false_eq_true, isZn0, isZn1, isZb, bind_some', rI_some, rV_some, rQ_some, rQ_null, updA_at, updA_ne, pk_us, pk_un, ne_eq, not_false_eq_true, Nat.reduceEqDiff, updA_updA, Nat.reduceSub, Nat.reduceAdd, Nat.reduceMul, Nat.reduceDiv, Nat.zero_add, Nat.add_zero, mkR_o, mkR_g0, mkR_p0, mkR_g1, mkR_l1, mkR_n1, mkR_s1, mkR_g2, mkR_l2, mkR_n2, mkR_s2, mkR_g3, mkR_p3, mkR_g4, mkR_l4, mkR_n4, mkR_s4, mkR_g5, mkR_l5, mkR_n5, mkR_s5, mkR_g6, mkR_l6, mkR_n6, mkR_s6, mkR_t6, mkR_f6, mkR_g7, mkR_l7, mkR_n7, mkR_s7, mkR_g8, mkR_l8, mkR_n8, mkR_s8, mkR_g9, mkR_l9, mkR_n9, mkR_s9, mkR_g10, mkR_l10, mkR_n10, mkR_s10, mkR_g11, mkR_l11, mkR_n11, mkR_s11, mkR_g12, mkR_p12, mkR_g13, mkR_l13, mkR_n13, mkR_s13, mkR_t13, mkR_f13, mkR_g14, mkR_l14, mkR_n14, mkR_s14, mkR_g15, mkR_l15, mkR_n15, mkR_s15, mkR_g16, mkR_p16, mkR_g17, mkR_l17, mkR_n17, mkR_s17, mkR_t17, mkR_f17, mkR_g18, mkR_l18, mkR_n18, mkR_s18, mkR_t18, mkR_f18, mkR_g19, mkR_l19, mkR_n19, mkR_s19, mkR_g20, mkR_l20, mkR_n20, mkR_s20, mkR_g21, mkR_l21, mkR_n21, mkR_s21, mkR_g22, mkR_p22, mkR_g23, mkR_p23, mkR_g24, mkR_p24, mkR_g25, mkR_l25, mkR_n25, mkR_s25, mkR_g26, mkR_l26, mkR_n26, mkR_s26, mkR_g27, mkR_l27, mkR_n27, mkR_s27, mkR_g28, mkR_p28, mkR_g29, mkR_p29, mkR_g30, mkR_l30, mkR_n30, mkR_s30, mkR_g31, mkR_p31, mkR_g32, mkR_l32, mkR_n32, mkR_s32, mkR_g33, mkR_l33, mkR_n33, mkR_s33, mkR_g34, mkR_l34, mkR_n34, mkR_s34, mkR_t34, mkR_f34, mkR_g35, mkR_l35, mkR_n35, mkR_s35, mkR_g36, mkR_l36, mkR_n36, mkR_s36, mkR_g37, mkR_l37, mkR_n37, mkR_s37, mkR_g38, mkR_l38, mkR_n38, mkR_s38, mkR_g39, mkR_l39, mkR_n39, mkR_s39, mkR_g40, mkR_l40, mkR_n40, mkR_s40, mkR_g41, mkR_l41, mkR_n41, mkR_s41, a22, a19, gA I A hT, hwt]
        exact f1
def wF (T U : TM) : Option Nat := fw (fun i => wnt T U ((bF T U).2.1 i)) (bF T U).1 0
theorem R_wanted {m0 : Nat} {b : Int32} {T U : TM} {I : Nat → Int32} {A : Nat → Nat → Int32} (hw : WFT T) (hm : m0 < 6) (hu : WFT U) (hT : isT A m0 T) (hU : isTo A b U) : ∃ I' A', call (d + 5) 143 [.ref a, .int (nI m0), .int b] (mkR h a I A) = some (some (.int (oI (wF T U))), mkR h a I' A') ∧ RB I' A' (bF T U) ∧ fra I I' A A' [22, 23, 24] [17, 19, 20, 21, 25, 26] := by
  obtain ⟨I1, A1, e1, e2, e3⟩ := R_explores (d := d) (a := a) (h := h) (I := I) (A := A) hw hm hu hT hU
  obtain ⟨I2, A2, f1, f2⟩ := l_wanted (d := d) (a := a) (h := h) (b := b) hw hm hu (bF_GB hw hu) (bF T U).1 0 I1 A1 (by omega) (hT.fa e3 (by decide)) (hU.fa e3 (by decide)) e2
  refine ⟨I2, A2, ?_, e2.fa f2 (by decide) (by decide), e3.tr (f2.sub (by decide) (by decide))⟩
  rw [call_at mt_143 [some (.ref a), some (.int (nI m0)), some (.int b), none] rfl rfl rfl, nd_143_0 (St_run (d + 4) mt_143)]
  simp (disch := omega) only [↓L_m4, ↓L_m1, L_0, L_1, L_2, L_3, L_4, L_5, L_6, L_8, L_9, L_15, L_20, L_30, L_40, L_54, L_60, L_120, L_1872, L_4320, L_22500, le_t, le_f, lt_t, lt_f, eq_t, eq_f, eq_NO, NO_eq, NO_neg, MO_neg, bI_0, nI_add, pk_mul, pk_ds, rem_, nI_MO, nI_0MO, ↓reduceIte, eq_self, reduceCtorEq, Bool.true_eq_false, Bool.false_eq_true, isZn0, isZn1, isZb, bind_some', rI_some, rV_some, rQ_some, rQ_null, updA_at, updA_ne, pk_us, pk_un, ne_eq, not_false_eq_true, Nat.reduceEqDiff, updA_updA, Nat.reduceSub, Nat.reduceAdd, Nat.reduceMul, Nat.reduceDiv, Nat.zero_add, Nat.add_zero, mkR_o, mkR_g0, mkR_p0, mkR_g1, mkR_l1, mkR_n1, mkR_s1, mkR_g2, mkR_l2, mkR_n2, mkR_s2, mkR_g3, mkR_p3, mkR_g4, mkR_l4, mkR_n4, mkR_s4, mkR_g5, mkR_l5, mkR_n5, mkR_s5, mkR_g6, mkR_l6, mkR_n6, mkR_s6, mkR_t6, mkR_f6, mkR_g7, mkR_l7, mkR_n7, mkR_s7, mkR_g8, mkR_l8, mkR_n8, mkR_s8, mkR_g9, mkR_l9, mkR_n9, mkR_s9, mkR_g10, mkR_l10, mkR_n10, mkR_s10, mkR_g11, mkR_l11, mkR_n11, mkR_s11, mkR_g12, mkR_p12, mkR_g13, mkR_l13, mkR_n13, mkR_s13, mkR_t13, mkR_f13, mkR_g14, mkR_l14, mkR_n14, mkR_s14, mkR_g15, mkR_l15, mkR_n15, mkR_s15, mkR_g16, mkR_p16, mkR_g17, mkR_l17, mkR_n17, mkR_s17, mkR_t17, mkR_f17, mkR_g18, mkR_l18, mkR_n18, mkR_s18, mkR_t18, mkR_f18, mkR_g19, mkR_l19, mkR_n19, mkR_s19, mkR_g20, mkR_l20, mkR_n20, mkR_s20, mkR_g21, mkR_l21, mkR_n21, mkR_s21, mkR_g22, mkR_p22, mkR_g23, mkR_p23, mkR_g24, mkR_p24, mkR_g25, mkR_l25, mkR_n25, mkR_s25, mkR_g26, mkR_l26, mkR_n26, mkR_s26, mkR_g27, mkR_l27, mkR_n27, mkR_s27, mkR_g28, mkR_p28, mkR_g29, mkR_p29, mkR_g30, mkR_l30, mkR_n30, mkR_s30, mkR_g31, mkR_p31, mkR_g32, mkR_l32, mkR_n32, mkR_s32, mkR_g33, mkR_l33, mkR_n33, mkR_s33, mkR_g34, mkR_l34, mkR_n34, mkR_s34, mkR_t34, mkR_f34, mkR_g35, mkR_l35, mkR_n35, mkR_s35, mkR_g36, mkR_l36, mkR_n36, mkR_s36, mkR_g37, mkR_l37, mkR_n37, mkR_s37, mkR_g38, mkR_l38, mkR_n38, mkR_s38, mkR_g39, mkR_l39, mkR_n39, mkR_s39, mkR_g40, mkR_l40, mkR_n40, mkR_s40, mkR_g41, mkR_l41, mkR_n41, mkR_s41, e1]
  exact f1
end EX
