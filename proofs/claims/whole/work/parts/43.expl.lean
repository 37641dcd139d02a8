/-! ===== Walk: the search ===== -/
def wtd (w : Nat) (x y : Bool) : Bool := if w = 1 then x != y else if w = 2 then x && !y else false
theorem W_isWanted {d : Nat} {h : AH} (x y : Bool) (w : Nat) (hw : w < 3) : call (d + 1) 44 [.int (bI x), .int (bI y), .int (nI w)] h = some (some (.int (bI (wtd w x y))), h) := by
  rw [call_at mt_44 [some (.int (bI x)), some (.int (bI y)), some (.int (nI w))] rfl rfl rfl]
  rcases (show w = 0 ∨ w = 1 ∨ w = 2 by omega) with rfl | rfl | rfl <;> cases x <;> cases y <;> simp (disch := omega) only [nd_44_0 (St_run d mt_44), nd_44_15 (St_run d mt_44), nd_44_33 (St_run d mt_44), nd_44_34 (St_run d mt_44), ↓L_m4, ↓L_m1, L_0, L_1, L_2, L_3, L_4, L_5, L_6, L_8, L_9, L_15, L_20, L_30, L_40, L_54, L_60, L_120, L_1872, L_4320, L_22500, le_t, le_f, lt_t, lt_f, eq_t, eq_f, eq_NO, NO_eq, NO_neg, MO_neg, bI_0, nI_add, pk_mul, pk_ds, rem_, nI_MO, nI_0MO, ↓reduceIte, eq_self, reduceCtorEq, Bool.true_eq_false, Bool.false_eq_true, isZn0, isZn1, isZb, bind_some', rI_some, rV_some, rQ_some, rQ_null, updA_at, updA_ne, pk_us, pk_un, ne_eq, not_false_eq_true, Nat.reduceEqDiff, updA_updA, Nat.reduceSub, Nat.reduceAdd, Nat.reduceMul, Nat.reduceDiv, Nat.zero_add, Nat.add_zero, mkW_o, mkW_g0, mkW_l0, mkW_n0, mkW_s0, mkW_g1, mkW_l1, mkW_n1, mkW_s1, mkW_g2, mkW_l2, mkW_n2, mkW_s2, mkW_g3, mkW_l3, mkW_n3, mkW_s3, mkW_g4, mkW_p4, mkW_g5, mkW_p5, mkW_g6, mkW_p6, mkW_g7, mkW_p7, mkW_g8, mkW_l8, mkW_n8, mkW_s8, mkW_g9, mkW_l9, mkW_n9, mkW_s9, mkW_g10, mkW_l10, mkW_n10, mkW_s10, mkW_g11, mkW_l11, mkW_n11, mkW_s11, mkW_g12, mkW_l12, mkW_n12, mkW_s12, mkW_g13, mkW_l13, mkW_n13, mkW_s13, mkW_g14, mkW_l14, mkW_n14, mkW_s14, mkW_t14, mkW_f14, mkW_g15, mkW_l15, mkW_n15, mkW_s15, mkW_g16, mkW_g17, bI_eq] <;> rfl
theorem W_good {d b : Nat} {h : AH} {M : MD} {T : TM} (hM : isM h b M) (t : MTT M T) (hT : WFT T) (j : Nat) (hj : j < T.1.1) : call (d + 2) 7 [.ref b, .int (nI j)] h = some (some (.int (bI (T.2.2.2 j))), h) := by
  have h6 := hT.2.1
  rw [m_isGood hM t.1 h6 j hj, t.2.2.2.2 j (by omega)]
  cases T.2.2.2 j <;> rfl
/-- what the walk leaves behind -/
def WV (I : Nat → Int32) (A : Nat → Nat → Int32) : Prop := ∃ (n : Nat) (q : Nat → Nat), I 4 = nI n ∧ n ≤ 1872 ∧ (∀ j, j < n → A 1 j = nI (q j) ∧ q j < 4320) ∧ (∀ z, z < 4320 → (∀ j, j < n → q j ≠ z) → A 0 z = nI 0)
/-- the search as it stands in the walk -/
def WB (I : Nat → Int32) (A : Nat → Nat → Int32) (B : BS) : Prop := I 4 = nI B.1 ∧ (∀ j, j < B.1 → A 1 j = nI (hc (B.2.1 j))) ∧ (∀ j, 0 < j → j < B.1 → A 2 j = nI (B.2.2.1 j) ∧ A 3 j = nI (5 * (B.2.2.2 j / 8) + wy (B.2.1 (B.2.2.1 j)) (B.2.2.2 j % 8))) ∧ (∀ j, j < B.1 → A 0 (hc (B.2.1 j)) = nI (j + 1)) ∧ (∀ z, z < 4320 → (∀ j, j < B.1 → hc (B.2.1 j) ≠ z) → A 0 z = nI 0)
theorem WB.fa {I I1 : Nat → Int32} {A A1 : Nat → Nat → Int32} {js ks : List Nat} {B : BS} (r : WB I A B) (p : fra I I1 A A1 js ks) (hj : 4 ∉ js) (hk : 0 ∉ ks ∧ 1 ∉ ks ∧ 2 ∉ ks ∧ 3 ∉ ks) : WB I1 A1 B := by
  unfold WB
  rw [p.1 4 hj, p.2 0 hk.1, p.2 1 hk.2.1, p.2 2 hk.2.2.1, p.2 3 hk.2.2.2]
  exact r
theorem WV.fa {I I1 : Nat → Int32} {A A1 : Nat → Nat → Int32} {js ks : List Nat} (r : WV I A) (p : fra I I1 A A1 js ks) (hj : 4 ∉ js) (hk : 0 ∉ ks ∧ 1 ∉ ks) : WV I1 A1 := by
  unfold WV
  rw [p.1 4 hj, p.2 0 hk.1, p.2 1 hk.2]
  exact r
theorem WB.v {I : Nat → Int32} {A : Nat → Nat → Int32} {B : BS} {T U : TM} (hT : WFT T) (hU : WFT U) (g : GB T U B) (r : WB I A B) : WV I A := ⟨B.1, fun j => hc (B.2.1 j), r.1, GB_most hT hU g, fun j hj => ⟨r.2.1 j hj, hc_lt (g.2.2.1 j hj).2.1 (g.2.2.1 j hj).1⟩, r.2.2.2.2⟩
section WX
variable {d a : Nat} {h : AH} {I : Nat → Int32} {A : Nat → Nat → Int32}
theorem l_forget (q : Nat → Nat) (n : Nat) (hn : n ≤ 1872) (h4 : I 4 = nI n) : ∀ (m k : Nat) (A : Nat → Nat → Int32), k + m = n → (∀ j, j < n → A 1 j = nI (q j) ∧ q j < 4320) → (∀ z, z < 4320 → (∀ j, k ≤ j → j < n → q j ≠ z) → A 0 z = nI 0) → ∃ A', run d mt_42 2 [some (.ref a), some (.int (nI k))] [] (mkW h a I A) = some (none, mkW h a (upd I 4 (nI 0)) A') ∧ (∀ z, z < 4320 → A' 0 z = nI 0) ∧ (∀ k, k ≠ 0 → A' k = A k) := by
  intro m
  induction m with
  | zero =>
    intro k A hk h1 h0
    refine ⟨A, ?_, fun z hz => h0 z hz (fun j h1 h2 => by omega), fun _ _ => rfl⟩
    rw [nd_42_2 (St_run d mt_42)]
    simp (disch := omega) only [↓L_m4, ↓L_m1, L_0, L_1, L_2, L_3, L_4, L_5, L_6, L_8, L_9, L_15, L_20, L_30, L_40, L_54, L_60, L_120, L_1872, L_4320, L_22500, le_t, le_f, lt_t, lt_f, eq_t, eq_f, eq_NO, NO_eq, NO_neg, MO_neg, bI_0, nI_add, pk_mul, pk_ds, rem_, nI_MO, nI_0MO, ↓reduceIte, eq_self, reduceCtorEq, Bool.true_eq_false, Bool.false_eq_true, isZn0, isZn1, isZb, bind_some', rI_some, rV_some, rQ_some, rQ_null, updA_at, updA_ne, pk_us, pk_un, ne_eq, not_false_eq_true, Nat.reduceEqDiff, updA_updA, Nat.reduceSub, Nat.reduceAdd, Nat.reduceMul, Nat.reduceDiv, Nat.zero_add, Nat.add_zero, mkW_o, mkW_g0, mkW_l0, mkW_n0, mkW_s0, mkW_g1, mkW_l1, mkW_n1, mkW_s1, mkW_g2, mkW_l2, mkW_n2, mkW_s2, mkW_g3, mkW_l3, mkW_n3, mkW_s3, mkW_g4, mkW_p4, mkW_g5, mkW_p5, mkW_g6, mkW_p6, mkW_g7, mkW_p7, mkW_g8, mkW_l8, mkW_n8, mkW_s8, mkW_g9, mkW_l9, mkW_n9, mkW_s9, mkW_g10, mkW_l10, mkW_n10, mkW_s10, mkW_g11, mkW_l11, mkW_n11, mkW_s11, mkW_g12, mkW_l12, mkW_n12, mkW_s12, mkW_g13, mkW_l13, mkW_n13, mkW_s13, mkW_g14, mkW_l14, mkW_n14, mkW_s14, mkW_t14, mkW_f14, mkW_g15, mkW_l15, mkW_n15, mkW_s15, mkW_g16, mkW_g17, h4]
  | succ m ih =>
    intro k A hk h1 h0
    obtain ⟨a1, b1⟩ := h1 k (by omega)
    obtain ⟨A', e1, e2, e3⟩ := ih (k + 1) (updA A 0 (upd (A 0) (q k) (nI 0))) (by omega) (fun j hj => by rw [updA_ne (by decide)]; exact h1 j hj) (fun z hz hj => by
      rw [updA_at]
      by_cases e : z = q k
      · rw [e, pk_us]
      · rw [pk_un e]
        refine h0 z hz (fun j h1 h2 h3 => ?_)
        by_cases ej : j = k
        · rw [ej] at h3
          exact e h3.symm
        · exact hj j (by omega) h2 h3)
    refine ⟨A', ?_, e2, fun k hk => (e3 k hk).trans (updA_ne hk)⟩
    rw [nd_42_2 (St_run d mt_42)]
    simp (disch := omega) only [↓L_m4, ↓L_m1, L_0, L_1, L_2, L_3, L_4, L_5, L_6, L_8, L_9, L_15, L_20, L_30, L_40, L_54, L_60, L_120, L_1872, L_4320, L_22500, le_t, le_f, lt_t, lt_f, eq_t, eq_f, eq_NO, NO_eq, NO_neg, MO_neg, bI_0, nI_add, pk_mul, pk_ds, rem_, nI_MO, nI_0MO, ↓reduceIte, eq_self, reduceCtorEq, Bool.true_eq_false, Bool.false_eq_true, isZn0, isZn1, isZb, bind_some', rI_some, rV_some, rQ_some, rQ_null, updA_at, updA_ne, pk_us, pk_un, ne_eq, not_false_eq_true, Nat.reduceEqDiff, updA_updA, Nat.reduceSub, Nat.reduceAdd, Nat.reduceMul, Nat.reduceDiv, Nat.zero_add, Nat.add_zero, mkW_o, mkW_g0, mkW_l0, mkW_n0, mkW_s0, mkW_g1, mkW_l1, mkW_n1, mkW_s1, mkW_g2, mkW_l2, mkW_n2, mkW_s2, mkW_g3, mkW_l3, mkW_n3, mkW_s3, mkW_g4, mkW_p4, mkW_g5, mkW_p5, mkW_g6, mkW_p6, mkW_g7, mkW_p7, mkW_g8, mkW_l8, mkW_n8, mkW_s8, mkW_g9, mkW_l9, mkW_n9, mkW_s9, mkW_g10, mkW_l10, mkW_n10, mkW_s10, mkW_g11, mkW_l11, mkW_n11, mkW_s11, mkW_g12, mkW_l12, mkW_n12, mkW_s12, mkW_g13, mkW_l13, mkW_n13, mkW_s13, mkW_g14, mkW_l14, mkW_n14, mkW_s14, mkW_t14, mkW_f14, mkW_g15, mkW_l15, mkW_n15, mkW_s15, mkW_g16, mkW_g17, h4, a1]
    exact e1
theorem W_forget (v : WV I A) : ∃ A', call (d + 1) 42 [.ref a] (mkW h a I A) = some (none, mkW h a (upd I 4 (nI 0)) A') ∧ (∀ z, z < 4320 → A' 0 z = nI 0) ∧ (∀ k, k ≠ 0 → A' k = A k) := by
  obtain ⟨n, q, v1, v2, v3, v4⟩ := v
  obtain ⟨A', e1, e2, e3⟩ := l_forget (d := d) (a := a) (h := h) q n v2 v1 n 0 A (by omega) v3 (fun z hz hj => v4 z hz (fun j h1 => hj j (Nat.zero_le _) h1))
  refine ⟨A', ?_, e2, e3⟩
  rw [call_at mt_42 [some (.ref a), none] rfl rfl rfl, nd_42_0 (St_run d mt_42)]
  exact e1
theorem W_meet_no (x y : Int32) : call (d + 1) 43 [.ref a, .int NO, .int x, .int y] (mkW h a I A) = some (none, mkW h a I A) := by
  rw [call_at mt_43 [some (.ref a), some (.int NO), some (.int x), some (.int y)] rfl rfl rfl, nd_43_0 (St_run d mt_43)]
  simp (disch := omega) only [nd_43_30 (St_run d mt_43), ↓L_m4, ↓L_m1, L_0, L_1, L_2, L_3, L_4, L_5, L_6, L_8, L_9, L_15, L_20, L_30, L_40, L_54, L_60, L_120, L_1872, L_4320, L_22500, le_t, le_f, lt_t, lt_f, eq_t, eq_f, eq_NO, NO_eq, NO_neg, MO_neg, bI_0, nI_add, pk_mul, pk_ds, rem_, nI_MO, nI_0MO, ↓reduceIte, eq_self, reduceCtorEq, Bool.true_eq_false, Bool.false_eq_true, isZn0, isZn1, isZb, bind_some', rI_some, rV_some, rQ_some, rQ_null, updA_at, updA_ne, pk_us, pk_un, ne_eq, not_false_eq_true, Nat.reduceEqDiff, updA_updA, Nat.reduceSub, Nat.reduceAdd, Nat.reduceMul, Nat.reduceDiv, Nat.zero_add, Nat.add_zero, mkW_o, mkW_g0, mkW_l0, mkW_n0, mkW_s0, mkW_g1, mkW_l1, mkW_n1, mkW_s1, mkW_g2, mkW_l2, mkW_n2, mkW_s2, mkW_g3, mkW_l3, mkW_n3, mkW_s3, mkW_g4, mkW_p4, mkW_g5, mkW_p5, mkW_g6, mkW_p6, mkW_g7, mkW_p7, mkW_g8, mkW_l8, mkW_n8, mkW_s8, mkW_g9, mkW_l9, mkW_n9, mkW_s9, mkW_g10, mkW_l10, mkW_n10, mkW_s10, mkW_g11, mkW_l11, mkW_n11, mkW_s11, mkW_g12, mkW_l12, mkW_n12, mkW_s12, mkW_g13, mkW_l13, mkW_n13, mkW_s13, mkW_g14, mkW_l14, mkW_n14, mkW_s14, mkW_t14, mkW_f14, mkW_g15, mkW_l15, mkW_n15, mkW_s15, mkW_g16, mkW_g17]
theorem hc_0 : hc 0 = 0 := by decide
theorem W_meet0 (h4 : I 4 = nI 0) (h0 : ∀ z, z < 4320 → A 0 z = nI 0) : ∃ I' A', call (d + 1) 43 [.ref a, .int (nI 0), .int NO, .int NO] (mkW h a I A) = some (none, mkW h a I' A') ∧ WB I' A' B0 ∧ fra I I' A A' [4] [0, 1, 2, 3] := by
  have a0 := h0 0 (by omega)
  refine ⟨upd I 4 (nI 1), updA (updA (updA (updA A 1 (upd (A 1) 0 (nI 0))) 2 (upd (A 2) 0 NO)) 3 (upd (A 3) 0 NO)) 0 (upd (A 0) 0 (nI 1)), ?_, ⟨rfl, fun j hj => ?_, fun j h1 hj => by dsimp only [B0] at hj; omega, fun j hj => ?_, fun z hz hj => ?_⟩, (((((fra.rf _ _ _ _).u _ (by decide)).w _ (by decide)).w _ (by decide)).w _ (by decide)).w _ (by decide)⟩
  · rw [call_at mt_43 [some (.ref a), some (.int (nI 0)), some (.int NO), some (.int NO)] rfl rfl rfl, nd_43_0 (St_run d mt_43)]
    simp (disch := omega) only [nd_43_30 (St_run d mt_43), ↓L_m4, ↓L_m1, L_0, L_1, L_2, L_3, L_4, L_5, L_6, L_8, L_9, L_15, L_20, L_30, L_40, L_54, L_60, L_120, L_1872, L_4320, L_22500, le_t, le_f, lt_t, lt_f, eq_t, eq_f, eq_NO, NO_eq, NO_neg, MO_neg, bI_0, nI_add, pk_mul, pk_ds, rem_, nI_MO, nI_0MO, ↓reduceIte, eq_self, reduceCtorEq, Bool.true_eq_false, Bool.false_eq_true, isZn0, isZn1, isZb, bind_some', rI_some, rV_some, rQ_some, rQ_null, updA_at, updA_ne, pk_us, pk_un, ne_eq, not_false_eq_true, Nat.reduceEqDiff, updA_updA, Nat.reduceSub, Nat.reduceAdd, Nat.reduceMul, Nat.reduceDiv, Nat.zero_add, Nat.add_zero, mkW_o, mkW_g0, mkW_l0, mkW_n0, mkW_s0, mkW_g1, mkW_l1, mkW_n1, mkW_s1, mkW_g2, mkW_l2, mkW_n2, mkW_s2, mkW_g3, mkW_l3, mkW_n3, mkW_s3, mkW_g4, mkW_p4, mkW_g5, mkW_p5, mkW_g6, mkW_p6, mkW_g7, mkW_p7, mkW_g8, mkW_l8, mkW_n8, mkW_s8, mkW_g9, mkW_l9, mkW_n9, mkW_s9, mkW_g10, mkW_l10, mkW_n10, mkW_s10, mkW_g11, mkW_l11, mkW_n11, mkW_s11, mkW_g12, mkW_l12, mkW_n12, mkW_s12, mkW_g13, mkW_l13, mkW_n13, mkW_s13, mkW_g14, mkW_l14, mkW_n14, mkW_s14, mkW_t14, mkW_f14, mkW_g15, mkW_l15, mkW_n15, mkW_s15, mkW_g16, mkW_g17, h4, a0]
  · have : j = 0 := by dsimp only [B0] at hj; omega
    subst this
    rfl
  · have : j = 0 := by dsimp only [B0] at hj; omega
    subst this
    rfl
  · have e : z ≠ 0 := fun e => hj 0 (by decide) (by rw [e]; exact hc_0)
    show upd (A 0) 0 (nI 1) z = nI 0
    rw [pk_un e]
    exact h0 z hz
theorem W_meet {T U : TM} (hT : WFT T) (hU : WFT U) {B : BS} (g : GB T U B) (r : WB I A B) {c i l v w : Nat} (hi : i < B.1) (hq : B.2.1 i = c) (hl : l < 3) (hv : 1 ≤ v) (hv2 : v ≤ top c + 1) (hw : wy c v = w) : ∃ I' A', call (d + 1) 43 [.ref a, .int (nI (hc (chd T U c l v))), .int (nI i), .int (nI (5 * l + w))] (mkW h a I A) = some (none, mkW h a I' A') ∧ WB I' A' (vis B (chd T U c l v) i (8 * l + v)) ∧ fra I I' A A' [4] [0, 1, 2, 3] := by
  subst hq
  have vc := g.2.2.1 i hi
  have vch := (chd_ok hT hU vc hl hv hv2).1
  have ht := top_le vc
  have hn := GB_most hT hU g
  have gv := vis_GB hT hU g hi hl hv hv2
  generalize chd T U (B.2.1 i) l v = z at *
  have hz := hc_lt vch.2.1 vch.1
  obtain ⟨r1, r2, r3, r4, r5⟩ := r
  rw [call_at mt_43 [some (.ref a), some (.int (nI (hc z))), some (.int (nI i)), some (.int (nI (5 * l + w)))] rfl rfl rfl, nd_43_0 (St_run d mt_43)]
  cases hm : memN B.2.1 z B.1 with
  | true =>
    obtain ⟨j, hj, hjz⟩ := memN_iff.mp hm
    have a0 := r4 j hj
    rw [hjz] at a0
    have ev : vis B z i (8 * l + v) = B := if_pos hm
    rw [ev]
    refine ⟨I, A, ?_, ⟨r1, r2, r3, r4, r5⟩, fra.rf _ _ _ _⟩
    by_cases hf : B.1 < 1872
    · simp (disch := omega) only [nd_43_30 (St_run d mt_43), ↓L_m4, ↓L_m1, L_0, L_1, L_2, L_3, L_4, L_5, L_6, L_8, L_9, L_15, L_20, L_30, L_40, L_54, L_60, L_120, L_1872, L_4320, L_22500, le_t, le_f, lt_t, lt_f, eq_t, eq_f, eq_NO, NO_eq, NO_neg, MO_neg, bI_0, nI_add, pk_mul, pk_ds, rem_, nI_MO, nI_0MO, ↓reduceIte, eq_self, reduceCtorEq, Bool.true_eq_false, Bool.false_eq_true, isZn0, isZn1, isZb, bind_some', rI_some, rV_some, rQ_some, rQ_null, updA_at, updA_ne, pk_us, pk_un, ne_eq, not_false_eq_true, Nat.reduceEqDiff, updA_updA, Nat.reduceSub, Nat.reduceAdd, Nat.reduceMul, Nat.reduceDiv, Nat.zero_add, Nat.add_zero, mkW_o, mkW_g0, mkW_l0, mkW_n0, mkW_s0, mkW_g1, mkW_l1, mkW_n1, mkW_s1, mkW_g2, mkW_l2, mkW_n2, mkW_s2, mkW_g3, mkW_l3, mkW_n3, mkW_s3, mkW_g4, mkW_p4, mkW_g5, mkW_p5, mkW_g6, mkW_p6, mkW_g7, mkW_p7, mkW_g8, mkW_l8, mkW_n8, mkW_s8, mkW_g9, mkW_l9, mkW_n9, mkW_s9, mkW_g10, mkW_l10, mkW_n10, mkW_s10, mkW_g11, mkW_l11, mkW_n11, mkW_s11, mkW_g12, mkW_l12, mkW_n12, mkW_s12, mkW_g13, mkW_l13, mkW_n13, mkW_s13, mkW_g14, mkW_l14, mkW_n14, mkW_s14, mkW_t14, mkW_f14, mkW_g15, mkW_l15, mkW_n15, mkW_s15, mkW_g16, mkW_g17, r1, a0]
    · simp (disch := omega) only [nd_43_30 (St_run d mt_43), ↓L_m4, ↓L_m1, L_0, L_1, L_2, L_3, L_4, L_5, L_6, L_8, L_9, L_15, L_20, L_30, L_40, L_54, L_60, L_120, L_1872, L_4320, L_22500, le_t, le_f, lt_t, lt_f, eq_t, eq_f, eq_NO, NO_eq, NO_neg, MO_neg, bI_0, nI_add, pk_mul, pk_ds, rem_, nI_MO, nI_0MO, ↓reduceIte, eq_self, reduceCtorEq, Bool.true_eq_false, Bool.false_eq_true, isZn0, isZn1, isZb, bind_some', rI_some, rV_some, rQ_some, rQ_null, updA_at, updA_ne, pk_us, pk_un, ne_eq, not_false_eq_true, Nat.reduceEqDiff, updA_updA, Nat.reduceSub, Nat.reduceAdd, Nat.reduceMul, Nat.reduceDiv, Nat.zero_add, Nat.add_zero, mkW_o, mkW_g0, mkW_l0, mkW_n0, mkW_s0, mkW_g1, mkW_l1, mkW_n1, mkW_s1, mkW_g2, mkW_l2, mkW_n2, mkW_s2, mkW_g3, mkW_l3, mkW_n3, mkW_s3, mkW_g4, mkW_p4, mkW_g5, mkW_p5, mkW_g6, mkW_p6, mkW_g7, mkW_p7, mkW_g8, mkW_l8, mkW_n8, mkW_s8, mkW_g9, mkW_l9, mkW_n9, mkW_s9, mkW_g10, mkW_l10, mkW_n10, mkW_s10, mkW_g11, mkW_l11, mkW_n11, mkW_s11, mkW_g12, mkW_l12, mkW_n12, mkW_s12, mkW_g13, mkW_l13, mkW_n13, mkW_s13, mkW_g14, mkW_l14, mkW_n14, mkW_s14, mkW_t14, mkW_f14, mkW_g15, mkW_l15, mkW_n15, mkW_s15, mkW_g16, mkW_g17, r1, a0]
  | false =>
    have ne : ∀ j, j < B.1 → hc (B.2.1 j) ≠ hc z := fun j hj e => by
      have := memN_iff.mpr ⟨j, hj, hc_inj (g.2.2.1 j hj).2.1 vch.2.1 e⟩
      rw [hm] at this
      cases this
    have a0 : A 0 (hc z) = nI 0 := r5 _ hz ne
    have ev : vis B z i (8 * l + v) = (B.1 + 1, (updN B.2.1 B.1 z, (updN B.2.2.1 B.1 i, updN B.2.2.2 B.1 (8 * l + v)))) := if_neg (by rw [hm]; decide)
    rw [ev] at gv ⊢
    have hn2 : B.1 + 1 ≤ 1872 := GB_most hT hU gv
    refine ⟨upd I 4 (nI (B.1 + 1)), updA (updA (updA (updA A 1 (upd (A 1) B.1 (nI (hc z)))) 2 (upd (A 2) B.1 (nI i))) 3 (upd (A 3) B.1 (nI (5 * l + w)))) 0 (upd (A 0) (hc z) (nI (B.1 + 1))), ?_, ⟨rfl, fun j hj => ?_, fun j h0 hj => ?_, fun j hj => ?_, fun y hy hj => ?_⟩, (((((fra.rf _ _ _ _).u _ (by decide)).w _ (by decide)).w _ (by decide)).w _ (by decide)).w _ (by decide)⟩
    · simp (disch := omega) only [nd_43_30 (St_run d mt_43), ↓L_m4, ↓L_m1, L_0, L_1, L_2, L_3, L_4, L_5, L_6, L_8, L_9, L_15, L_20, L_30, L_40, L_54, L_60, L_120, L_1872, L_4320, L_22500, le_t, le_f, lt_t, lt_f, eq_t, eq_f, eq_NO, NO_eq, NO_neg, MO_neg, bI_0, nI_add, pk_mul, pk_ds, rem_, nI_MO, nI_0MO, ↓reduceIte, eq_self, reduceCtorEq, Bool.true_eq_false, Bool.false_eq_true, isZn0, isZn1, isZb, bind_some', rI_some, rV_some, rQ_some, rQ_null, updA_at, updA_ne, pk_us, pk_un, ne_eq, not_false_eq_true, Nat.reduceEqDiff, updA_updA, Nat.reduceSub, Nat.reduceAdd, Nat.reduceMul, Nat.reduceDiv, Nat.zero_add, Nat.add_zero, mkW_o, mkW_g0, mkW_l0, mkW_n0, mkW_s0, mkW_g1, mkW_l1, mkW_n1, mkW_s1, mkW_g2, mkW_l2, mkW_n2, mkW_s2, mkW_g3, mkW_l3, mkW_n3, mkW_s3, mkW_g4, mkW_p4, mkW_g5, mkW_p5, mkW_g6, mkW_p6, mkW_g7, mkW_p7, mkW_g8, mkW_l8, mkW_n8, mkW_s8, mkW_g9, mkW_l9, mkW_n9, mkW_s9, mkW_g10, mkW_l10, mkW_n10, mkW_s10, mkW_g11, mkW_l11, mkW_n11, mkW_s11, mkW_g12, mkW_l12, mkW_n12, mkW_s12, mkW_g13, mkW_l13, mkW_n13, mkW_s13, mkW_g14, mkW_l14, mkW_n14, mkW_s14, mkW_t14, mkW_f14, mkW_g15, mkW_l15, mkW_n15, mkW_s15, mkW_g16, mkW_g17, r1, a0]
    · show upd (A 1) B.1 (nI (hc z)) j = nI (hc (updN B.2.1 B.1 z j))
      by_cases e : j = B.1
      · rw [e, pk_us, updN_at]
      · rw [pk_un e, updN_ne e]
        exact r2 j (by dsimp only at hj; omega)
    · show upd (A 2) B.1 (nI i) j = nI (updN B.2.2.1 B.1 i j) ∧ upd (A 3) B.1 (nI (5 * l + w)) j = nI (5 * (updN B.2.2.2 B.1 (8 * l + v) j / 8) + wy (updN B.2.1 B.1 z (updN B.2.2.1 B.1 i j)) (updN B.2.2.2 B.1 (8 * l + v) j % 8))
      by_cases e : j = B.1
      · rw [e, pk_us, updN_at, pk_us, updN_at, updN_ne (by omega), show (8 * l + v) / 8 = l by omega, show (8 * l + v) % 8 = v by omega, hw]
        exact ⟨rfl, rfl⟩
      · have hj2 : j < B.1 := by dsimp only at hj; omega
        have e5 := (g.2.2.2.2 j h0 hj2).1
        rw [pk_un e, updN_ne e, pk_un e, updN_ne e, updN_ne (by omega)]
        exact r3 j h0 hj2
    · show upd (A 0) (hc z) (nI (B.1 + 1)) (hc (updN B.2.1 B.1 z j)) = nI (j + 1)
      by_cases e : j = B.1
      · rw [e, updN_at, pk_us]
      · have hj2 : j < B.1 := by dsimp only at hj; omega
        rw [updN_ne e, pk_un (ne j hj2)]
        exact r4 j hj2
    · show upd (A 0) (hc z) (nI (B.1 + 1)) y = nI 0
      have e : y ≠ hc z := fun e => hj B.1 (Nat.lt_succ_self _) (by show hc (updN B.2.1 B.1 z B.1) = y; rw [updN_at, e])
      rw [pk_un e]
      refine r5 y hy (fun j hj2 e2 => hj j (by show j < B.1 + 1; omega) ?_)
      show hc (updN B.2.1 B.1 z j) = y
      rw [updN_ne (by omega)]
      exact e2
/-- one way -/
def wst (T U : TM) (c l i w : Nat) (B : BS) : BS := if wlf (lb c) w = 0 then B else vis B (chd T U c l (vv c w)) i (8 * l + vv c w)
theorem wst_ok {T U : TM} (hT : WFT T) (hU : WFT U) {B : BS} (g : GB T U B) {c i l w : Nat} (hi : i < B.1) (hq : B.2.1 i = c) (hl : l < 3) (hw : w < 5) : GB T U (wst T U c l i w B) ∧ pre B (wst T U c l i w B) := by
  subst hq
  have vc := g.2.2.1 i hi
  unfold wst
  by_cases h0 : wlf (lb (B.2.1 i)) w = 0
  · rw [if_pos h0]
    exact ⟨g, pre.rf _⟩
  · rw [if_neg h0]
    obtain ⟨w1, w2, w3, _⟩ := way_ok vc.2.1 hw h0
    exact ⟨vis_GB hT hU g hi hl w2 w3, vis_pre _ _ _ _⟩
theorem exV_w {T U : TM} {c i l : Nat} (hn : nor (c % 625) = true) (B : BS) : exV (chd T U c l) i l (vsN c) B = wst T U c l i 4 (wst T U c l i 3 (wst T U c l i 2 (wst T U c l i 1 (wst T U c l i 0 B)))) := by
  have key : ∀ (w : Nat), w < 4 → ∀ (rest : List Nat) (B : BS), exV (chd T U c l) i l ((if wlf (lb c) w = 0 then [] else [wlf (lb c) w]) ++ rest) B = exV (chd T U c l) i l rest (wst T U c l i w B) := by
    intro w hw rest B
    unfold wst
    by_cases h0 : wlf (lb c) w = 0
    · rw [if_pos h0, if_pos h0]
      rfl
    · rw [if_neg h0, if_neg h0, show vv c w = wlf (lb c) w from if_neg (by omega)]
      rfl
  rw [vsN_w hn, key 0 (by omega), key 1 (by omega), key 2 (by omega), key 3 (by omega)]
  rfl
section WXM
variable {b1 b2 : Nat} {M1 M2 : MD} {T U : TM}
theorem l_way (hm1 : ∀ J C, isM (mkW h a J C) b1 M1) (t1 : MTT M1 T) (hT : WFT T) (hm2 : ∀ J C, isM (mkW h a J C) b2 M2) (t2 : MTT M2 U) (hU : WFT U) (x3 : Int32) (c i l w : Nat) (hl : l < 3) (hw : w < 5) (I : Nat → Int32) (A : Nat → Nat → Int32) (B : BS) (g : GB T U B) (hi : i < B.1) (hq : B.2.1 i = c) (lk : LKI I A c) (r : WB I A B) : ∃ I' A', run (d + 3) mt_41 68 [some (.ref a), some (.ref b1), some (.ref b2), some (.int x3), some (.int (nI i)), some (.int (nI (5 * l + w)))] [] (mkW h a I A) = run (d + 3) mt_41 68 [some (.ref a), some (.ref b1), some (.ref b2), some (.int x3), some (.int (nI i)), some (.int (nI (5 * l + w + 1)))] [] (mkW h a I' A') ∧ WB I' A' (wst T U c l i w B) ∧ fra I I' A A' [4] [0, 1, 2, 3, 12, 13] := by
  have vc : vd T U c := hq ▸ g.2.2.1 i hi
  obtain ⟨A1, e1, e2⟩ := W_codeBehind (d := d) (hm1 I A) t1 hT (hm2 I A) t2 hU c vc lk l w hl hw
  have p1 : fra I I A A1 [4] [0, 1, 2, 3, 12, 13] := ⟨fun _ _ => rfl, fun k hk => e2 k (fun e => hk (by simp [e])) (fun e => hk (by simp [e]))⟩
  have p1' : fra I I A A1 [] [12, 13] := ⟨fun _ _ => rfl, fun k hk => e2 k (fun e => hk (by simp [e])) (fun e => hk (by simp [e]))⟩
  have r1 : WB I A1 B := r.fa p1' (by decide) (by decide)
  rw [nd_41_68 (St_run (d + 3) mt_41)]
  unfold wst
  by_cases h0 : wlf (lb c) w = 0
  · rw [if_pos h0] at e1 ⊢
    refine ⟨I, A1, ?_, r1, p1⟩
    simp (disch := omega) only [↓L_m4, ↓L_m1, L_0, L_1, L_2, L_3, L_4, L_5, L_6, L_8, L_9, L_15, L_20, L_30, L_40, L_54, L_60, L_120, L_1872, L_4320, L_22500, le_t, le_f, lt_t, lt_f, eq_t, eq_f, eq_NO, NO_eq, NO_neg, MO_neg, bI_0, nI_add, pk_mul, pk_ds, rem_, nI_MO, nI_0MO, ↓reduceIte, eq_self, reduceCtorEq, Bool.true_eq_false, Bool.false_eq_true, isZn0, isZn1, isZb, bind_some', rI_some, rV_some, rQ_some, rQ_null, updA_at, updA_ne, pk_us, pk_un, ne_eq, not_false_eq_true, Nat.reduceEqDiff, updA_updA, Nat.reduceSub, Nat.reduceAdd, Nat.reduceMul, Nat.reduceDiv, Nat.zero_add, Nat.add_zero, mkW_o, mkW_g0, mkW_l0, mkW_n0, mkW_s0, mkW_g1, mkW_l1, mkW_n1, mkW_s1, mkW_g2, mkW_l2, mkW_n2, mkW_s2, mkW_g3, mkW_l3, mkW_n3, mkW_s3, mkW_g4, mkW_p4, mkW_g5, mkW_p5, mkW_g6, mkW_p6, mkW_g7, mkW_p7, mkW_g8, mkW_l8, mkW_n8, mkW_s8, mkW_g9, mkW_l9, mkW_n9, mkW_s9, mkW_g10, mkW_l10, mkW_n10, mkW_s10, mkW_g11, mkW_l11, mkW_n11, mkW_s11, mkW_g12, mkW_l12, mkW_n12, mkW_s12, mkW_g13, mkW_l13, mkW_n13, mkW_s13, mkW_g14, mkW_l14, mkW_n14, mkW_s14, mkW_t14, mkW_f14, mkW_g15, mkW_l15, mkW_n15, mkW_s15, mkW_g16, mkW_g17, e1, W_meet_no]
  · rw [if_neg h0] at e1 ⊢
    obtain ⟨w1, w2, w3, _⟩ := way_ok vc.2.1 hw h0
    obtain ⟨I2, A2, f1, f2, f3⟩ := W_meet (d := d + 2) (a := a) (h := h) hT hU g r1 hi hq hl w2 w3 w1
    refine ⟨I2, A2, ?_, f2, p1.tr (f3.sub (by decide) (by decide))⟩
    simp (disch := omega) only [↓L_m4, ↓L_m1, L_0, L_1, L_2, L_3, L_4, L_5, L_6, L_8, L_9, L_15, L_20, L_30, L_40, L_54, L_60, L_120, L_1872, L_4320, L_22500, le_t, le_f, lt_t, lt_f, eq_t, eq_f, eq_NO, NO_eq, NO_neg, MO_neg, bI_0, nI_add, pk_mul, pk_ds, rem_, nI_MO, nI_0MO, ↓reduceIte, eq_self, reduceCtorEq, Bool.true_eq_false, Bool.false_eq_true, isZn0, isZn1, isZb, bind_some', rI_some, rV_some, rQ_some, rQ_null, updA_at, updA_ne, pk_us, pk_un, ne_eq, not_false_eq_true, Nat.reduceEqDiff, updA_updA, Nat.reduceSub, Nat.reduceAdd, Nat.reduceMul, Nat.reduceDiv, Nat.zero_add, Nat.add_zero, mkW_o, mkW_g0, mkW_l0, mkW_n0, mkW_s0, mkW_g1, mkW_l1, mkW_n1, mkW_s1, mkW_g2, mkW_l2, mkW_n2, mkW_s2, mkW_g3, mkW_l3, mkW_n3, mkW_s3, mkW_g4, mkW_p4, mkW_g5, mkW_p5, mkW_g6, mkW_p6, mkW_g7, mkW_p7, mkW_g8, mkW_l8, mkW_n8, mkW_s8, mkW_g9, mkW_l9, mkW_n9, mkW_s9, mkW_g10, mkW_l10, mkW_n10, mkW_s10, mkW_g11, mkW_l11, mkW_n11, mkW_s11, mkW_g12, mkW_l12, mkW_n12, mkW_s12, mkW_g13, mkW_l13, mkW_n13, mkW_s13, mkW_g14, mkW_l14, mkW_n14, mkW_s14, mkW_t14, mkW_f14, mkW_g15, mkW_l15, mkW_n15, mkW_s15, mkW_g16, mkW_g17, e1, f1]
theorem l_letter (hm1 : ∀ J C, isM (mkW h a J C) b1 M1) (t1 : MTT M1 T) (hT : WFT T) (hm2 : ∀ J C, isM (mkW h a J C) b2 M2) (t2 : MTT M2 U) (hU : WFT U) (x3 : Int32) (c i l : Nat) (hl : l < 3) (I : Nat → Int32) (A : Nat → Nat → Int32) (B : BS) (g : GB T U B) (hi : i < B.1) (hq : B.2.1 i = c) (lk : LKI I A c) (r : WB I A B) : ∃ I' A', run (d + 3) mt_41 68 [some (.ref a), some (.ref b1), some (.ref b2), some (.int x3), some (.int (nI i)), some (.int (nI (5 * l)))] [] (mkW h a I A) = run (d + 3) mt_41 68 [some (.ref a), some (.ref b1), some (.ref b2), some (.int x3), some (.int (nI i)), some (.int (nI (5 * (l + 1))))] [] (mkW h a I' A') ∧ WB I' A' (exV (chd T U c l) i l (vsN c) B) ∧ fra I I' A A' [4] [0, 1, 2, 3, 12, 13] := by
  have vc : vd T U c := hq ▸ g.2.2.1 i hi
  rw [exV_w vc.2.1]
  obtain ⟨g1, p1⟩ := wst_ok hT hU g hi hq hl (show 0 < 5 by omega)
  obtain ⟨I1, A1, e1, r1, f1⟩ := l_way (d := d) hm1 t1 hT hm2 t2 hU x3 c i l 0 hl (by omega) I A B g hi hq lk r
  have i1 := Nat.lt_of_lt_of_le hi p1.1
  have q1 := (p1.2 i hi).1.trans hq
  have l1 := lk.fa f1 (by decide) (by decide)
  obtain ⟨g2, p2⟩ := wst_ok hT hU g1 i1 q1 hl (show 1 < 5 by omega)
  obtain ⟨I2, A2, e2, r2, f2⟩ := l_way (d := d) hm1 t1 hT hm2 t2 hU x3 c i l 1 hl (by omega) I1 A1 _ g1 i1 q1 l1 r1
  have i2 := Nat.lt_of_lt_of_le i1 p2.1
  have q2 := (p2.2 i i1).1.trans q1
  have l2 := l1.fa f2 (by decide) (by decide)
  obtain ⟨g3, p3⟩ := wst_ok hT hU g2 i2 q2 hl (show 2 < 5 by omega)
  obtain ⟨I3, A3, e3, r3, f3⟩ := l_way (d := d) hm1 t1 hT hm2 t2 hU x3 c i l 2 hl (by omega) I2 A2 _ g2 i2 q2 l2 r2
  have i3 := Nat.lt_of_lt_of_le i2 p3.1
  have q3 := (p3.2 i i2).1.trans q2
  have l3 := l2.fa f3 (by decide) (by decide)
  obtain ⟨g4, p4⟩ := wst_ok hT hU g3 i3 q3 hl (show 3 < 5 by omega)
  obtain ⟨I4, A4, e4, r4, f4⟩ := l_way (d := d) hm1 t1 hT hm2 t2 hU x3 c i l 3 hl (by omega) I3 A3 _ g3 i3 q3 l3 r3
  have i4 := Nat.lt_of_lt_of_le i3 p4.1
  have q4 := (p4.2 i i3).1.trans q3
  have l4 := l3.fa f4 (by decide) (by decide)
  obtain ⟨I5, A5, e5, r5, f5⟩ := l_way (d := d) hm1 t1 hT hm2 t2 hU x3 c i l 4 hl (by omega) I4 A4 _ g4 i4 q4 l4 r4
  exact ⟨I5, A5, ((((e1.trans e2).trans e3).trans e4).trans e5), r5, (((f1.tr f2).tr f3).tr f4).tr f5⟩
/-- which orbits are wanted -/
def pW (w : Nat) (T U : TM) (i : Nat) : Bool := wtd w (T.2.2.2 ((bF T U).2.1 i / 625 / 6)) (U.2.2.2 ((bF T U).2.1 i / 625 % 6))
theorem l_explore (hm1 : ∀ J C, isM (mkW h a J C) b1 M1) (t1 : MTT M1 T) (hT : WFT T) (hm2 : ∀ J C, isM (mkW h a J C) b2 M2) (t2 : MTT M2 U) (hU : WFT U) (w : Nat) (hw : w < 3) : ∀ (m i : Nat) (I : Nat → Int32) (A : Nat → Nat → Int32), i + m = 1873 → WB I A (bf T U i) → ∃ I' A' N, run (d + 3) mt_41 16 [some (.ref a), some (.ref b1), some (.ref b2), some (.int (nI w)), some (.int (nI i)), none] [] (mkW h a I A) = some (some (.int (oI (fw (pW w T U) ((bF T U).1 - i) i))), mkW h a I' A') ∧ N ≤ 1872 ∧ WB I' A' (bf T U N) ∧ (∀ e, fw (pW w T U) ((bF T U).1 - i) i = some e → e < (bf T U N).1) ∧ (fw (pW w T U) ((bF T U).1 - i) i = none → bf T U N = bF T U) ∧ fra I I' A A' [4, 5, 6, 7] [0, 1, 2, 3, 8, 9, 10, 11, 12, 13] := by
  have stop : ∀ (i : Nat) (I : Nat → Int32) (A : Nat → Nat → Int32), i ≤ 1873 → (bf T U i).1 ≤ i → WB I A (bf T U i) → ∃ I' A' N, run (d + 3) mt_41 16 [some (.ref a), some (.ref b1), some (.ref b2), some (.int (nI w)), some (.int (nI i)), none] [] (mkW h a I A) = some (some (.int (oI (fw (pW w T U) ((bF T U).1 - i) i))), mkW h a I' A') ∧ N ≤ 1872 ∧ WB I' A' (bf T U N) ∧ (∀ e, fw (pW w T U) ((bF T U).1 - i) i = some e → e < (bf T U N).1) ∧ (fw (pW w T U) ((bF T U).1 - i) i = none → bf T U N = bF T U) ∧ fra I I' A A' [4, 5, 6, 7] [0, 1, 2, 3, 8, 9, 10, 11, 12, 13] := by
    intro i I A hi hle r
    have eF := bF_of hT hU hle
    have r1 := r.1
    have hn := GB_most hT hU (bf_GB hT hU i)
    have e0 : fw (pW w T U) ((bF T U).1 - i) i = none := by
      rw [← eF, show (bf T U i).1 - i = 0 by omega]
      rfl
    rw [e0]
    refine ⟨I, A, 1872, ?_, Nat.le_refl _, ?_, fun e he => (by cases he), fun _ => rfl, fra.rf _ _ _ _⟩
    · rw [nd_41_16 (St_run (d + 3) mt_41)]
      simp (disch := omega) only [nd_41_103 (St_run (d + 3) mt_41), ↓L_m4, ↓L_m1, L_0, L_1, L_2, L_3, L_4, L_5, L_6, L_8, L_9, L_15, L_20, L_30, L_40, L_54, L_60, L_120, L_1872, L_4320, L_22500, le_t, le_f, lt_t, lt_f, eq_t, eq_f, eq_NO, NO_eq, NO_neg, MO_neg, bI_0, nI_add, pk_mul, pk_ds, rem_, nI_MO, nI_0MO, ↓reduceIte, eq_self, reduceCtorEq, Bool.true_eq_false, Bool.false_eq_true, isZn0, isZn1, isZb, bind_some', rI_some, rV_some, rQ_some, rQ_null, updA_at, updA_ne, pk_us, pk_un, ne_eq, not_false_eq_true, Nat.reduceEqDiff, updA_updA, Nat.reduceSub, Nat.reduceAdd, Nat.reduceMul, Nat.reduceDiv, Nat.zero_add, Nat.add_zero, mkW_o, mkW_g0, mkW_l0, mkW_n0, mkW_s0, mkW_g1, mkW_l1, mkW_n1, mkW_s1, mkW_g2, mkW_l2, mkW_n2, mkW_s2, mkW_g3, mkW_l3, mkW_n3, mkW_s3, mkW_g4, mkW_p4, mkW_g5, mkW_p5, mkW_g6, mkW_p6, mkW_g7, mkW_p7, mkW_g8, mkW_l8, mkW_n8, mkW_s8, mkW_g9, mkW_l9, mkW_n9, mkW_s9, mkW_g10, mkW_l10, mkW_n10, mkW_s10, mkW_g11, mkW_l11, mkW_n11, mkW_s11, mkW_g12, mkW_l12, mkW_n12, mkW_s12, mkW_g13, mkW_l13, mkW_n13, mkW_s13, mkW_g14, mkW_l14, mkW_n14, mkW_s14, mkW_t14, mkW_f14, mkW_g15, mkW_l15, mkW_n15, mkW_s15, mkW_g16, mkW_g17, r1]
      rfl
    · rw [show bf T U 1872 = bF T U from rfl, ← eF]
      exact r
  intro m
  induction m with
  | zero =>
    intro i I A hi r
    have hn := GB_most hT hU (bf_GB hT hU i)
    exact stop i I A (by omega) (by omega) r
  | succ m ih =>
    intro i I A hi r
    have g := bf_GB hT hU i
    have hn := GB_most hT hU g
    by_cases hiB : i < (bf T U i).1
    · have vc := g.2.2.1 i hiB
      have r1 := r.1
      have pF := bF_pre hT hU (show i ≤ 1872 by omega)
      have hF : i < (bF T U).1 := Nat.lt_of_lt_of_le hiB pF.1
      have eq := (pF.2 i hiB).1
      obtain ⟨A1, e1, lk1, f1⟩ := W_lookAt (d := d + 1) (a := a) (h := h) (I := I) (A := A) ((bf T U i).2.1 i) i (by omega) (r.2.1 i hiB) vc.2.1 vc.1
      have ra := r.fa f1 (by decide) (by decide)
      have k5 := lk1.1
      have k6 := lk1.2.1
      have gA := W_good (d := d + 1) (hm1 (LI I ((bf T U i).2.1 i)) A1) t1 hT _ vc.2.2.1
      have gB := W_good (d := d + 1) (hm2 (LI I ((bf T U i).2.1 i)) A1) t2 hU _ vc.2.2.2.1
      have gW := W_isWanted (d := d + 2) (h := mkW h a (LI I ((bf T U i).2.1 i)) A1) (T.2.2.2 ((bf T U i).2.1 i / 625 / 6)) (U.2.2.2 ((bf T U i).2.1 i / 625 % 6)) w hw
      have o1 := (hm1 (LI I ((bf T U i).2.1 i)) A1).o
      have o2 := (hm2 (LI I ((bf T U i).2.1 i)) A1).o
      have f1' := f1.sub (js' := [4, 5, 6, 7]) (ks' := [0, 1, 2, 3, 8, 9, 10, 11, 12, 13]) (by decide) (by decide)
      obtain ⟨k, hk⟩ : ∃ k, (bF T U).1 - i = k + 1 := ⟨(bF T U).1 - i - 1, by omega⟩
      rw [hk]
      unfold fw
      have ep : pW w T U i = wtd w (T.2.2.2 ((bf T U i).2.1 i / 625 / 6)) (U.2.2.2 ((bf T U i).2.1 i / 625 % 6)) := by
        unfold pW
        rw [eq]
      rw [ep, nd_41_16 (St_run (d + 3) mt_41)]
      cases hwt : wtd w (T.2.2.2 ((bf T U i).2.1 i / 625 / 6)) (U.2.2.2 ((bf T U i).2.1 i / 625 % 6)) with
      | true =>
        rw [hwt] at gW
        refine ⟨_, A1, i, ?_, by omega, ra, fun e he => ?_, fun he => ?_, f1'⟩
        · simp (disch := omega) only [↓L_m4, ↓L_m1, L_0, L_1, L_2, L_3, L_4, L_5, L_6, L_8, L_9, L_15, L_20, L_30, L_40, L_54, L_60, L_120, L_1872, L_4320, L_22500, le_t, le_f, lt_t, lt_f, eq_t, eq_f, eq_NO, NO_eq, NO_neg, MO_neg, bI_0, nI_add, pk_mul, pk_ds, rem_, nI_MO, nI_0MO, ↓reduceIte, eq_self, reduceCtorEq, Bool.true_eq_false, Bool.false_eq_true, isZn0, isZn1, isZb, bind_some', rI_some, rV_some, rQ_some, rQ_null, updA_at, updA_ne, pk_us, pk_un, ne_eq, not_false_eq_true, Nat.reduceEqDiff, updA_updA, Nat.reduceSub, Nat.reduceAdd, Nat.reduceMul, Nat.reduceDiv, Nat.zero_add, Nat.add_zero, mkW_o, mkW_g0, mkW_l0, mkW_n0, mkW_s0, mkW_g1, mkW_l1, mkW_n1, mkW_s1, mkW_g2, mkW_l2, mkW_n2, mkW_s2, mkW_g3, mkW_l3, mkW_n3, mkW_s3, mkW_g4, mkW_p4, mkW_g5, mkW_p5, mkW_g6, mkW_p6, mkW_g7, mkW_p7, mkW_g8, mkW_l8, mkW_n8, mkW_s8, mkW_g9, mkW_l9, mkW_n9, mkW_s9, mkW_g10, mkW_l10, mkW_n10, mkW_s10, mkW_g11, mkW_l11, mkW_n11, mkW_s11, mkW_g12, mkW_l12, mkW_n12, mkW_s12, mkW_g13, mkW_l13, mkW_n13, mkW_s13, mkW_g14, mkW_l14, mkW_n14, mkW_s14, mkW_t14, mkW_f14, mkW_g15, mkW_l15, mkW_n15, mkW_s15, mkW_g16, mkW_g17, r1, e1, k5, k6, o1, o2, gA, gB, gW]
          rfl
        · cases he
          exact hiB
        · cases he
      | false =>
        rw [hwt] at gW
        have hv : ∀ v ∈ vsN ((bf T U i).2.1 i), 1 ≤ v ∧ v ≤ top ((bf T U i).2.1 i) + 1 := fun v h => vsN_mem.mp h
        obtain ⟨a1, a2, a3⟩ := exV_ok hT hU (show 0 < 3 by decide) (vsN ((bf T U i).2.1 i)) (bf T U i) g hiB rfl hv
        obtain ⟨c1, c2, c3⟩ := exV_ok hT hU (show 1 < 3 by decide) (vsN ((bf T U i).2.1 i)) _ a1 (Nat.lt_of_lt_of_le hiB a2.1) (a2.2 i hiB).1 hv
        have p2 := a2.tr c2
        obtain ⟨I2, A2, e2, r2, f2⟩ := l_letter (d := d) hm1 t1 hT hm2 t2 hU (nI w) ((bf T U i).2.1 i) i 0 (by omega) _ A1 (bf T U i) g hiB rfl lk1 ra
        have lk2 := lk1.fa f2 (by decide) (by decide)
        obtain ⟨I3, A3, e3, r3, f3⟩ := l_letter (d := d) hm1 t1 hT hm2 t2 hU (nI w) ((bf T U i).2.1 i) i 1 (by omega) I2 A2 _ a1 (Nat.lt_of_lt_of_le hiB a2.1) (a2.2 i hiB).1 lk2 r2
        have lk3 := lk2.fa f3 (by decide) (by decide)
        obtain ⟨I4, A4, e4, r4, f4⟩ := l_letter (d := d) hm1 t1 hT hm2 t2 hU (nI w) ((bf T U i).2.1 i) i 2 (by omega) I3 A3 _ c1 (Nat.lt_of_lt_of_le hiB p2.1) (p2.2 i hiB).1 lk3 r3
        have eB : bf T U (i + 1) = exN T U i (bf T U i) := if_pos hiB
        have r5 : WB I4 A4 (bf T U (i + 1)) := by
          rw [eB]
          exact r4
        obtain ⟨I5, A5, N, e5, n1, n2, n3, n4, f5⟩ := ih (i + 1) I4 A4 (by omega) r5
        have hk2 : (bF T U).1 - (i + 1) = k := by omega
        rw [hk2] at e5 n3 n4
        refine ⟨I5, A5, N, ?_, n1, n2, n3, n4, (((f1'.tr (f2.sub (by decide) (by decide))).tr (f3.sub (by decide) (by decide))).tr (f4.sub (by decide) (by decide))).tr f5⟩
        simp (disch := omega) only [↓L_m4, ↓L_m1, L_0, L_1, L_2, L_3, L_4, L_5, L_6, L_8, L_9, L_15, L_20, L_30, L_40, L_54, L_60, L_120, L_1872, L_4320, L_22500, le_t, le_f, lt_t, lt_f, eq_t, eq_f, eq_NO, NO_eq, NO_neg, MO_neg, bI_0, nI_add, pk_mul, pk_ds, rem_, nI_MO, nI_0MO, ↓reduceIte, eq_self, reduceCtorEq, Bool.true_eq_false, Bool.false_eq_true, isZn0, isZn1, isZb, bind_some', rI_some, rV_some, rQ_some, rQ_null, updA_at, updA_ne, pk_us, pk_un, ne_eq, not_false_eq_true, Nat.reduceEqDiff, updA_updA, Nat.reduceSub, Nat.reduceAdd, Nat.reduceMul, Nat.reduceDiv, Nat.zero_add, Nat.add_zero, mkW_o, mkW_g0, mkW_l0, mkW_n0, mkW_s0, mkW_g1, mkW_l1, mkW_n1, mkW_s1, mkW_g2, mkW_l2, mkW_n2, mkW_s2, mkW_g3, mkW_l3, mkW_n3, mkW_s3, mkW_g4, mkW_p4, mkW_g5, mkW_p5, mkW_g6, mkW_p6, mkW_g7, mkW_p7, mkW_g8, mkW_l8, mkW_n8, mkW_s8, mkW_g9, mkW_l9, mkW_n9, mkW_s9, mkW_g10, mkW_l10, mkW_n10, mkW_s10, mkW_g11, mkW_l11, mkW_n11, mkW_s11, mkW_g12, mkW_l12, mkW_n12, mkW_s12, mkW_g13, mkW_l13, mkW_n13, mkW_s13, mkW_g14, mkW_l14, mkW_n14, mkW_s14, mkW_t14, mkW_f14, mkW_g15, mkW_l15, mkW_n15, mkW_s15, mkW_g16, mkW_g17, r1, e1, k5, k6, o1, o2, gA, gB, gW]
        refine (e2.trans (e3.trans e4)).trans ?_
        rw [nd_41_68 (St_run (d + 3) mt_41)]
        simp (disch := omega) only [↓L_m4, ↓L_m1, L_0, L_1, L_2, L_3, L_4, L_5, L_6, L_8, L_9, L_15, L_20, L_30, L_40, L_54, L_60, L_120, L_1872, L_4320, L_22500, le_t, le_f, lt_t, lt_f, eq_t, eq_f, eq_NO, NO_eq, NO_neg, MO_neg, bI_0, nI_add, pk_mul, pk_ds, rem_, nI_MO, nI_0MO, ↓reduceIte, eq_self, reduceCtorEq, Bool.true_eq_false, Bool.false_eq_true, isZn0, isZn1, isZb, bind_some', rI_some, rV_some, rQ_some, rQ_null, updA_at, updA_ne, pk_us, pk_un, ne_eq, not_false_eq_true, Nat.reduceEqDiff, updA_updA, Nat.reduceSub, Nat.reduceAdd, Nat.reduceMul, Nat.reduceDiv, Nat.zero_add, Nat.add_zero, mkW_o, mkW_g0, mkW_l0, mkW_n0, mkW_s0, mkW_g1, mkW_l1, mkW_n1, mkW_s1, mkW_g2, mkW_l2, mkW_n2, mkW_s2, mkW_g3, mkW_l3, mkW_n3, mkW_s3, mkW_g4, mkW_p4, mkW_g5, mkW_p5, mkW_g6, mkW_p6, mkW_g7, mkW_p7, mkW_g8, mkW_l8, mkW_n8, mkW_s8, mkW_g9, mkW_l9, mkW_n9, mkW_s9, mkW_g10, mkW_l10, mkW_n10, mkW_s10, mkW_g11, mkW_l11, mkW_n11, mkW_s11, mkW_g12, mkW_l12, mkW_n12, mkW_s12, mkW_g13, mkW_l13, mkW_n13, mkW_s13, mkW_g14, mkW_l14, mkW_n14, mkW_s14, mkW_t14, mkW_f14, mkW_g15, mkW_l15, mkW_n15, mkW_s15, mkW_g16, mkW_g17]
        exact e5
    · exact stop i I A (by omega) (by omega) r
theorem W_explore (hm1 : ∀ J C, isM (mkW h a J C) b1 M1) (t1 : MTT M1 T) (hT : WFT T) (hm2 : ∀ J C, isM (mkW h a J C) b2 M2) (t2 : MTT M2 U) (hU : WFT U) (w : Nat) (hw : w < 3) (v : WV I A) : ∃ I' A' N, call (d + 4) 41 [.ref a, .ref b1, .ref b2, .int (nI w)] (mkW h a I A) = some (some (.int (oI (fw (pW w T U) (bF T U).1 0))), mkW h a I' A') ∧ N ≤ 1872 ∧ WB I' A' (bf T U N) ∧ (∀ e, fw (pW w T U) (bF T U).1 0 = some e → e < (bf T U N).1) ∧ (fw (pW w T U) (bF T U).1 0 = none → bf T U N = bF T U) ∧ fra I I' A A' [4, 5, 6, 7] [0, 1, 2, 3, 8, 9, 10, 11, 12, 13] := by
  obtain ⟨A1, e1, e2, e3⟩ := W_forget (d := d + 2) (a := a) (h := h) v
  obtain ⟨I2, A2, f1, f2, f3⟩ := W_meet0 (d := d + 2) (a := a) (h := h) (I := upd I 4 (nI 0)) (A := A1) rfl e2
  obtain ⟨I3, A3, N, g1, g2, g3, g4, g5, g6⟩ := l_explore (d := d) hm1 t1 hT hm2 t2 hU w hw 1873 0 I2 A2 rfl f2
  rw [Nat.sub_zero] at g1 g4 g5
  have p1 : fra I (upd I 4 (nI 0)) A A1 [4, 5, 6, 7] [0, 1, 2, 3, 8, 9, 10, 11, 12, 13] := ⟨fun k hk => pk_un (fun e => hk (by simp [e])), fun k hk => e3 k (fun e => hk (by simp [e]))⟩
  refine ⟨I3, A3, N, ?_, g2, g3, g4, g5, (p1.tr (f3.sub (by decide) (by decide))).tr g6⟩
  rw [call_at mt_41 [some (.ref a), some (.ref b1), some (.ref b2), some (.int (nI w)), none, none] rfl rfl rfl, nd_41_0 (St_run (d + 3) mt_41)]
  simp (disch := omega) only [↓L_m4, ↓L_m1, L_0, L_1, L_2, L_3, L_4, L_5, L_6, L_8, L_9, L_15, L_20, L_30, L_40, L_54, L_60, L_120, L_1872, L_4320, L_22500, le_t, le_f, lt_t, lt_f, eq_t, eq_f, eq_NO, NO_eq, NO_neg, MO_neg, bI_0, nI_add, pk_mul, pk_ds, rem_, nI_MO, nI_0MO, ↓reduceIte, eq_self, reduceCtorEq, Bool.true_eq_false, Bool.false_eq_true, isZn0, isZn1, isZb, bind_some', rI_some, rV_some, rQ_some, rQ_null, updA_at, updA_ne, pk_us, pk_un, ne_eq, not_false_eq_true, Nat.reduceEqDiff, updA_updA, Nat.reduceSub, Nat.reduceAdd, Nat.reduceMul, Nat.reduceDiv, Nat.zero_add, Nat.add_zero, mkW_o, mkW_g0, mkW_l0, mkW_n0, mkW_s0, mkW_g1, mkW_l1, mkW_n1, mkW_s1, mkW_g2, mkW_l2, mkW_n2, mkW_s2, mkW_g3, mkW_l3, mkW_n3, mkW_s3, mkW_g4, mkW_p4, mkW_g5, mkW_p5, mkW_g6, mkW_p6, mkW_g7, mkW_p7, mkW_g8, mkW_l8, mkW_n8, mkW_s8, mkW_g9, mkW_l9, mkW_n9, mkW_s9, mkW_g10, mkW_l10, mkW_n10, mkW_s10, mkW_g11, mkW_l11, mkW_n11, mkW_s11, mkW_g12, mkW_l12, mkW_n12, mkW_s12, mkW_g13, mkW_l13, mkW_n13, mkW_s13, mkW_g14, mkW_l14, mkW_n14, mkW_s14, mkW_t14, mkW_f14, mkW_g15, mkW_l15, mkW_n15, mkW_s15, mkW_g16, mkW_g17, e1, f1]
  exact g1
end WXM
end WX
