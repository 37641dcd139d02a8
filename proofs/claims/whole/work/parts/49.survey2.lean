/-! ===== Walk: survey, the rounds and the fates ===== -/
section SW
variable {d a : Nat} {h : AH} {b1 b2 : Nat} {M1 M2 : MD} {T : TM}
def snd (T : TM) (S : Nat → Bool) : Prop := ∀ i, i < (bF T T0).1 → S i = true → alv T ((bF T T0).2.1 i)
def cld (T : TM) (S : Nat → Bool) : Prop := ∀ i j, i < (bF T T0).1 → j < (bF T T0).1 → nxt T (bF T T0).2.1 i j → S j = true → S i = true
theorem LVN.cg {A : Nat → Nat → Int32} {S R : Nat → Bool} {n : Nat} (lv : LVN T A S n) (h : ∀ j, j < n → R j = S j) : LVN T A R n := ⟨fun j hj => by rw [h j hj]; exact lv.1 j hj, lv.2⟩
theorem LVN.set {A : Nat → Nat → Int32} {S : Nat → Bool} {n : Nat} (lv : LVN T A S n) (i : Nat) : LVN T (updA A 14 (upd (A 14) i (bI true))) (fun j => if j = i then true else S j) n := ⟨fun j hj => by
  rw [updA_at]
  dsimp only
  by_cases e : j = i
  · rw [e, pk_us, if_pos rfl]
  · rw [pk_un e, if_neg e]; exact lv.1 j hj, fun j hj k hk => by
  have := lv.2 j hj k hk
  unfold NXF at this ⊢
  rw [updA_ne (by decide)]
  exact this⟩
theorem l_spr {I : Nat → Int32} (hT : WFT T) : ∀ (k : Nat) (A : Nat → Nat → Int32) (S : Nat → Bool) (more : Bool), k ≤ (bF T T0).1 → LVN T A S (bF T T0).1 → ∃ A' S' more', run (d + 1) mt_56 14 [some (.ref a), some (.int (bI more)), some (.int (nI k - 1))] [] (mkW h a I A) = some (some (.int (bI more')), mkW h a I A') ∧ LVN T A' S' (bF T T0).1 ∧ (∀ j, j < (bF T T0).1 → S j = true → S' j = true) ∧ (snd T S → snd T S') ∧ (more' = false → more = false ∧ (∀ j, j < (bF T T0).1 → S' j = S j) ∧ ∀ i, i < k → S i = false → ¬ ∃ j, j < (bF T T0).1 ∧ nxt T (bF T T0).2.1 i j ∧ S j = true) ∧ (more' = true → more = true ∨ ∃ j, j < (bF T T0).1 ∧ S j = false ∧ S' j = true) ∧ fra I I A A' [] [14] := by
  have g := bF_GB hT T0_wf
  have h30 := GB_alone hT g
  intro k
  induction k with
  | zero =>
    intro A S more hk lv
    refine ⟨A, S, more, ?_, lv, fun _ _ e => e, fun e => e, fun e => ⟨e, fun _ _ => rfl, fun i hi => by omega⟩, fun e => Or.inl e, fra.rf _ _ _ _⟩
    rw [nd_56_14 (St_run (d + 1) mt_56), if_pos (by decide), isZb]
  | succ k ih =>
    intro A S more hk lv
    have a14 := lv.1 k (by omega)
    have go : ∀ (A1 : Nat → Nat → Int32) (m1 : Bool), run (d + 1) mt_56 44 [some (.ref a), some (.int (bI m1)), some (.int (nI k))] [] (mkW h a I A1) = run (d + 1) mt_56 14 [some (.ref a), some (.int (bI m1)), some (.int (nI k - 1))] [] (mkW h a I A1) := fun A1 m1 => by
      rw [nd_56_44 (St_run (d + 1) mt_56), ← nI_m1]
      rfl
    rw [nd_56_14 (St_run (d + 1) mt_56), nI_p1]
    cases hS : S k with
    | true =>
      rw [hS] at a14
      obtain ⟨A', S', m', e1, e2, e3, e4, e5, e6, e7⟩ := ih A S more (by omega) lv
      refine ⟨A', S', m', ?_, e2, e3, e4, fun e => ?_, e6, e7⟩
      · simp (disch := omega) only [↓L_m4, ↓L_m1, L_0, L_1, L_2, L_3, L_4, L_5, L_6, L_8, L_9, L_15, L_20, L_30, L_40, L_54, L_60, L_120, L_1872, L_4320, L_22500, le_t, le_f, lt_t, lt_f, eq_t, eq_f, eq_NO, NO_eq, NO_neg, MO_neg, bI_0, nI_add, pk_mul, pk_ds, rem_, nI_MO, nI_0MO, ↓reduceIte, eq_self, reduceCtorEq, Bool.true_eq_false, Bool.false_eq_true, isZn0, isZn1, isZb, bind_some', rI_some, rV_some, rQ_some, rQ_null, updA_at, updA_ne, pk_us, pk_un, ne_eq, not_false_eq_true, Nat.reduceEqDiff, updA_updA, Nat.reduceSub, Nat.reduceAdd, Nat.reduceMul, Nat.reduceDiv, Nat.zero_add, Nat.add_zero, mkW_o, mkW_g0, mkW_l0, mkW_n0, mkW_s0, mkW_g1, mkW_l1, mkW_n1, mkW_s1, mkW_g2, mkW_l2, mkW_n2, mkW_s2, mkW_g3, mkW_l3, mkW_n3, mkW_s3, mkW_g4, mkW_p4, mkW_g5, mkW_p5, mkW_g6, mkW_p6, mkW_g7, mkW_p7, mkW_g8, mkW_l8, mkW_n8, mkW_s8, mkW_g9, mkW_l9, mkW_n9, mkW_s9, mkW_g10, mkW_l10, mkW_n10, mkW_s10, mkW_g11, mkW_l11, mkW_n11, mkW_s11, mkW_g12, mkW_l12, mkW_n12, mkW_s12, mkW_g13, mkW_l13, mkW_n13, mkW_s13, mkW_g14, mkW_l14, mkW_n14, mkW_s14, mkW_t14, mkW_f14, mkW_g15, mkW_l15, mkW_n15, mkW_s15, mkW_g16, mkW_g17, a14, go]
        exact e1
      · obtain ⟨y1, y2, y3⟩ := e5 e
        refine ⟨y1, y2, fun i hi hSi => ?_⟩
        by_cases hik : i = k
        · rw [hik, hS] at hSi; cases hSi
        · exact y3 i (by omega) hSi
    | false =>
      rw [hS] at a14
      obtain ⟨b, w1, w2⟩ := W_leads (d := d) (a := a) (h := h) (I := I) hT lv k (by omega)
      cases b with
      | false =>
        obtain ⟨A', S', m', e1, e2, e3, e4, e5, e6, e7⟩ := ih A S more (by omega) lv
        refine ⟨A', S', m', ?_, e2, e3, e4, fun e => ?_, e6, e7⟩
        · simp (disch := omega) only [↓L_m4, ↓L_m1, L_0, L_1, L_2, L_3, L_4, L_5, L_6, L_8, L_9, L_15, L_20, L_30, L_40, L_54, L_60, L_120, L_1872, L_4320, L_22500, le_t, le_f, lt_t, lt_f, eq_t, eq_f, eq_NO, NO_eq, NO_neg, MO_neg, bI_0, nI_add, pk_mul, pk_ds, rem_, nI_MO, nI_0MO, ↓reduceIte, eq_self, reduceCtorEq, Bool.true_eq_false, Bool.false_eq_true, isZn0, isZn1, isZb, bind_some', rI_some, rV_some, rQ_some, rQ_null, updA_at, updA_ne, pk_us, pk_un, ne_eq, not_false_eq_true, Nat.reduceEqDiff, updA_updA, Nat.reduceSub, Nat.reduceAdd, Nat.reduceMul, Nat.reduceDiv, Nat.zero_add, Nat.add_zero, mkW_o, mkW_g0, mkW_l0, mkW_n0, mkW_s0, mkW_g1, mkW_l1, mkW_n1, mkW_s1, mkW_g2, mkW_l2, mkW_n2, mkW_s2, mkW_g3, mkW_l3, mkW_n3, mkW_s3, mkW_g4, mkW_p4, mkW_g5, mkW_p5, mkW_g6, mkW_p6, mkW_g7, mkW_p7, mkW_g8, mkW_l8, mkW_n8, mkW_s8, mkW_g9, mkW_l9, mkW_n9, mkW_s9, mkW_g10, mkW_l10, mkW_n10, mkW_s10, mkW_g11, mkW_l11, mkW_n11, mkW_s11, mkW_g12, mkW_l12, mkW_n12, mkW_s12, mkW_g13, mkW_l13, mkW_n13, mkW_s13, mkW_g14, mkW_l14, mkW_n14, mkW_s14, mkW_t14, mkW_f14, mkW_g15, mkW_l15, mkW_n15, mkW_s15, mkW_g16, mkW_g17, a14, w1, go]
          exact e1
        · obtain ⟨y1, y2, y3⟩ := e5 e
          refine ⟨y1, y2, fun i hi hSi => ?_⟩
          by_cases hik : i = k
          · rw [hik]
            exact fun e => by simpa using w2.mpr e
          · exact y3 i (by omega) hSi
      | true =>
        obtain ⟨A', S', m', e1, e2, e3, e4, e5, e6, e7⟩ := ih _ _ true (by omega) (lv.set k)
        have p1 : fra I I A (updA A 14 (upd (A 14) k (bI true))) [] [14] := (fra.rf _ _ _ _).w _ (by decide)
        refine ⟨A', S', m', ?_, e2, fun j hj e => e3 j hj ?_, fun hs => e4 (fun i hi e => ?_), fun e => ?_, fun _ => ?_, p1.tr e7⟩
        · have e1' : run (d + 1) mt_56 14 [some (.ref a), some (.int (nI 1)), some (.int (nI k - 1))] [] (mkW h a I (updA A 14 (upd (A 14) k (bI true)))) = some (some (.int (bI m')), mkW h a I A') := e1
          have go' : run (d + 1) mt_56 44 [some (.ref a), some (.int (nI 1)), some (.int (nI k))] [] (mkW h a I (updA A 14 (upd (A 14) k (bI true)))) = run (d + 1) mt_56 14 [some (.ref a), some (.int (nI 1)), some (.int (nI k - 1))] [] (mkW h a I (updA A 14 (upd (A 14) k (bI true)))) := go _ true
          simp (disch := omega) only [↓L_m4, ↓L_m1, L_0, L_1, L_2, L_3, L_4, L_5, L_6, L_8, L_9, L_15, L_20, L_30, L_40, L_54, L_60, L_120, L_1872, L_4320, L_22500, le_t, le_f, lt_t, lt_f, eq_t, eq_f, eq_NO, NO_eq, NO_neg, MO_neg, bI_0, nI_add, pk_mul, pk_ds, rem_, nI_MO, nI_0MO, ↓reduceIte, eq_self, reduceCtorEq, Bool.true_eq_false, Bool.false_eq_true, isZn0, isZn1, isZb, bind_some', rI_some, rV_some, rQ_some, rQ_null, updA_at, updA_ne, pk_us, pk_un, ne_eq, not_false_eq_true, Nat.reduceEqDiff, updA_updA, Nat.reduceSub, Nat.reduceAdd, Nat.reduceMul, Nat.reduceDiv, Nat.zero_add, Nat.add_zero, mkW_o, mkW_g0, mkW_l0, mkW_n0, mkW_s0, mkW_g1, mkW_l1, mkW_n1, mkW_s1, mkW_g2, mkW_l2, mkW_n2, mkW_s2, mkW_g3, mkW_l3, mkW_n3, mkW_s3, mkW_g4, mkW_p4, mkW_g5, mkW_p5, mkW_g6, mkW_p6, mkW_g7, mkW_p7, mkW_g8, mkW_l8, mkW_n8, mkW_s8, mkW_g9, mkW_l9, mkW_n9, mkW_s9, mkW_g10, mkW_l10, mkW_n10, mkW_s10, mkW_g11, mkW_l11, mkW_n11, mkW_s11, mkW_g12, mkW_l12, mkW_n12, mkW_s12, mkW_g13, mkW_l13, mkW_n13, mkW_s13, mkW_g14, mkW_l14, mkW_n14, mkW_s14, mkW_t14, mkW_f14, mkW_g15, mkW_l15, mkW_n15, mkW_s15, mkW_g16, mkW_g17, a14, w1, go']
          exact e1'
        · split
          · rfl
          · exact e
        · dsimp only at e
          by_cases hik : i = k
          · rw [hik]
            obtain ⟨j, j1, j2, j3⟩ := w2.mp rfl
            exact nxt_alv j2 (hs j j1 j3)
          · rw [if_neg hik] at e
            exact hs i hi e
        · have := (e5 e).1
          cases this
        · exact Or.inr ⟨k, by omega, hS, e3 k (by omega) (if_pos rfl)⟩
theorem W_spread {I : Nat → Int32} {A : Nat → Nat → Int32} {S : Nat → Bool} (hT : WFT T) (i4 : I 4 = nI (bF T T0).1) (lv : LVN T A S (bF T T0).1) : ∃ A' S' more, call (d + 2) 56 [.ref a] (mkW h a I A) = some (some (.int (bI more)), mkW h a I A') ∧ LVN T A' S' (bF T T0).1 ∧ (∀ j, j < (bF T T0).1 → S j = true → S' j = true) ∧ (snd T S → snd T S') ∧ (more = false → cld T S') ∧ (more = true → ctN S (bF T T0).1 < ctN S' (bF T T0).1) ∧ fra I I A A' [] [14] := by
  have g := bF_GB hT T0_wf
  have h30 := GB_alone hT g
  obtain ⟨A', S', m', e1, e2, e3, e4, e5, e6, e7⟩ := l_spr (d := d) (a := a) (h := h) (I := I) hT (bF T T0).1 A S false (Nat.le_refl _) lv
  refine ⟨A', S', m', ?_, e2, e3, e4, fun e i j hi hj hn hSj => ?_, fun e => ?_, e7⟩
  · rw [call_at mt_56 [some (.ref a), none, none] rfl rfl rfl, nd_56_0 (St_run (d + 1) mt_56) rfl, mkW_g4, i4, if_neg (show ¬ (30 : Int32) < nI (bF T T0).1 from nI_nlt (a := 30) (b := (bF T T0).1) h30 (by omega) |> fun q => q)]
    exact e1
  · obtain ⟨_, y2, y3⟩ := e5 e
    rw [y2 j hj] at hSj
    rw [y2 i hi]
    cases hSi : S i with
    | true => rfl
    | false => exact absurd ⟨j, hj, hn, hSj⟩ (y3 i hi hSi)
  · rcases e6 e with e6 | e6
    · cases e6
    · exact ctN_lt2 e3 e6
theorem l_rnd {I : Nat → Int32} (hT : WFT T) (i4 : I 4 = nI (bF T T0).1) : ∀ (m rd : Nat) (A : Nat → Nat → Int32) (S : Nat → Bool) (more : Bool), rd + m = 30 → LVN T A S (bF T T0).1 → snd T S → (∀ i, i < (bF T T0).1 → sGd T i = true → S i = true) → (more = true → rd ≤ ctN S (bF T T0).1) → (more = false → cld T S) → ∃ A' S', run (d + 2) mt_54 61 [some (.ref a), some (.ref b1), none, some (.int (bI more)), some (.int (nI rd))] [] (mkW h a I A) = run (d + 2) mt_54 83 [some (.ref a), some (.ref b1), none, none, none] [] (mkW h a I A') ∧ LVN T A' S' (bF T T0).1 ∧ (∀ i, i < (bF T T0).1 → S' i = alB T ((bF T T0).2.1 i)) ∧ fra I I A A' [] [14] := by
  have g := bF_GB hT T0_wf
  have h30 := GB_alone hT g
  intro m
  induction m with
  | zero =>
    intro rd A S more hm lv hs hg hc1 hc2
    refine ⟨A, S, ?_, lv, fun i hi => alv_is hT S hs hg ?_ hi, fra.rf _ _ _ _⟩
    · rw [nd_54_61 (St_run (d + 2) mt_54)]
      simp (disch := omega) only [↓L_m4, ↓L_m1, L_0, L_1, L_2, L_3, L_4, L_5, L_6, L_8, L_9, L_15, L_20, L_30, L_40, L_54, L_60, L_120, L_1872, L_4320, L_22500, le_t, le_f, lt_t, lt_f, eq_t, eq_f, eq_NO, NO_eq, NO_neg, MO_neg, bI_0, nI_add, pk_mul, pk_ds, rem_, nI_MO, nI_0MO, ↓reduceIte, eq_self, reduceCtorEq, Bool.true_eq_false, Bool.false_eq_true, isZn0, isZn1, isZb, bind_some', rI_some, rV_some, rQ_some, rQ_null, updA_at, updA_ne, pk_us, pk_un, ne_eq, not_false_eq_true, Nat.reduceEqDiff, updA_updA, Nat.reduceSub, Nat.reduceAdd, Nat.reduceMul, Nat.reduceDiv, Nat.zero_add, Nat.add_zero, mkW_o, mkW_g0, mkW_l0, mkW_n0, mkW_s0, mkW_g1, mkW_l1, mkW_n1, mkW_s1, mkW_g2, mkW_l2, mkW_n2, mkW_s2, mkW_g3, mkW_l3, mkW_n3, mkW_s3, mkW_g4, mkW_p4, mkW_g5, mkW_p5, mkW_g6, mkW_p6, mkW_g7, mkW_p7, mkW_g8, mkW_l8, mkW_n8, mkW_s8, mkW_g9, mkW_l9, mkW_n9, mkW_s9, mkW_g10, mkW_l10, mkW_n10, mkW_s10, mkW_g11, mkW_l11, mkW_n11, mkW_s11, mkW_g12, mkW_l12, mkW_n12, mkW_s12, mkW_g13, mkW_l13, mkW_n13, mkW_s13, mkW_g14, mkW_l14, mkW_n14, mkW_s14, mkW_t14, mkW_f14, mkW_g15, mkW_l15, mkW_n15, mkW_s15, mkW_g16, mkW_g17]
    · cases more with
      | false => exact hc2 rfl
      | true =>
        have := hc1 rfl
        exact fun i j hi _ _ _ => ctN_all (by omega) i hi
  | succ m ih =>
    intro rd A S more hm lv hs hg hc1 hc2
    cases more with
    | false =>
      refine ⟨A, S, ?_, lv, fun i hi => alv_is hT S hs hg (hc2 rfl) hi, fra.rf _ _ _ _⟩
      rw [nd_54_61 (St_run (d + 2) mt_54)]
      simp (disch := omega) only [↓L_m4, ↓L_m1, L_0, L_1, L_2, L_3, L_4, L_5, L_6, L_8, L_9, L_15, L_20, L_30, L_40, L_54, L_60, L_120, L_1872, L_4320, L_22500, le_t, le_f, lt_t, lt_f, eq_t, eq_f, eq_NO, NO_eq, NO_neg, MO_neg, bI_0, nI_add, pk_mul, pk_ds, rem_, nI_MO, nI_0MO, ↓reduceIte, eq_self, reduceCtorEq, Bool.true_eq_false, Bool.false_eq_true, isZn0, isZn1, isZb, bind_some', rI_some, rV_some, rQ_some, rQ_null, updA_at, updA_ne, pk_us, pk_un, ne_eq, not_false_eq_true, Nat.reduceEqDiff, updA_updA, Nat.reduceSub, Nat.reduceAdd, Nat.reduceMul, Nat.reduceDiv, Nat.zero_add, Nat.add_zero, mkW_o, mkW_g0, mkW_l0, mkW_n0, mkW_s0, mkW_g1, mkW_l1, mkW_n1, mkW_s1, mkW_g2, mkW_l2, mkW_n2, mkW_s2, mkW_g3, mkW_l3, mkW_n3, mkW_s3, mkW_g4, mkW_p4, mkW_g5, mkW_p5, mkW_g6, mkW_p6, mkW_g7, mkW_p7, mkW_g8, mkW_l8, mkW_n8, mkW_s8, mkW_g9, mkW_l9, mkW_n9, mkW_s9, mkW_g10, mkW_l10, mkW_n10, mkW_s10, mkW_g11, mkW_l11, mkW_n11, mkW_s11, mkW_g12, mkW_l12, mkW_n12, mkW_s12, mkW_g13, mkW_l13, mkW_n13, mkW_s13, mkW_g14, mkW_l14, mkW_n14, mkW_s14, mkW_t14, mkW_f14, mkW_g15, mkW_l15, mkW_n15, mkW_s15, mkW_g16, mkW_g17]
    | true =>
      obtain ⟨A1, S1, m1, e1, e2, e3, e4, e5, e6, e7⟩ := W_spread (d := d) (a := a) (h := h) hT i4 lv
      have c1 := hc1 rfl
      obtain ⟨A2, S2, f1, f2, f3, f4⟩ := ih (rd + 1) A1 S1 m1 (by omega) e2 (e4 hs) (fun i hi e => e3 i hi (hg i hi e)) (fun e => by have := e6 e; omega) e5
      refine ⟨A2, S2, ?_, f2, f3, e7.tr f4⟩
      rw [nd_54_61 (St_run (d + 2) mt_54)]
      simp (disch := omega) only [↓L_m4, ↓L_m1, L_0, L_1, L_2, L_3, L_4, L_5, L_6, L_8, L_9, L_15, L_20, L_30, L_40, L_54, L_60, L_120, L_1872, L_4320, L_22500, le_t, le_f, lt_t, lt_f, eq_t, eq_f, eq_NO, NO_eq, NO_neg, MO_neg, bI_0, nI_add, pk_mul, pk_ds, rem_, nI_MO, nI_0MO, ↓reduceIte, eq_self, reduceCtorEq, Bool.true_eq_false, Bool.false_eq_true, isZn0, isZn1, isZb, bind_some', rI_some, rV_some, rQ_some, rQ_null, updA_at, updA_ne, pk_us, pk_un, ne_eq, not_false_eq_true, Nat.reduceEqDiff, updA_updA, Nat.reduceSub, Nat.reduceAdd, Nat.reduceMul, Nat.reduceDiv, Nat.zero_add, Nat.add_zero, mkW_o, mkW_g0, mkW_l0, mkW_n0, mkW_s0, mkW_g1, mkW_l1, mkW_n1, mkW_s1, mkW_g2, mkW_l2, mkW_n2, mkW_s2, mkW_g3, mkW_l3, mkW_n3, mkW_s3, mkW_g4, mkW_p4, mkW_g5, mkW_p5, mkW_g6, mkW_p6, mkW_g7, mkW_p7, mkW_g8, mkW_l8, mkW_n8, mkW_s8, mkW_g9, mkW_l9, mkW_n9, mkW_s9, mkW_g10, mkW_l10, mkW_n10, mkW_s10, mkW_g11, mkW_l11, mkW_n11, mkW_s11, mkW_g12, mkW_l12, mkW_n12, mkW_s12, mkW_g13, mkW_l13, mkW_n13, mkW_s13, mkW_g14, mkW_l14, mkW_n14, mkW_s14, mkW_t14, mkW_f14, mkW_g15, mkW_l15, mkW_n15, mkW_s15, mkW_g16, mkW_g17, e1]
      exact f1
/-- the fates are written -/
theorem l_sv3 (hT : WFT T) (hd : a + 13 ≤ b1 ∨ b1 + 5 ≤ a) {S : Nat → Bool} : ∀ (m i : Nat) (h : AH) (I : Nat → Int32) (A : Nat → Nat → Int32) (M : MD), i + m = (bF T T0).1 → isWlk h a I A → WB I A (bF T T0) → (∀ j, j < (bF T T0).1 → A 14 j = bI (S j)) → isM h b1 M → M.1.1 = nI T.1.1 → (∀ j, j < i → M.2.2.2.2 (fx ((bF T T0).2.1 j)) = fv (S j)) → (∀ z, z < 36 → (∀ j, j < i → fx ((bF T T0).2.1 j) ≠ z) → M.2.2.2.2 z = 0) → ∃ h' I' A' f, run (d + 2) mt_54 90 [some (.ref a), some (.ref b1), none, none, some (.int (nI i))] [] h = run (d + 2) mt_54 156 [none, some (.ref b1), none, none, none] [] h' ∧ isWlk h' a I' A' ∧ WB I' A' (bF T T0) ∧ isM h' b1 (M.1, (M.2.1, (M.2.2.1, (M.2.2.2.1, f)))) ∧ (∀ j, j < (bF T T0).1 → f (fx ((bF T T0).2.1 j)) = fv (S j)) ∧ (∀ z, z < 36 → (∀ j, j < (bF T T0).1 → fx ((bF T T0).2.1 j) ≠ z) → f z = 0) ∧ Fs h h' [(a, 13), (b1, 5)] := by
  have g := bF_GB hT T0_wf
  have h30 := GB_alone hT g
  intro m
  induction m with
  | zero =>
    intro i h I A M hi qw r a14 hM hs f1 f2
    have hin : i = (bF T T0).1 := by omega
    rw [hin] at f1 f2
    refine ⟨h, I, A, M.2.2.2.2, ?_, qw, r, hM, f1, f2, Fs.rf _ _⟩
    have r1 := r.1
    rw [nd_54_90 (St_run (d + 2) mt_54), qw.g4, r1]
    simp (disch := omega) only [↓L_m4, ↓L_m1, L_0, L_1, L_2, L_3, L_4, L_5, L_6, L_8, L_9, L_15, L_20, L_30, L_40, L_54, L_60, L_120, L_1872, L_4320, L_22500, le_t, le_f, lt_t, lt_f, eq_t, eq_f, eq_NO, NO_eq, NO_neg, MO_neg, bI_0, nI_add, pk_mul, pk_ds, rem_, nI_MO, nI_0MO, ↓reduceIte, eq_self, reduceCtorEq, Bool.true_eq_false, Bool.false_eq_true, isZn0, isZn1, isZb, bind_some', rI_some, rV_some, rQ_some, rQ_null, updA_at, updA_ne, pk_us, pk_un, ne_eq, not_false_eq_true, Nat.reduceEqDiff, updA_updA, Nat.reduceSub, Nat.reduceAdd, Nat.reduceMul, Nat.reduceDiv, Nat.zero_add, Nat.add_zero]
  | succ m ih =>
    intro i h I A M hi qw r a14 hM hs f1 f2
    have hiB : i < (bF T T0).1 := by omega
    have vc := g.2.2.1 i hiB
    have r1 := r.1
    have hfx := fx_lt hT vc
    obtain ⟨A1, e1, lk1, p1⟩ := W_lookAt (d := d) (a := a) (h := h) (I := I) (A := A) ((bF T T0).2.1 i) i (by omega) (r.2.1 i hiB) vc.2.1 vc.1
    rw [← mkW_self qw] at e1
    have fr1 := mkW_Fr h a (LI I ((bF T T0).2.1 i)) A1
    have qw1 := mkW_is h a (LI I ((bF T T0).2.1 i)) A1
    generalize hh1 : mkW h a (LI I ((bF T T0).2.1 i)) A1 = h1 at *
    have hM1 := hM.fr fr1 (by omega)
    have ra := r.fa p1 (by decide) (by decide)
    have b14 : A1 14 i = bI (S i) := by rw [p1.2 14 (by decide)]; exact a14 i hiB
    obtain ⟨h2, s1, s2, s3⟩ := m_setFate (d := d) hM1 hs hT.2.1 ((bF T T0).2.1 i / 625 / 6) (3 * lb ((bF T T0).2.1 i) 0 + lb ((bF T T0).2.1 i) 1) vc.2.2.1 hfx.1 (fv (S i))
    rw [show 6 * ((bF T T0).2.1 i / 625 / 6) + (3 * lb ((bF T T0).2.1 i) 0 + lb ((bF T T0).2.1 i) 1) = fx ((bF T T0).2.1 i) from rfl] at s2
    have qw2 := qw1.fr s3 (by omega)
    obtain ⟨h3, I3, A3, f, y1, y2, y3, y4, y5, y6, y7⟩ := ih (i + 1) h2 _ _ _ (by omega) qw2 ra (fun j hj => by rw [p1.2 14 (by decide)]; exact a14 j hj) s2 hs (fun j hj => by
      dsimp only
      by_cases hji : j = i
      · rw [hji]; exact pk_us
      · rw [pk_un (fun e => hji (g.2.2.2.1 j i (by omega) hiB (fx_inj (g.2.2.1 j (by omega)) vc e)))]
        exact f1 j (by omega)) (fun z hz hj => by
      dsimp only
      rw [pk_un (fun e => hj i (by omega) e.symm)]
      exact f2 z hz (fun j hj2 => hj j (by omega)))
    refine ⟨h3, I3, A3, f, ?_, y2, y3, y4, y5, y6, (fr1.in (a, 13) (by simp) (Nat.le_refl _) (Nat.le_refl _)).tr ((s3.in (b1, 5) (by simp) (Nat.le_refl _) (Nat.le_refl _)).tr y7)⟩
    have l8 := lk1.2.2.2.1
    have ld0 : ∀ f, ldI h1 (a + 5) (nI 0) f = f (nI (lb ((bF T T0).2.1 i) 0)) := fun f => by rw [ldI_of qw1.a8 rfl (show 0 < 4 by omega) (by decide), l8 0 (by omega)]
    have ld1 : ∀ f, ldI h1 (a + 5) (nI 1) f = f (nI (lb ((bF T T0).2.1 i) 1)) := fun f => by rw [ldI_of qw1.a8 rfl (show 1 < 4 by omega) (by decide), l8 1 (by omega)]
    have ldz : ∀ f, ldZ h1 (a + 11) (nI i) f = f (bI (S i)) := fun f => by rw [ldZ_of qw1.a14 rfl (show i < 30 by omega) (by decide), b14]
    have k5 := lk1.1
    have fin : ∀ x : Int32, x = fv (S i) → run (d + 2) mt_54 147 [some (.ref a), some (.ref b1), none, none, some (.int (nI i))] [.int x, .int (nI (3 * lb ((bF T T0).2.1 i) 0 + lb ((bF T T0).2.1 i) 1)), .int (nI ((bF T T0).2.1 i / 625 / 6)), .ref b1] h1 = run (d + 2) mt_54 156 [none, some (.ref b1), none, none, none] [] h3 := fun x hx => by
      rw [nd_54_147 (St_run (d + 2) mt_54), hM1.o, hx, s1, bind_some', rV_some, nI_1]
      exact y1
    rw [nd_54_90 (St_run (d + 2) mt_54), qw.g4, r1]
    simp (disch := omega) only [↓L_m4, ↓L_m1, L_0, L_1, L_2, L_3, L_4, L_5, L_6, L_8, L_9, L_15, L_20, L_30, L_40, L_54, L_60, L_120, L_1872, L_4320, L_22500, le_t, le_f, lt_t, lt_f, eq_t, eq_f, eq_NO, NO_eq, NO_neg, MO_neg, bI_0, nI_add, pk_mul, pk_ds, rem_, nI_MO, nI_0MO, ↓reduceIte, eq_self, reduceCtorEq, Bool.true_eq_false, Bool.false_eq_true, isZn0, isZn1, isZb, bind_some', rI_some, rV_some, rQ_some, rQ_null, updA_at, updA_ne, pk_us, pk_un, ne_eq, not_false_eq_true, Nat.reduceEqDiff, updA_updA, Nat.reduceSub, Nat.reduceAdd, Nat.reduceMul, Nat.reduceDiv, Nat.zero_add, Nat.add_zero, qw.o, e1, qw1.g5, qw1.g8, qw1.g14, k5, ld0, ld1, ldz, m_patternOf]
    rw [Nat.mul_comm (lb ((bF T T0).2.1 i) 0) 3]
    cases hS : S i with
    | true =>
      simp only [Bool.true_eq_false, ↓reduceIte]
      exact fin (nI 1) (by rw [hS]; rfl)
    | false =>
      simp only [↓reduceIte]
      exact fin (nI 2) (by rw [hS]; rfl)
theorem pW0 (T U : TM) : ∀ (m i : Nat), fw (pW 0 T U) m i = none
  | 0, _ => rfl
  | m + 1, i => by
    unfold fw
    rw [show pW 0 T U i = false from rfl, if_neg (by decide)]
    exact pW0 T U m (i + 1)
/-- survey: a machine's fates become known -/
theorem W_survey {I : Nat → Int32} {A : Nat → Nat → Int32} (hT : WFT T) (t1 : MTT M1 T) (t2 : MTT M2 T0) (qw : isWlk h a I A) (hM1 : isM h b1 M1) (hM2 : isM h b2 M2) (v : WV I A) (hd1 : a + 13 ≤ b1 ∨ b1 + 5 ≤ a) (hd2 : a + 13 ≤ b2 ∨ b2 + 5 ≤ a) : ∃ h' I' A' f, call (d + 5) 54 [.ref a, .ref b1, .ref b2] h = some (none, h') ∧ isWlk h' a I' A' ∧ WV I' A' ∧ isM h' b1 ((M1.1.1, (M1.1.2.1, (M1.1.2.2.1, 1))), (M1.2.1, (M1.2.2.1, (M1.2.2.2.1, f)))) ∧ FT T f ∧ Fs h h' [(a, 13), (b1, 5)] := by
  have g := bF_GB hT T0_wf
  have hm1 : ∀ J C, isM (mkW h a J C) b1 M1 := fun J C => hM1.fr (mkW_Fr h a J C) (by omega)
  have hm2 : ∀ J C, isM (mkW h a J C) b2 M2 := fun J C => hM2.fr (mkW_Fr h a J C) (by omega)
  obtain ⟨I1, A1, N, e1, e2, e3, e4, e5, e6⟩ := W_explore (d := d) hm1 t1 hT hm2 t2 T0_wf 0 (by omega) v
  rw [pW0] at e1 e5
  rw [e5 rfl] at e3
  obtain ⟨I2, A2, f1, f2, f3⟩ := l_sv1 (d := d) hm1 t1 hT hm2 t2 (bF T T0).1 0 I1 A1 (by omega) e3 ⟨fun j hj => by omega, fun j hj => by omega⟩
  obtain ⟨A3, S3, g1, g2, g3, g4⟩ := l_rnd (d := d + 2) (a := a) (h := h) (b1 := b1) hT f2.1 30 0 A2 (sGd T) true rfl f3 (fun i hi e => alv_good e) (fun i hi e => e) (fun _ => Nat.zero_le _) (fun e => by cases e)
  have r3 := f2.fa g4 (by decide) (by decide)
  obtain ⟨h4, f4, i1, i2, i3, i4⟩ := m_forgetOrbits (d := d + 3) (hm1 I2 A3)
  have qw4 := (mkW_is h a I2 A3).fr i4 (by omega)
  obtain ⟨h5, I5, A5, f5, j1, j2, j3, j4, j5, j6, j7⟩ := l_sv3 (d := d + 2) (S := S3) hT hd1 (bF T T0).1 0 h4 I2 A3 _ (by omega) qw4 r3 g2.1 i2 t1.1 (fun j hj => by omega) (fun z hz _ => i3 z hz)
  have j8 := j4.w0 (M1.1.1, (M1.1.2.1, (M1.1.2.2.1, 1)))
  have fr5 : Fr h5 (hS h5 b1 (oB 0 [.ref (b1 + 1), .ref (b1 + 2), .ref (b1 + 3), .int M1.1.1, .int M1.1.2.1, .int M1.1.2.2.1, .ref (b1 + 4), .int 1])) b1 5 := Fr.set ⟨by omega, by omega⟩
  refine ⟨_, I5, A5, f5, ?_, j2.fr fr5 (by omega), j3.v hT T0_wf g, j8, ⟨fun i hi => by rw [j5 i hi, g3 i hi], j6⟩, ?_⟩
  · have e0 : call (d + 4) 41 [.ref a, .ref b1, .ref b2, .int 0] h = some (some (.int NO), mkW h a I1 A1) := by
      have := e1
      rw [← mkW_self qw] at this
      exact this
    rw [call_at mt_54 [some (.ref a), some (.ref b1), some (.ref b2), none, none] rfl rfl rfl, nd_54_0 (St_run (d + 4) mt_54), qw.o, e0, bind_some', rI_some]
    refine f1.trans ?_
    rw [nd_54_56 (St_run (d + 4) mt_54)]
    refine g1.trans ?_
    rw [nd_54_83 (St_run (d + 4) mt_54), (hm1 I2 A3).o, i1, bind_some', rV_some]
    refine j1.trans ?_
    rw [nd_54_156 (St_run (d + 4) mt_54), isZ1, j4.p7]
  · exact ((mkW_Fr h a I2 A3).in (a, 13) (by simp) (Nat.le_refl _) (Nat.le_refl _)).tr ((i4.in (b1, 5) (by simp) (Nat.le_refl _) (Nat.le_refl _)).tr (j7.tr (fr5.in (b1, 5) (by simp) (Nat.le_refl _) (Nat.le_refl _))))
end SW
