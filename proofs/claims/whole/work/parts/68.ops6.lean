/-! ===== doomed ===== -/
/-- how few places lead to a doomed orbit -/
noncomputable def dmF (T : TM) (L : Nat → Nat) (X : Nat → Int32) (n : Nat) : Option Nat := fw (fun k => !alB T (rnT T L X k).1) (n + 1) 0
section OPS6
variable {d x y q : Nat} {h : AH} {s : SG}
theorem l_doom {K W i N : Nat} {X : CX0} {R : D_Row} {M : MD} {T : TM} {L : Nat → Nat} {Y : Nat → Int32} (hT : WFT T) (t : MTT M T) (ft : FT T M.2.2.2.2) (hN : N ≤ 40) (hL : ∀ j, j < N → L j < 3) (hR : ∀ j, j < N → R.2.1 j = nI (L j) ∧ R.2.2 j = Y j) (hR1 : R.1 = nI N) : ∀ (m k : Nat) (h : AH) (D : D_Run), k + m = N → cTop h x K W X → isRow h (x + 1) R 40 → isM h (mo x i) M → isRun h (x + 14) D → CPo D (rnT T L Y k) k → ∃ h' D', run (d + 3) mt_81 26 [some (.ref x), none, some (.ref (mo x i)), some (.int (nI k))] [] h = some (some (.int (oI (fw (fun k => !alB T (rnT T L Y k).1) (m + 1) k))), h') ∧ isRun h' (x + 14) D' ∧ Fr h h' (x + 14) 3 := by
  intro m
  induction m with
  | zero =>
    intro k h D hk c1 r1 m1 q1 cp
    have : k = N := by omega
    subst this
    refine ⟨h, D, ?_, q1, Fr.rf _ _ _⟩
    have dm := C_isDoomed (d := d) q1 m1 t hT ft (rnT_PG hT (fun j hj => hL j hj)) cp
    rw [nd_81_26 (St_run (d + 3) mt_81), c1.g0, r1.g2, hR1, if_pos (nI_le (Nat.le_refl _) (by omega)), c1.g8, q1.o, dm, bind_some', rI_some, c1.g0, r1.g2, hR1, nd_81_105 (St_run (d + 3) mt_81), nd_81_105 (St_run (d + 3) mt_81)]
    unfold fw
    dsimp only
    cases alB T (rnT T L Y k).1 <;> rfl
  | succ m ih =>
    intro k h D hk c1 r1 m1 q1 cp
    obtain ⟨a1, a2⟩ := hR k (by omega)
    have g := rnT_PG (T := T) (L := L) (X := Y) (n := k) hT (fun j hj => hL j (by omega))
    have dm := C_isDoomed (d := d) q1 m1 t hT ft g cp
    rw [nd_81_26 (St_run (d + 3) mt_81), c1.g0, r1.g2, hR1, if_neg (nI_ge (by omega) (by omega)), c1.g8, q1.o, dm, bind_some', rI_some]
    unfold fw
    cases ha : alB T (rnT T L Y k).1 with
    | false =>
      rw [if_neg (by decide), if_pos (by rfl)]
      exact ⟨h, D, rfl, q1, Fr.rf _ _ _⟩
    | true =>
      obtain ⟨h1, D1, e1, e2, e3, e4, e5, e6⟩ := C_go (d := d + 1) q1 m1 (by unfold mo; omega) t hT g cp (by omega) (L k) (hL k (by omega)) (Y k)
      obtain ⟨h2, D2, f1, f2, f3⟩ := ih (k + 1) h1 D1 (by omega) (c1.fs e6.s (dj.cons (by omega) (dj.nil _ _))) (r1.fr e6 (by omega)) (m1.fr e6 (by unfold mo; omega)) e2 e3
      rw [if_pos (by rfl), if_neg (by decide), c1.g8, c1.g0, r1.g0, ldI_of r1.a0 rfl (show k < 40 by omega) (by decide), a1, c1.g0, r1.g1, ldI_of r1.a1 rfl (show k < 40 by omega) (by decide), a2, q1.o, e1, bind_some', rV_some, nI_1]
      exact ⟨h2, D2, f1, f2, e6.tr f3⟩
/-- the reference's orbit of a run, and whether it lives -/
theorem ALS.at {T : TM} {A : Nat → Nat → Int32} {P : PO} (hT : WFT T) (al : ALS T A (fun j => alB T ((bF T T0).2.1 j))) (g : PG T P) : P.1 < 22500 ∧ A 18 P.1 = bI (alB T P.1) := by
  have vc := g.vd hT
  obtain ⟨⟨i, hi, e⟩, _⟩ := g
  have this : A 18 ((bF T T0).2.1 i) = bI (alB T ((bF T T0).2.1 i)) := al i hi
  rw [e] at this
  exact ⟨vc.1, this⟩
theorem l_rdoom {i N : Nat} {T : TM} {L : Nat → Nat} {Y : Nat → Int32} (hT : WFT T) (hi : i < 6) (hN : N ≤ 40) (hL : ∀ j, j < N → L j < 3) : ∀ (m k : Nat) (I : Nat → Int32) (A : Nat → Nat → Int32), k + m = N → I 0 = nI N → (∀ j, j < N → A 1 j = nI (L j) ∧ A 2 j = Y j) → isT A i T → ALS T A (fun j => alB T ((bF T T0).2.1 j)) → RPo I A (rnT T L Y k) → ∃ I' A', run (d + 3) mt_152 21 [some (.ref y), some (.int (nI i)), some (.int (nI k))] [] (mkR h y I A) = some (some (.int (oI (fw (fun k => !alB T (rnT T L Y k).1) (m + 1) k))), mkR h y I' A') ∧ fra I I' A A' [12, 16, 23, 24] [13, 14, 15, 25, 26] := by
  have stay : ∀ (k : Nat) (I : Nat → Int32) (A : Nat → Nat → Int32), k ≤ N → I 0 = nI N → ALS T A (fun j => alB T ((bF T T0).2.1 j)) → RPo I A (rnT T L Y k) → ∃ I1 A1, run (d + 3) mt_152 21 [some (.ref y), some (.int (nI i)), some (.int (nI k))] [] (mkR h y I A) = (if alB T (rnT T L Y k).1 = false then some (some (.int (nI k)), mkR h y I1 A1) else if nI N ≤ nI k then run (d + 3) mt_152 97 [some (.ref y), some (.int (nI i)), some (.int (nI k))] [] (mkR h y I1 A1) else (gfQ (mkR h y I1 A1) y 8 1 none fun b17 => ldI (mkR h y I1 A1) b17 (nI k) fun v18 => gfQ (mkR h y I1 A1) y 8 2 none fun b19 => ldI (mkR h y I1 A1) b19 (nI k) fun v20 => isO (mkR h y I1 A1) y 8 ((call (d + 3) 130 [.ref y, .int (nI i), .int v18, .int v20, .int (nI k)] (mkR h y I1 A1)).bind fun q21 => rV q21 fun h22 => run (d + 3) mt_152 97 [some (.ref y), some (.int (nI i)), some (.int (nI k))] [] h22))) ∧ fra I I1 A A1 [23, 24] [25, 26] := by
    intro k I A hk r0 al q
    have g := rnT_PG (T := T) (L := L) (X := Y) (n := k) hT (fun j hj => hL j (by omega))
    obtain ⟨q1, q2, q3⟩ := q
    obtain ⟨I1, A1, e1, e2⟩ := R_orbitOf (d := d + 1) (a := y) (h := h) (I := I) (A := A) hT g (A 14 0) (A 14 1) (q3 0 (by omega)) (q3 1 (by omega))
    obtain ⟨l1, l2⟩ := al.at hT g
    have l3 : A1 18 (rnT T L Y k).1 = bI (alB T (rnT T L Y k).1) := by rw [e2.2 18 (by decide)]; exact l2
    have r0' : I1 0 = nI N := by rw [e2.1 0 (by decide)]; exact r0
    refine ⟨I1, A1, ?_, e2⟩
    rw [nd_152_21 (St_run (d + 3) mt_152), mkR_g0, r0, if_neg (nI_nlt (by omega) (by omega)), mkR_g18, mkR_g12, q1, mkR_g13, show (0 : Int32) = nI 0 from rfl, mkR_l13 _ _ _ _ (by omega), q2 0 (by omega), mkR_g14, mkR_l14 _ _ _ _ (by omega), mkR_g13, show (1 : Int32) = nI 1 from rfl, mkR_l13 _ _ _ _ (by omega), q2 1 (by omega), mkR_g14, mkR_l14 _ _ _ _ (by omega), mkR_o, e1, bind_some', rI_some, mkR_l18 _ _ _ _ l1, l3, mkR_g0, r0']
    cases alB T (rnT T L Y k).1 <;> rfl
  intro m
  induction m with
  | zero =>
    intro k I A hk r0 hA iT al q
    have hkN : k = N := by omega
    obtain ⟨I1, A1, e1, e2⟩ := stay k I A (by omega) r0 al q
    refine ⟨I1, A1, ?_, e2.sub (by decide) (by decide)⟩
    rw [e1]
    unfold fw
    dsimp only
    cases ha : alB T (rnT T L Y k).1 with
    | false => rfl
    | true =>
      have r0' : I1 0 = nI N := by rw [e2.1 0 (by decide)]; exact r0
      rw [if_neg (by decide), if_pos (nI_le (by omega) (by omega)), nd_152_97 (St_run (d + 3) mt_152), nI_1, nd_152_21 (St_run (d + 3) mt_152), mkR_g0, r0', if_pos (nI_lt (by omega) (by omega))]
      rfl
  | succ m ih =>
    intro k I A hk r0 hA iT al q
    obtain ⟨I1, A1, e1, e2⟩ := stay k I A (by omega) r0 al q
    rw [e1]
    unfold fw
    cases ha : alB T (rnT T L Y k).1 with
    | false => exact ⟨I1, A1, rfl, e2.sub (by decide) (by decide)⟩
    | true =>
      have g := rnT_PG (T := T) (L := L) (X := Y) (n := k) hT (fun j hj => hL j (by omega))
      obtain ⟨a1, a2⟩ := hA k (by omega)
      have b1 : A1 1 k = nI (L k) := by rw [e2.2 1 (by decide)]; exact a1
      have b2 : A1 2 k = Y k := by rw [e2.2 2 (by decide)]; exact a2
      obtain ⟨I2, A2, f1, f2, f3, f4, f5⟩ := R_goes (d := d + 1) (a := y) (h := h) hT hi (iT.fa e2 (by decide)) g (q.fa e2 (by decide) (by decide)) (L k) (hL k (by omega)) (Y k) (nI k)
      have p2 : fra I I2 A A2 [12, 16, 23, 24] [13, 14, 15, 25, 26] := (e2.sub (by decide) (by decide)).tr (f5.sub (by decide) (by decide))
      obtain ⟨I3, A3, g1, g2⟩ := ih (k + 1) I2 A2 (by omega) (by rw [p2.1 0 (by decide)]; exact r0) (fun j hj => by rw [p2.2 1 (by decide), p2.2 2 (by decide)]; exact hA j hj) (iT.fa p2 (by decide)) (fun j hj => by rw [p2.2 18 (by decide)]; exact al j hj) f2
      refine ⟨I3, A3, ?_, p2.tr g2⟩
      rw [if_neg (by decide), if_neg (nI_ge (by omega) (by omega)), mkR_g1, mkR_l1 _ _ _ _ (by omega), mkR_g2, mkR_l2 _ _ _ _ (by omega), b1, b2, mkR_o, f1, bind_some', rV_some, nd_152_97 (St_run (d + 3) mt_152), nI_1]
      exact g1
theorem op_doomed (S : SS h x y s q) (m : Int32) : OP d x y h q 81 152 [.int m] := by
  obtain ⟨w, c, _, _⟩ := id S
  obtain ⟨X, c1, c2, _⟩ := id c
  have wK := w.2.1.1
  have w40 := w.1.1
  have cl0 : call (d + 8) 81 [.ref x, .int m] h = run (d + 7) mt_81 0 [some (.ref x), some (.int m), none, none] [] h := call_at mt_81 [some (.ref x), some (.int m), none, none] rfl rfl rfl
  have rl0 : ∀ (h : AH) I A, call (d + 8) 152 [.ref y, .int m] (mkR h y I A) = run (d + 7) mt_152 0 [some (.ref y), some (.int m), none] [] (mkR h y I A) := fun h I A => call_at mt_152 [some (.ref y), some (.int m), none] rfl rfl rfl
  rcases mach_cases w m with ⟨i, i1, rfl, i3⟩ | ⟨i1, i2⟩
  · have hT := w.2.1.2 i i1
    have ma := C_mAt (d := d + 6) c1 c2 wK i i1
    obtain ⟨h1, M, e1, e2, e3, e4, e5, e6, e7, e8⟩ := C_learn (d := d + 1) c w i i1
    obtain ⟨X1, t1, _, ⟨R, r1, r2, r3⟩, _, _, ⟨D0, q0⟩, _⟩ := id e2
    obtain ⟨h2, D2, f1, f2, f3, f4, f5, f6⟩ := C_runBegin (d := d + 6) q0
    obtain ⟨h3, D3, g1, g2, g3⟩ := l_doom (d := d + 4) (i := i) hT e4 e7 w40 w.1.2 r3 r2 s.1.1 0 h2 D2 (by omega) (t1.fs f6.s (dj.cons (by omega) (dj.nil _ _))) (r1.fr f6 (by omega)) (e3.fr f6 (by unfold mo; omega)) f2 f3
    have fr := f6.tr g3
    refine comb (s' := s) (r := oI (dmF (s.2.1.2 i) s.1.2.1 s.1.2.2 s.1.1)) S ⟨h3, ?_, e2.run w ⟨D3, g2⟩ fr, Fr.tr (e8.fr (fun z hz => ?_)) (fr.sub (by omega) (by omega))⟩ (RO_scr (fun h I A rs => ?_)) (w.mono (by omega))
    · rw [cl0, nd_81_0 (St_run (d + 7) mt_81), c1.o, ma, bind_some', rQ_some, c1.o, e1, bind_some', rV_some, t1.g8, q0.o, f1, bind_some', rV_some]
      exact g1
    · simp only [List.mem_cons, List.not_mem_nil, or_false] at hz
      rcases hz with rfl | rfl
      · dsimp only; omega
      · dsimp only; unfold mo; omega
    · have v3 : v_in (nI i) (I 3 - 1) = 1 := by rw [rs.2.1.1]; exact i3
      obtain ⟨I1, A1, k1, k2, k3, k4⟩ := R_findAlive (d := d + 2) (a := y) (h := h) (I := I) hT (show i < 6 by omega) (rs.2.1.2 i i1)
      obtain ⟨I2, A2, j1, j2, j3, j4, j5⟩ := R_starts (d := d + 6) (a := y) (h := h) (I := I1) (A := A1)
      have p2 : fra I I2 A A2 [12, 16, 22, 23, 24] [13, 14, 15, 17, 18, 19, 20, 21, 25, 26] := (k4.sub (by decide) (by decide)).tr (j5.sub (by decide) (by decide))
      obtain ⟨I3, A3, n1, n2⟩ := l_rdoom (d := d + 4) (y := y) (h := h) (Y := s.1.2.2) hT (show i < 6 by omega) w40 w.1.2 s.1.1 0 I2 A2 (by omega) (by rw [p2.1 0 (by decide)]; exact rs.1.1) (fun j hj => by rw [p2.2 1 (by decide), p2.2 2 (by decide)]; exact rs.1.2 j hj) ((rs.2.1.2 i i1).fa p2 (by decide)) (fun j hj => by rw [j5.2 18 (by decide)]; exact k3 j hj) j2
      refine ⟨I3, A3, ?_, (p2.sub (by decide) (by decide)).tr (n2.sub (by decide) (by decide))⟩
      rw [rl0, nd_152_0 (St_run (d + 7) mt_152), mkR_o, R_isMachine (d := d + 5), v3, bind_some', rI_some, if_neg (by decide), mkR_o, k1, bind_some', rV_some, mkR_o, j1, bind_some', rV_some]
      exact n1
  · refine comb (s' := s) (r := -1) S (CO_same c ?_) (RO_same (fun h I A rs => ?_)) (w.mono (by omega))
    · rw [cl0, nd_81_0 (St_run (d + 7) mt_81), c1.o, C_mNo (d := d + 6) c1 wK m i2, bind_some', rQ_null]
    · have v3 : v_in m (I 3 - 1) = 0 := by rw [rs.2.1.1]; exact i1
      rw [rl0, nd_152_0 (St_run (d + 7) mt_152), mkR_o, R_isMachine (d := d + 5), v3, bind_some', rI_some, if_pos rfl]
end OPS6
