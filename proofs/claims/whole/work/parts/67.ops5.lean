/-! ===== runs over the row ===== -/
theorem isC.run {h h1 : AH} {x : Nat} {s : SG} {q : Nat} (c : isC h x s) (w : WFS s q) (n : cRun h1 x) (p : Fr h h1 (x + 14) 3) : isC h1 x s := by
  obtain ⟨X, c1, c2, c3, c4, c5, c6, c7, c8, c9, c10, c11, c12, c13⟩ := c
  have D : ∀ o k, (o + k ≤ 14 ∨ 17 ≤ o) → dj (x + o) k [(x + 14, 3)] := fun o k hk => dj.cons (by omega) (dj.nil _ _)
  have w1 := w.2.1.1
  have w2 := w.2.2.1.1
  exact ⟨X, c1.fs p.s (D 0 1 (by omega)), c2.fs p.s (D 4 3 (by omega)), c3.fs p.s (D 1 3 (by omega)), c4.fs p.s (D 7 5 (by omega)), c5.fs p.s (D 12 2 (by omega)), n, c7.fs p.s (D 17 13 (by omega)), c8.fs p.s (D 30 6 (by omega)), c9.fs p.s (D 36 3 (by omega)), c10.fs p.s (D 39 35 (by omega)) (by omega), c11.fs p.s (D 74 16 (by omega)) w2, c12.fs p.s (D 90 8 (by omega)), c13⟩
/-- the walk and one machine's fates -/
theorem isC.orb {h h1 : AH} {x : Nat} {s : SG} {q i : Nat} (c : isC h x s) (w : WFS s q) (hi : i < s.2.1.1) (m : cM1 h1 (mo x i) (s.2.1.2 i) (wdB s.2.2.1 i)) (k : cWalk h1 x) (p : Fs h h1 [(x + 17, 13), (mo x i, 5)]) : isC h1 x s := by
  obtain ⟨X, c1, c2, c3, c4, c5, c6, c7, c8, c9, c10, c11, c12, c13⟩ := c
  have w1 := w.2.1.1
  have w2 := w.2.2.1.1
  have D : ∀ o k, (o + k ≤ 17 ∨ 30 ≤ o) → (o + k ≤ 39 ∨ 74 ≤ o) → dj (x + o) k [(x + 17, 13), (mo x i, 5)] := fun o k hp hk => dj.cons (by omega) (dj.cons (by unfold mo; omega) (dj.nil _ _))
  have DM : ∀ j, j ≠ i → dj (mo x j) 5 [(x + 17, 13), (mo x i, 5)] := fun j hj => dj.cons (by unfold mo; omega) (dj.cons (by unfold mo; omega) (dj.nil _ _))
  refine ⟨X, c1.fs p (D 0 1 (by omega) (by omega)), c2.fs p (D 4 3 (by omega) (by omega)), c3.fs p (D 1 3 (by omega) (by omega)), c4.fs p (D 7 5 (by omega) (by omega)), c5.fs p (D 12 2 (by omega) (by omega)), c6.fs p (D 14 3 (by omega) (by omega)), k, c8.fs p (D 30 6 (by omega) (by omega)), c9.fs p (D 36 3 (by omega) (by omega)), ⟨fun j hj => ?_, fun j h1 h2 => ?_⟩, c11.fs p (D 74 16 (by omega) (by omega)) w2, c12.fs p (D 90 8 (by omega) (by omega)), c13⟩
  · by_cases e : j = i
    · rw [e]; exact m
    · exact (c10.1 j hj).fs p (DM j e)
  · obtain ⟨M', a⟩ := c10.2 j h1 h2
    exact ⟨M', a.fs p (DM j (by omega))⟩
section OPS5
variable {d x y q : Nat} {h : AH} {s : SG}
theorem C_learn (c : isC h x s) (w : WFS s q) (i : Nat) (hi : i < s.2.1.1) : ∃ h1 M, call (d + 6) 83 [.ref x, .ref (mo x i)] h = some (none, h1) ∧ isC h1 x s ∧ isM h1 (mo x i) M ∧ MTT M (s.2.1.2 i) ∧ M.1.2.2.1 = bI (wdB s.2.2.1 i) ∧ M.1.2.2.2 = 1 ∧ FT (s.2.1.2 i) M.2.2.2.2 ∧ Fs h h1 [(x + 17, 13), (mo x i, 5)] := by
  obtain ⟨X, c1, c2, c3, ⟨M0, s1, s2⟩, c5, c6, ⟨I, A, k1, k2⟩, c8, c9, c10, c11, c12, c13⟩ := id c
  have wK := w.2.1.1
  have hT := w.2.1.2 i hi
  obtain ⟨M, m1, m2, m3, m4⟩ := c10.1 i hi
  have e0 : call (d + 6) 83 [.ref x, .ref (mo x i)] h = run (d + 5) mt_83 0 [some (.ref x), some (.ref (mo x i))] [] h := call_at mt_83 [some (.ref x), some (.ref (mo x i))] rfl rfl rfl
  rcases m4 with ⟨m4, m5⟩ | ⟨m4, m5⟩
  · obtain ⟨h1, I1, A1, f, e1, e2, e3, e4, e5, e6⟩ := W_survey (d := d) hT m2 s2 k1 m1 s1 k2 (by unfold mo; omega) (by omega)
    refine ⟨h1, _, ?_, c.orb w hi ⟨_, e4, ⟨m2.1, m2.2.1, m2.2.2.1, m2.2.2.2.1, m2.2.2.2.2⟩, m3, Or.inr ⟨rfl, e5⟩⟩ ⟨I1, A1, e2, e3⟩ e6, e4, ⟨m2.1, m2.2.1, m2.2.2.1, m2.2.2.2.1, m2.2.2.2.2⟩, m3, rfl, e5, e6⟩
    rw [e0, nd_83_0 (St_run (d + 5) mt_83), m1.g7, m4, if_pos rfl, c1.g9, c1.g6, k1.o, e1, bind_some', rV_some, nd_83_19 (St_run (d + 5) mt_83)]
  · refine ⟨h, M, ?_, c, m1, m2, m3, m4, m5, Fs.rf _ _⟩
    rw [e0, nd_83_0 (St_run (d + 5) mt_83), m1.g7, m4, if_neg (by decide), nd_83_19 (St_run (d + 5) mt_83)]
theorem l_runOver {K W i n N : Nat} {X : CX0} {R : D_Row} {M : MD} {T : TM} {L : Nat → Nat} {Y : Nat → Int32} (hT : WFT T) (t : MTT M T) (hn : n ≤ N) (hN : N ≤ 40) (hL : ∀ j, j < N → L j < 3) (hR : ∀ j, j < N → R.2.1 j = nI (L j) ∧ R.2.2 j = Y j) (hR1 : R.1 = nI N) : ∀ (m k : Nat) (h : AH) (D : D_Run), k + m = n → cTop h x K W X → isRow h (x + 1) R 40 → isM h (mo x i) M → isRun h (x + 14) D → CPo D (rnT T L Y k) k → D.2.1 = lcT T L Y k → (∀ r, r < 2 → D.2.2.2.2 r = (rnT T L Y k).2.2 r) → ∃ h' D', run (d + 2) mt_82 9 [some (.ref x), some (.ref (mo x i)), some (.int (nI n)), some (.int (nI k))] [] h = some (none, h') ∧ isRun h' (x + 14) D' ∧ CPo D' (rnT T L Y n) n ∧ D'.2.1 = lcT T L Y n ∧ (∀ r, r < 2 → D'.2.2.2.2 r = (rnT T L Y n).2.2 r) ∧ Fr h h' (x + 14) 3 := by
  intro m
  induction m with
  | zero =>
    intro k h D hk c1 r1 m1 q1 cp lc kp
    have : k = n := by omega
    subst this
    refine ⟨h, D, ?_, q1, cp, lc, kp, Fr.rf _ _ _⟩
    rw [nd_82_9 (St_run (d + 2) mt_82), if_pos (nI_le (Nat.le_refl _) (by omega)), nd_82_57 (St_run (d + 2) mt_82)]
  | succ m ih =>
    intro k h D hk c1 r1 m1 q1 cp lc kp
    obtain ⟨a1, a2⟩ := hR k (by omega)
    obtain ⟨h1, D1, e1, e2, e3, e4, e5, e6⟩ := C_go (d := d) q1 m1 (by unfold mo; omega) t hT (rnT_PG hT (fun j hj => hL j (by omega))) cp (by omega) (L k) (hL k (by omega)) (Y k)
    obtain ⟨h2, D2, f1, f2, f3, f4, f5, f6⟩ := ih (k + 1) h1 D1 (by omega) (c1.fs e6.s (dj.cons (by omega) (dj.nil _ _))) (r1.fr e6 (by omega)) (m1.fr e6 (by unfold mo; omega)) e2 e3 e4 (fun r hr => by
      rw [e5 r hr, kp r hr]
      rfl)
    refine ⟨h2, D2, ?_, f2, f3, f4, f5, e6.tr f6⟩
    rw [nd_82_9 (St_run (d + 2) mt_82), if_neg (nI_ge (by omega) (by omega)), c1.g0, r1.g2, hR1, if_neg (nI_ge (by omega) (by omega)), c1.g8, c1.g0, r1.g0, ldI_of r1.a0 rfl (show k < 40 by omega) (by decide), a1, c1.g0, r1.g1, ldI_of r1.a1 rfl (show k < 40 by omega) (by decide), a2, q1.o, e1, bind_some', rV_some, nI_1]
    exact f1
theorem C_runOver (c : isC h x s) (w : WFS s q) (i : Nat) (hi : i < s.2.1.1) (n : Nat) (hn : n ≤ s.1.1) : ∃ h1 D, call (d + 3) 82 [.ref x, .ref (mo x i), .int (nI n)] h = some (none, h1) ∧ isC h1 x s ∧ isRun h1 (x + 14) D ∧ CPo D (rnT (s.2.1.2 i) s.1.2.1 s.1.2.2 n) n ∧ D.2.1 = lcT (s.2.1.2 i) s.1.2.1 s.1.2.2 n ∧ (∀ r, r < 2 → D.2.2.2.2 r = (rnT (s.2.1.2 i) s.1.2.1 s.1.2.2 n).2.2 r) ∧ Fr h h1 (x + 14) 3 := by
  obtain ⟨X, c1, c2, ⟨R, r1, r2, r3⟩, c4, c5, ⟨D0, q0⟩, c7, c8, c9, c10, c11, c12, c13⟩ := id c
  have hT := w.2.1.2 i hi
  obtain ⟨M, m1, m2, m3, m4⟩ := c10.1 i hi
  obtain ⟨h1, D1, e1, e2, e3, e4, e5, e6⟩ := C_runBegin (d := d + 1) q0
  obtain ⟨h2, D2, f1, f2, f3, f4, f5, f6⟩ := l_runOver (d := d) (i := i) hT m2 hn w.1.1 w.1.2 r3 r2 n 0 h1 D1 (by omega) (c1.fs e6.s (dj.cons (by omega) (dj.nil _ _))) (r1.fr e6 (by omega)) (m1.fr e6 (by unfold mo; omega)) e2 e3 e4 e5
  refine ⟨h2, D2, ?_, c.run w ⟨D2, f2⟩ (e6.tr f6), f2, f3, f4, f5, e6.tr f6⟩
  rw [call_at mt_82 [some (.ref x), some (.ref (mo x i)), some (.int (nI n)), none] rfl rfl rfl, nd_82_0 (St_run (d + 2) mt_82), c1.g8, q0.o, e1, bind_some', rV_some]
  exact f1
theorem op_takes (S : SS h x y s q) (m n : Int32) : OP d x y h q 79 132 [.int m, .int n] := by
  obtain ⟨w, c, _, _⟩ := id S
  obtain ⟨X, c1, c2, ⟨R, r1, r2, r3⟩, _, _, _, _, _, _, c10, _⟩ := id c
  have wK := w.2.1.1
  have w40 := w.1.1
  have cl0 : call (d + 8) 79 [.ref x, .int m, .int n] h = run (d + 7) mt_79 0 [some (.ref x), some (.int m), some (.int n), none] [] h := call_at mt_79 [some (.ref x), some (.int m), some (.int n), none] rfl rfl rfl
  have rl0 : ∀ (h : AH) I A, call (d + 8) 132 [.ref y, .int m, .int n] (mkR h y I A) = run (d + 7) mt_132 0 [some (.ref y), some (.int m), some (.int n)] [] (mkR h y I A) := fun h I A => call_at mt_132 [some (.ref y), some (.int m), some (.int n)] rfl rfl rfl
  rcases mach_cases w m with ⟨i, i1, rfl, i3⟩ | ⟨i1, i2⟩
  · have hT := w.2.1.2 i i1
    have ma := C_mAt (d := d + 6) c1 c2 wK i i1
    rcases inP n s.1.1 (by omega) with ⟨j, j1, rfl, j3, j4⟩ | ⟨j1, j2, j3⟩
    · obtain ⟨h1, D, e1, e2, e3, e4, e5, e6, e7⟩ := C_runOver (d := d + 4) c w i i1 j j1
      obtain ⟨X1, t1, _, _, _, _, _, _, _, _, k10, _⟩ := id e2
      obtain ⟨M1, m1, m2, _⟩ := k10.1 i i1
      have g := rnT_PG (T := s.2.1.2 i) (L := s.1.2.1) (X := s.1.2.2) (n := j) hT (fun k hk => w.1.2 k (by omega))
      have vc := g.vd hT
      have gA := W_good (d := d + 5) m1 m2 hT _ vc.2.2.1
      have hm0 : ∃ M0, isM h (mo x i) M0 := by
        obtain ⟨M0, a, _⟩ := c10.1 i i1
        exact ⟨M0, a⟩
      refine comb (s' := s) (r := bI ((s.2.1.2 i).2.2.2 ((rnT (s.2.1.2 i) s.1.2.1 s.1.2.2 j).1 / 625 / 6))) S ⟨h1, ?_, e2, e7.sub (by omega) (by omega)⟩ (RO_scr (fun h I A rs => ?_)) (w.mono (by omega))
      · rw [cl0, nd_79_0 (St_run (d + 7) mt_79), c1.o, ma, bind_some', rQ_some, c1.g0, r1.o, m_hasPrefix r1, r2, j4, bind_some', rI_some, if_neg (by decide), c1.o, e1, bind_some', rV_some, t1.g8, e3.g0, e4.1.1, m1.o]
        have gA' : call (d + 7) 7 [.ref (mo x i), .int (nI (stc (rnT (s.2.1.2 i) s.1.2.1 s.1.2.2 j).1 0))] h1 = _ := gA
        rw [gA', bind_some', rI_some, nd_79_48 (St_run (d + 7) mt_79), nd_79_48 (St_run (d + 7) mt_79)]
        cases (s.2.1.2 i).2.2.2 ((rnT (s.2.1.2 i) s.1.2.1 s.1.2.2 j).1 / 625 / 6) <;> rfl
      · have iT := rs.2.1.2 i i1
        have v3 : v_in (nI i) (I 3 - 1) = 1 := by rw [rs.2.1.1]; exact i3
        obtain ⟨I1, A1, f1, f2, f3, f4, f5⟩ := R_runs (d := d + 4) (a := y) (h := h) (I := I) hT (show i < 6 by omega) iT (X := s.1.2.2) (show j ≤ 40 by omega) (fun k hk => w.1.2 k (by omega)) (fun k hk => rs.1.2 k (by omega))
        refine ⟨I1, A1, ?_, f5.sub (by decide) (by decide)⟩
        have iT1 := iT.fa f5 (by decide)
        have a6 := iT1.2.2.2.2 ((rnT (s.2.1.2 i) s.1.2.1 s.1.2.2 j).1 / 625 / 6) (by have := vc.2.2.1; have := hT.2.1; omega)
        have hlt : 6 * i + (rnT (s.2.1.2 i) s.1.2.1 s.1.2.2 j).1 / 625 / 6 < 36 := by have := vc.2.2.1; have := hT.2.1; omega
        rw [rl0, nd_132_0 (St_run (d + 7) mt_132), mkR_o, R_isMachine (d := d + 5), v3, bind_some', rI_some, if_neg (by decide), mkR_g0, rs.1.1, m_in0, j3, bind_some', rI_some, if_neg (by decide), mkR_o, f1, bind_some', rV_some, mkR_g6, mkR_g12, f2.1, ix6m, mkR_l6 _ _ _ _ hlt, a6, nd_132_52 (St_run (d + 7) mt_132), nd_132_52 (St_run (d + 7) mt_132)]
        cases (s.2.1.2 i).2.2.2 ((rnT (s.2.1.2 i) s.1.2.1 s.1.2.2 j).1 / 625 / 6) <;> rfl
    · refine comb (s' := s) (r := -1) S (CO_same c ?_) (RO_same (fun h I A rs => ?_)) (w.mono (by omega))
      · rw [cl0, nd_79_0 (St_run (d + 7) mt_79), c1.o, ma, bind_some', rQ_some, c1.g0, r1.o, m_hasPrefix r1, r2, j2, bind_some', rI_some, if_pos rfl, nd_79_21 (St_run (d + 7) mt_79)]
      · have v3 : v_in (nI i) (I 3 - 1) = 1 := by rw [rs.2.1.1]; exact i3
        rw [rl0, nd_132_0 (St_run (d + 7) mt_132), mkR_o, R_isMachine (d := d + 5), v3, bind_some', rI_some, if_neg (by decide), mkR_g0, rs.1.1, m_in0, j1, bind_some', rI_some, if_pos rfl, nd_132_22 (St_run (d + 7) mt_132)]
  · refine comb (s' := s) (r := -1) S (CO_same c ?_) (RO_same (fun h I A rs => ?_)) (w.mono (by omega))
    · rw [cl0, nd_79_0 (St_run (d + 7) mt_79), c1.o, C_mNo (d := d + 6) c1 wK m i2, bind_some', rQ_null, nd_79_21 (St_run (d + 7) mt_79)]
    · have v3 : v_in m (I 3 - 1) = 0 := by rw [rs.2.1.1]; exact i1
      rw [rl0, nd_132_0 (St_run (d + 7) mt_132), mkR_o, R_isMachine (d := d + 5), v3, bind_some', rI_some, if_pos rfl, nd_132_22 (St_run (d + 7) mt_132)]
theorem op_ran (S : SS h x y s q) (m n wt : Int32) : OP d x y h q 80 133 [.int m, .int n, .int wt] := by
  obtain ⟨w, c, _, _⟩ := id S
  obtain ⟨X, c1, c2, ⟨R, r1, r2, r3⟩, _, _, _, _, _, _, c10, _⟩ := id c
  have wK := w.2.1.1
  have w40 := w.1.1
  have cl0 : call (d + 8) 80 [.ref x, .int m, .int n, .int wt] h = run (d + 7) mt_80 0 [some (.ref x), some (.int m), some (.int n), some (.int wt), none] [] h := call_at mt_80 [some (.ref x), some (.int m), some (.int n), some (.int wt), none] rfl rfl rfl
  have rl0 : ∀ (h : AH) I A, call (d + 8) 133 [.ref y, .int m, .int n, .int wt] (mkR h y I A) = run (d + 7) mt_133 0 [some (.ref y), some (.int m), some (.int n), some (.int wt)] [] (mkR h y I A) := fun h I A => call_at mt_133 [some (.ref y), some (.int m), some (.int n), some (.int wt)] rfl rfl rfl
  rcases mach_cases w m with ⟨i, i1, rfl, i3⟩ | ⟨i1, i2⟩
  · have hT := w.2.1.2 i i1
    have ma := C_mAt (d := d + 6) c1 c2 wK i i1
    rcases inP n s.1.1 (by omega) with ⟨j, j1, rfl, j3, j4⟩ | ⟨j1, j2, j3⟩
    · obtain ⟨h1, D, e1, e2, e3, e4, e5, e6, e7⟩ := C_runOver (d := d + 4) c w i i1 j j1
      obtain ⟨X1, t1, _⟩ := id e2
      have cl : call (d + 8) 80 [.ref x, .int (nI i), .int (nI j), .int wt] h = (if wt.toInt = 0 then some (some (.int D.1), h1) else if wt.toInt = 1 then some (some (.int (D.2.2.2.2 0)), h1) else if wt.toInt = 2 then some (some (.int (D.2.2.2.2 1)), h1) else if wt.toInt = 3 then some (some (.int D.2.1), h1) else some (some (.int (-1)), h1)) := by
        rw [cl0, nd_80_0 (St_run (d + 7) mt_80), c1.o, ma, bind_some', rQ_some, c1.g0, r1.o, m_hasPrefix r1, r2, j4, bind_some', rI_some, if_neg (by decide), c1.o, e1, bind_some', rV_some, t1.g8, e3.g0, t1.g8, e3.g2, ldI_of (i := 0) e3.a1 (j := 0) rfl (by decide) (by decide), t1.g8, e3.g2, ldI_of (i := 1) e3.a1 (j := 1) rfl (by decide) (by decide), t1.g8, e3.g3]
      rcases in3 wt with ⟨k, k1, rfl, k3⟩ | ⟨k1, k2, k3⟩
      · have z0 : ((nI k).toInt = 0) = (k = 0) := ti_eq (k := 0) (by omega)
        have z1 : ((nI k).toInt = 1) = (k = 1) := ti_eq (k := 1) (by omega)
        have z2 : ((nI k).toInt = 2) = (k = 2) := ti_eq (k := 2) (by omega)
        have z3 : ((nI k).toInt = 3) = (k = 3) := ti_eq (k := 3) (by omega)
        refine comb (s' := s) (r := if k = 0 then nI ((rnT (s.2.1.2 i) s.1.2.1 s.1.2.2 j).1 / 625 / 6) else if k = 1 then (rnT (s.2.1.2 i) s.1.2.1 s.1.2.2 j).2.2 0 else if k = 2 then (rnT (s.2.1.2 i) s.1.2.1 s.1.2.2 j).2.2 1 else lcT (s.2.1.2 i) s.1.2.1 s.1.2.2 j) S ⟨h1, ?_, e2, e7.sub (by omega) (by omega)⟩ (RO_scr (fun h I A rs => ?_)) (w.mono (by omega))
        · rw [cl, e5, e6 0 (by omega), e6 1 (by omega), e4.1.1]
          simp only [z0, z1, z2, z3]
          rcases (show k = 0 ∨ k = 1 ∨ k = 2 ∨ k = 3 by omega) with rfl | rfl | rfl | rfl <;> rfl
        · have iT := rs.2.1.2 i i1
          have v3 : v_in (nI i) (I 3 - 1) = 1 := by rw [rs.2.1.1]; exact i3
          obtain ⟨I1, A1, f1, f2, f3, f4, f5⟩ := R_runs (d := d + 4) (a := y) (h := h) (I := I) hT (show i < 6 by omega) iT (X := s.1.2.2) (show j ≤ 40 by omega) (fun k hk => w.1.2 k (by omega)) (fun k hk => rs.1.2 k (by omega))
          refine ⟨I1, A1, ?_, f5.sub (by decide) (by decide)⟩
          have q12 := f2.1
          have k0 := f3 0 (by omega)
          have k1' := f3 1 (by omega)
          rw [rl0, nd_133_0 (St_run (d + 7) mt_133), mkR_o, R_isMachine (d := d + 5), v3, bind_some', rI_some, if_neg (by decide), mkR_g0, rs.1.1, m_in0, j3, bind_some', rI_some, if_neg (by decide), show (3 : Int64) = (3 : Int32).toInt64 from by decide, m_in0, k3, bind_some', rI_some, if_neg (by decide), mkR_o, f1, bind_some', rV_some]
          rcases (show k = 0 ∨ k = 1 ∨ k = 2 ∨ k = 3 by omega) with rfl | rfl | rfl | rfl
          · simp (disch := omega) only [nd_133_73 (St_run (d + 7) mt_133), ↓L_m4, ↓L_m1, L_0, L_1, L_2, L_3, L_4, L_5, L_6, L_8, L_9, L_15, L_20, L_30, L_40, L_54, L_60, L_120, L_1872, L_4320, L_22500, le_t, le_f, lt_t, lt_f, eq_t, eq_f, eq_NO, NO_eq, NO_neg, MO_neg, bI_0, nI_add, pk_mul, pk_ds, rem_, nI_MO, nI_0MO, ↓reduceIte, eq_self, reduceCtorEq, Bool.true_eq_false, Bool.false_eq_true, isZn0, isZn1, isZb, bind_some', rI_some, rV_some, rQ_some, rQ_null, updA_at, updA_ne, pk_us, pk_un, ne_eq, not_false_eq_true, Nat.reduceEqDiff, updA_updA, Nat.reduceSub, Nat.reduceAdd, Nat.reduceMul, Nat.reduceDiv, Nat.zero_add, Nat.add_zero, mkR_o, mkR_g0, mkR_p0, mkR_g1, mkR_l1, mkR_n1, mkR_s1, mkR_g2, mkR_l2, mkR_n2, mkR_s2, mkR_g3, mkR_p3, mkR_g4, mkR_l4, mkR_n4, mkR_s4, mkR_g5, mkR_l5, mkR_n5, mkR_s5, mkR_g6, mkR_l6, mkR_n6, mkR_s6, mkR_t6, mkR_f6, mkR_g7, mkR_l7, mkR_n7, mkR_s7, mkR_g8, mkR_l8, mkR_n8, mkR_s8, mkR_g9, mkR_l9, mkR_n9, mkR_s9, mkR_g10, mkR_l10, mkR_n10, mkR_s10, mkR_g11, mkR_l11, mkR_n11, mkR_s11, mkR_g12, mkR_p12, mkR_g13, mkR_l13, mkR_n13, mkR_s13, mkR_t13, mkR_f13, mkR_g14, mkR_l14, mkR_n14, mkR_s14, mkR_g15, mkR_l15, mkR_n15, mkR_s15, mkR_g16, mkR_p16, mkR_g17, mkR_l17, mkR_n17, mkR_s17, mkR_t17, mkR_f17, mkR_g18, mkR_l18, mkR_n18, mkR_s18, mkR_t18, mkR_f18, mkR_g19, mkR_l19, mkR_n19, mkR_s19, mkR_g20, mkR_l20, mkR_n20, mkR_s20, mkR_g21, mkR_l21, mkR_n21, mkR_s21, mkR_g22, mkR_p22, mkR_g23, mkR_p23, mkR_g24, mkR_p24, mkR_g25, mkR_l25, mkR_n25, mkR_s25, mkR_g26, mkR_l26, mkR_n26, mkR_s26, mkR_g27, mkR_l27, mkR_n27, mkR_s27, mkR_g28, mkR_p28, mkR_g29, mkR_p29, mkR_g30, mkR_l30, mkR_n30, mkR_s30, mkR_g31, mkR_p31, mkR_g32, mkR_l32, mkR_n32, mkR_s32, mkR_g33, mkR_l33, mkR_n33, mkR_s33, mkR_g34, mkR_l34, mkR_n34, mkR_s34, mkR_t34, mkR_f34, mkR_g35, mkR_l35, mkR_n35, mkR_s35, mkR_g36, mkR_l36, mkR_n36, mkR_s36, mkR_g37, mkR_l37, mkR_n37, mkR_s37, mkR_g38, mkR_l38, mkR_n38, mkR_s38, mkR_g39, mkR_l39, mkR_n39, mkR_s39, mkR_g40, mkR_l40, mkR_n40, mkR_s40, mkR_g41, mkR_l41, mkR_n41, mkR_s41, q12]
          · rw [if_neg (by decide), if_neg (by decide), mkR_g15, show nI 1 - 1 = nI 0 from by decide, mkR_l15 _ _ _ _ (by omega), k0, nd_133_73 (St_run (d + 7) mt_133)]
            rfl
          · rw [if_neg (by decide), if_neg (by decide), mkR_g15, show nI 2 - 1 = nI 1 from by decide, mkR_l15 _ _ _ _ (by omega), k1', nd_133_73 (St_run (d + 7) mt_133)]
            rfl
          · rw [if_neg (by decide), if_pos (by rfl), mkR_g16, f4, nd_133_73 (St_run (d + 7) mt_133)]
            rfl
      · refine comb (s' := s) (r := -1) S ⟨h1, ?_, e2, e7.sub (by omega) (by omega)⟩ (RO_same (fun h I A rs => ?_)) (w.mono (by omega))
        · rw [cl, if_neg (ti0 (k2 0 (by omega))), if_neg (ti1 (k2 1 (by omega))), if_neg (ti2 (k2 2 (by omega))), if_neg (ti3 (k2 3 (by omega)))]
        · have v3 : v_in (nI i) (I 3 - 1) = 1 := by rw [rs.2.1.1]; exact i3
          rw [rl0, nd_133_0 (St_run (d + 7) mt_133), mkR_o, R_isMachine (d := d + 5), v3, bind_some', rI_some, if_neg (by decide), mkR_g0, rs.1.1, m_in0, j3, bind_some', rI_some, if_neg (by decide), show (3 : Int64) = (3 : Int32).toInt64 from by decide, m_in0, k1, bind_some', rI_some, if_pos rfl, nd_133_34 (St_run (d + 7) mt_133)]
    · refine comb (s' := s) (r := -1) S (CO_same c ?_) (RO_same (fun h I A rs => ?_)) (w.mono (by omega))
      · rw [cl0, nd_80_0 (St_run (d + 7) mt_80), c1.o, ma, bind_some', rQ_some, c1.g0, r1.o, m_hasPrefix r1, r2, j2, bind_some', rI_some, if_pos rfl, nd_80_23 (St_run (d + 7) mt_80)]
      · have v3 : v_in (nI i) (I 3 - 1) = 1 := by rw [rs.2.1.1]; exact i3
        rw [rl0, nd_133_0 (St_run (d + 7) mt_133), mkR_o, R_isMachine (d := d + 5), v3, bind_some', rI_some, if_neg (by decide), mkR_g0, rs.1.1, m_in0, j1, bind_some', rI_some, if_pos rfl, nd_133_34 (St_run (d + 7) mt_133)]
  · refine comb (s' := s) (r := -1) S (CO_same c ?_) (RO_same (fun h I A rs => ?_)) (w.mono (by omega))
    · rw [cl0, nd_80_0 (St_run (d + 7) mt_80), c1.o, C_mNo (d := d + 6) c1 wK m i2, bind_some', rQ_null, nd_80_23 (St_run (d + 7) mt_80)]
    · have v3 : v_in m (I 3 - 1) = 0 := by rw [rs.2.1.1]; exact i1
      rw [rl0, nd_133_0 (St_run (d + 7) mt_133), mkR_o, R_isMachine (d := d + 5), v3, bind_some', rI_some, if_pos rfl, nd_133_34 (St_run (d + 7) mt_133)]
end OPS5
