/-! ===== shortest, parts, within, show ===== -/
theorem isC.wlk {h h1 : AH} {x : Nat} {s : SG} {q : Nat} (c : isC h x s) (w : WFS s q) (k : cWalk h1 x) (p : Fr h h1 (x + 17) 13) : isC h1 x s := by
  obtain ⟨X, c1, _, _, _, _, _, _, c8, ⟨D, l1, l2⟩, _, _, _, c13⟩ := id c
  exact c.lst w (c1.fs p.s (dj.cons (by omega) (dj.nil _ _))) c13 k (c8.fs p.s (dj.cons (by omega) (dj.nil _ _))) (l1.fr p (by omega)) l2 (p.in (x + 17, 22) (by simp) (by dsimp only; omega) (by dsimp only; omega))
theorem Fs_98 {h h1 : AH} {x : Nat} (p : Fs h h1 [(x, 1), (x + 17, 22)]) : Fr h h1 x 98 := p.fr (fun z hz => by
  simp only [List.mem_cons, List.not_mem_nil, or_false] at hz
  rcases hz with rfl | rfl <;> dsimp only <;> omega)
theorem NO_le {x : Int32} (h : ¬ x < 0) : NO ≤ x := Int32.le_trans (show NO ≤ 0 by decide) (Int32.not_lt.mp h)
theorem m1_le {x : Int32} (h : ¬ x < 0) : (-1 : Int32) ≤ x := Int32.le_trans (show (-1 : Int32) ≤ 0 by decide) (Int32.not_lt.mp h)
section OPS8
variable {d x y q : Nat} {h : AH} {s : SG}
theorem C_leastAt (c : isC h x s) (w : WFS s q) (i : Nat) (hi : i < s.2.1.1) {x2 : Int32} {U : TM} (u : isU s x2 U) (x3 x4 : Int32) : ∃ h1 r, call (d + 7) 92 [.ref x, .int (nI i), .int x2, .int x3, .int x4] h = some (some (.int r), h1) ∧ isC h1 x s ∧ Fr h h1 x 98 ∧ ((∃ n j v, lenF (s.2.1.2 i) U = some n ∧ j < n ∧ x3 = nI j ∧ v < 2 ∧ x4 = nI v ∧ r = if v = 0 then nI (LLf (s.2.1.2 i) U j) else nI (NNf (s.2.1.2 i) U j)) ∨ (r = -1 ∧ ((∀ n j, lenF (s.2.1.2 i) U = some n → j < n → x3 ≠ nI j) ∨ v_in x4 1 = 0))) := by
  have cl0 : call (d + 7) 92 [.ref x, .int (nI i), .int x2, .int x3, .int x4] h = run (d + 6) mt_92 0 [some (.ref x), some (.int (nI i)), some (.int x2), some (.int x3), some (.int x4)] [] h := call_at mt_92 [some (.ref x), some (.int (nI i)), some (.int x2), some (.int x3), some (.int x4)] rfl rfl rfl
  obtain ⟨X, c1, _⟩ := id c
  have hT := w.2.1.2 i hi
  have hU := u.wf w
  by_cases h0 : x3 < 0
  · refine ⟨h, -1, ?_, c, Fr.rf _ _ _, Or.inr ⟨rfl, Or.inl (fun n j hn hj e => ?_)⟩⟩
    · rw [cl0, nd_92_0 (St_run (d + 6) mt_92), if_pos h0, nd_92_36 (St_run (d + 6) mt_92)]
    · have := lenF_lt hT hU hn
      rw [e] at h0
      exact nI_pos (by omega) h0
  · obtain ⟨h1, D, e1, e2, e3, e4, e5⟩ := C_findLeast (d := d) c w i hi u
    obtain ⟨X1, t1, _⟩ := id e2
    have fr := Fs_98 e5
    have go : call (d + 7) 92 [.ref x, .int (nI i), .int x2, .int x3, .int x4] h = if oI (lenF (s.2.1.2 i) U) ≤ x3 then some (some (.int (-1)), h1) else if v_hasPlace D.1 x3 = 0 then some (some (.int (-1)), h1) else if x4 < 0 then some (some (.int (-1)), h1) else if x4 ≤ 1 then (if x4 = 0 then (ldI h1 (x + 37) x3 fun v13 => some (some (.int v13), h1)) else (ldI h1 (x + 38) x3 fun v10 => some (some (.int v10), h1))) else some (some (.int (-1)), h1) := by
      rw [cl0, nd_92_0 (St_run (d + 6) mt_92), if_neg h0, c1.o, e1, bind_some', rI_some, t1.g10, e3.o, m_hasPlace (d := d + 5) e3, bind_some', rI_some, t1.g10, e3.g0, t1.g10, e3.g1, nd_92_36 (St_run (d + 6) mt_92)]
      simp only [nd_92_64 (St_run (d + 6) mt_92)]
    obtain ⟨j, j1, rfl⟩ := nI_of h0
    cases hl : lenF (s.2.1.2 i) U with
    | none =>
      refine ⟨h1, -1, ?_, e2, fr, Or.inr ⟨rfl, Or.inl (fun n j hn => by cases hn)⟩⟩
      rw [go, hl, if_pos (show oI none ≤ nI j from NO_le h0)]
    | some n =>
      have hn := lenF_lt hT hU hl
      obtain ⟨f1, f2⟩ := e4 n hl
      by_cases hj : j < n
      · rw [hl, if_neg (show ¬ oI (some n) ≤ nI j from nI_ge hj (by omega)), f1, show v_hasPlace (nI n) (nI j) = 1 by unfold v_hasPlace; rw [if_neg h0, if_neg (nI_ge hj (by omega))], if_neg (show ¬ (1 : Int32) = 0 by decide)] at go
        obtain ⟨g1, g2⟩ := f2 j hj
        rcases in1 x4 with ⟨v, v1, rfl, v3⟩ | ⟨v1, v2, v3⟩
        · refine ⟨h1, _, ?_, e2, fr, Or.inl ⟨n, j, v, rfl, hj, rfl, v1, rfl, rfl⟩⟩
          rw [go, if_neg (nI_pos (by omega)), if_pos (show nI v ≤ (1 : Int32) from nI_le (b := 1) (by omega) (by decide)), ldI_of e3.a0 rfl (show j < 1872 by omega) (by decide), ldI_of e3.a1 rfl (show j < 1872 by omega) (by decide), g1, g2]
          rcases (show v = 0 ∨ v = 1 by omega) with rfl | rfl
          · rw [if_pos (show nI 0 = 0 from rfl), if_pos rfl]
          · rw [if_neg (show ¬ nI 1 = 0 by decide), if_neg (show ¬ 1 = 0 by decide)]
        · refine ⟨h1, -1, ?_, e2, fr, Or.inr ⟨rfl, Or.inr v1⟩⟩
          rw [go]
          by_cases h4 : x4 < 0
          · rw [if_pos h4]
          · rw [if_neg h4, if_neg (fun e => by
              have h5 := Int32.le_trans (v3.resolve_left h4) e
              exact absurd h5 (by decide))]
      · refine ⟨h1, -1, ?_, e2, fr, Or.inr ⟨rfl, Or.inl (fun n' j' hn' hj' e => ?_)⟩⟩
        · rw [go, hl, if_pos (show oI (some n) ≤ nI j from nI_le (by omega) (by omega))]
        · cases hn'
          have := (nI_eq (by omega) (by omega)).mp e
          omega
theorem C_leastAt_bad (c : isC h x s) (w : WFS s q) (x1 x2 x3 x4 : Int32) (hb : (∀ i, i < s.2.1.1 → x1 ≠ nI i) ∨ (x2 ≠ NO ∧ ∀ i, i < s.2.1.1 → x2 ≠ nI i)) : call (d + 7) 92 [.ref x, .int x1, .int x2, .int x3, .int x4] h = some (some (.int (-1)), h) := by
  obtain ⟨X, c1, _⟩ := id c
  rw [call_at mt_92 [some (.ref x), some (.int x1), some (.int x2), some (.int x3), some (.int x4)] rfl rfl rfl, nd_92_0 (St_run (d + 6) mt_92)]
  by_cases h0 : x3 < 0
  · rw [if_pos h0, nd_92_36 (St_run (d + 6) mt_92)]
  · rw [if_neg h0, c1.o, C_findLeast_bad (d := d) c w x1 x2 hb, bind_some', rI_some, if_pos (m1_le h0), nd_92_36 (St_run (d + 6) mt_92)]
/-- the reference's atOf, as the class answers -/
theorem R_leastAt {I : Nat → Int32} {A : Nat → Nat → Int32} (w : WFS s q) (i : Nat) (hi : i < s.2.1.1) {x2 : Int32} {U : TM} (u : isU s x2 U) (x3 x4 r : Int32) (rs : RS I A s) (hr : (∃ n j v, lenF (s.2.1.2 i) U = some n ∧ j < n ∧ x3 = nI j ∧ v < 2 ∧ x4 = nI v ∧ r = if v = 0 then nI (LLf (s.2.1.2 i) U j) else nI (NNf (s.2.1.2 i) U j)) ∨ (r = -1 ∧ ((∀ n j, lenF (s.2.1.2 i) U = some n → j < n → x3 ≠ nI j) ∨ v_in x4 1 = 0))) : ∃ I' A', call (d + 7) 148 [.ref y, .int (nI i), .int x2, .int x3, .int x4] (mkR h y I A) = some (some (.int r), mkR h y I' A') ∧ fra I I' A A' [22, 23, 24, 28, 29] [17, 19, 20, 21, 25, 26, 27, 30] := by
  have wK := w.2.1.1
  have hT := w.2.1.2 i hi
  have hU := u.wf w
  rcases hr with ⟨n, j, v, h1, h2, rfl, h4, rfl, rfl⟩ | ⟨rfl, h1⟩
  · exact R_atOf (d := d) hT (by omega) hU (rs.2.1.2 i hi) (u.to w rs.2.1) h1 h2 v h4
  · exact R_atOf_bad (d := d) hT (by omega) hU (rs.2.1.2 i hi) (u.to w rs.2.1) x3 x4 h1
theorem op_shortest (S : SS h x y s q) (m : Int32) : OP d x y h q 85 154 [.int m] := by
  obtain ⟨w, c, _, _⟩ := id S
  obtain ⟨X, c1, _⟩ := id c
  have wK := w.2.1.1
  have cl0 : call (d + 8) 85 [.ref x, .int m] h = run (d + 7) mt_85 0 [some (.ref x), some (.int m)] [] h := call_at mt_85 [some (.ref x), some (.int m)] rfl rfl rfl
  have rl0 : ∀ (h : AH) I A, call (d + 8) 154 [.ref y, .int m] (mkR h y I A) = run (d + 7) mt_154 0 [some (.ref y), some (.int m)] [] (mkR h y I A) := fun h I A => call_at mt_154 [some (.ref y), some (.int m)] rfl rfl rfl
  rcases mach_cases w m with ⟨i, i1, rfl, i3⟩ | ⟨i1, i2⟩
  · have hT := w.2.1.2 i i1
    have u : isU s NO T0 := Or.inl ⟨rfl, rfl⟩
    obtain ⟨h1, D, e1, e2, e3, e4, e5⟩ := C_findLeast (d := d + 1) c w i i1 u
    refine comb (s' := s) (r := oI (lenF (s.2.1.2 i) T0)) S ⟨h1, ?_, e2, Fs_98 e5⟩ (RO_scr (fun h I A rs => ?_)) (w.mono (by omega))
    · rw [cl0, nd_85_0 (St_run (d + 7) mt_85), c1.o, L_m4, e1, bind_some', rI_some]
    · have v3 : v_in (nI i) (I 3 - 1) = 1 := by rw [rs.2.1.1]; exact i3
      obtain ⟨I1, A1, k1, k2, k3, k4⟩ := R_lengthOf (d := d + 1) (a := y) (h := h) (I := I) hT (show i < 6 by omega) T0_wf (rs.2.1.2 i i1) (u.to w rs.2.1)
      refine ⟨I1, A1, ?_, k4.sub (by decide) (by decide)⟩
      rw [rl0, nd_154_0 (St_run (d + 7) mt_154), mkR_o, R_isMachine (d := d + 5), v3, bind_some', rI_some, if_neg (by decide), mkR_o, L_m4, k1, bind_some', rI_some, nd_154_19 (St_run (d + 7) mt_154)]
  · refine comb (s' := s) (r := -1) S (CO_same c ?_) (RO_same (fun h I A rs => ?_)) (w.mono (by omega))
    · rw [cl0, nd_85_0 (St_run (d + 7) mt_85), c1.o, C_findLeast_bad (d := d + 1) c w m _ (Or.inl i2), bind_some', rI_some]
    · have v3 : v_in m (I 3 - 1) = 0 := by rw [rs.2.1.1]; exact i1
      rw [rl0, nd_154_0 (St_run (d + 7) mt_154), mkR_o, R_isMachine (d := d + 5), v3, bind_some', rI_some, if_pos rfl, nd_154_19 (St_run (d + 7) mt_154)]
theorem op_shortestAt (S : SS h x y s q) (m x3 x4 : Int32) : OP d x y h q 86 155 [.int m, .int x3, .int x4] := by
  obtain ⟨w, c, _, _⟩ := id S
  obtain ⟨X, c1, _⟩ := id c
  have wK := w.2.1.1
  have cl0 : call (d + 8) 86 [.ref x, .int m, .int x3, .int x4] h = run (d + 7) mt_86 0 [some (.ref x), some (.int m), some (.int x3), some (.int x4)] [] h := call_at mt_86 [some (.ref x), some (.int m), some (.int x3), some (.int x4)] rfl rfl rfl
  have rl0 : ∀ (h : AH) I A, call (d + 8) 155 [.ref y, .int m, .int x3, .int x4] (mkR h y I A) = run (d + 7) mt_155 0 [some (.ref y), some (.int m), some (.int x3), some (.int x4)] [] (mkR h y I A) := fun h I A => call_at mt_155 [some (.ref y), some (.int m), some (.int x3), some (.int x4)] rfl rfl rfl
  rcases mach_cases w m with ⟨i, i1, rfl, i3⟩ | ⟨i1, i2⟩
  · have u : isU s NO T0 := Or.inl ⟨rfl, rfl⟩
    obtain ⟨h1, r, e1, e2, e3, e4⟩ := C_leastAt (d := d) c w i i1 u x3 x4
    refine comb (s' := s) (r := r) S ⟨h1, ?_, e2, e3⟩ (RO_scr (fun h I A rs => ?_)) (w.mono (by omega))
    · rw [cl0, nd_86_0 (St_run (d + 7) mt_86), c1.o, L_m4, e1, bind_some', rI_some]
    · have v3 : v_in (nI i) (I 3 - 1) = 1 := by rw [rs.2.1.1]; exact i3
      obtain ⟨I1, A1, k1, k2⟩ := R_leastAt (d := d) (y := y) (h := h) w i i1 u x3 x4 r rs e4
      refine ⟨I1, A1, ?_, k2.sub (by decide) (by decide)⟩
      rw [rl0, nd_155_0 (St_run (d + 7) mt_155), mkR_o, R_isMachine (d := d + 5), v3, bind_some', rI_some, if_neg (by decide), mkR_o, L_m4, k1, bind_some', rI_some, nd_155_21 (St_run (d + 7) mt_155)]
  · refine comb (s' := s) (r := -1) S (CO_same c ?_) (RO_same (fun h I A rs => ?_)) (w.mono (by omega))
    · rw [cl0, nd_86_0 (St_run (d + 7) mt_86), c1.o, C_leastAt_bad (d := d) c w m _ _ _ (Or.inl i2), bind_some', rI_some]
    · have v3 : v_in m (I 3 - 1) = 0 := by rw [rs.2.1.1]; exact i1
      rw [rl0, nd_155_0 (St_run (d + 7) mt_155), mkR_o, R_isMachine (d := d + 5), v3, bind_some', rI_some, if_pos rfl, nd_155_21 (St_run (d + 7) mt_155)]
theorem no_of {m : Int32} {n : Nat} (h : v_in m (nI n - 1) = 1) (hn : n ≤ 6) : m ≠ NO := fun e => by
  rw [e] at h
  unfold v_in at h
  rw [if_pos (by decide)] at h
  exact absurd h (by decide)
theorem op_parts (S : SS h x y s q) (m m2 : Int32) : OP d x y h q 87 156 [.int m, .int m2] := by
  obtain ⟨w, c, _, _⟩ := id S
  obtain ⟨X, c1, c2, _⟩ := id c
  have wK := w.2.1.1
  have cl0 : call (d + 8) 87 [.ref x, .int m, .int m2] h = run (d + 7) mt_87 0 [some (.ref x), some (.int m), some (.int m2)] [] h := call_at mt_87 [some (.ref x), some (.int m), some (.int m2)] rfl rfl rfl
  have rl0 : ∀ (h : AH) I A, call (d + 8) 156 [.ref y, .int m, .int m2] (mkR h y I A) = run (d + 7) mt_156 0 [some (.ref y), some (.int m), some (.int m2)] [] (mkR h y I A) := fun h I A => call_at mt_156 [some (.ref y), some (.int m), some (.int m2)] rfl rfl rfl
  rcases mach_cases w m2 with ⟨j, j1, rfl, j3⟩ | ⟨j1, j2⟩
  · rcases mach_cases w m with ⟨i, i1, rfl, i3⟩ | ⟨i1, i2⟩
    · have hT := w.2.1.2 i i1
      have u : isU s (nI j) (s.2.1.2 j) := Or.inr ⟨j, j1, rfl, rfl⟩
      obtain ⟨h1, D, e1, e2, e3, e4, e5⟩ := C_findLeast (d := d + 1) c w i i1 u
      refine comb (s' := s) (r := oI (lenF (s.2.1.2 i) (s.2.1.2 j))) S ⟨h1, ?_, e2, Fs_98 e5⟩ (RO_scr (fun h I A rs => ?_)) (w.mono (by omega))
      · rw [cl0, nd_87_0 (St_run (d + 7) mt_87), c1.o, C_mAt (d := d + 6) c1 c2 wK j j1, bind_some', rQ_some, c1.o, e1, bind_some', rI_some, nd_87_18 (St_run (d + 7) mt_87)]
      · have v3 : v_in (nI i) (I 3 - 1) = 1 := by rw [rs.2.1.1]; exact i3
        have v4 : v_in (nI j) (I 3 - 1) = 1 := by rw [rs.2.1.1]; exact j3
        obtain ⟨I1, A1, k1, k2, k3, k4⟩ := R_lengthOf (d := d + 1) (a := y) (h := h) (I := I) hT (show i < 6 by omega) (u.wf w) (rs.2.1.2 i i1) (u.to w rs.2.1)
        refine ⟨I1, A1, ?_, k4.sub (by decide) (by decide)⟩
        rw [rl0, nd_156_0 (St_run (d + 7) mt_156), mkR_o, R_isMachine (d := d + 5), v3, bind_some', rI_some, if_neg (by decide), mkR_o, R_isMachine (d := d + 5), v4, bind_some', rI_some, if_neg (by decide), mkR_o, k1, bind_some', rI_some, nd_156_26 (St_run (d + 7) mt_156)]
    · refine comb (s' := s) (r := -1) S (CO_same c ?_) (RO_same (fun h I A rs => ?_)) (w.mono (by omega))
      · rw [cl0, nd_87_0 (St_run (d + 7) mt_87), c1.o, C_mAt (d := d + 6) c1 c2 wK j j1, bind_some', rQ_some, c1.o, C_findLeast_bad (d := d + 1) c w m _ (Or.inl i2), bind_some', rI_some, nd_87_18 (St_run (d + 7) mt_87)]
      · have v3 : v_in m (I 3 - 1) = 0 := by rw [rs.2.1.1]; exact i1
        rw [rl0, nd_156_0 (St_run (d + 7) mt_156), mkR_o, R_isMachine (d := d + 5), v3, bind_some', rI_some, if_pos rfl, nd_156_25 (St_run (d + 7) mt_156), nd_156_26 (St_run (d + 7) mt_156)]
  · refine comb (s' := s) (r := -1) S (CO_same c ?_) (RO_same (fun h I A rs => ?_)) (w.mono (by omega))
    · rw [cl0, nd_87_0 (St_run (d + 7) mt_87), c1.o, C_mNo (d := d + 6) c1 wK m2 j2, bind_some', rQ_null, nd_87_18 (St_run (d + 7) mt_87)]
    · have v4 : v_in m2 (I 3 - 1) = 0 := by rw [rs.2.1.1]; exact j1
      rw [rl0, nd_156_0 (St_run (d + 7) mt_156), mkR_o, R_isMachine (d := d + 5), bind_some', rI_some, mkR_o, R_isMachine (d := d + 5), v4, bind_some', rI_some, if_pos (show (0 : Int32) = 0 from rfl), nd_156_25 (St_run (d + 7) mt_156), nd_156_26 (St_run (d + 7) mt_156), ite_self]
theorem op_partsAt (S : SS h x y s q) (m m2 x3 x4 : Int32) : OP d x y h q 88 157 [.int m, .int m2, .int x3, .int x4] := by
  obtain ⟨w, c, _, _⟩ := id S
  obtain ⟨X, c1, c2, _⟩ := id c
  have wK := w.2.1.1
  have cl0 : call (d + 8) 88 [.ref x, .int m, .int m2, .int x3, .int x4] h = run (d + 7) mt_88 0 [some (.ref x), some (.int m), some (.int m2), some (.int x3), some (.int x4)] [] h := call_at mt_88 [some (.ref x), some (.int m), some (.int m2), some (.int x3), some (.int x4)] rfl rfl rfl
  have rl0 : ∀ (h : AH) I A, call (d + 8) 157 [.ref y, .int m, .int m2, .int x3, .int x4] (mkR h y I A) = run (d + 7) mt_157 0 [some (.ref y), some (.int m), some (.int m2), some (.int x3), some (.int x4)] [] (mkR h y I A) := fun h I A => call_at mt_157 [some (.ref y), some (.int m), some (.int m2), some (.int x3), some (.int x4)] rfl rfl rfl
  rcases mach_cases w m2 with ⟨j, j1, rfl, j3⟩ | ⟨j1, j2⟩
  · rcases mach_cases w m with ⟨i, i1, rfl, i3⟩ | ⟨i1, i2⟩
    · have u : isU s (nI j) (s.2.1.2 j) := Or.inr ⟨j, j1, rfl, rfl⟩
      obtain ⟨h1, r, e1, e2, e3, e4⟩ := C_leastAt (d := d) c w i i1 u x3 x4
      refine comb (s' := s) (r := r) S ⟨h1, ?_, e2, e3⟩ (RO_scr (fun h I A rs => ?_)) (w.mono (by omega))
      · rw [cl0, nd_88_0 (St_run (d + 7) mt_88), c1.o, C_mAt (d := d + 6) c1 c2 wK j j1, bind_some', rQ_some, c1.o, e1, bind_some', rI_some, nd_88_21 (St_run (d + 7) mt_88)]
      · have v3 : v_in (nI i) (I 3 - 1) = 1 := by rw [rs.2.1.1]; exact i3
        have v4 : v_in (nI j) (I 3 - 1) = 1 := by rw [rs.2.1.1]; exact j3
        obtain ⟨I1, A1, k1, k2⟩ := R_leastAt (d := d) (y := y) (h := h) w i i1 u x3 x4 r rs e4
        refine ⟨I1, A1, ?_, k2.sub (by decide) (by decide)⟩
        rw [rl0, nd_157_0 (St_run (d + 7) mt_157), mkR_o, R_isMachine (d := d + 5), v3, bind_some', rI_some, if_neg (by decide), mkR_o, R_isMachine (d := d + 5), v4, bind_some', rI_some, if_neg (by decide), mkR_o, k1, bind_some', rI_some, nd_157_29 (St_run (d + 7) mt_157)]
    · refine comb (s' := s) (r := -1) S (CO_same c ?_) (RO_same (fun h I A rs => ?_)) (w.mono (by omega))
      · rw [cl0, nd_88_0 (St_run (d + 7) mt_88), c1.o, C_mAt (d := d + 6) c1 c2 wK j j1, bind_some', rQ_some, c1.o, C_leastAt_bad (d := d) c w m _ _ _ (Or.inl i2), bind_some', rI_some, nd_88_21 (St_run (d + 7) mt_88)]
      · have v3 : v_in m (I 3 - 1) = 0 := by rw [rs.2.1.1]; exact i1
        rw [rl0, nd_157_0 (St_run (d + 7) mt_157), mkR_o, R_isMachine (d := d + 5), v3, bind_some', rI_some, if_pos rfl, nd_157_28 (St_run (d + 7) mt_157), nd_157_29 (St_run (d + 7) mt_157)]
  · refine comb (s' := s) (r := -1) S (CO_same c ?_) (RO_same (fun h I A rs => ?_)) (w.mono (by omega))
    · rw [cl0, nd_88_0 (St_run (d + 7) mt_88), c1.o, C_mNo (d := d + 6) c1 wK m2 j2, bind_some', rQ_null, nd_88_21 (St_run (d + 7) mt_88)]
    · have v4 : v_in m2 (I 3 - 1) = 0 := by rw [rs.2.1.1]; exact j1
      rw [rl0, nd_157_0 (St_run (d + 7) mt_157), mkR_o, R_isMachine (d := d + 5), bind_some', rI_some, mkR_o, R_isMachine (d := d + 5), v4, bind_some', rI_some, if_pos (show (0 : Int32) = 0 from rfl), nd_157_28 (St_run (d + 7) mt_157), nd_157_29 (St_run (d + 7) mt_157), ite_self]
/-! within -/
theorem l_within {T U : TM} {i j : Nat} (hT : WFT T) (hU : WFT U) (hi : i < 6) (hj : j < 6) {B : BS} (g : GB T U B) : ∀ (m k : Nat) (I : Nat → Int32) (A : Nat → Nat → Int32) (b : Bool), k + m = B.1 → isT A i T → isT A j U → RB I A B → ∃ I' A', run (d + 4) mt_158 29 [some (.ref y), some (.int (nI i)), some (.int (nI j)), some (.int (bI b)), some (.int (nI k))] [] (mkR h y I A) = some (some (.int (bI (b && (fw (fun k => T.2.2.2 (B.2.1 k / 625 / 6) && !U.2.2.2 (B.2.1 k / 625 % 6)) m k).isNone))), mkR h y I' A') ∧ fra I I' A A' [23, 24] [25] := by
  have h1872 := GB_most hT hU g
  intro m
  induction m with
  | zero =>
    intro k I A b hk iT iU r
    have a22 := r.1
    refine ⟨I, A, ?_, fra.rf _ _ _ _⟩
    rw [nd_158_29 (St_run (d + 4) mt_158), mkR_g22, a22, if_pos (nI_le (by omega) (by omega)), nd_158_93 (St_run (d + 4) mt_158), nd_158_93 (St_run (d + 4) mt_158)]
    cases b <;> rfl
  | succ m ih =>
    intro k I A b hk iT iU r
    have hkB : k < B.1 := by omega
    have a22 := r.1
    have a19 := r.2.1 k hkB
    have hc := (g.2.2.1 k hkB).1
    rw [nd_158_29 (St_run (d + 4) mt_158), mkR_g22, a22, if_neg (nI_ge hkB (by omega))]
    cases b with
    | false =>
      obtain ⟨I1, A1, e1, e2⟩ := ih (k + 1) I A false (by omega) iT iU r
      refine ⟨I1, A1, ?_, e2⟩
      rw [if_pos (show bI false = 0 from rfl), nd_158_76 (St_run (d + 4) mt_158), nd_158_77 (St_run (d + 4) mt_158), nI_1]
      exact e1
    | true =>
      have gA := R_isGoodA (d := d + 2) (a := y) (h := h) (I := I) iT hi (B.2.1 k) hc
      have p1 : fra I (upd (upd I 24 (nI (B.2.1 k / 625 % 6))) 23 (nI (B.2.1 k / 625 / 6))) A (updA A 25 (qL (A 25) (lb (B.2.1 k)))) [23, 24] [25] := (((fra.rf _ _ _ _).u _ (by decide)).u _ (by decide)).w _ (by decide)
      rw [if_neg (show ¬ bI true = 0 by decide), mkR_g19, mkR_l19 _ _ _ _ (by omega), a19, mkR_o, gA, bind_some', rI_some]
      have iT1 := iT.fa p1 (by decide)
      have iU1 := iU.fa p1 (by decide)
      have r1 := r.fa p1 (by decide) (by decide)
      unfold fw
      cases hg : T.2.2.2 (B.2.1 k / 625 / 6) with
      | false =>
        obtain ⟨I1, A1, e1, e2⟩ := ih (k + 1) _ _ true (by omega) iT1 iU1 r1
        refine ⟨I1, A1, ?_, p1.tr e2⟩
        rw [if_pos (show bI false = 0 from rfl), nd_158_72 (St_run (d + 4) mt_158), nd_158_77 (St_run (d + 4) mt_158), nI_1, if_neg (by rw [Bool.false_and]; decide)]
        exact e1
      | true =>
        have a19' := r1.2.1 k hkB
        have gB := R_isGoodB (d := d + 2) (a := y) (h := h) (I := upd (upd I 24 (nI (B.2.1 k / 625 % 6))) 23 (nI (B.2.1 k / 625 / 6))) iU1 hj (B.2.1 k) hc
        have p2 := (((fra.rf (upd (upd I 24 (nI (B.2.1 k / 625 % 6))) 23 (nI (B.2.1 k / 625 / 6))) (updA A 25 (qL (A 25) (lb (B.2.1 k)))) [23, 24] [25]).u (k := 24) (nI (B.2.1 k / 625 % 6)) (by decide)).u (k := 23) (nI (B.2.1 k / 625 / 6)) (by decide)).w (k := 25) (qL ((updA A 25 (qL (A 25) (lb (B.2.1 k)))) 25) (lb (B.2.1 k))) (by decide)
        have p3 := p1.tr p2
        rw [if_neg (show ¬ bI true = 0 by decide), mkR_g19, mkR_l19 _ _ _ _ (by omega), a19', mkR_o, gB, bind_some', rI_some]
        cases hu : U.2.2.2 (B.2.1 k / 625 % 6) with
        | false =>
          obtain ⟨I1, A1, e1, e2⟩ := ih (k + 1) _ _ false (by omega) (iT.fa p3 (by decide)) (iU.fa p3 (by decide)) (r.fa p3 (by decide) (by decide))
          refine ⟨I1, A1, ?_, p3.tr e2⟩
          rw [if_pos (show bI false = 0 from rfl), nd_158_76 (St_run (d + 4) mt_158), nd_158_77 (St_run (d + 4) mt_158), nI_1, if_pos (by rfl)]
          exact e1
        | true =>
          obtain ⟨I1, A1, e1, e2⟩ := ih (k + 1) _ _ true (by omega) (iT.fa p3 (by decide)) (iU.fa p3 (by decide)) (r.fa p3 (by decide) (by decide))
          refine ⟨I1, A1, ?_, p3.tr e2⟩
          rw [if_neg (show ¬ bI true = 0 by decide), nd_158_72 (St_run (d + 4) mt_158), nd_158_77 (St_run (d + 4) mt_158), nI_1, if_neg (by decide)]
          exact e1
theorem pW2 (T U : TM) : pW 2 T U = fun k => T.2.2.2 ((bF T U).2.1 k / 625 / 6) && !U.2.2.2 ((bF T U).2.1 k / 625 % 6) := funext fun k => by
  unfold pW wtd
  rw [if_neg (by decide), if_pos rfl]
theorem op_within (S : SS h x y s q) (m m2 : Int32) : OP d x y h q 89 158 [.int m, .int m2] := by
  obtain ⟨w, c, _, _⟩ := id S
  obtain ⟨X, c1, c2, c3, c4, c5, c6, ⟨I, A, k1, k2⟩, _, _, c10, _⟩ := id c
  have wK := w.2.1.1
  have cl0 : call (d + 8) 89 [.ref x, .int m, .int m2] h = run (d + 7) mt_89 0 [some (.ref x), some (.int m), some (.int m2), none, none] [] h := call_at mt_89 [some (.ref x), some (.int m), some (.int m2), none, none] rfl rfl rfl
  have rl0 : ∀ (h : AH) I A, call (d + 8) 158 [.ref y, .int m, .int m2] (mkR h y I A) = run (d + 7) mt_158 0 [some (.ref y), some (.int m), some (.int m2), none, none] [] (mkR h y I A) := fun h I A => call_at mt_158 [some (.ref y), some (.int m), some (.int m2), none, none] rfl rfl rfl
  rcases mach_cases w m with ⟨i, i1, rfl, i3⟩ | ⟨i1, i2⟩
  · have ma := C_mAt (d := d + 6) c1 c2 wK i i1
    rcases mach_cases w m2 with ⟨j, j1, rfl, j3⟩ | ⟨j1, j2⟩
    · have hT := w.2.1.2 i i1
      have hU := w.2.1.2 j j1
      obtain ⟨M1, m1, t1, _⟩ := c10.1 i i1
      obtain ⟨M2, m2, t2, _⟩ := c10.1 j j1
      obtain ⟨I1, A1, N, e1, e2, e3, e4, e5, e6⟩ := W_explore (d := d + 3) (a := x + 17) (h := h) (I := I) (A := A) (fun J C => m1.fr (mkW_Fr h (x + 17) J C) (by unfold mo; omega)) t1 hT (fun J C => m2.fr (mkW_Fr h (x + 17) J C) (by unfold mo; omega)) t2 hU 2 (by omega) k2
      rw [← mkW_self k1] at e1
      have wv := e3.v hT hU (bf_GB hT hU N)
      have fr1 := mkW_Fr h (x + 17) I1 A1
      refine comb (s' := s) (r := bI (fw (pW 2 (s.2.1.2 i) (s.2.1.2 j)) (bF (s.2.1.2 i) (s.2.1.2 j)).1 0).isNone) S ⟨_, ?_, c.wlk w ⟨I1, A1, mkW_is _ _ _ _, wv⟩ fr1, fr1.sub (by omega) (by omega)⟩ (RO_scr (fun h I A rs => ?_)) (w.mono (by omega))
      · have e1' : call (d + 7) 41 [.ref (x + 17), .ref (mo x i), .ref (mo x j), .int 2] h = some (some (.int (oI (fw (pW 2 (s.2.1.2 i) (s.2.1.2 j)) (bF (s.2.1.2 i) (s.2.1.2 j)).1 0))), mkW h (x + 17) I1 A1) := e1
        rw [cl0, nd_89_0 (St_run (d + 7) mt_89), c1.o, ma, bind_some', rQ_some, c1.o, C_mAt (d := d + 6) c1 c2 wK j j1, bind_some', rQ_some, c1.g9, k1.o, e1', bind_some', rI_some, nd_89_45 (St_run (d + 7) mt_89), nd_89_45 (St_run (d + 7) mt_89)]
        cases hf : fw (pW 2 (s.2.1.2 i) (s.2.1.2 j)) (bF (s.2.1.2 i) (s.2.1.2 j)).1 0 with
        | none => rw [if_pos (show oI none = -4 from rfl)]; rfl
        | some e =>
          have h1 := GB_most hT hU (bF_GB hT hU)
          have h2 := fw_lt hf
          rw [if_neg (show ¬ oI (some e) = -4 from fun e' => by rw [L_m4] at e'; have := e'.symm; exact absurd this (fun f => by rw [show oI (some _) = nI _ from rfl, NO_eq (by omega)] at f; exact f))]
          rfl
      · have v3 : v_in (nI i) (I 3 - 1) = 1 := by rw [rs.2.1.1]; exact i3
        have v4 : v_in (nI j) (I 3 - 1) = 1 := by rw [rs.2.1.1]; exact j3
        have iT := rs.2.1.2 i i1
        have iU := rs.2.1.2 j j1
        obtain ⟨I1, A1, f1, f2, f3⟩ := R_explores (d := d + 3) (a := y) (h := h) (I := I) hT (show i < 6 by omega) hU iT (Or.inl ⟨j, by omega, rfl, iU⟩)
        obtain ⟨I2, A2, g1, g2⟩ := l_within (d := d + 3) (y := y) (h := h) hT hU (show i < 6 by omega) (show j < 6 by omega) (bF_GB hT hU) (bF (s.2.1.2 i) (s.2.1.2 j)).1 0 I1 A1 true (by omega) (iT.fa f3 (by decide)) (iU.fa f3 (by decide)) f2
        refine ⟨I2, A2, ?_, (f3.sub (by decide) (by decide)).tr (g2.sub (by decide) (by decide))⟩
        rw [rl0, nd_158_0 (St_run (d + 7) mt_158), mkR_o, R_isMachine (d := d + 5), v3, bind_some', rI_some, if_neg (by decide), mkR_o, R_isMachine (d := d + 5), v4, bind_some', rI_some, if_neg (by decide), mkR_o, f1, bind_some', rV_some, pW2]
        rw [Bool.true_and] at g1
        exact g1
    · refine comb (s' := s) (r := -1) S (CO_same c ?_) (RO_same (fun h I A rs => ?_)) (w.mono (by omega))
      · rw [cl0, nd_89_0 (St_run (d + 7) mt_89), c1.o, ma, bind_some', rQ_some, c1.o, C_mNo (d := d + 6) c1 wK m2 j2, bind_some', rQ_null, nd_89_22 (St_run (d + 7) mt_89)]
      · have v4 : v_in m2 (I 3 - 1) = 0 := by rw [rs.2.1.1]; exact j1
        rw [rl0, nd_158_0 (St_run (d + 7) mt_158), mkR_o, R_isMachine (d := d + 5), bind_some', rI_some, mkR_o, R_isMachine (d := d + 5), v4, bind_some', rI_some, if_pos (show (0 : Int32) = 0 from rfl), nd_158_16 (St_run (d + 7) mt_158), ite_self]
  · refine comb (s' := s) (r := -1) S (CO_same c ?_) (RO_same (fun h I A rs => ?_)) (w.mono (by omega))
    · rw [cl0, nd_89_0 (St_run (d + 7) mt_89), c1.o, C_mNo (d := d + 6) c1 wK m i2, bind_some', rQ_null, c1.o]
      rcases mach_cases w m2 with ⟨j, j1, rfl, j3⟩ | ⟨j1, j2⟩
      · rw [C_mAt (d := d + 6) c1 c2 wK j j1, bind_some', rQ_some, nd_89_22 (St_run (d + 7) mt_89)]
      · rw [C_mNo (d := d + 6) c1 wK m2 j2, bind_some', rQ_null, nd_89_22 (St_run (d + 7) mt_89)]
    · have v3 : v_in m (I 3 - 1) = 0 := by rw [rs.2.1.1]; exact i1
      rw [rl0, nd_158_0 (St_run (d + 7) mt_158), mkR_o, R_isMachine (d := d + 5), v3, bind_some', rI_some, if_pos rfl, nd_158_16 (St_run (d + 7) mt_158)]
/-! show -/
theorem LLf_lt {T U : TM} (hT : WFT T) (hU : WFT U) {n j : Nat} (h : lenF T U = some n) (hj : j < n) : LLf T U j < 3 := by
  unfold lenF at h
  cases hw : wF T U with
  | none => rw [hw] at h; cases h
  | some e =>
    rw [hw] at h
    have h4 : wn (bF T U) e = n := Option.some.inj h
    unfold LLf
    rw [hw, LLo_s]
    exact ((wW hT hU (bF_GB hT hU) (wF_lt hw)).1.2 j (by omega)).2.1
theorem l_show {T U : TM} {i n e : Nat} {x2 : Int32} (hT : WFT T) (hU : WFT U) (hi : i < 6) {B : BS} (g : GB T U B) (he : e < B.1) (hn : wn B e = n) (h40 : n ≤ 40) : ∀ (m k : Nat) (I : Nat → Int32) (A : Nat → Nat → Int32), k + m = n → isT A i T → isTo A x2 U → RB I A B → (∀ j, j < n → A 27 j = nI (wX B e (j + 1))) → (∀ j, j < k → A 1 j = nI (wL B e j) ∧ A 2 j = nI (tlx T U (wC B e) (wL B e) (wV B e) j)) → ∃ I' A', run (d + 3) mt_159 52 [some (.ref y), some (.int (nI i)), some (.int x2), some (.int (nI n)), some (.int (nI k))] [] (mkR h y I A) = some (some (.int (nI n)), mkR h y I' A') ∧ I' 0 = nI n ∧ (∀ j, j < n → A' 1 j = nI (wL B e j) ∧ A' 2 j = nI (tlx T U (wC B e) (wL B e) (wV B e) j)) ∧ fra I I' A A' [0, 23, 24, 28, 29] [1, 2, 25, 30] := by
  intro m
  induction m with
  | zero =>
    intro k I A hk iT iU r l27 hA
    have : k = n := by omega
    subst this
    refine ⟨upd I 0 (nI k), A, ?_, pk_us, hA, (fra.rf _ _ _ _).u _ (by decide)⟩
    rw [nd_159_52 (St_run (d + 3) mt_159), if_pos (nI_le (Nat.le_refl _) (by omega)), mkR_p0]
  | succ m ih =>
    intro k I A hk iT iU r l27 hA
    obtain ⟨I1, A1, e1, e2, e3, e4⟩ := R_tells (d := d) (a := y) (h := h) hT hi hU g e he k (by omega) iT iU r (by rw [hn]; exact l27)
    have p1 : fra I I1 A (updA (updA A1 1 (upd (A1 1) k (nI (wL B e k)))) 2 (upd (A1 2) k (nI (tlx T U (wC B e) (wL B e) (wV B e) k)))) [0, 23, 24, 28, 29] [1, 2, 25, 30] := ((e4.sub (by decide) (by decide)).w _ (by decide)).w _ (by decide)
    obtain ⟨I2, A2, f1, f2, f3, f4⟩ := ih (k + 1) I1 _ (by omega) (iT.fa p1 (by decide)) (iU.fa p1 (by decide)) (r.fa p1 (by decide) (by decide)) (fun j hj => by rw [p1.2 27 (by decide)]; exact l27 j hj) (fun j hj => by
      show upd (A1 1) k (nI (wL B e k)) j = _ ∧ upd (A1 2) k (nI (tlx T U (wC B e) (wL B e) (wV B e) k)) j = _
      by_cases hjk : j = k
      · rw [hjk, pk_us, pk_us]
        exact ⟨rfl, rfl⟩
      · rw [pk_un hjk, pk_un hjk, e4.2 1 (by decide), e4.2 2 (by decide)]
        exact hA j (by omega))
    refine ⟨I2, A2, ?_, f2, f3, p1.tr f4⟩
    rw [nd_159_52 (St_run (d + 3) mt_159), if_neg (nI_ge (by omega) (by omega)), mkR_o, e1, bind_some', rV_some, mkR_g1, mkR_g28, e2, mkR_s1 _ _ _ _ (by omega), mkR_g2, mkR_g29, e3, mkR_s2 _ _ _ _ (by omega), nI_1]
    exact f1
theorem op_show (S : SS h x y s q) (m m2 : Int32) : OP d x y h q 90 159 [.int m, .int m2] := by
  obtain ⟨w, c, _, _⟩ := id S
  obtain ⟨X, c1, c2, _⟩ := id c
  have wK := w.2.1.1
  have cl0 : call (d + 8) 90 [.ref x, .int m, .int m2] h = run (d + 7) mt_90 0 [some (.ref x), some (.int m), some (.int m2), none] [] h := call_at mt_90 [some (.ref x), some (.int m), some (.int m2), none] rfl rfl rfl
  have rl0 : ∀ (h : AH) I A, call (d + 8) 159 [.ref y, .int m, .int m2] (mkR h y I A) = run (d + 7) mt_159 0 [some (.ref y), some (.int m), some (.int m2), none, none] [] (mkR h y I A) := fun h I A => call_at mt_159 [some (.ref y), some (.int m), some (.int m2), none, none] rfl rfl rfl
  have bad : ((∀ i, i < s.2.1.1 → m ≠ nI i) ∨ (m2 ≠ NO ∧ ∀ i, i < s.2.1.1 → m2 ≠ nI i)) → (∀ h I A, RS I A s → call (d + 8) 159 [.ref y, .int m, .int m2] (mkR h y I A) = some (some (.int (-1)), mkR h y I A)) → OP d x y h q 90 159 [.int m, .int m2] := by
    intro hb hr
    refine comb (s' := s) (r := -1) S (CO_same c ?_) (RO_same hr) (w.mono (by omega))
    rw [cl0, nd_90_0 (St_run (d + 7) mt_90), c1.o, C_findLeast_bad (d := d + 1) c w m m2 hb, bind_some', rI_some, if_pos (by decide), if_pos (by decide), nd_90_31 (St_run (d + 7) mt_90)]
  rcases mach_cases w m with ⟨i, i1, rfl, i3⟩ | ⟨i1, i2⟩
  · have hT := w.2.1.2 i i1
    have main : ∀ U, isU s m2 U → (∀ (h : AH) I A, RS I A s → call (d + 8) 159 [.ref y, .int (nI i), .int m2] (mkR h y I A) = run (d + 7) mt_159 24 [some (.ref y), some (.int (nI i)), some (.int m2), none, none] [] (mkR h y I A)) → OP d x y h q 90 159 [.int (nI i), .int m2] := by
      intro U u hr
      have hU := u.wf w
      obtain ⟨h1, D, e1, e2, e3, e4, e5⟩ := C_findLeast (d := d + 1) c w i i1 u
      obtain ⟨X1, t1, _, ⟨R, r1, _⟩, _⟩ := id e2
      have cl1 : call (d + 8) 90 [.ref x, .int (nI i), .int m2] h = if oI (lenF (s.2.1.2 i) U) ≤ 40 then (if oI (lenF (s.2.1.2 i) U) < 0 then some (some (.int (oI (lenF (s.2.1.2 i) U))), h1) else ((call (d + 7) 26 [.ref (x + 1), .ref (x + 36)] h1).bind fun q6 => rV q6 fun h7 => some (some (.int (oI (lenF (s.2.1.2 i) U))), h7))) else (some (some (.int (-3)), h1)) := by
        rw [cl0, nd_90_0 (St_run (d + 7) mt_90), c1.o, e1, bind_some', rI_some, t1.g0, t1.g10, r1.o, nd_90_31 (St_run (d + 7) mt_90)]
        simp only [nd_90_31 (St_run (d + 7) mt_90)]
      have rl1 : ∀ (h : AH) I A, RS I A s → ∃ I1 A1, call (d + 8) 159 [.ref y, .int (nI i), .int m2] (mkR h y I A) = (if oI (lenF (s.2.1.2 i) U) = -4 then some (some (.int (-4)), mkR h y I1 A1) else if oI (lenF (s.2.1.2 i) U) ≤ 40 then run (d + 7) mt_159 52 [some (.ref y), some (.int (nI i)), some (.int m2), some (.int (oI (lenF (s.2.1.2 i) U))), some (.int 0)] [] (mkR h y I1 A1) else some (some (.int (-3)), mkR h y I1 A1)) ∧ RB I1 A1 (bF (s.2.1.2 i) U) ∧ (∀ e, wF (s.2.1.2 i) U = some e → ∀ j, j < wn (bF (s.2.1.2 i) U) e → A1 27 j = nI (wX (bF (s.2.1.2 i) U) e (j + 1))) ∧ fra I I1 A A1 [22, 23, 24] [17, 19, 20, 21, 25, 26, 27] := by
        intro h I A rs
        obtain ⟨I1, A1, k1, k2, k3, k4⟩ := R_lengthOf (d := d + 1) (a := y) (h := h) (I := I) hT (show i < 6 by omega) hU (rs.2.1.2 i i1) (u.to w rs.2.1)
        refine ⟨I1, A1, ?_, k2, k3, k4⟩
        rw [hr h I A rs, nd_159_24 (St_run (d + 7) mt_159), mkR_o, k1, bind_some', rI_some]
      cases hl : lenF (s.2.1.2 i) U with
      | none =>
        rw [hl] at cl1
        refine comb (s' := s) (r := NO) S ⟨h1, ?_, e2, Fs_98 e5⟩ (RO_scr (fun h I A rs => ?_)) (w.mono (by omega))
        · rw [cl1, if_pos (by decide), if_pos (by decide)]
          rfl
        · obtain ⟨I1, A1, k1, k2, k3, k4⟩ := rl1 h I A rs
          rw [hl] at k1
          refine ⟨I1, A1, ?_, k4.sub (by decide) (by decide)⟩
          rw [k1, if_pos (show oI none = -4 from rfl)]
          rfl
      | some n =>
        have hn := lenF_lt hT hU hl
        have hne : ¬ oI (some n) = -4 := fun e' => by rw [L_m4] at e'; have := e'.symm; exact absurd this (fun f => by rw [show oI (some n) = nI n from rfl, NO_eq (by omega)] at f; exact f)
        rw [hl] at cl1
        by_cases h40 : n ≤ 40
        · obtain ⟨f1, f2⟩ := e4 n hl
          obtain ⟨h2, f, g, b1, b2, b3, b4⟩ := C_becomeAs (d := d + 5) r1 e3 f1 h40 (by omega)
          have hLN : ∃ (L : Nat → Nat) (Nm : Nat → Int32), (∀ j, L j = LLf (s.2.1.2 i) U j) ∧ (∀ j, Nm j = nI (NNf (s.2.1.2 i) U j)) := ⟨_, _, fun _ => rfl, fun _ => rfl⟩
          obtain ⟨L, Nm, hL, hN⟩ := hLN
          refine comb (s' := ((n, (L, Nm)), s.2)) (r := nI n) S ⟨h2, ?_, e2.row w ⟨_, b2, rfl, fun j hj => ?_⟩ b4, (Fs_98 e5).tr (b4.sub (by omega) (by omega))⟩ (fun h I A rs => ?_) ⟨⟨h40, fun j hj => by show L j < 3; rw [hL]; exact LLf_lt hT hU hl hj⟩, (w.mono (Nat.le_succ q)).2⟩
          · rw [cl1, if_pos (show oI (some n) ≤ 40 from nI_le (b := 40) h40 (by decide)), if_neg (show ¬ oI (some n) < 0 from nI_pos (by omega)), b1, bind_some', rV_some]
            rfl
          · obtain ⟨b5, b6⟩ := b3 j hj
            obtain ⟨b7, b8⟩ := f2 j hj
            exact ⟨b5.trans (b7.trans (congrArg nI (hL j).symm)), b6.trans (b8.trans (hN j).symm)⟩
          · obtain ⟨I1, A1, k1, k2, k3, k4⟩ := rl1 h I A rs
            rw [hl] at k1
            cases hw : wF (s.2.1.2 i) U with
            | none => unfold lenF at hl; rw [hw] at hl; cases hl
            | some e =>
              have hwn : wn (bF (s.2.1.2 i) U) e = n := by
                unfold lenF at hl
                rw [hw] at hl
                exact Option.some.inj hl
              obtain ⟨I2, A2, n1, n2, n3, n4⟩ := l_show (d := d + 4) (y := y) (h := h) (x2 := m2) hT hU (show i < 6 by omega) (bF_GB hT hU) (wF_lt hw) hwn h40 n 0 I1 A1 (by omega) ((rs.2.1.2 i i1).fa k4 (by decide)) ((u.to w rs.2.1).fa k4 (by decide)) k2 (by rw [← hwn]; exact k3 e hw) (fun j hj => by omega)
              have p := (k4.sub (js' := [0, 22, 23, 24, 28, 29]) (ks' := [1, 2, 17, 19, 20, 21, 25, 26, 27, 30]) (by decide) (by decide)).tr (n4.sub (by decide) (by decide))
              refine ⟨I2, A2, ?_, ⟨n2, fun j hj => ?_⟩, rs.2.1.fa p (by decide) (by decide), rs.2.2.1.fa p (by decide) (by decide), rs.2.2.2.fa p (by decide)⟩
              · rw [k1, if_neg hne, if_pos (show oI (some n) ≤ 40 from nI_le (b := 40) h40 (by decide))]
                exact n1
              · show A2 1 j = nI (L j) ∧ A2 2 j = Nm j
                rw [hL, hN]
                unfold LLf NNf
                rw [hw, LLo_s, NNo_s]
                exact n3 j hj
        · have hgt : ¬ oI (some n) ≤ 40 := fun e => h40 (by
            have e' : nI n ≤ nI 40 := e
            by_cases h5 : n ≤ 40
            · exact h5
            · exact absurd e' (nI_ge (by omega) (by omega)))
          refine comb (s' := s) (r := -3) S ⟨h1, ?_, e2, Fs_98 e5⟩ (RO_scr (fun h I A rs => ?_)) (w.mono (by omega))
          · rw [cl1, if_neg hgt]
          · obtain ⟨I1, A1, k1, k2, k3, k4⟩ := rl1 h I A rs
            rw [hl] at k1
            refine ⟨I1, A1, ?_, k4.sub (by decide) (by decide)⟩
            rw [k1, if_neg hne, if_neg hgt]
    by_cases h2 : m2 = NO
    · refine main T0 (Or.inl ⟨h2, rfl⟩) (fun h I A rs => ?_)
      have v3 : v_in (nI i) (I 3 - 1) = 1 := by rw [rs.2.1.1]; exact i3
      rw [rl0, nd_159_0 (St_run (d + 7) mt_159), mkR_o, R_isMachine (d := d + 5), v3, bind_some', rI_some, if_neg (by decide), if_pos (h2.trans L_m4.symm)]
    · rcases mach_cases w m2 with ⟨j, j1, rfl, j3⟩ | ⟨j1, j2⟩
      · refine main (s.2.1.2 j) (Or.inr ⟨j, j1, rfl, rfl⟩) (fun h I A rs => ?_)
        have v3 : v_in (nI i) (I 3 - 1) = 1 := by rw [rs.2.1.1]; exact i3
        have v4 : v_in (nI j) (I 3 - 1) = 1 := by rw [rs.2.1.1]; exact j3
        rw [rl0, nd_159_0 (St_run (d + 7) mt_159), mkR_o, R_isMachine (d := d + 5), v3, bind_some', rI_some, if_neg (by decide), if_neg (fun e => h2 (e.trans L_m4)), mkR_o, R_isMachine (d := d + 5), v4, bind_some', rI_some, if_neg (by decide)]
      · refine bad (Or.inr ⟨h2, j2⟩) (fun h I A rs => ?_)
        have v3 : v_in (nI i) (I 3 - 1) = 1 := by rw [rs.2.1.1]; exact i3
        have v4 : v_in m2 (I 3 - 1) = 0 := by rw [rs.2.1.1]; exact j1
        rw [rl0, nd_159_0 (St_run (d + 7) mt_159), mkR_o, R_isMachine (d := d + 5), v3, bind_some', rI_some, if_neg (by decide), if_neg (fun e => h2 (e.trans L_m4)), mkR_o, R_isMachine (d := d + 5), v4, bind_some', rI_some, if_pos rfl, nd_159_22 (St_run (d + 7) mt_159)]
  · refine bad (Or.inl i2) (fun h I A rs => ?_)
    have v3 : v_in m (I 3 - 1) = 0 := by rw [rs.2.1.1]; exact i1
    rw [rl0, nd_159_0 (St_run (d + 7) mt_159), mkR_o, R_isMachine (d := d + 5), v3, bind_some', rI_some, if_pos rfl, nd_159_22 (St_run (d + 7) mt_159)]
end OPS8
