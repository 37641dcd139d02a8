/-! ===== watch, see, seen ===== -/
/-- a watch more -/
theorem isC.addW {h h1 : AH} {x : Nat} {s : SG} {q i : Nat} {v : WS} (c : isC h x s) (w : WFS s q) (hi : i < s.2.1.1) (hv : v.1 = i) (hW : s.2.2.1.1 < 4) (t : ∀ X, cTop h x s.2.1.1 s.2.2.1.1 X → cTop h1 x s.2.1.1 (s.2.2.1.1 + 1) X) (m : cM1 h1 (mo x i) (s.2.1.2 i) true) (n : cW1 h1 x (wo x s.2.2.1.1) v) (p : Fs h h1 [(x, 1), (mo x i, 5), (wo x s.2.2.1.1, 4)]) : isC h1 x (s.1, (s.2.1, ((s.2.2.1.1 + 1, setW s.2.2.1.2 s.2.2.1.1 v), s.2.2.2))) := by
  obtain ⟨X, c1, c2, c3, c4, c5, c6, c7, c8, c9, c10, c11, c12, c13⟩ := c
  have w1 := w.2.1.1
  have D : ∀ o k, 1 ≤ o → (o + k ≤ 39 ∨ 74 ≤ o) → (o + k ≤ 74 ∨ 90 ≤ o) → dj (x + o) k [(x, 1), (mo x i, 5), (wo x s.2.2.1.1, 4)] := fun o k ho hp hk => dj.cons (by omega) (dj.cons (by unfold mo; omega) (dj.cons (by unfold wo; omega) (dj.nil _ _)))
  have DM : ∀ j, j < 7 → j ≠ i → dj (mo x j) 5 [(x, 1), (mo x i, 5), (wo x s.2.2.1.1, 4)] := fun j h7 hj => dj.cons (by unfold mo; omega) (dj.cons (by unfold mo; omega) (dj.cons (by unfold mo wo; omega) (dj.nil _ _)))
  have DW : ∀ j, j ≠ s.2.2.1.1 → dj (wo x j) 4 [(x, 1), (mo x i, 5), (wo x s.2.2.1.1, 4)] := fun j hj => dj.cons (by unfold wo; omega) (dj.cons (by unfold mo wo; omega) (dj.cons (by unfold wo; omega) (dj.nil _ _)))
  refine ⟨X, t X c1, c2.fs p (D 4 3 (by omega) (by omega) (by omega)), c3.fs p (D 1 3 (by omega) (by omega) (by omega)), c4.fs p (D 7 5 (by omega) (by omega) (by omega)), c5.fs p (D 12 2 (by omega) (by omega) (by omega)), c6.fs p (D 14 3 (by omega) (by omega) (by omega)), c7.fs p (D 17 13 (by omega) (by omega) (by omega)), c8.fs p (D 30 6 (by omega) (by omega) (by omega)), c9.fs p (D 36 3 (by omega) (by omega) (by omega)), ⟨fun j hj => ?_, fun j h1 h2 => ?_⟩, ⟨fun j hj => ?_, fun j h1 h2 => ?_⟩, c12.fs p (D 90 8 (by omega) (by omega) (by omega)), c13⟩
  · show cM1 h1 (mo x j) (s.2.1.2 j) (wdB (s.2.2.1.1 + 1, setW s.2.2.1.2 s.2.2.1.1 v) j)
    rw [wdB_new]
    have hj' : j < s.2.1.1 := hj
    by_cases e : j = i
    · rw [e, hv, beq_self_eq_true, Bool.or_true]; exact m
    · rw [hv, beq_eq_false_iff_ne.mpr (fun e2 => e e2.symm), Bool.or_false]
      exact (c10.1 j hj).fs p (DM j (by omega) e)
  · have h1' : s.2.1.1 ≤ j := h1
    obtain ⟨M', a⟩ := c10.2 j h1 h2
    exact ⟨M', a.fs p (DM j h2 (by omega))⟩
  · show cW1 h1 x (wo x j) (setW s.2.2.1.2 s.2.2.1.1 v j)
    have hj' : j < s.2.2.1.1 + 1 := hj
    by_cases e : j = s.2.2.1.1
    · rw [e, setW_at]; exact n
    · rw [setW_ne e]
      exact (c11.1 j (by omega)).fs p (DW j e)
  · have h1' : s.2.2.1.1 + 1 ≤ j := h1
    obtain ⟨v', g, e, D', a1, a2⟩ := c11.2 j (by omega) h2
    exact ⟨v', g, e, D', p.at ((DW j (by omega)).one (by omega) (by omega)) a1, a2.fs p ((DW j (by omega)).mono (by omega) (by omega))⟩
/-- a watch goes on -/
theorem isC.updW {h h1 : AH} {x : Nat} {s : SG} {q i : Nat} {v : WS} (c : isC h x s) (w : WFS s q) (hi : i < s.2.2.1.1) (hv : v.1 = (s.2.2.1.2 i).1) (n : cW1 h1 x (wo x i) v) (p : Fr h h1 (wo x i) 4) : isC h1 x (s.1, (s.2.1, ((s.2.2.1.1, setW s.2.2.1.2 i v), s.2.2.2))) := by
  obtain ⟨X, c1, c2, c3, c4, c5, c6, c7, c8, c9, c10, c11, c12, c13⟩ := c
  have w1 := w.2.1.1
  have w2 := w.2.2.1.1
  have D : ∀ o k, (o + k ≤ 74 ∨ 90 ≤ o) → dj (x + o) k [(wo x i, 4)] := fun o k hk => dj.cons (by unfold wo; omega) (dj.nil _ _)
  have DW : ∀ j, j ≠ i → dj (wo x j) 4 [(wo x i, 4)] := fun j hj => dj.cons (by unfold wo; omega) (dj.nil _ _)
  have cm := c10.fs p.s (D 39 35 (by omega)) (by omega)
  refine ⟨X, c1.fs p.s (D 0 1 (by omega)), c2.fs p.s (D 4 3 (by omega)), c3.fs p.s (D 1 3 (by omega)), c4.fs p.s (D 7 5 (by omega)), c5.fs p.s (D 12 2 (by omega)), c6.fs p.s (D 14 3 (by omega)), c7.fs p.s (D 17 13 (by omega)), c8.fs p.s (D 30 6 (by omega)), c9.fs p.s (D 36 3 (by omega)), ⟨fun j hj => ?_, cm.2⟩, ⟨fun j hj => ?_, fun j h1 h2 => ?_⟩, c12.fs p.s (D 90 8 (by omega)), c13⟩
  · show cM1 h1 (mo x j) (s.2.1.2 j) (wdB (s.2.2.1.1, setW s.2.2.1.2 i v) j)
    rw [wdB_same j hv]
    exact cm.1 j hj
  · show cW1 h1 x (wo x j) (setW s.2.2.1.2 i v j)
    by_cases e : j = i
    · rw [e, setW_at]; exact n
    · rw [setW_ne e]
      exact (c11.1 j hj).fs p.s (DW j e)
  · have h1' : s.2.2.1.1 ≤ j := h1
    obtain ⟨v', g, e, D', a1, a2⟩ := c11.2 j h1 h2
    exact ⟨v', g, e, D', p.s.at ((DW j (by omega)).one (by omega) (by omega)) a1, a2.fs p.s ((DW j (by omega)).mono (by omega) (by omega))⟩
/-- one watch of the reference has changed -/
def frW (A A' : Nat → Nat → Int32) (w : Nat) : Prop := (∀ k, k = 32 ∨ k = 33 ∨ k = 36 ∨ k = 37 ∨ k = 38 → ∀ j, j ≠ w → A' k j = A k j) ∧ (∀ k, k = 34 ∨ k = 35 → ∀ j, j ≠ 2 * w → j ≠ 2 * w + 1 → A' k j = A k j)
theorem rsW1.ot {A A' : Nat → Nat → Int32} {w j : Nat} {v : WS} (q : rsW1 A j v) (f : frW A A' w) (hj : j ≠ w) : rsW1 A' j v := by
  obtain ⟨q1, q2, q3, q4, q5, q6, q7⟩ := q
  refine ⟨?_, ?_, fun r hr => ?_, fun r hr hl => ?_, ?_, ?_, ?_⟩
  · rw [f.1 32 (by omega) j hj]; exact q1
  · rw [f.1 33 (by omega) j hj]; exact q2
  · rw [f.2 34 (by omega) _ (by omega) (by omega)]; exact q3 r hr
  · rw [f.2 35 (by omega) _ (by omega) (by omega)]; exact q4 r hr hl
  · rw [f.1 36 (by omega) j hj]; exact q5
  · rw [f.1 37 (by omega) j hj]; exact q6
  · rw [f.1 38 (by omega) j hj]; exact q7
theorem frW.fa {I I1 : Nat → Int32} {A A1 A2 : Nat → Nat → Int32} {js ks : List Nat} {w : Nat} (f : frW A A1 w) (p : fra I I1 A1 A2 js ks) (hk : 32 ∉ ks ∧ 33 ∉ ks ∧ 34 ∉ ks ∧ 35 ∉ ks ∧ 36 ∉ ks ∧ 37 ∉ ks ∧ 38 ∉ ks) : frW A A2 w := by
  obtain ⟨h2, h3, h4, h5, h6, h7, h8⟩ := hk
  refine ⟨fun k hk j hj => ?_, fun k hk j h1 h2 => ?_⟩
  · rw [p.2 k (by rcases hk with rfl | rfl | rfl | rfl | rfl <;> assumption)]; exact f.1 k hk j hj
  · rw [p.2 k (by rcases hk with rfl | rfl <;> assumption)]; exact f.2 k hk j h1 h2
theorem frW.rf (A : Nat → Nat → Int32) (w : Nat) : frW A A w := ⟨fun _ _ _ _ => rfl, fun _ _ _ _ _ => rfl⟩
theorem frW.w {A A1 : Nat → Nat → Int32} {w k : Nat} (f : frW A A1 w) (x : Int32) (hk : k ≠ 34) (hk2 : k ≠ 35) : frW A (updA A1 k (upd (A1 k) w x)) w := by
  refine ⟨fun k' hk' j hj => ?_, fun k' hk' j h1 h2 => ?_⟩
  · by_cases e : k' = k
    · rw [e, updA_at, pk_un hj, ← e]; exact f.1 k' hk' j hj
    · rw [updA_ne e]; exact f.1 k' hk' j hj
  · rw [updA_ne (by omega)]; exact f.2 k' hk' j h1 h2
theorem frW.z {A A1 : Nat → Nat → Int32} {w k i : Nat} (f : frW A A1 w) (x : Int32) (hk : k = 34 ∨ k = 35) (hi : i = 2 * w ∨ i = 2 * w + 1) : frW A (updA A1 k (upd (A1 k) i x)) w := by
  refine ⟨fun k' hk' j hj => ?_, fun k' hk' j h1 h2 => ?_⟩
  · rw [updA_ne (by omega)]; exact f.1 k' hk' j hj
  · by_cases e : k' = k
    · rw [e, updA_at, pk_un (by omega), ← e]; exact f.2 k' hk' j h1 h2
    · rw [updA_ne e]; exact f.2 k' hk' j h1 h2
section OPS9
variable {d x y q : Nat} {h : AH} {s : SG}
theorem wat_cases (w : WFS s q) (m : Int32) : (∃ i, i < s.2.2.1.1 ∧ m = nI i ∧ v_in m (nI s.2.2.1.1 - 1) = 1) ∨ (v_in m (nI s.2.2.1.1 - 1) = 0 ∧ ∀ i, i < s.2.2.1.1 → m ≠ nI i) := by
  have w2 := w.2.2.1.1
  rcases inC m s.2.2.1.1 (by omega) with e | ⟨e1, e2, _⟩
  · exact Or.inl e
  · exact Or.inr ⟨e1, e2⟩
theorem op_seen (S : SS h x y s q) (m k : Int32) : OP d x y h q 95 163 [.int m, .int k] := by
  obtain ⟨w, c, _, _⟩ := id S
  obtain ⟨X, c1, c2, _, _, _, _, _, _, _, _, c11, _⟩ := id c
  have wW := w.2.2.1.1
  have cl0 : call (d + 8) 95 [.ref x, .int m, .int k] h = run (d + 7) mt_95 0 [some (.ref x), some (.int m), some (.int k), none] [] h := call_at mt_95 [some (.ref x), some (.int m), some (.int k), none] rfl rfl rfl
  have rl0 : ∀ (h : AH) I A, call (d + 8) 163 [.ref y, .int m, .int k] (mkR h y I A) = run (d + 7) mt_163 0 [some (.ref y), some (.int m), some (.int k)] [] (mkR h y I A) := fun h I A => call_at mt_163 [some (.ref y), some (.int m), some (.int k)] rfl rfl rfl
  rcases wat_cases w m with ⟨i, i1, rfl, i3⟩ | ⟨i1, i2⟩
  · have wa := C_wAt (d := d + 6) c1 c2 wW i i1
    obtain ⟨D, a1, a2, a3⟩ := c11.1 i i1
    have q0 : isWo h (wo x i) _ _ _ := a1
    have st : D.1 = nI ((s.2.2.1.2 i).2.1.1 / 625 / 6) := a3.1.1
    have cl : call (d + 8) 95 [.ref x, .int (nI i), .int k] h = (if k.toInt = 0 then some (some (.int (nI (s.2.2.1.2 i).2.2.1)), h) else if k.toInt = 1 then some (some (.int (nI ((s.2.2.1.2 i).2.1.1 / 625 / 6))), h) else if k.toInt = 2 then some (some (.int (nI (s.2.2.1.2 i).2.2.2.1)), h) else if k.toInt = 3 then some (some (.int (oI (s.2.2.1.2 i).2.2.2.2)), h) else some (some (.int (-1)), h)) := by
      rw [cl0, nd_95_0 (St_run (d + 7) mt_95), c1.o, wa, bind_some', rQ_some, q0.g0, a2.g4, a3.2, q0.g0, a2.g0, st, q0.g2, q0.g3]
    have rl : ∀ (h : AH) I A, RS I A s → call (d + 8) 163 [.ref y, .int (nI i), .int k] (mkR h y I A) = if v_in k 3 = 0 then some (some (.int (-1)), mkR h y I A) else if k = 0 then some (some (.int (nI (s.2.2.1.2 i).2.2.1)), mkR h y I A) else if k = 1 then some (some (.int (nI ((s.2.2.1.2 i).2.1.1 / 625 / 6))), mkR h y I A) else if k = 2 then some (some (.int (nI (s.2.2.1.2 i).2.2.2.1)), mkR h y I A) else some (some (.int (oI (s.2.2.1.2 i).2.2.2.2)), mkR h y I A) := fun h I A rs => by
      have v3 : v_in (nI i) (I 31 - 1) = 1 := by rw [rs.2.2.1.1]; exact i3
      obtain ⟨b1, b2, b3, b4, b5, b6, b7⟩ := rs.2.2.1.2 i i1
      rw [rl0, nd_163_0 (St_run (d + 7) mt_163), mkR_g31, m_in0, v3, bind_some', rI_some, if_neg (by decide), show (3 : Int64) = (3 : Int32).toInt64 from by decide, m_in0, bind_some', rI_some, mkR_g36, mkR_l36 _ _ _ _ (by omega), b5, mkR_g33, mkR_l33 _ _ _ _ (by omega), b2, mkR_g37, mkR_l37 _ _ _ _ (by omega), b6, mkR_g38, mkR_l38 _ _ _ _ (by omega), b7, nd_163_28 (St_run (d + 7) mt_163)]
      simp only [nd_163_79 (St_run (d + 7) mt_163)]
    rcases in3 k with ⟨j, j1, rfl, j3⟩ | ⟨j1, j2, j3⟩
    · have z0 : ((nI j).toInt = 0) = (j = 0) := ti_eq (k := 0) (by omega)
      have z1 : ((nI j).toInt = 1) = (j = 1) := ti_eq (k := 1) (by omega)
      have z2 : ((nI j).toInt = 2) = (j = 2) := ti_eq (k := 2) (by omega)
      have z3 : ((nI j).toInt = 3) = (j = 3) := ti_eq (k := 3) (by omega)
      refine comb (s' := s) (r := if j = 0 then nI (s.2.2.1.2 i).2.2.1 else if j = 1 then nI ((s.2.2.1.2 i).2.1.1 / 625 / 6) else if j = 2 then nI (s.2.2.1.2 i).2.2.2.1 else oI (s.2.2.1.2 i).2.2.2.2) S (CO_same c ?_) (RO_same (fun h I A rs => ?_)) (w.mono (by omega))
      · rw [cl]
        simp only [z0, z1, z2, z3]
        rcases (show j = 0 ∨ j = 1 ∨ j = 2 ∨ j = 3 by omega) with rfl | rfl | rfl | rfl <;> rfl
      · rw [rl h I A rs, j3, if_neg (by decide)]
        rcases (show j = 0 ∨ j = 1 ∨ j = 2 ∨ j = 3 by omega) with rfl | rfl | rfl | rfl
        · rw [if_pos (show nI 0 = 0 from rfl), if_pos rfl]
        · rw [if_neg (show ¬ nI 1 = 0 by decide), if_pos (show nI 1 = 1 from rfl), if_neg (show ¬ 1 = 0 by decide), if_pos rfl]
        · rw [if_neg (show ¬ nI 2 = 0 by decide), if_neg (show ¬ nI 2 = 1 by decide), if_pos (show nI 2 = 2 from rfl), if_neg (show ¬ 2 = 0 by decide), if_neg (show ¬ 2 = 1 by decide), if_pos rfl]
        · rw [if_neg (show ¬ nI 3 = 0 by decide), if_neg (show ¬ nI 3 = 1 by decide), if_neg (show ¬ nI 3 = 2 by decide), if_neg (show ¬ 3 = 0 by decide), if_neg (show ¬ 3 = 1 by decide), if_neg (show ¬ 3 = 2 by decide)]
    · refine comb (s' := s) (r := -1) S (CO_same c ?_) (RO_same (fun h I A rs => ?_)) (w.mono (by omega))
      · rw [cl, if_neg (ti0 (j2 0 (by omega))), if_neg (ti1 (j2 1 (by omega))), if_neg (ti2 (j2 2 (by omega))), if_neg (ti3 (j2 3 (by omega)))]
      · rw [rl h I A rs, j1, if_pos rfl]
  · refine comb (s' := s) (r := -1) S (CO_same c ?_) (RO_same (fun h I A rs => ?_)) (w.mono (by omega))
    · rw [cl0, nd_95_0 (St_run (d + 7) mt_95), c1.o, C_wNo (d := d + 6) c1 wW m i2, bind_some', rQ_null]
    · have v3 : v_in m (I 31 - 1) = 0 := by rw [rs.2.2.1.1]; exact i1
      rw [rl0, nd_163_0 (St_run (d + 7) mt_163), mkR_g31, m_in0, v3, bind_some', rI_some, if_pos rfl, nd_163_28 (St_run (d + 7) mt_163), nd_163_79 (St_run (d + 7) mt_163)]
theorem op_watch (S : SS h x y s q) (m : Int32) : OP d x y h q 93 161 [.int m] := by
  obtain ⟨w, c, _, _⟩ := id S
  obtain ⟨X, c1, c2, _⟩ := id c
  have wK := w.2.1.1
  have wW := w.2.2.1.1
  have cl0 : call (d + 8) 93 [.ref x, .int m] h = run (d + 7) mt_93 0 [some (.ref x), some (.int m), none] [] h := call_at mt_93 [some (.ref x), some (.int m), none] rfl rfl rfl
  have rl0 : ∀ (h : AH) I A, call (d + 8) 161 [.ref y, .int m] (mkR h y I A) = run (d + 7) mt_161 0 [some (.ref y), some (.int m), none] [] (mkR h y I A) := fun h I A => call_at mt_161 [some (.ref y), some (.int m), none] rfl rfl rfl
  rcases mach_cases w m with ⟨i, i1, rfl, i3⟩ | ⟨i1, i2⟩
  · have hT := w.2.1.2 i i1
    have ma := C_mAt (d := d + 6) c1 c2 wK i i1
    by_cases h4 : s.2.2.1.1 = 4
    · refine comb (s' := s) (r := -3) S (CO_same c ?_) (RO_same (fun h I A rs => ?_)) (w.mono (by omega))
      · rw [cl0, nd_93_0 (St_run (d + 7) mt_93), c1.o, ma, bind_some', rQ_some, c1.g4, if_neg (show ¬ nI s.2.2.1.1 < 4 by rw [h4]; decide)]
      · have v3 : v_in (nI i) (I 3 - 1) = 1 := by rw [rs.2.1.1]; exact i3
        rw [rl0, nd_161_0 (St_run (d + 7) mt_161), mkR_o, R_isMachine (d := d + 5), v3, bind_some', rI_some, if_neg (by decide), mkR_g31, rs.2.2.1.1, if_pos (show nI s.2.2.1.1 = 4 by rw [h4]; rfl)]
    · have hW : s.2.2.1.1 < 4 := by omega
      obtain ⟨h1, M, e1, e2, e3, e4, e5, e6, e7, e8⟩ := C_learn (d := d + 1) c w i i1
      obtain ⟨X1, t1, t2, _, _, _, _, _, _, _, _, t11, _⟩ := id e2
      obtain ⟨⟨g1, ga1, ga2⟩, ⟨g2, gb1, gb2⟩, _⟩ := id t2
      have m2 := e3.w0 (M.1.1, (M.1.2.1, (1, M.1.2.2.2)))
      obtain ⟨v0, gg, ee, D0, a1, a2⟩ := t11.2 s.2.2.1.1 (Nat.le_refl _) hW
      have fr2 : Fr h1 (hS h1 (mo x i) (oB 0 [.ref (mo x i + 1), .ref (mo x i + 2), .ref (mo x i + 3), .int M.1.1, .int M.1.2.1, .int 1, .ref (mo x i + 4), .int M.1.2.2.2])) (mo x i) 5 := Fr.set ⟨by omega, by omega⟩
      have t1' := t1.fs fr2.s (dj.cons (by unfold mo; omega) (dj.nil _ _))
      have gb1' := fr2.at (b := x + 5) (by unfold mo; omega) gb1
      have q2 : isWo _ (wo x s.2.2.1.1) v0 gg ee := fr2.at (by unfold mo wo; omega) a1
      have r2 := a2.fr fr2 (by unfold mo wo; omega)
      obtain ⟨h3, D3, f1, f2, f3, f4, f5⟩ := C_wbegin (d := d + 3) (T := s.2.1.2 i) q2 r2 m2 ⟨e4.1, e4.2.1, e4.2.2.1, e4.2.2.2.1, e4.2.2.2.2⟩ hT e7 (by unfold mo wo; omega)
      have t3 := t1'.fs f5.s (dj.cons (by unfold wo; omega) (dj.nil _ _))
      have t4 := cTop.mk h3 x s.2.1.1 (s.2.2.1.1 + 1) X1
      have fr4 := cTop.fr1 h3 x s.2.1.1 (s.2.2.1.1 + 1) X1
      have fs : Fs h1 (hS h3 x (oTop x s.2.1.1 (s.2.2.1.1 + 1) X1)) [(x, 1), (mo x i, 5), (wo x s.2.2.1.1, 4)] := (fr2.in (mo x i, 5) (by simp) (Nat.le_refl _) (Nat.le_refl _)).tr ((f5.in (wo x s.2.2.1.1, 4) (by simp) (Nat.le_refl _) (Nat.le_refl _)).tr (fr4.in (x, 1) (by simp) (Nat.le_refl _) (Nat.le_refl _)))
      have m4 := (m2.fr f5 (by unfold mo wo; omega)).fr fr4 (by unfold mo; omega)
      have f2' := f2.fr fr4 (by unfold wo; omega)
      have f3' := f3.fr fr4 (by unfold wo; omega)
      have cN : isC (hS h3 x (oTop x s.2.1.1 (s.2.2.1.1 + 1) X1)) x (s.1, (s.2.1, ((s.2.2.1.1 + 1, setW s.2.2.1.2 s.2.2.1.1 (i, (P0, (0, (0, dnO (s.2.1.2 i) 0 0))))), s.2.2.2))) := by
        refine e2.addW w i1 rfl hW (fun X' tX => ?_) ⟨_, m4, ⟨e4.1, e4.2.1, e4.2.2.1, e4.2.2.2.1, e4.2.2.2.2⟩, rfl, Or.inr ⟨e6, e7⟩⟩ ⟨D3, f2', f3', f4⟩ fs
        have hX : X' = X1 := by
          have e := tX.symm.trans t1
          simp only [Option.some.injEq, oB] at e
          obtain ⟨x1, x2, x3, x4, x5⟩ := X'
          obtain ⟨y1, y2, y3, y4, y5⟩ := X1
          simp_all
        rw [hX]
        exact t4
      refine comb (s' := (s.1, (s.2.1, ((s.2.2.1.1 + 1, setW s.2.2.1.2 s.2.2.1.1 (i, (P0, (0, (0, dnO (s.2.1.2 i) 0 0))))), s.2.2.2)))) (r := nI s.2.2.1.1) S ⟨_, ?_, cN, ?_⟩ (fun h I A rs => ?_) ?_
      · rw [cl0, nd_93_0 (St_run (d + 7) mt_93), c1.o, ma, bind_some', rQ_some, c1.g4, if_pos (show nI s.2.2.1.1 < (4 : Int32) from nI_lt (a := s.2.2.1.1) (b := 4) hW (by decide)), c1.o, e1, bind_some', rV_some, isZ1, e3.p5, t1'.g3, t1'.g4, ldQ_of gb1' rfl hW (by decide) (gb2 _ hW), q2.o, f1, bind_some', rV_some, t3.g4, nI_1, t3.p4, t4.g4, nI_pred]
      · refine Fs.fr (S := [(x + 17, 13), (x, 1), (mo x i, 5), (wo x s.2.2.1.1, 4)]) ((e8.sub (fun z hz => ?_)).tr (fs.sub (fun z hz => ?_))) (fun z hz => ?_)
        · simp only [List.mem_cons, List.not_mem_nil, or_false] at hz
          rcases hz with rfl | rfl
          · exact ⟨(x + 17, 13), by simp, Nat.le_refl _, Nat.le_refl _⟩
          · exact ⟨(mo x i, 5), by simp, Nat.le_refl _, Nat.le_refl _⟩
        · exact ⟨z, by simp only [List.mem_cons, List.not_mem_nil, or_false] at hz ⊢; exact Or.inr hz, Nat.le_refl _, Nat.le_refl _⟩
        · simp only [List.mem_cons, List.not_mem_nil, or_false] at hz
          rcases hz with rfl | rfl | rfl | rfl
          · dsimp only; omega
          · dsimp only; omega
          · dsimp only; unfold mo; omega
          · dsimp only; unfold wo; omega
      · sorry
      · have w' := w.mono (Nat.le_succ q)
        refine ⟨w'.1, w'.2.1, ⟨by show s.2.2.1.1 + 1 ≤ 4; omega, fun k hk => ?_⟩, w'.2.2.2⟩
        show (setW s.2.2.1.2 s.2.2.1.1 (i, (P0, (0, (0, dnO (s.2.1.2 i) 0 0)))) k).1 < s.2.1.1 ∧ _
        have hk' : k < s.2.2.1.1 + 1 := hk
        by_cases e : k = s.2.2.1.1
        · dsimp only
          rw [e, setW_at]
          refine ⟨i1, PG_0 hT, Nat.zero_le _, Nat.zero_le _, fun e' he' => ?_⟩
          dsimp only at he'
          unfold dnO at he'
          by_cases hb : alB (s.2.1.2 i) 0 = true
          · rw [if_pos hb] at he'; cases he'
          · rw [if_neg hb] at he'; cases he'; omega
        · dsimp only
          rw [setW_ne e]
          exact w'.2.2.1.2 k (by omega)
  · refine comb (s' := s) (r := -1) S (CO_same c ?_) (RO_same (fun h I A rs => ?_)) (w.mono (by omega))
    · rw [cl0, nd_93_0 (St_run (d + 7) mt_93), c1.o, C_mNo (d := d + 6) c1 wK m i2, bind_some', rQ_null]
    · have v3 : v_in m (I 3 - 1) = 0 := by rw [rs.2.1.1]; exact i1
      rw [rl0, nd_161_0 (St_run (d + 7) mt_161), mkR_o, R_isMachine (d := d + 5), v3, bind_some', rI_some, if_pos rfl]
end OPS9
