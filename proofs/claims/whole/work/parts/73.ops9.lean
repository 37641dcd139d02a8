/-! ===== watch, see, seen ===== -/
/-- a watch more -/
theorem isC.addW {h h1 : AH} {x : Nat} {s : SG} {q i : Nat} {v : WS} (c : isC h x s) (w : WFS s q) (hi : i < s.2.1.1) (hv : v.1 = i) (hW : s.2.2.1.1 < 4) (t : ∀ X, cTop h x s.2.1.1 s.2.2.1.1 X → cTop h1 x s.2.1.1 (s.2.2.1.1 + 1) X) (m : cM1 h1 (mo x i) (s.2.1.2 i) true) (n : cW1 h1 x (wo x s.2.2.1.1) v) (p : Fs h h1 [(x, 1), (mo x i, 5), (wo x s.2.2.1.1, 4)]) : isC h1 x (s.1, (s.2.1, ((s.2.2.1.1 + 1, setW s.2.2.1.2 s.2.2.1.1 v), s.2.2.2))) := by
  obtain ⟨X, c1, c2, c3, c4, c5, c6, c7, c8, c9, c10, c11, c12, c13⟩ := c
  have w1 := w.2.1.1
  have D : ∀ o k, 1 ≤ o → (o + k ≤ 39 ∨ 74 ≤ o) → (o + k ≤ 74 ∨ 90 ≤ o) → dj (x + o) k [(x, 1), (mo x i, 5), (wo x s.2.2.1.1, 4)] := fun o k ho hp hk => dj.cons (by omega) (dj.cons (by unfold mo; omega) (dj.cons (by unfold wo; omega) (dj.nil _ _)))
  have DM : ∀ j, j < 7 → j ≠ i → dj (mo x j) 5 [(x, 1), (mo x i, 5), (wo x s.2.2.1.1, 4)] := fun j h7 hj => dj.cons (by unfold mo; omega) (dj.cons (by unfold mo; omega) (dj.cons (by unfold mo wo; omega) (dj.nil _ _)))
  have DW : ∀ j, j ≠ s.2.2.1.1 → dj (wo x j) 4 [(x, 1), (mo x i, 5), (wo x s.2.2.1.1, 4)] := fun j hj => dj.cons (by unfold wo; omega) (dj.cons (by unfold mo wo; omega) (dj.cons (by unfold wo; omega) (dj.nil _ _)))
  refine ⟨X, t X c1, c2.fs p (D 4 3 (by omega) (by omega) (by omega)), c3.fs p (D 1 3 (by omega) (by omega) (by omega)), c4.fs p (D 7 5 (by omega) (by omega) (by omega)), c5.fs p (D 12 2 (by omega) (by omega) (by omega)), c6.fs p (D 14 3 (by omega) (by omega) (by omega)), c7.fs p (D 17 13 (by omega) (by omega) (by omega)), c8.fs p (D 30 6 (by omega) (by omega) (by omega)), c9.fs p (D 36 3 (by omega) (by omega) (by omega)), ⟨fun j hj => ?_, fun j h1 h2 => ?_⟩, ⟨fun j hj => ?_, fun j h1 h2 => ?_⟩, c12.fs p (D 90 8 (by omega) (by omega) (by omega)), c13⟩
  · show cM1 h1 (mo x j) (s.2.1.2 j) (wdB (s.2.2.1.1 + 1, setW s.2.2.1.2 s.2.2.1.1 v) j)
    rw [wdB_new]
    have hj' : j < s.2.1.1 := hj
    by_cases e : j = i
    · rw [e, hv, beq_self_eq_true, Bool.or_true]; exact m
    · rw [hv, beq_eq_false_iff_ne.mpr (fun e2 => e e2.symm), Bool.or_false]
      exact (c10.1 j hj).fs p (DM j (by omega) e)
  · have h1' : s.2.1.1 ≤ j := h1
    obtain ⟨M', a⟩ := c10.2 j h1 h2
    exact ⟨M', a.fs p (DM j h2 (by omega))⟩
  · show cW1 h1 x (wo x j) (setW s.2.2.1.2 s.2.2.1.1 v j)
    have hj' : j < s.2.2.1.1 + 1 := hj
    by_cases e : j = s.2.2.1.1
    · rw [e, setW_at]; exact n
    · rw [setW_ne e]
      exact (c11.1 j (by omega)).fs p (DW j e)
  · have h1' : s.2.2.1.1 + 1 ≤ j := h1
    obtain ⟨v', g, e, D', a1, a2⟩ := c11.2 j (by omega) h2
    exact ⟨v', g, e, D', p.at ((DW j (by omega)).one (by omega) (by omega)) a1, a2.fs p ((DW j (by omega)).mono (by omega) (by omega))⟩
/-- a watch goes on -/
theorem isC.updW {h h1 : AH} {x : Nat} {s : SG} {q i : Nat} {v : WS} (c : isC h x s) (w : WFS s q) (hi : i < s.2.2.1.1) (hv : v.1 = (s.2.2.1.2 i).1) (n : cW1 h1 x (wo x i) v) (p : Fr h h1 (wo x i) 4) : isC h1 x (s.1, (s.2.1, ((s.2.2.1.1, setW s.2.2.1.2 i v), s.2.2.2))) := by
  obtain ⟨X, c1, c2, c3, c4, c5, c6, c7, c8, c9, c10, c11, c12, c13⟩ := c
  have w1 := w.2.1.1
  have w2 := w.2.2.1.1
  have D : ∀ o k, (o + k ≤ 74 ∨ 90 ≤ o) → dj (x + o) k [(wo x i, 4)] := fun o k hk => dj.cons (by unfold wo; omega) (dj.nil _ _)
  have DW : ∀ j, j ≠ i → dj (wo x j) 4 [(wo x i, 4)] := fun j hj => dj.cons (by unfold wo; omega) (dj.nil _ _)
  have cm := c10.fs p.s (D 39 35 (by omega)) (by omega)
  refine ⟨X, c1.fs p.s (D 0 1 (by omega)), c2.fs p.s (D 4 3 (by omega)), c3.fs p.s (D 1 3 (by omega)), c4.fs p.s (D 7 5 (by omega)), c5.fs p.s (D 12 2 (by omega)), c6.fs p.s (D 14 3 (by omega)), c7.fs p.s (D 17 13 (by omega)), c8.fs p.s (D 30 6 (by omega)), c9.fs p.s (D 36 3 (by omega)), ⟨fun j hj => ?_, cm.2⟩, ⟨fun j hj => ?_, fun j h1 h2 => ?_⟩, c12.fs p.s (D 90 8 (by omega)), c13⟩
  · show cM1 h1 (mo x j) (s.2.1.2 j) (wdB (s.2.2.1.1, setW s.2.2.1.2 i v) j)
    rw [wdB_same j hv]
    exact cm.1 j hj
  · show cW1 h1 x (wo x j) (setW s.2.2.1.2 i v j)
    by_cases e : j = i
    · rw [e, setW_at]; exact n
    · rw [setW_ne e]
      exact (c11.1 j hj).fs p.s (DW j e)
  · have h1' : s.2.2.1.1 ≤ j := h1
    obtain ⟨v', g, e, D', a1, a2⟩ := c11.2 j h1 h2
    exact ⟨v', g, e, D', p.s.at ((DW j (by omega)).one (by omega) (by omega)) a1, a2.fs p.s ((DW j (by omega)).mono (by omega) (by omega))⟩
/-- one watch of the reference has changed -/
def frW (A A' : Nat → Nat → Int32) (w : Nat) : Prop := (∀ k, k = 32 ∨ k = 33 ∨ k = 36 ∨ k = 37 ∨ k = 38 → ∀ j, j ≠ w → A' k j = A k j) ∧ (∀ k, k = 34 ∨ k = 35 → ∀ j, j ≠ 2 * w → j ≠ 2 * w + 1 → A' k j = A k j)
theorem rsW1.ot {A A' : Nat → Nat → Int32} {w j : Nat} {v : WS} (q : rsW1 A j v) (f : frW A A' w) (hj : j ≠ w) : rsW1 A' j v := by
  obtain ⟨q1, q2, q3, q4, q5, q6, q7⟩ := q
  refine ⟨?_, ?_, fun r hr => ?_, fun r hr hl => ?_, ?_, ?_, ?_⟩
  · rw [f.1 32 (by omega) j hj]; exact q1
  · rw [f.1 33 (by omega) j hj]; exact q2
  · rw [f.2 34 (by omega) _ (by omega) (by omega)]; exact q3 r hr
  · rw [f.2 35 (by omega) _ (by omega) (by omega)]; exact q4 r hr hl
  · rw [f.1 36 (by omega) j hj]; exact q5
  · rw [f.1 37 (by omega) j hj]; exact q6
  · rw [f.1 38 (by omega) j hj]; exact q7
theorem frW.fa {I I1 : Nat → Int32} {A A1 A2 : Nat → Nat → Int32} {js ks : List Nat} {w : Nat} (f : frW A A1 w) (p : fra I I1 A1 A2 js ks) (hk : 32 ∉ ks ∧ 33 ∉ ks ∧ 34 ∉ ks ∧ 35 ∉ ks ∧ 36 ∉ ks ∧ 37 ∉ ks ∧ 38 ∉ ks) : frW A A2 w := by
  obtain ⟨h2, h3, h4, h5, h6, h7, h8⟩ := hk
  refine ⟨fun k hk j hj => ?_, fun k hk j h1 h2 => ?_⟩
  · rw [p.2 k (by rcases hk with rfl | rfl | rfl | rfl | rfl <;> assumption)]; exact f.1 k hk j hj
  · rw [p.2 k (by rcases hk with rfl | rfl <;> assumption)]; exact f.2 k hk j h1 h2
theorem frW.rf (A : Nat → Nat → Int32) (w : Nat) : frW A A w := ⟨fun _ _ _ _ => rfl, fun _ _ _ _ _ => rfl⟩
theorem frW.w {A A1 : Nat → Nat → Int32} {w k : Nat} (f : frW A A1 w) (x : Int32) (hk : k ≠ 34) (hk2 : k ≠ 35) : frW A (updA A1 k (upd (A1 k) w x)) w := by
  refine ⟨fun k' hk' j hj => ?_, fun k' hk' j h1 h2 => ?_⟩
  · by_cases e : k' = k
    · rw [e, updA_at, pk_un hj, ← e]; exact f.1 k' hk' j hj
    · rw [updA_ne e]; exact f.1 k' hk' j hj
  · rw [updA_ne (by omega)]; exact f.2 k' hk' j h1 h2
theorem frW.z {A A1 : Nat → Nat → Int32} {w k i : Nat} (f : frW A A1 w) (x : Int32) (hk : k = 34 ∨ k = 35) (hi : i = 2 * w ∨ i = 2 * w + 1) : frW A (updA A1 k (upd (A1 k) i x)) w := by
  refine ⟨fun k' hk' j hj => ?_, fun k' hk' j h1 h2 => ?_⟩
  · rw [updA_ne (by omega)]; exact f.1 k' hk' j hj
  · by_cases e : k' = k
    · rw [e, updA_at, pk_un (by omega), ← e]; exact f.2 k' hk' j h1 h2
    · rw [updA_ne e]; exact f.2 k' hk' j h1 h2
theorem mkR_z34 (h : AH) (a : Nat) (I : Nat → Int32) (A : Nat → Nat → Int32) {j : Nat} (hj : j < 8) (f : AH → Option RV) : stZ (mkR h a I A) (a + 25) (nI j) 0 f = f (mkR h a I (updA A 34 (upd (A 34) j (bI false)))) := mkR_s34 h a I A hj false f
section OPS9
variable {d x y q : Nat} {h : AH} {s : SG}
theorem wat_cases (w : WFS s q) (m : Int32) : (∃ i, i < s.2.2.1.1 ∧ m = nI i ∧ v_in m (nI s.2.2.1.1 - 1) = 1) ∨ (v_in m (nI s.2.2.1.1 - 1) = 0 ∧ ∀ i, i < s.2.2.1.1 → m ≠ nI i) := by
  have w2 := w.2.2.1.1
  rcases inC m s.2.2.1.1 (by omega) with e | ⟨e1, e2, _⟩
  · exact Or.inl e
  · exact Or.inr ⟨e1, e2⟩
theorem op_seen (S : SS h x y s q) (m k : Int32) : OP d x y h q 95 163 [.int m, .int k] := by
  obtain ⟨w, c, _, _⟩ := id S
  obtain ⟨X, c1, c2, _, _, _, _, _, _, _, _, c11, _⟩ := id c
  have wW := w.2.2.1.1
  have cl0 : call (d + 8) 95 [.ref x, .int m, .int k] h = run (d + 7) mt_95 0 [some (.ref x), some (.int m), some (.int k), none] [] h := call_at mt_95 [some (.ref x), some (.int m), some (.int k), none] rfl rfl rfl
  have rl0 : ∀ (h : AH) I A, call (d + 8) 163 [.ref y, .int m, .int k] (mkR h y I A) = run (d + 7) mt_163 0 [some (.ref y), some (.int m), some (.int k)] [] (mkR h y I A) := fun h I A => call_at mt_163 [some (.ref y), some (.int m), some (.int k)] rfl rfl rfl
  rcases wat_cases w m with ⟨i, i1, rfl, i3⟩ | ⟨i1, i2⟩
  · have wa := C_wAt (d := d + 6) c1 c2 wW i i1
    obtain ⟨D, a1, a2, a3⟩ := c11.1 i i1
    have q0 : isWo h (wo x i) _ _ _ := a1
    have st : D.1 = nI ((s.2.2.1.2 i).2.1.1 / 625 / 6) := a3.1.1
    have cl : call (d + 8) 95 [.ref x, .int (nI i), .int k] h = (if k.toInt = 0 then some (some (.int (nI (s.2.2.1.2 i).2.2.1)), h) else if k.toInt = 1 then some (some (.int (nI ((s.2.2.1.2 i).2.1.1 / 625 / 6))), h) else if k.toInt = 2 then some (some (.int (nI (s.2.2.1.2 i).2.2.2.1)), h) else if k.toInt = 3 then some (some (.int (oI (s.2.2.1.2 i).2.2.2.2)), h) else some (some (.int (-1)), h)) := by
      rw [cl0, nd_95_0 (St_run (d + 7) mt_95), c1.o, wa, bind_some', rQ_some, q0.g0, a2.g4, a3.2, q0.g0, a2.g0, st, q0.g2, q0.g3]
    have rl : ∀ (h : AH) I A, RS I A s → call (d + 8) 163 [.ref y, .int (nI i), .int k] (mkR h y I A) = if v_in k 3 = 0 then some (some (.int (-1)), mkR h y I A) else if k = 0 then some (some (.int (nI (s.2.2.1.2 i).2.2.1)), mkR h y I A) else if k = 1 then some (some (.int (nI ((s.2.2.1.2 i).2.1.1 / 625 / 6))), mkR h y I A) else if k = 2 then some (some (.int (nI (s.2.2.1.2 i).2.2.2.1)), mkR h y I A) else some (some (.int (oI (s.2.2.1.2 i).2.2.2.2)), mkR h y I A) := fun h I A rs => by
      have v3 : v_in (nI i) (I 31 - 1) = 1 := by rw [rs.2.2.1.1]; exact i3
      obtain ⟨b1, b2, b3, b4, b5, b6, b7⟩ := rs.2.2.1.2 i i1
      rw [rl0, nd_163_0 (St_run (d + 7) mt_163), mkR_g31, m_in0, v3, bind_some', rI_some, if_neg (by decide), show (3 : Int64) = (3 : Int32).toInt64 from by decide, m_in0, bind_some', rI_some, mkR_g36, mkR_l36 _ _ _ _ (by omega), b5, mkR_g33, mkR_l33 _ _ _ _ (by omega), b2, mkR_g37, mkR_l37 _ _ _ _ (by omega), b6, mkR_g38, mkR_l38 _ _ _ _ (by omega), b7, nd_163_28 (St_run (d + 7) mt_163)]
      simp only [nd_163_79 (St_run (d + 7) mt_163)]
    rcases in3 k with ⟨j, j1, rfl, j3⟩ | ⟨j1, j2, j3⟩
    · have z0 : ((nI j).toInt = 0) = (j = 0) := ti_eq (k := 0) (by omega)
      have z1 : ((nI j).toInt = 1) = (j = 1) := ti_eq (k := 1) (by omega)
      have z2 : ((nI j).toInt = 2) = (j = 2) := ti_eq (k := 2) (by omega)
      have z3 : ((nI j).toInt = 3) = (j = 3) := ti_eq (k := 3) (by omega)
      refine comb (s' := s) (r := if j = 0 then nI (s.2.2.1.2 i).2.2.1 else if j = 1 then nI ((s.2.2.1.2 i).2.1.1 / 625 / 6) else if j = 2 then nI (s.2.2.1.2 i).2.2.2.1 else oI (s.2.2.1.2 i).2.2.2.2) S (CO_same c ?_) (RO_same (fun h I A rs => ?_)) (w.mono (by omega))
      · rw [cl]
        simp only [z0, z1, z2, z3]
        rcases (show j = 0 ∨ j = 1 ∨ j = 2 ∨ j = 3 by omega) with rfl | rfl | rfl | rfl <;> rfl
      · rw [rl h I A rs, j3, if_neg (by decide)]
        rcases (show j = 0 ∨ j = 1 ∨ j = 2 ∨ j = 3 by omega) with rfl | rfl | rfl | rfl
        · rw [if_pos (show nI 0 = 0 from rfl), if_pos rfl]
        · rw [if_neg (show ¬ nI 1 = 0 by decide), if_pos (show nI 1 = 1 from rfl), if_neg (show ¬ 1 = 0 by decide), if_pos rfl]
        · rw [if_neg (show ¬ nI 2 = 0 by decide), if_neg (show ¬ nI 2 = 1 by decide), if_pos (show nI 2 = 2 from rfl), if_neg (show ¬ 2 = 0 by decide), if_neg (show ¬ 2 = 1 by decide), if_pos rfl]
        · rw [if_neg (show ¬ nI 3 = 0 by decide), if_neg (show ¬ nI 3 = 1 by decide), if_neg (show ¬ nI 3 = 2 by decide), if_neg (show ¬ 3 = 0 by decide), if_neg (show ¬ 3 = 1 by decide), if_neg (show ¬ 3 = 2 by decide)]
    · refine comb (s' := s) (r := -1) S (CO_same c ?_) (RO_same (fun h I A rs => ?_)) (w.mono (by omega))
      · rw [cl, if_neg (ti0 (j2 0 (by omega))), if_neg (ti1 (j2 1 (by omega))), if_neg (ti2 (j2 2 (by omega))), if_neg (ti3 (j2 3 (by omega)))]
      · rw [rl h I A rs, j1, if_pos rfl]
  · refine comb (s' := s) (r := -1) S (CO_same c ?_) (RO_same (fun h I A rs => ?_)) (w.mono (by omega))
    · rw [cl0, nd_95_0 (St_run (d + 7) mt_95), c1.o, C_wNo (d := d + 6) c1 wW m i2, bind_some', rQ_null]
    · have v3 : v_in m (I 31 - 1) = 0 := by rw [rs.2.2.1.1]; exact i1
      rw [rl0, nd_163_0 (St_run (d + 7) mt_163), mkR_g31, m_in0, v3, bind_some', rI_some, if_pos rfl, nd_163_28 (St_run (d + 7) mt_163), nd_163_79 (St_run (d + 7) mt_163)]
theorem op_watch (S : SS h x y s q) (m : Int32) : OP d x y h q 93 161 [.int m] := by
  obtain ⟨w, c, _, _⟩ := id S
  obtain ⟨X, c1, c2, _⟩ := id c
  have wK := w.2.1.1
  have wW := w.2.2.1.1
  have cl0 : call (d + 8) 93 [.ref x, .int m] h = run (d + 7) mt_93 0 [some (.ref x), some (.int m), none] [] h := call_at mt_93 [some (.ref x), some (.int m), none] rfl rfl rfl
  have rl0 : ∀ (h : AH) I A, call (d + 8) 161 [.ref y, .int m] (mkR h y I A) = run (d + 7) mt_161 0 [some (.ref y), some (.int m), none] [] (mkR h y I A) := fun h I A => call_at mt_161 [some (.ref y), some (.int m), none] rfl rfl rfl
  rcases mach_cases w m with ⟨i, i1, rfl, i3⟩ | ⟨i1, i2⟩
  · have hT := w.2.1.2 i i1
    have ma := C_mAt (d := d + 6) c1 c2 wK i i1
    by_cases h4 : s.2.2.1.1 = 4
    · refine comb (s' := s) (r := -3) S (CO_same c ?_) (RO_same (fun h I A rs => ?_)) (w.mono (by omega))
      · rw [cl0, nd_93_0 (St_run (d + 7) mt_93), c1.o, ma, bind_some', rQ_some, c1.g4, if_neg (show ¬ nI s.2.2.1.1 < 4 by rw [h4]; decide)]
      · have v3 : v_in (nI i) (I 3 - 1) = 1 := by rw [rs.2.1.1]; exact i3
        rw [rl0, nd_161_0 (St_run (d + 7) mt_161), mkR_o, R_isMachine (d := d + 5), v3, bind_some', rI_some, if_neg (by decide), mkR_g31, rs.2.2.1.1, if_pos (show nI s.2.2.1.1 = 4 by rw [h4]; rfl)]
    · have hW : s.2.2.1.1 < 4 := by omega
      obtain ⟨h1, M, e1, e2, e3, e4, e5, e6, e7, e8⟩ := C_learn (d := d + 1) c w i i1
      obtain ⟨X1, t1, t2, _, _, _, _, _, _, _, _, t11, _⟩ := id e2
      obtain ⟨⟨g1, ga1, ga2⟩, ⟨g2, gb1, gb2⟩, _⟩ := id t2
      have m2 := e3.w0 (M.1.1, (M.1.2.1, (1, M.1.2.2.2)))
      obtain ⟨v0, gg, ee, D0, a1, a2⟩ := t11.2 s.2.2.1.1 (Nat.le_refl _) hW
      have fr2 : Fr h1 (hS h1 (mo x i) (oB 0 [.ref (mo x i + 1), .ref (mo x i + 2), .ref (mo x i + 3), .int M.1.1, .int M.1.2.1, .int 1, .ref (mo x i + 4), .int M.1.2.2.2])) (mo x i) 5 := Fr.set ⟨by omega, by omega⟩
      have t1' := t1.fs fr2.s (dj.cons (by unfold mo; omega) (dj.nil _ _))
      have gb1' := fr2.at (b := x + 5) (by unfold mo; omega) gb1
      have q2 : isWo _ (wo x s.2.2.1.1) v0 gg ee := fr2.at (by unfold mo wo; omega) a1
      have r2 := a2.fr fr2 (by unfold mo wo; omega)
      obtain ⟨h3, D3, f1, f2, f3, f4, f5⟩ := C_wbegin (d := d + 3) (T := s.2.1.2 i) q2 r2 m2 ⟨e4.1, e4.2.1, e4.2.2.1, e4.2.2.2.1, e4.2.2.2.2⟩ hT e7 (by unfold mo wo; omega)
      have t3 := t1'.fs f5.s (dj.cons (by unfold wo; omega) (dj.nil _ _))
      have t4 := cTop.mk h3 x s.2.1.1 (s.2.2.1.1 + 1) X1
      have fr4 := cTop.fr1 h3 x s.2.1.1 (s.2.2.1.1 + 1) X1
      have fs : Fs h1 (hS h3 x (oTop x s.2.1.1 (s.2.2.1.1 + 1) X1)) [(x, 1), (mo x i, 5), (wo x s.2.2.1.1, 4)] := (fr2.in (mo x i, 5) (by simp) (Nat.le_refl _) (Nat.le_refl _)).tr ((f5.in (wo x s.2.2.1.1, 4) (by simp) (Nat.le_refl _) (Nat.le_refl _)).tr (fr4.in (x, 1) (by simp) (Nat.le_refl _) (Nat.le_refl _)))
      have m4 := (m2.fr f5 (by unfold mo wo; omega)).fr fr4 (by unfold mo; omega)
      have f2' := f2.fr fr4 (by unfold wo; omega)
      have f3' := f3.fr fr4 (by unfold wo; omega)
      have cN : isC (hS h3 x (oTop x s.2.1.1 (s.2.2.1.1 + 1) X1)) x (s.1, (s.2.1, ((s.2.2.1.1 + 1, setW s.2.2.1.2 s.2.2.1.1 (i, (P0, (0, (0, dnO (s.2.1.2 i) 0 0))))), s.2.2.2))) := by
        refine e2.addW w i1 rfl hW (fun X' tX => ?_) ⟨_, m4, ⟨e4.1, e4.2.1, e4.2.2.1, e4.2.2.2.1, e4.2.2.2.2⟩, rfl, Or.inr ⟨e6, e7⟩⟩ ⟨D3, f2', f3', f4⟩ fs
        have hX : X' = X1 := by
          have e := tX.symm.trans t1
          simp only [Option.some.injEq, oB] at e
          obtain ⟨x1, x2, x3, x4, x5⟩ := X'
          obtain ⟨y1, y2, y3, y4, y5⟩ := X1
          simp_all
        rw [hX]
        exact t4
      refine comb (s' := (s.1, (s.2.1, ((s.2.2.1.1 + 1, setW s.2.2.1.2 s.2.2.1.1 (i, (P0, (0, (0, dnO (s.2.1.2 i) 0 0))))), s.2.2.2)))) (r := nI s.2.2.1.1) S ⟨_, ?_, cN, ?_⟩ (fun h I A rs => ?_) ?_
      · rw [cl0, nd_93_0 (St_run (d + 7) mt_93), c1.o, ma, bind_some', rQ_some, c1.g4, if_pos (show nI s.2.2.1.1 < (4 : Int32) from nI_lt (a := s.2.2.1.1) (b := 4) hW (by decide)), c1.o, e1, bind_some', rV_some, isZ1, e3.p5, t1'.g3, t1'.g4, ldQ_of gb1' rfl hW (by decide) (gb2 _ hW), q2.o, f1, bind_some', rV_some, t3.g4, nI_1, t3.p4, t4.g4, nI_pred]
      · refine Fs.fr (S := [(x + 17, 13), (x, 1), (mo x i, 5), (wo x s.2.2.1.1, 4)]) ((e8.sub (fun z hz => ?_)).tr (fs.sub (fun z hz => ?_))) (fun z hz => ?_)
        · simp only [List.mem_cons, List.not_mem_nil, or_false] at hz
          rcases hz with rfl | rfl
          · exact ⟨(x + 17, 13), by simp, Nat.le_refl _, Nat.le_refl _⟩
          · exact ⟨(mo x i, 5), by simp, Nat.le_refl _, Nat.le_refl _⟩
        · exact ⟨z, by simp only [List.mem_cons, List.not_mem_nil, or_false] at hz ⊢; exact Or.inr hz, Nat.le_refl _, Nat.le_refl _⟩
        · simp only [List.mem_cons, List.not_mem_nil, or_false] at hz
          rcases hz with rfl | rfl | rfl | rfl
          · dsimp only; omega
          · dsimp only; omega
          · dsimp only; unfold mo; omega
          · dsimp only; unfold wo; omega
      · have v3 : v_in (nI i) (I 3 - 1) = 1 := by rw [rs.2.1.1]; exact i3
        obtain ⟨B1, hB1⟩ : ∃ B, B = updA A 32 (upd (A 32) s.2.2.1.1 (nI i)) := ⟨_, rfl⟩
        obtain ⟨B2, hB2⟩ : ∃ B, B = updA B1 33 (upd (B1 33) s.2.2.1.1 0) := ⟨_, rfl⟩
        obtain ⟨B3, hB3⟩ : ∃ B, B = updA B2 34 (upd (B2 34) (2 * s.2.2.1.1) (bI false)) := ⟨_, rfl⟩
        obtain ⟨B4, hB4⟩ : ∃ B, B = updA B3 34 (upd (B3 34) (2 * s.2.2.1.1 + 1) (bI false)) := ⟨_, rfl⟩
        obtain ⟨B5, hB5⟩ : ∃ B, B = updA B4 36 (upd (B4 36) s.2.2.1.1 0) := ⟨_, rfl⟩
        obtain ⟨B6, hB6⟩ : ∃ B, B = updA B5 37 (upd (B5 37) s.2.2.1.1 0) := ⟨_, rfl⟩
        have fw6 : frW A B6 s.2.2.1.1 := by
          rw [hB6]; refine frW.w ?_ _ (by decide) (by decide)
          rw [hB5]; refine frW.w ?_ _ (by decide) (by decide)
          rw [hB4]; refine frW.z ?_ _ (by decide) (by omega)
          rw [hB3]; refine frW.z ?_ _ (by decide) (by omega)
          rw [hB2]; refine frW.w ?_ _ (by decide) (by decide)
          rw [hB1]; exact (frW.rf A _).w _ (by decide) (by decide)
        have fr6 : fra I (upd I 31 (nI (s.2.2.1.1 + 1))) A B6 [22, 23, 24, 31] [17, 18, 19, 20, 21, 25, 26, 32, 33, 34, 36, 37, 38] := by
          rw [hB6]; refine fra.w ?_ _ (by decide)
          rw [hB5]; refine fra.w ?_ _ (by decide)
          rw [hB4]; refine fra.w ?_ _ (by decide)
          rw [hB3]; refine fra.w ?_ _ (by decide)
          rw [hB2]; refine fra.w ?_ _ (by decide)
          rw [hB1]; exact ((fra.rf I A _ _).u _ (by decide)).w _ (by decide)
        have n32 : B6 32 s.2.2.1.1 = nI i := by simp (disch := omega) only [hB6, hB5, hB4, hB3, hB2, hB1, updA_at, updA_ne, pk_us, pk_un, ne_eq, not_false_eq_true, Nat.reduceEqDiff, updA_updA]
        have n33 : B6 33 s.2.2.1.1 = 0 := by simp (disch := omega) only [hB6, hB5, hB4, hB3, hB2, hB1, updA_at, updA_ne, pk_us, pk_un, ne_eq, not_false_eq_true, Nat.reduceEqDiff, updA_updA]
        have n34 : ∀ r, r < 2 → B6 34 (2 * s.2.2.1.1 + r) = bI (decide (lb P0.1 r ≠ 0)) := fun r hr => by
          rw [show decide (lb P0.1 r ≠ 0) = false from decide_eq_false (fun e => e (lb_0 r))]
          rcases (show r = 0 ∨ r = 1 by omega) with rfl | rfl
          · simp (disch := omega) only [hB6, hB5, hB4, hB3, hB2, hB1, updA_at, updA_ne, pk_us, pk_un, ne_eq, not_false_eq_true, Nat.reduceEqDiff, updA_updA, Nat.add_zero]
          · simp (disch := omega) only [hB6, hB5, hB4, hB3, hB2, hB1, updA_at, updA_ne, pk_us, pk_un, ne_eq, not_false_eq_true, Nat.reduceEqDiff, updA_updA]
        have n36 : B6 36 s.2.2.1.1 = 0 := by simp (disch := omega) only [hB6, hB5, hB4, hB3, hB2, hB1, updA_at, updA_ne, pk_us, pk_un, ne_eq, not_false_eq_true, Nat.reduceEqDiff, updA_updA]
        have n37 : B6 37 s.2.2.1.1 = 0 := by simp (disch := omega) only [hB6, hB5, hB4, hB3, hB2, hB1, updA_at, updA_ne, pk_us, pk_un, ne_eq, not_false_eq_true, Nat.reduceEqDiff, updA_updA]
        obtain ⟨I2, A2, k1, k2⟩ := R_isDead (d := d + 1) (y := y) (h := h) (I := upd I 31 (nI (s.2.2.1.1 + 1))) (P := P0) hW (show i < 6 by omega) hT ((rs.2.1.2 i i1).fa fr6 (by decide)) (PG_0 hT) n32 (n33.trans rfl) n34 (fun r hr e => absurd (lb_0 r) e)
        have fr7 : fra I I2 A (updA A2 38 (upd (A2 38) s.2.2.1.1 (oI (dnO (s.2.1.2 i) 0 0)))) [22, 23, 24, 31] [17, 18, 19, 20, 21, 25, 26, 32, 33, 34, 36, 37, 38] := (fr6.tr (k2.sub (by decide) (by decide))).w _ (by decide)
        have fw7 : frW A (updA A2 38 (upd (A2 38) s.2.2.1.1 (oI (dnO (s.2.1.2 i) 0 0)))) s.2.2.1.1 := (fw6.fa k2 (by decide)).w _ (by decide) (by decide)
        have z2 : (2 : Int32) * nI s.2.2.1.1 = nI (2 * s.2.2.1.1) := pk_mul 2 s.2.2.1.1
        refine ⟨I2, _, ?_, rs.1.fa fr7 (by decide) (by decide), rs.2.1.fa fr7 (by decide) (by decide), ⟨(k2.1 31 (by decide)).trans pk_us, fun j hj => ?_⟩, rs.2.2.2.fa fr7 (by decide)⟩
        · rw [rl0, nd_161_0 (St_run (d + 7) mt_161), mkR_o, R_isMachine (d := d + 5), v3, bind_some', rI_some, if_neg (by decide), mkR_g31, rs.2.2.1.1, if_neg (show ¬ nI s.2.2.1.1 = 4 from fun e => h4 ((nI_eq (b := 4) (by omega) (by omega)).mp e)), mkR_g31, rs.2.2.1.1, mkR_g32, mkR_s32 _ _ _ _ hW, ← hB1, mkR_g33, mkR_s33 _ _ _ _ hW, ← hB2, mkR_g34, z2, mkR_z34 _ _ _ _ (show 2 * s.2.2.1.1 < 8 by omega), ← hB3, mkR_g34, nI_1, mkR_z34 _ _ _ _ (show 2 * s.2.2.1.1 + 1 < 8 by omega), ← hB4, mkR_g36, mkR_s36 _ _ _ _ hW, ← hB5, mkR_g37, mkR_s37 _ _ _ _ hW, ← hB6, mkR_g31, rs.2.2.1.1, nI_1, mkR_p31, mkR_g38, mkR_o, k1, bind_some', rI_some, nd_161_103 (St_run (d + 7) mt_161), nd_161_103 (St_run (d + 7) mt_161), mkR_s38 _ _ _ _ hW, mkR_s38 _ _ _ _ hW]
          unfold dnO
          rw [show P0.1 = 0 from rfl]
          cases alB (s.2.1.2 i) 0 with
          | true => rw [if_pos (by rfl), if_pos rfl]; rfl
          | false => rw [if_neg (by decide), if_neg (by decide)]; rfl
        · show rsW1 _ j (setW s.2.2.1.2 s.2.2.1.1 (i, (P0, (0, (0, dnO (s.2.1.2 i) 0 0)))) j)
          have hj' : j < s.2.2.1.1 + 1 := hj
          by_cases e : j = s.2.2.1.1
          · rw [e, setW_at]
            refine ⟨?_, ?_, fun r hr => ?_, fun r hr e => absurd (lb_0 r) e, ?_, ?_, ?_⟩
            · rw [updA_ne (by decide), k2.2 32 (by decide)]; exact n32
            · rw [updA_ne (by decide), k2.2 33 (by decide)]; exact n33.trans (show (0 : Int32) = nI (0 / 625 / 6) from rfl)
            · rw [updA_ne (by decide), k2.2 34 (by decide)]; exact n34 r hr
            · rw [updA_ne (by decide), k2.2 36 (by decide)]; exact n36
            · rw [updA_ne (by decide), k2.2 37 (by decide)]; exact n37
            · rw [updA_at, pk_us]
          · rw [setW_ne e]
            exact (rs.2.2.1.2 j (by omega)).ot fw7 e
      · have w' := w.mono (Nat.le_succ q)
        refine ⟨w'.1, w'.2.1, ⟨by show s.2.2.1.1 + 1 ≤ 4; omega, fun k hk => ?_⟩, w'.2.2.2⟩
        show (setW s.2.2.1.2 s.2.2.1.1 (i, (P0, (0, (0, dnO (s.2.1.2 i) 0 0)))) k).1 < s.2.1.1 ∧ _
        have hk' : k < s.2.2.1.1 + 1 := hk
        by_cases e : k = s.2.2.1.1
        · dsimp only
          rw [e, setW_at]
          refine ⟨i1, PG_0 hT, Nat.zero_le _, Nat.zero_le _, fun e' he' => ?_⟩
          dsimp only at he'
          unfold dnO at he'
          by_cases hb : alB (s.2.1.2 i) 0 = true
          · rw [if_pos hb] at he'; cases he'
          · rw [if_neg hb] at he'; cases he'; omega
        · dsimp only
          rw [setW_ne e]
          exact w'.2.2.1.2 k (by omega)
  · refine comb (s' := s) (r := -1) S (CO_same c ?_) (RO_same (fun h I A rs => ?_)) (w.mono (by omega))
    · rw [cl0, nd_93_0 (St_run (d + 7) mt_93), c1.o, C_mNo (d := d + 6) c1 wK m i2, bind_some', rQ_null]
    · have v3 : v_in m (I 3 - 1) = 0 := by rw [rs.2.1.1]; exact i1
      rw [rl0, nd_161_0 (St_run (d + 7) mt_161), mkR_o, R_isMachine (d := d + 5), v3, bind_some', rI_some, if_pos rfl]
theorem l_see1 {i : Nat} {I : Nat → Int32} {A : Nat → Nat → Int32} {x2 x3 : Int32} (hi : i < 4) {b : Nat → Bool} (hb : ∀ r, r < 2 → A 34 (2 * i + r) = bI (b r)) : ∃ C, run d mt_162 57 [some (.ref y), some (.int (nI i)), some (.int x2), some (.int x3), some (.int (nI 0))] [] (mkR h y I A) = run d mt_162 57 [some (.ref y), some (.int (nI i)), some (.int x2), some (.int x3), some (.int (nI 2))] [] (mkR h y I C) ∧ (∀ r, r < 2 → C 13 r = bI (b r)) ∧ (∀ r, r < 2 → C 14 r = A 35 (2 * i + r)) ∧ fra I I A C [] [13, 14] := by
  have z2 : (2 : Int32) * nI i = nI (2 * i) := pk_mul 2 i
  have st : ∀ (k : Nat) (A : Nat → Nat → Int32), k < 2 → A 34 (2 * i + k) = bI (b k) → run d mt_162 57 [some (.ref y), some (.int (nI i)), some (.int x2), some (.int x3), some (.int (nI k))] [] (mkR h y I A) = run d mt_162 57 [some (.ref y), some (.int (nI i)), some (.int x2), some (.int x3), some (.int (nI (k + 1)))] [] (mkR h y I (updA (updA A 13 (upd (A 13) k (bI (b k)))) 14 (upd ((updA A 13 (upd (A 13) k (bI (b k)))) 14) k ((updA A 13 (upd (A 13) k (bI (b k)))) 35 (2 * i + k))))) := fun k A hk hA => by
    rw [nd_162_57 (St_run d mt_162), if_neg (show ¬ (2 : Int32) ≤ nI k from nI_ge (b := 2) (by omega) (by omega)), mkR_g13, mkR_g34, z2, nI_add, mkR_l34 _ _ _ _ (show 2 * i + k < 8 by omega), hA, mkR_s13 _ _ _ _ hk, mkR_g14, mkR_g35, mkR_l35 _ _ _ _ (show 2 * i + k < 8 by omega), mkR_s14 _ _ _ _ hk, nI_1]
  have s0 := st 0 A (by omega) (hb 0 (by omega))
  have s1 := st 1 (updA (updA A 13 (upd (A 13) 0 (bI (b 0)))) 14 (upd ((updA A 13 (upd (A 13) 0 (bI (b 0)))) 14) 0 ((updA A 13 (upd (A 13) 0 (bI (b 0)))) 35 (2 * i + 0)))) (by omega) (by rw [updA_ne (by decide), updA_ne (by decide)]; exact hb 1 (by omega))
  refine ⟨_, s0.trans s1, fun r hr => ?_, fun r hr => ?_, ((((fra.rf _ _ _ _).w _ (by decide)).w _ (by decide)).w _ (by decide)).w _ (by decide)⟩
  · rcases (show r = 0 ∨ r = 1 by omega) with rfl | rfl
    · simp (disch := omega) only [updA_at, updA_ne, pk_us, pk_un, ne_eq, not_false_eq_true, Nat.reduceEqDiff, updA_updA]
    · simp (disch := omega) only [updA_at, updA_ne, pk_us, pk_un, ne_eq, not_false_eq_true, Nat.reduceEqDiff, updA_updA]
  · rcases (show r = 0 ∨ r = 1 by omega) with rfl | rfl
    · simp (disch := omega) only [updA_at, updA_ne, pk_us, pk_un, ne_eq, not_false_eq_true, Nat.reduceEqDiff, updA_updA]
    · simp (disch := omega) only [updA_at, updA_ne, pk_us, pk_un, ne_eq, not_false_eq_true, Nat.reduceEqDiff, updA_updA]
theorem l_see2 {i : Nat} {I : Nat → Int32} {A : Nat → Nat → Int32} (hi : i < 4) {b : Nat → Bool} (hb : ∀ r, r < 2 → A 13 r = bI (b r)) : ∃ C, run d mt_162 131 [some (.ref y), some (.int (nI i)), none, none, some (.int (nI 0))] [] (mkR h y I A) = run d mt_162 131 [some (.ref y), some (.int (nI i)), none, none, some (.int (nI 2))] [] (mkR h y I C) ∧ (∀ r, r < 2 → C 34 (2 * i + r) = bI (b r)) ∧ (∀ r, r < 2 → C 35 (2 * i + r) = A 14 r) ∧ frW A C i ∧ fra I I A C [] [34, 35] := by
  have z2 : (2 : Int32) * nI i = nI (2 * i) := pk_mul 2 i
  have st : ∀ (k : Nat) (A : Nat → Nat → Int32), k < 2 → A 13 k = bI (b k) → run d mt_162 131 [some (.ref y), some (.int (nI i)), none, none, some (.int (nI k))] [] (mkR h y I A) = run d mt_162 131 [some (.ref y), some (.int (nI i)), none, none, some (.int (nI (k + 1)))] [] (mkR h y I (updA (updA A 34 (upd (A 34) (2 * i + k) (bI (b k)))) 35 (upd ((updA A 34 (upd (A 34) (2 * i + k) (bI (b k)))) 35) (2 * i + k) ((updA A 34 (upd (A 34) (2 * i + k) (bI (b k)))) 14 k)))) := fun k A hk hA => by
    rw [nd_162_131 (St_run d mt_162), if_neg (show ¬ (2 : Int32) ≤ nI k from nI_ge (b := 2) (by omega) (by omega)), mkR_g34, mkR_g13, mkR_l13 _ _ _ _ hk, hA, z2, nI_add, mkR_s34 _ _ _ _ (show 2 * i + k < 8 by omega), mkR_g35, mkR_g14, mkR_l14 _ _ _ _ hk, mkR_s35 _ _ _ _ (show 2 * i + k < 8 by omega), nI_1]
  have s0 := st 0 A (by omega) (hb 0 (by omega))
  have s1 := st 1 (updA (updA A 34 (upd (A 34) (2 * i + 0) (bI (b 0)))) 35 (upd ((updA A 34 (upd (A 34) (2 * i + 0) (bI (b 0)))) 35) (2 * i + 0) ((updA A 34 (upd (A 34) (2 * i + 0) (bI (b 0)))) 14 0))) (by omega) (by rw [updA_ne (by decide), updA_ne (by decide)]; exact hb 1 (by omega))
  refine ⟨_, s0.trans s1, fun r hr => ?_, fun r hr => ?_, ((((frW.rf A i).z _ (by omega) (by omega)).z _ (by omega) (by omega)).z _ (by omega) (by omega)).z _ (by omega) (by omega), ((((fra.rf _ _ _ _).w _ (by decide)).w _ (by decide)).w _ (by decide)).w _ (by decide)⟩
  · rcases (show r = 0 ∨ r = 1 by omega) with rfl | rfl
    · simp (disch := omega) only [updA_at, updA_ne, pk_us, pk_un, ne_eq, not_false_eq_true, Nat.reduceEqDiff, updA_updA]
    · simp (disch := omega) only [updA_at, updA_ne, pk_us, pk_un, ne_eq, not_false_eq_true, Nat.reduceEqDiff, updA_updA]
  · rcases (show r = 0 ∨ r = 1 by omega) with rfl | rfl
    · simp (disch := omega) only [updA_at, updA_ne, pk_us, pk_un, ne_eq, not_false_eq_true, Nat.reduceEqDiff, updA_updA]
    · simp (disch := omega) only [updA_at, updA_ne, pk_us, pk_un, ne_eq, not_false_eq_true, Nat.reduceEqDiff, updA_updA]
theorem op_see (S : SS h x y s q) (hq : q < 2 ^ 30) (m l yy : Int32) : OP d x y h q 94 162 [.int m, .int l, .int yy] := by
  obtain ⟨w, c, _, _⟩ := id S
  obtain ⟨X, c1, c2, _, _, _, _, _, _, _, c10, c11, _⟩ := id c
  have wW := w.2.2.1.1
  have wK := w.2.1.1
  have cl0 : call (d + 8) 94 [.ref x, .int m, .int l, .int yy] h = run (d + 7) mt_94 0 [some (.ref x), some (.int m), some (.int l), some (.int yy), none] [] h := call_at mt_94 [some (.ref x), some (.int m), some (.int l), some (.int yy), none] rfl rfl rfl
  have rl0 : ∀ (h : AH) I A, call (d + 8) 162 [.ref y, .int m, .int l, .int yy] (mkR h y I A) = run (d + 7) mt_162 0 [some (.ref y), some (.int m), some (.int l), some (.int yy), none] [] (mkR h y I A) := fun h I A => call_at mt_162 [some (.ref y), some (.int m), some (.int l), some (.int yy), none] rfl rfl rfl
  rcases wat_cases w m with ⟨i, i1, rfl, i3⟩ | ⟨i1, i2⟩
  · have wa := C_wAt (d := d + 6) c1 c2 wW i i1
    obtain ⟨D, a1, a2, a3⟩ := c11.1 i i1
    obtain ⟨w1, w2, w3, w4, w5⟩ := w.2.2.1.2 i i1
    have i4 : i < 4 := by omega
    have q0 : isWo h (wo x i) _ _ _ := a1
    have hdn : ∀ e, (s.2.2.1.2 i).2.2.2.2 = some e → e < 2 ^ 31 := fun e he => by have := w5 e he; omega
    rcases in2 l with ⟨j, j1, rfl, j3⟩ | ⟨j1, j2, j3⟩
    · have rl1 : ∀ (h : AH) I A, RS I A s → call (d + 8) 162 [.ref y, .int (nI i), .int (nI j), .int yy] (mkR h y I A) = if oI (s.2.2.1.2 i).2.2.2.2 = -4 then run (d + 7) mt_162 57 [some (.ref y), some (.int (nI i)), some (.int (nI j)), some (.int yy), some (.int (nI 0))] [] (mkR h y (upd I 12 (nI ((s.2.2.1.2 i).2.1.1 / 625 / 6))) A) else some (some (.int (-5)), mkR h y I A) := fun h I A rs => by
        have v3 : v_in (nI i) (I 31 - 1) = 1 := by rw [rs.2.2.1.1]; exact i3
        obtain ⟨b1, b2, b3, b4, b5, b6, b7⟩ := rs.2.2.1.2 i i1
        rw [rl0, nd_162_0 (St_run (d + 7) mt_162), mkR_g31, m_in0, v3, bind_some', rI_some, if_neg (by decide), show (2 : Int64) = (2 : Int32).toInt64 from by decide, m_in0, j3, bind_some', rI_some, if_neg (by decide), mkR_g38, mkR_l38 _ _ _ _ i4, b7, mkR_g33, mkR_l33 _ _ _ _ i4, b2, mkR_p12]
        rfl
      have cl1 : call (d + 8) 94 [.ref x, .int (nI i), .int (nI j), .int yy] h = (call (d + 7) 61 [.ref (wo x i), .int (nI j), .int yy] h).bind fun q4 => rI q4 fun v6 h5 => some (some (.int v6), h5) := by
        rw [cl0, nd_94_0 (St_run (d + 7) mt_94), c1.o, wa, bind_some', rQ_some, if_neg (nI_pos (by omega)), if_pos (show nI j < (3 : Int32) from nI_lt (a := j) (b := 3) j1 (by decide)), q0.o]
      cases ho : (s.2.2.1.2 i).2.2.2.2 with
      | some e =>
        rw [ho] at q0 hdn
        have dn := C_isDone (d := d + 5) q0 hdn
        have hne : ¬ oI (some e) = -4 := fun e' => by have := (dn_NO hdn).mp e'; cases this
        refine comb (s' := s) (r := -5) S (CO_same c ?_) (RO_same (fun h I A rs => ?_)) (w.mono (by omega))
        · rw [cl1, call_at mt_61 [some (.ref (wo x i)), some (.int (nI j)), some (.int yy)] rfl rfl rfl, nd_61_0 (St_run (d + 6) mt_61), q0.o, dn, bind_some', rI_some, if_neg (show ¬ bI (some e).isSome = 0 from (by decide : ¬ bI true = 0)), nd_61_14 (St_run (d + 6) mt_61), bind_some', rI_some]
        · rw [rl1 h I A rs, ho, if_neg hne]
      | none =>
        have hT := w.2.1.2 _ w1
        obtain ⟨M, m1, m2, m3, m4⟩ := c10.1 _ w1
        have ft : FT (s.2.1.2 (s.2.2.1.2 i).1) M.2.2.2.2 := by
          rcases m4 with ⟨_, hz⟩ | ⟨_, hz⟩
          · have := wdB_iff.mpr ⟨i, i1, rfl⟩
            rw [hz] at this
            cases this
          · exact hz
        rw [ho] at q0
        obtain ⟨h1, D1, e1, e2, e3, e4, e5⟩ := C_wtake (d := d + 3) (T := s.2.1.2 (s.2.2.1.2 i).1) q0 a2 m1 m2 hT ft (by unfold mo wo; omega) w2 a3 (by omega) j j1 yy
        have g1 := PG_step hT w2 j1 yy (nI (s.2.2.1.2 i).2.2.1)
        have vc := g1.vd hT
        obtain ⟨T, hTe⟩ : ∃ T, T = s.2.1.2 (s.2.2.1.2 i).1 := ⟨_, rfl⟩
        obtain ⟨P, hP⟩ : ∃ P, P = psT (s.2.1.2 (s.2.2.1.2 i).1) (s.2.2.1.2 i).2.1 j yy (nI (s.2.2.1.2 i).2.2.1) := ⟨_, rfl⟩
        rw [← hP, ← hTe] at e1 e2 g1 vc
        rw [← hP] at e4
        rw [← hTe] at hT
        have hw := isC.updW (v := ((s.2.2.1.2 i).1, (P, ((s.2.2.1.2 i).2.2.1 + 1, ((s.2.2.1.2 i).2.2.2.1 + (if T.2.2.2 (P.1 / 625 / 6) = true then 1 else 0), dnO T P.1 ((s.2.2.1.2 i).2.2.1 + 1)))))) c w i1 rfl ⟨D1, e2, e3, e4⟩ e5
        refine comb (r := if alB T P.1 = true then bI (T.2.2.2 (P.1 / 625 / 6)) else -5) S ⟨h1, ?_, hw, e5.sub (by unfold wo; omega) (by unfold wo; omega)⟩ (fun h I A rs => ?_) ?_
        · rw [cl1, e1, bind_some', rI_some]
        · obtain ⟨b1, b2, b3, b4, b5, b6, b7⟩ := rs.2.2.1.2 i i1
          have iT := rs.2.1.2 _ w1
          rw [← hTe] at iT w2
          obtain ⟨C1, s1, s2, s3, s4⟩ := l_see1 (d := d + 7) (y := y) (h := h) (I := upd I 12 (nI ((s.2.2.1.2 i).2.1.1 / 625 / 6))) (A := A) (x2 := nI j) (x3 := yy) i4 (b := fun r => decide (lb (s.2.2.1.2 i).2.1.1 r ≠ 0)) b3
          have p1 : fra I (upd I 12 (nI ((s.2.2.1.2 i).2.1.1 / 625 / 6))) A C1 [12, 16] [13, 14, 15] := ((fra.rf I A _ _).u _ (by decide)).tr (s4.sub (by decide) (by decide))
          obtain ⟨I2, A2, g2, g3, g4, g5, g6⟩ := R_goes (d := d + 5) (a := y) (h := h) (I := upd I 12 (nI ((s.2.2.1.2 i).2.1.1 / 625 / 6))) (A := C1) hT (show (s.2.2.1.2 i).1 < 6 by omega) (iT.fa p1 (by decide)) w2 ⟨pk_us, s2, fun r hr hl => (s3 r hr).trans (b4 r hr hl)⟩ j j1 yy 0
          have p2 := p1.tr g6
          have g3' : RPo I2 A2 P := by rw [hP, ← hTe]; exact g3
          obtain ⟨k1, k2, k3⟩ := g3'
          obtain ⟨E1, hE1⟩ : ∃ B, B = updA A2 33 (upd (A2 33) i (nI (P.1 / 625 / 6))) := ⟨_, rfl⟩
          obtain ⟨C2, t1, t2, t3, t4, t5⟩ := l_see2 (d := d + 7) (y := y) (h := h) (I := I2) (A := E1) i4 (b := fun r => decide (lb P.1 r ≠ 0)) (fun r hr => by rw [hE1, updA_ne (by decide)]; exact k2 r hr)
          obtain ⟨E2, hE2⟩ : ∃ B, B = updA C2 36 (upd (C2 36) i (nI ((s.2.2.1.2 i).2.2.1 + 1))) := ⟨_, rfl⟩
          obtain ⟨E3, hE3⟩ : ∃ B, B = updA E2 37 (upd (E2 37) i (nI ((s.2.2.1.2 i).2.2.2.1 + (if T.2.2.2 (P.1 / 625 / 6) = true then 1 else 0)))) := ⟨_, rfl⟩
          have p3 : fra I I2 A E1 [12, 16] [13, 14, 15, 33] := by rw [hE1]; exact (p2.sub (by decide) (by decide)).w _ (by decide)
          have p4 : fra I I2 A C2 [12, 16] [13, 14, 15, 33, 34, 35] := (p3.sub (by decide) (by decide)).tr (t5.sub (by decide) (by decide))
          have p5 : fra I I2 A E2 [12, 16] [13, 14, 15, 33, 34, 35, 36] := by rw [hE2]; exact (p4.sub (by decide) (by decide)).w _ (by decide)
          have p6 : fra I I2 A E3 [12, 16, 22, 23, 24] [13, 14, 15, 17, 18, 19, 20, 21, 25, 26, 33, 34, 35, 36, 37, 38] := by rw [hE3]; exact (p5.sub (by decide) (by decide)).w _ (by decide)
          have f1 : frW A E1 i := by rw [hE1]; exact ((frW.rf A i).fa p2 (by decide)).w _ (by decide) (by decide)
          have f2 : frW A C2 i := ⟨fun k hk z hz => by rw [t4.1 k hk z hz]; exact f1.1 k hk z hz, fun k hk z hz hz2 => by rw [t4.2 k hk z hz hz2]; exact f1.2 k hk z hz hz2⟩
          have f3 : frW A E3 i := by
            rw [hE3]; refine frW.w ?_ _ (by decide) (by decide)
            rw [hE2]; exact f2.w _ (by decide) (by decide)
          have n32 : E3 32 i = nI (s.2.2.1.2 i).1 := by rw [p6.2 32 (by decide)]; exact b1
          have n33 : E3 33 i = nI (P.1 / 625 / 6) := by
            rw [hE3, updA_ne (by decide), hE2, updA_ne (by decide), t5.2 33 (by decide), hE1, updA_at, pk_us]
          have n34 : ∀ r, r < 2 → E3 34 (2 * i + r) = bI (decide (lb P.1 r ≠ 0)) := fun r hr => by
            rw [hE3, updA_ne (by decide), hE2, updA_ne (by decide)]; exact t2 r hr
          have n35 : ∀ r, r < 2 → lb P.1 r ≠ 0 → E3 35 (2 * i + r) = P.2.1 r := fun r hr hl => by
            rw [hE3, updA_ne (by decide), hE2, updA_ne (by decide), t3 r hr, hE1, updA_ne (by decide)]; exact k3 r hr hl
          have n36 : E3 36 i = nI ((s.2.2.1.2 i).2.2.1 + 1) := by rw [hE3, updA_ne (by decide), hE2, updA_at, pk_us]
          have n37 : E3 37 i = nI ((s.2.2.1.2 i).2.2.2.1 + (if T.2.2.2 (P.1 / 625 / 6) = true then 1 else 0)) := by rw [hE3, updA_at, pk_us]
          obtain ⟨I4, A4, u1, u2⟩ := R_isDead (d := d + 1) (y := y) (h := h) (I := I2) (P := P) i4 (show (s.2.2.1.2 i).1 < 6 by omega) hT (iT.fa p6 (by decide)) g1 n32 n33 n34 n35
          have p7 : fra I I4 A A4 [12, 16, 22, 23, 24] [13, 14, 15, 17, 18, 19, 20, 21, 25, 26, 33, 34, 35, 36, 37, 38] := p6.tr (u2.sub (by decide) (by decide))
          have f4 : frW A A4 i := f3.fa u2 (by decide)
          have sP := vc.2.2.1
          have sT := hT.2.1
          have a6 : C2 6 (6 * (s.2.2.1.2 i).1 + P.1 / 625 / 6) = bI (T.2.2.2 (P.1 / 625 / 6)) := by rw [p4.2 6 (by decide)]; exact iT.g (by omega) rfl
          have cc32 : C2 32 i = nI (s.2.2.1.2 i).1 := by rw [p4.2 32 (by decide)]; exact b1
          have e6 : E2 6 = C2 6 := by rw [hE2, updA_ne (by decide)]
          have e32 : E2 32 i = nI (s.2.2.1.2 i).1 := by rw [hE2, updA_ne (by decide)]; exact cc32
          have e37 : E2 37 i = nI (s.2.2.1.2 i).2.2.2.1 := by rw [p5.2 37 (by decide)]; exact b6
          have c36 : C2 36 i = nI (s.2.2.1.2 i).2.2.1 := by rw [p4.2 36 (by decide)]; exact b5
          have c1_32 : C1 32 i = nI (s.2.2.1.2 i).1 := by rw [p1.2 32 (by decide)]; exact b1
          have a4_36 : A4 36 i = nI ((s.2.2.1.2 i).2.2.1 + 1) := by rw [u2.2 36 (by decide)]; exact n36
          have m6 : (6 : Int32) * nI (s.2.2.1.2 i).1 = nI (6 * (s.2.2.1.2 i).1) := pk_mul 6 _
          -- the run to the last node
          have e227 : call (d + 8) 162 [.ref y, .int (nI i), .int (nI j), .int yy] (mkR h y I A) = if bI (!alB T P.1) = 0 then (if bI (T.2.2.2 (P.1 / 625 / 6)) = 0 then some (some (.int 0), mkR h y I4 A4) else some (some (.int 1), mkR h y I4 A4)) else some (some (.int (-5)), mkR h y I4 (updA A4 38 (upd (A4 38) i (nI ((s.2.2.1.2 i).2.2.1 + 1))))) := by
            rw [rl1 h I A rs, ho, if_pos (show oI none = -4 from rfl), s1, nd_162_57 (St_run (d + 7) mt_162), if_pos (show (2 : Int32) ≤ nI 2 by decide), mkR_g32, mkR_l32 _ _ _ _ i4, c1_32, mkR_o, g2, bind_some', rV_some, mkR_g33, mkR_g12, k1, mkR_s33 _ _ _ _ i4, ← hE1, show (0 : Int32) = nI 0 from rfl, t1, nd_162_131 (St_run (d + 7) mt_162), if_pos (show (2 : Int32) ≤ nI 2 by decide), mkR_g36, mkR_l36 _ _ _ _ i4, c36, nI_1, mkR_s36 _ _ _ _ i4, ← hE2, mkR_g6, mkR_g32, mkR_l32 _ _ _ _ i4, e32, mkR_g12, k1, m6, nI_add, mkR_l6 _ _ _ _ (show 6 * (s.2.2.1.2 i).1 + P.1 / 625 / 6 < 36 by omega), e6, a6, mkR_g37, mkR_l37 _ _ _ _ i4, e37]
            have fin : ∀ (z : Nat) (bz : Int32), z = (if T.2.2.2 (P.1 / 625 / 6) = true then 1 else 0) → run (d + 7) mt_162 227 [some (.ref y), some (.int (nI i)), none, none, some (.int bz)] [.int (nI z), .int (nI (s.2.2.1.2 i).2.2.2.1), .int (nI i), .ref (y + 28)] (mkR h y I2 E2) = if bI (!alB T P.1) = 0 then (if bz = 0 then some (some (.int 0), mkR h y I4 A4) else some (some (.int 1), mkR h y I4 A4)) else some (some (.int (-5)), mkR h y I4 (updA A4 38 (upd (A4 38) i (nI ((s.2.2.1.2 i).2.2.1 + 1))))) := fun z bz hz => by
              rw [nd_162_227 (St_run (d + 7) mt_162), nI_add, mkR_s37 _ _ _ _ i4, hz, ← hE3, mkR_o, u1, bind_some', rI_some, nd_162_262 (St_run (d + 7) mt_162), nd_162_262 (St_run (d + 7) mt_162), mkR_g38, mkR_g36, mkR_l36 _ _ _ _ i4, a4_36, mkR_s38 _ _ _ _ i4]
            cases hg : T.2.2.2 (P.1 / 625 / 6) with
            | true =>
              rw [if_neg (show ¬ bI true = nI 0 by decide)]
              exact fin 1 (bI true) (by rw [hg]; rfl)
            | false =>
              rw [if_pos (show bI false = nI 0 from rfl)]
              exact fin 0 (bI false) (by rw [hg]; rfl)
          have mk : ∀ A5, frW A A5 i → fra I I4 A A5 [12, 16, 22, 23, 24] [13, 14, 15, 17, 18, 19, 20, 21, 25, 26, 33, 34, 35, 36, 37, 38] → (∀ k, k ≠ 38 → A5 k = A4 k) → A5 38 i = oI (dnO T P.1 ((s.2.2.1.2 i).2.2.1 + 1)) → RS I4 A5 (s.1, (s.2.1, ((s.2.2.1.1, setW s.2.2.1.2 i ((s.2.2.1.2 i).1, (P, ((s.2.2.1.2 i).2.2.1 + 1, ((s.2.2.1.2 i).2.2.2.1 + (if T.2.2.2 (P.1 / 625 / 6) = true then 1 else 0), dnO T P.1 ((s.2.2.1.2 i).2.2.1 + 1)))))), s.2.2.2))) := fun A5 f5 p8 hA5 h38 => by
            refine ⟨rs.1.fa p8 (by decide) (by decide), rs.2.1.fa p8 (by decide) (by decide), ⟨(p8.1 31 (by decide)).trans rs.2.2.1.1, fun z hz => ?_⟩, rs.2.2.2.fa p8 (by decide)⟩
            show rsW1 A5 z (setW s.2.2.1.2 i _ z)
            by_cases e : z = i
            · rw [e, setW_at]
              refine ⟨?_, ?_, fun r hr => ?_, fun r hr hl => ?_, ?_, ?_, h38⟩
              · rw [hA5 32 (by decide), u2.2 32 (by decide)]; exact n32
              · rw [hA5 33 (by decide), u2.2 33 (by decide)]; exact n33
              · rw [hA5 34 (by decide), u2.2 34 (by decide)]; exact n34 r hr
              · rw [hA5 35 (by decide), u2.2 35 (by decide)]; exact n35 r hr hl
              · rw [hA5 36 (by decide)]; exact a4_36
              · rw [hA5 37 (by decide), u2.2 37 (by decide)]; exact n37
            · rw [setW_ne e]
              exact (rs.2.2.1.2 z hz).ot f5 e
          cases ha : alB T P.1 with
          | true =>
            rw [ha, if_pos (show bI (!true) = 0 from rfl)] at e227
            refine ⟨I4, A4, ?_, mk A4 f4 p7 (fun _ _ => rfl) ?_⟩
            · rw [e227, if_pos rfl]
              cases T.2.2.2 (P.1 / 625 / 6) <;> rfl
            · unfold dnO
              rw [ha, if_pos rfl, u2.2 38 (by decide), hE3, updA_ne (by decide), p5.2 38 (by decide)]
              exact b7.trans (by rw [ho])
          | false =>
            rw [ha, if_neg (show ¬ bI (!false) = 0 by decide)] at e227
            refine ⟨I4, updA A4 38 (upd (A4 38) i (nI ((s.2.2.1.2 i).2.2.1 + 1))), ?_, mk _ (f4.w _ (by decide) (by decide)) (p7.w _ (by decide)) (fun k hk => updA_ne hk) ?_⟩
            · rw [e227, if_neg (by decide)]
            · unfold dnO
              rw [ha, if_neg (by decide), updA_at, pk_us]
              rfl
        · have w' := w.mono (Nat.le_succ q)
          refine ⟨w'.1, w'.2.1, ⟨w'.2.2.1.1, fun k hk => ?_⟩, w'.2.2.2⟩
          show (setW s.2.2.1.2 i _ k).1 < s.2.1.1 ∧ _
          by_cases e : k = i
          · dsimp only
            rw [e, setW_at]
            refine ⟨w1, by dsimp only; rw [← hTe]; exact g1, by dsimp only; omega, ?_, fun e' he' => ?_⟩
            · dsimp only
              by_cases hb : T.2.2.2 (P.1 / 625 / 6) = true
              · rw [if_pos hb]; omega
              · rw [if_neg hb]; omega
            · dsimp only at he'
              unfold dnO at he'
              by_cases hb : alB T P.1 = true
              · rw [if_pos hb] at he'; cases he'
              · rw [if_neg hb] at he'; cases he'; omega
          · dsimp only
            rw [setW_ne e]
            exact w'.2.2.1.2 k hk
    · refine comb (s' := s) (r := -1) S (CO_same c ?_) (RO_same (fun h I A rs => ?_)) (w.mono (by omega))
      · rw [cl0, nd_94_0 (St_run (d + 7) mt_94), c1.o, wa, bind_some', rQ_some, nd_94_21 (St_run (d + 7) mt_94)]
        by_cases h0 : l < 0
        · rw [if_pos h0]
        · rw [if_neg h0, if_neg (Int32.not_lt.mpr (j3.resolve_left h0))]
      · have v3 : v_in (nI i) (I 31 - 1) = 1 := by rw [rs.2.2.1.1]; exact i3
        rw [rl0, nd_162_0 (St_run (d + 7) mt_162), mkR_g31, m_in0, v3, bind_some', rI_some, if_neg (by decide), show (2 : Int64) = (2 : Int32).toInt64 from by decide, m_in0, j1, bind_some', rI_some, if_pos rfl, nd_162_28 (St_run (d + 7) mt_162)]
  · refine comb (s' := s) (r := -1) S (CO_same c ?_) (RO_same (fun h I A rs => ?_)) (w.mono (by omega))
    · rw [cl0, nd_94_0 (St_run (d + 7) mt_94), c1.o, C_wNo (d := d + 6) c1 wW m i2, bind_some', rQ_null, nd_94_21 (St_run (d + 7) mt_94)]
    · have v3 : v_in m (I 31 - 1) = 0 := by rw [rs.2.2.1.1]; exact i1
      rw [rl0, nd_162_0 (St_run (d + 7) mt_162), mkR_g31, m_in0, v3, bind_some', rI_some, if_pos rfl, nd_162_28 (St_run (d + 7) mt_162)]
end OPS9
