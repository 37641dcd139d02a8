/-! ===== sheets ===== -/
def setS (f : Nat → SH) (i : Nat) (v : SH) (j : Nat) : SH := if j = i then v else f j
theorem setS_at (f : Nat → SH) (i : Nat) (v : SH) : setS f i v i = v := if_pos rfl
theorem setS_ne {f : Nat → SH} {i : Nat} {v : SH} {j : Nat} (h : j ≠ i) : setS f i v j = f j := if_neg h
abbrev RW : Type := Nat × ((Nat → Nat) × (Nat → Int32))
theorem isC.sht {h h1 : AH} {x : Nat} {s : SG} {q i : Nat} {v : SH} (c : isC h x s) (w : WFS s q) (hi : i < 4) {D : D_Sheet} (n : isSheet h1 (so x i) D) (n1 : D.1 = v.1) (n2 : D.2.1 = nI v.2.1) (n3 : ∀ j, j < 60 → D.2.2 j = v.2.2 j) (p : Fr h h1 (so x i) 2) : isC h1 x (s.1, (s.2.1, (s.2.2.1, setS s.2.2.2 i v))) := by
  obtain ⟨X, c1, c2, c3, c4, c5, c6, c7, c8, c9, c10, c11, c12, c13⟩ := c
  have w1 := w.2.1.1
  have w2 := w.2.2.1.1
  have D : ∀ o k, o + k ≤ 90 → dj (x + o) k [(so x i, 2)] := fun o k hk => dj.cons (by unfold so; omega) (dj.nil _ _)
  refine ⟨X, c1.fs p.s (D 0 1 (by omega)), c2.fs p.s (D 4 3 (by omega)), c3.fs p.s (D 1 3 (by omega)), c4.fs p.s (D 7 5 (by omega)), c5.fs p.s (D 12 2 (by omega)), c6.fs p.s (D 14 3 (by omega)), c7.fs p.s (D 17 13 (by omega)), c8.fs p.s (D 30 6 (by omega)), c9.fs p.s (D 36 3 (by omega)), c10.fs p.s (D 39 35 (by omega)) (by omega), c11.fs p.s (D 74 16 (by omega)) w2, fun j hj => ?_, c13⟩
  by_cases e : j = i
  · rw [e]
    refine ⟨_, n, ?_⟩
    show _ = (setS s.2.2.2 i v i).1 ∧ _
    dsimp only
    rw [setS_at]
    exact ⟨n1, n2, n3⟩
  · obtain ⟨D', a, b⟩ := c12 j hj
    refine ⟨D', a.fr p (by unfold so; omega), ?_⟩
    show _ = (setS s.2.2.2 i v j).1 ∧ _
    dsimp only
    rw [setS_ne e]
    exact b
theorem wfs_sht {s : SG} {q i : Nat} {v : SH} (w : WFS s q) (h1 : v.2.1 ≤ 60) (h2 : v.1 = NO ∨ ∃ l, l < 3 ∧ v.1 = nI l) : WFS (s.1, (s.2.1, (s.2.2.1, setS s.2.2.2 i v))) (q + 1) := by
  have w' := w.mono (Nat.le_succ q)
  refine ⟨w'.1, w'.2.1, w'.2.2.1, fun k hk => ?_⟩
  show (setS s.2.2.2 i v k).2.1 ≤ 60 ∧ _
  by_cases e : k = i
  · dsimp only
    rw [e, setS_at]
    exact ⟨h1, h2⟩
  · dsimp only
    rw [setS_ne e]
    exact w'.2.2.2 k hk
section SHEET
variable {d x y q K W : Nat} {h : AH} {s : SG} {X : CX0}
theorem C_sAt (q : cTop h x K W X) (a : cArr h x) (j : Nat) (hj : j < 4) : call (d + 1) 101 [.ref x, .int (nI j)] h = some (some (.ref (so x j)), h) := by
  obtain ⟨_, _, ⟨g, a1, a2⟩⟩ := a
  rw [call_at mt_101 [some (.ref x), some (.int (nI j))] rfl rfl rfl, nd_101_0 (St_run d mt_101), if_neg (nI_pos (by omega)), q.g5, lnQ_of a1, if_neg (nI_ge hj (by omega)), q.g5, ldQ_of a1 rfl hj (by decide) (a2 j hj), nd_101_23 (St_run d mt_101)]
theorem C_sNo (q : cTop h x K W X) (a : cArr h x) (m : Int32) (hm : ∀ j, j < 4 → m ≠ nI j) : call (d + 1) 101 [.ref x, .int m] h = some (some .null, h) := by
  obtain ⟨_, _, ⟨g, a1, a2⟩⟩ := a
  rw [call_at mt_101 [some (.ref x), some (.int m)] rfl rfl rfl, nd_101_0 (St_run d mt_101), q.g5, lnQ_of a1, nd_101_22 (St_run d mt_101), nd_101_23_2 (St_run d mt_101)]
  by_cases h0 : m < 0
  · rw [if_pos h0]
  · obtain ⟨j, hj, rfl⟩ := nI_of h0
    rw [if_neg h0, if_pos (nI_le (by have := hm j; by_cases e : j < 4; exact absurd rfl (this e); omega) hj)]
theorem R_isSheet (k l : Int32) : call (d + 2) 164 [.int k, .int l] h = some (some (.int (if v_in k 3 = 0 then 0 else if v_in l 2 = 0 then 0 else 1)), h) := by
  rw [call_at mt_164 [some (.int k), some (.int l)] rfl rfl rfl, nd_164_0 (St_run (d + 1) mt_164), show (3 : Int64) = (3 : Int32).toInt64 from by decide, show (2 : Int64) = (2 : Int32).toInt64 from by decide, m_in0, bind_some', rI_some, m_in0, bind_some', rI_some, nd_164_28 (St_run (d + 1) mt_164), nd_164_29 (St_run (d + 1) mt_164), nd_164_29 (St_run (d + 1) mt_164), isZ0, isZ1]
  by_cases h1 : v_in k 3 = 0
  · rw [if_pos h1, if_pos h1]
  · rw [if_neg h1, if_neg h1]
    by_cases h2 : v_in l 2 = 0
    · rw [if_pos h2, if_pos h2]
    · rw [if_neg h2, if_neg h2]
theorem l_sheet {k : Nat} (hk : k < 4) {I : Nat → Int32} : ∀ (m j : Nat) (A : Nat → Nat → Int32), j + m = 60 → (∀ z, z < j → A 41 (60 * k + z) = 0) → ∃ A', run d mt_165 40 [some (.ref y), some (.int (nI k)), none, none, some (.int (nI j))] [] (mkR h y I A) = some (some (.int 1), mkR h y I A') ∧ (∀ z, z < 60 → A' 41 (60 * k + z) = 0) ∧ (∀ z, z < 60 * k ∨ 60 * k + 60 ≤ z → A' 41 z = A 41 z) ∧ (∀ z, z ≠ 41 → A' z = A z) := by
  have z6 : (60 : Int32) * nI k = nI (60 * k) := pk_mul 60 k
  intro m
  induction m with
  | zero =>
    intro j A hj hz
    have : j = 60 := by omega
    subst this
    refine ⟨A, ?_, hz, fun _ _ => rfl, fun _ _ => rfl⟩
    rw [nd_165_40 (St_run d mt_165), if_pos (by decide)]
  | succ m ih =>
    intro j A hj hz
    obtain ⟨A', e1, e2, e3, e4⟩ := ih (j + 1) (updA A 41 (upd (A 41) (60 * k + j) 0)) (by omega) (fun z hz' => by
      rw [updA_at]
      by_cases e : z = j
      · rw [e, pk_us]
      · rw [pk_un (by omega)]; exact hz z (by omega))
    refine ⟨A', ?_, e2, fun z hz' => ?_, fun z hz' => ?_⟩
    · rw [nd_165_40 (St_run d mt_165), if_neg (show ¬ (60 : Int32) ≤ nI j from nI_ge (b := 60) (by omega) (by omega)), mkR_g41, z6, nI_add, mkR_s41 _ _ _ _ (show 60 * k + j < 240 by omega), nI_1]
      exact e1
    · rw [e3 z hz', updA_at, pk_un (by omega)]
    · rw [e4 z hz', updA_ne hz']
theorem rs_sht {I : Nat → Int32} {A A' : Nat → Nat → Int32} {i : Nat} {v : SH} (rs : RS I A s) (o : ∀ k, k ∉ [39, 40, 41] → A' k = A k) (o3 : ∀ j, j ≠ i → A' 39 j = A 39 j ∧ A' 40 j = A 40 j) (o4 : ∀ z, z < 60 * i ∨ 60 * i + 60 ≤ z → A' 41 z = A 41 z) (n1 : A' 39 i = v.1) (n2 : A' 40 i = nI v.2.1) (n3 : ∀ j, j < 60 → A' 41 (60 * i + j) = v.2.2 j) : RS I A' (s.1, (s.2.1, (s.2.2.1, setS s.2.2.2 i v))) := by
  have p : fra I I A A' [] [39, 40, 41] := ⟨fun _ _ => rfl, o⟩
  refine ⟨rs.1.fa p (by decide) (by decide), rs.2.1.fa p (by decide) (by decide), rs.2.2.1.fa p (by decide) (by decide), fun k hk => ?_⟩
  show A' 39 k = (setS s.2.2.2 i v k).1 ∧ _
  by_cases e : k = i
  · dsimp only
    rw [e, setS_at]
    exact ⟨n1, n2, n3⟩
  · dsimp only
    rw [setS_ne e]
    obtain ⟨a1, a2, a3⟩ := rs.2.2.2 k hk
    exact ⟨(o3 k e).1.trans a1, (o3 k e).2.trans a2, fun j hj => (o4 _ (by omega)).trans (a3 j hj)⟩
theorem op_sheet (S : SS h x y s q) (k l n : Int32) : OP d x y h q 97 165 [.int k, .int l, .int n] := by
  obtain ⟨w, c, _, _⟩ := id S
  obtain ⟨X, c1, c2, _, _, _, _, _, _, _, _, _, c12, _⟩ := id c
  have cl0 : call (d + 8) 97 [.ref x, .int k, .int l, .int n] h = run (d + 7) mt_97 0 [some (.ref x), some (.int k), some (.int l), some (.int n), none] [] h := call_at mt_97 [some (.ref x), some (.int k), some (.int l), some (.int n), none] rfl rfl rfl
  have rl0 : ∀ (h : AH) I A, call (d + 8) 165 [.ref y, .int k, .int l, .int n] (mkR h y I A) = run (d + 7) mt_165 0 [some (.ref y), some (.int k), some (.int l), some (.int n), none] [] (mkR h y I A) := fun h I A => call_at mt_165 [some (.ref y), some (.int k), some (.int l), some (.int n), none] rfl rfl rfl
  rcases in3 k with ⟨i, i1, rfl, i3⟩ | ⟨i1, i2, i3⟩
  · have sa := C_sAt (d := d + 6) c1 c2 i i1
    obtain ⟨D, a1, a2, a3, a4⟩ := c12 i i1
    rcases in2 l with ⟨j, j1, rfl, j3⟩ | ⟨j1, j2, j3⟩
    · have cl1 : call (d + 8) 97 [.ref x, .int (nI i), .int (nI j), .int n] h = if n ≤ 60 then (if 0 ≤ n then ((call (d + 7) 35 [.ref (so x i), .int (nI j), .int n] h).bind fun q4 => rV q4 fun h5 => some (some (.int 1), h5)) else some (some (.int (-14)), h)) else some (some (.int (-1)), h) := by
        rw [cl0, nd_97_0 (St_run (d + 7) mt_97), c1.o, sa, bind_some', rQ_some, if_neg (nI_pos (by omega)), if_neg (show ¬ (3 : Int32) ≤ nI j from nI_ge (b := 3) j1 (by omega)), nd_97_27 (St_run (d + 7) mt_97), a1.o]
      have rl1 : ∀ (h : AH) I A, call (d + 8) 165 [.ref y, .int (nI i), .int (nI j), .int n] (mkR h y I A) = if n ≤ 60 then (if 0 ≤ n then run (d + 7) mt_165 40 [some (.ref y), some (.int (nI i)), none, none, some (.int (nI 0))] [] (mkR h y I (updA (updA A 39 (upd (A 39) i (nI j))) 40 (upd ((updA A 39 (upd (A 39) i (nI j))) 40) i n))) else some (some (.int (-14)), mkR h y I A)) else some (some (.int (-1)), mkR h y I A) := fun h I A => by
        rw [rl0, nd_165_0 (St_run (d + 7) mt_165), R_isSheet (d := d + 5), i3, j3, if_neg (show ¬ (1 : Int32) = 0 by decide), if_neg (show ¬ (1 : Int32) = 0 by decide), bind_some', rI_some, if_neg (show ¬ (1 : Int32) = 0 by decide), mkR_g39, mkR_s39 _ _ _ _ i1, mkR_g40, mkR_s40 _ _ _ _ i1, nd_165_14 (St_run (d + 7) mt_165)]
        rfl
      by_cases h6 : n ≤ 60
      · by_cases h0 : 0 ≤ n
        · obtain ⟨n', hn', rfl⟩ := nI_of (Int32.not_lt.mpr h0)
          have n60 : n' ≤ 60 := by
            by_cases e : n' ≤ 60
            · exact e
            · exact absurd h6 (nI_ge (b := n') (a := 60) (by omega) hn')
          obtain ⟨h1, f, e1, e2, e3, e4⟩ := m_shBegin (d := d + 6) a1 (nI j) (nI n')
          refine comb (s' := (s.1, (s.2.1, (s.2.2.1, setS s.2.2.2 i (nI j, (n', fun _ => 0)))))) (r := 1) S ⟨h1, ?_, c.sht w i1 e2 rfl rfl e3 e4, e4.sub (by unfold so; omega) (by unfold so; omega)⟩ (fun h I A rs => ?_) (wfs_sht w n60 (Or.inr ⟨j, j1, rfl⟩))
          · rw [cl1, if_pos h6, if_pos h0, e1, bind_some', rV_some]
          · obtain ⟨A', f1, f2, f3, f4⟩ := l_sheet (d := d + 7) (y := y) (h := h) i1 (I := I) 60 0 (updA (updA A 39 (upd (A 39) i (nI j))) 40 (upd ((updA A 39 (upd (A 39) i (nI j))) 40) i (nI n'))) rfl (fun z hz => by omega)
            refine ⟨I, A', ?_, rs_sht rs (fun k hk => ?_) (fun z hz => ?_) (fun z hz => ?_) ?_ ?_ f2⟩
            · rw [rl1, if_pos h6, if_pos h0]
              exact f1
            · rw [f4 k (fun e => hk (by rw [e]; decide)), updA_ne (fun e => hk (by rw [e]; decide)), updA_ne (fun e => hk (by rw [e]; decide))]
            · rw [f4 39 (by decide), f4 40 (by decide)]
              simp (disch := omega) only [updA_at, updA_ne, pk_us, pk_un, ne_eq, not_false_eq_true, Nat.reduceEqDiff, updA_updA]
              exact ⟨trivial, trivial⟩
            · rw [f3 z hz, updA_ne (by decide), updA_ne (by decide)]
            · rw [f4 39 (by decide), updA_ne (by decide), updA_at, pk_us]
            · rw [f4 40 (by decide), updA_at, pk_us]
        · refine comb (s' := s) (r := -14) S (CO_same c ?_) (RO_same (fun h I A rs => ?_)) (w.mono (by omega))
          · rw [cl1, if_pos h6, if_neg h0]
          · rw [rl1, if_pos h6, if_neg h0]
      · refine comb (s' := s) (r := -1) S (CO_same c ?_) (RO_same (fun h I A rs => ?_)) (w.mono (by omega))
        · rw [cl1, if_neg h6]
        · rw [rl1, if_neg h6]
    · refine comb (s' := s) (r := -1) S (CO_same c ?_) (RO_same (fun h I A rs => ?_)) (w.mono (by omega))
      · rw [cl0, nd_97_0 (St_run (d + 7) mt_97), c1.o, sa, bind_some', rQ_some, nd_97_27 (St_run (d + 7) mt_97)]
        by_cases h0 : l < 0
        · rw [if_pos h0]
        · rw [if_neg h0, if_pos (j3.resolve_left h0)]
      · rw [rl0, nd_165_0 (St_run (d + 7) mt_165), R_isSheet (d := d + 5), i3, j1, if_neg (show ¬ (1 : Int32) = 0 by decide), if_pos (show (0 : Int32) = 0 from rfl), bind_some', rI_some, if_pos (show (0 : Int32) = 0 from rfl), nd_165_14 (St_run (d + 7) mt_165)]
  · refine comb (s' := s) (r := -1) S (CO_same c ?_) (RO_same (fun h I A rs => ?_)) (w.mono (by omega))
    · rw [cl0, nd_97_0 (St_run (d + 7) mt_97), c1.o, C_sNo (d := d + 6) c1 c2 k i2, bind_some', rQ_null, nd_97_27 (St_run (d + 7) mt_97)]
    · rw [rl0, nd_165_0 (St_run (d + 7) mt_165), R_isSheet (d := d + 5), i1, if_pos (show (0 : Int32) = 0 from rfl), bind_some', rI_some, if_pos (show (0 : Int32) = 0 from rfl), nd_165_14 (St_run (d + 7) mt_165)]
theorem op_lay (S : SS h x y s q) (k i v : Int32) : OP d x y h q 98 166 [.int k, .int i, .int v] := by
  obtain ⟨w, c, _, _⟩ := id S
  obtain ⟨X, c1, c2, _, _, _, _, _, _, _, _, _, c12, _⟩ := id c
  have cl0 : call (d + 8) 98 [.ref x, .int k, .int i, .int v] h = run (d + 7) mt_98 0 [some (.ref x), some (.int k), some (.int i), some (.int v), none] [] h := call_at mt_98 [some (.ref x), some (.int k), some (.int i), some (.int v), none] rfl rfl rfl
  have rl0 : ∀ (h : AH) I A, call (d + 8) 166 [.ref y, .int k, .int i, .int v] (mkR h y I A) = run (d + 7) mt_166 0 [some (.ref y), some (.int k), some (.int i), some (.int v)] [] (mkR h y I A) := fun h I A => call_at mt_166 [some (.ref y), some (.int k), some (.int i), some (.int v)] rfl rfl rfl
  rcases in3 k with ⟨z, i1, rfl, i3⟩ | ⟨i1, i2, i3⟩
  · have sa := C_sAt (d := d + 6) c1 c2 z i1
    obtain ⟨D, a1, a2, a3, a4⟩ := c12 z i1
    obtain ⟨w1, w2⟩ := w.2.2.2 z i1
    have rl1 : ∀ (h : AH) I A, RS I A s → call (d + 8) 166 [.ref y, .int (nI z), .int i, .int v] (mkR h y I A) = if (s.2.2.2 z).1 = -4 then some (some (.int (-11)), mkR h y I A) else if v_in i (nI (s.2.2.2 z).2.1 - 1) = 0 then some (some (.int (-12)), mkR h y I A) else stI (mkR h y I A) (y + 32) (nI (60 * z) + i) (v_cut (s.2.2.2 z).1 v) fun h1 => some (some (.int 1), h1) := fun h I A rs => by
      obtain ⟨b1, b2, b3⟩ := rs.2.2.2 z i1
      rw [rl0, nd_166_0 (St_run (d + 7) mt_166), R_isSheet (d := d + 5), i3, show v_in 0 2 = 1 from by decide, if_neg (show ¬ (1 : Int32) = 0 by decide), if_neg (show ¬ (1 : Int32) = 0 by decide), bind_some', rI_some, if_neg (show ¬ (1 : Int32) = 0 by decide), mkR_g39, mkR_l39 _ _ _ _ i1, b1, mkR_g40, mkR_l40 _ _ _ _ i1, b2, m_in0, bind_some', rI_some, mkR_g41, mkR_g39, mkR_l39 _ _ _ _ i1, b1, mkR_g39, mkR_l39 _ _ _ _ i1, b1, nd_166_85 (St_run (d + 7) mt_166), nd_166_85 (St_run (d + 7) mt_166), nd_166_85 (St_run (d + 7) mt_166), show (60 : Int32) * nI z = nI (60 * z) from pk_mul 60 z]
      unfold v_cut
      by_cases h0 : (s.2.2.2 z).1 = 0
      · rw [if_pos h0, if_pos h0]
      · rw [if_neg h0, if_neg h0]
        by_cases h1 : (s.2.2.2 z).1 = 1
        · rw [if_pos h1, if_pos h1]
        · rw [if_neg h1, if_neg h1]
    by_cases hN : (s.2.2.2 z).1 = -4
    · refine comb (s' := s) (r := -11) S (CO_same c ?_) (RO_same (fun h I A rs => ?_)) (w.mono (by omega))
      · rw [cl0, nd_98_0 (St_run (d + 7) mt_98), c1.o, sa, bind_some', rQ_some, a1.o, m_isNothing (d := d + 6) a1, a2, if_pos hN, bind_some', rI_some, if_neg (show ¬ (1 : Int32) = 0 by decide)]
      · rw [rl1 h I A rs, if_pos hN]
    · rcases inC i (s.2.2.2 z).2.1 (by omega) with ⟨j, j1, rfl, j3⟩ | ⟨j1, j2, j3⟩
      · obtain ⟨h1, e1, e2, e3⟩ := m_setCell (d := d + 5) a1 _ j a3 j1 w1 v
        have hp : v_hasPlace (nI (s.2.2.2 z).2.1) (nI j) = 1 := by
          unfold v_hasPlace
          rw [if_neg (nI_pos (by omega)), if_neg (nI_ge j1 (by omega))]
        refine comb (s' := (s.1, (s.2.1, (s.2.2.1, setS s.2.2.2 z ((s.2.2.2 z).1, ((s.2.2.2 z).2.1, upd (s.2.2.2 z).2.2 j (v_cut (s.2.2.2 z).1 v))))))) (r := 1) S ⟨h1, ?_, c.sht w i1 e2 a2 a3 (fun j' hj' => ?_) e3, e3.sub (by unfold so; omega) (by unfold so; omega)⟩ (fun h I A rs => ?_) (wfs_sht w w1 w2)
        · rw [cl0, nd_98_0 (St_run (d + 7) mt_98), c1.o, sa, bind_some', rQ_some, a1.o, m_isNothing (d := d + 6) a1, a2, if_neg hN, bind_some', rI_some, if_pos (show (0 : Int32) = 0 from rfl), a1.o, m_hasCell (d := d + 6) a1, a3, hp, bind_some', rI_some, if_neg (show ¬ (1 : Int32) = 0 by decide), a1.o, e1, bind_some', rV_some]
        · show upd D.2.2 j (v_cut D.1 v) j' = upd (s.2.2.2 z).2.2 j (v_cut (s.2.2.2 z).1 v) j'
          by_cases e : j' = j
          · rw [e, pk_us, pk_us, a2]
          · rw [pk_un e, pk_un e]; exact a4 j' hj'
        · obtain ⟨b1, b2, b3⟩ := rs.2.2.2 z i1
          refine ⟨I, updA A 41 (upd (A 41) (60 * z + j) (v_cut (s.2.2.2 z).1 v)), ?_, rs_sht rs (fun k hk => updA_ne (fun e => hk (by rw [e]; decide))) (fun k hk => ⟨by rw [updA_ne (by decide)], by rw [updA_ne (by decide)]⟩) (fun k hk => ?_) (by rw [updA_ne (by decide)]; exact b1) (by rw [updA_ne (by decide)]; exact b2) (fun k hk => ?_)⟩
          · rw [rl1 h I A rs, if_neg hN, j3, if_neg (show ¬ (1 : Int32) = 0 by decide), nI_add, mkR_s41 _ _ _ _ (show 60 * z + j < 240 by omega)]
          · rw [updA_at, pk_un (by omega)]
          · show _ = upd (s.2.2.2 z).2.2 j (v_cut (s.2.2.2 z).1 v) k
            rw [updA_at]
            by_cases e : k = j
            · rw [e, pk_us, pk_us]
            · rw [pk_un e, pk_un (by omega)]; exact b3 k hk
      · have hp : v_hasPlace (nI (s.2.2.2 z).2.1) i = 0 := by
          unfold v_hasPlace
          by_cases h0 : i < 0
          · rw [if_pos h0]
          · rw [if_neg h0, if_pos (j3.resolve_left h0)]
        refine comb (s' := s) (r := -12) S (CO_same c ?_) (RO_same (fun h I A rs => ?_)) (w.mono (by omega))
        · rw [cl0, nd_98_0 (St_run (d + 7) mt_98), c1.o, sa, bind_some', rQ_some, a1.o, m_isNothing (d := d + 6) a1, a2, if_neg hN, bind_some', rI_some, if_pos (show (0 : Int32) = 0 from rfl), a1.o, m_hasCell (d := d + 6) a1, a3, hp, bind_some', rI_some, if_pos (show (0 : Int32) = 0 from rfl)]
        · rw [rl1 h I A rs, if_neg hN, j1, if_pos (show (0 : Int32) = 0 from rfl)]
  · refine comb (s' := s) (r := -1) S (CO_same c ?_) (RO_same (fun h I A rs => ?_)) (w.mono (by omega))
    · rw [cl0, nd_98_0 (St_run (d + 7) mt_98), c1.o, C_sNo (d := d + 6) c1 c2 k i2, bind_some', rQ_null]
    · rw [rl0, nd_166_0 (St_run (d + 7) mt_166), R_isSheet (d := d + 5), i1, if_pos (show (0 : Int32) = 0 from rfl), bind_some', rI_some, if_pos (show (0 : Int32) = 0 from rfl)]
end SHEET
