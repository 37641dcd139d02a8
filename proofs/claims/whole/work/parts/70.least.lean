/-! ===== least rows ===== -/
theorem dpt_cg {f f' : Nat → Nat} {N : Nat} (hf : ∀ j, 0 < j → j < N → f j < j) (he : ∀ j, j < N → f' j = f j) : ∀ (m j : Nat), j < N → dpt f' m j = dpt f m j
  | 0, j, _ => rfl
  | m + 1, j, hj => by
    unfold dpt
    by_cases h0 : j = 0
    · rw [if_pos h0, if_pos h0]
    · rw [if_neg h0, if_neg h0, he j hj, dpt_cg hf he m (f j) (by have := hf j (by omega) hj; omega)]
theorem itr_cg {f f' : Nat → Nat} {N j : Nat} (hf : ∀ j, 0 < j → j < N → f j < j) (he : ∀ j, j < N → f' j = f j) (hj : j < N) : ∀ k, k ≤ dpt f j j → itr f' k j = itr f k j ∧ itr f k j < N
  | 0, _ => ⟨rfl, hj⟩
  | k + 1, hk => by
    obtain ⟨e1, e2⟩ := itr_cg hf he hj k (by omega)
    have h3 := (dpt_ok hf j j (Nat.le_refl _) hj).2.2 k (by omega)
    have h4 := hf _ h3.1 h3.2
    refine ⟨?_, by show f (itr f k j) < N; omega⟩
    show f' (itr f' k j) = f (itr f k j)
    rw [e1, he _ e2]
theorem pre_w {T U : TM} {B B' : BS} (p : pre B B') (g : GB T U B) {e : Nat} (he : e < B.1) : wn B' e = wn B e ∧ wC B' e = wC B e ∧ wL B' e = wL B e ∧ wV B' e = wV B e := by
  have hf : ∀ j, 0 < j → j < B.1 → B.2.2.1 j < j := fun j h0 hj => (g.2.2.2.2 j h0 hj).1
  have h1 : wn B' e = wn B e := dpt_cg hf (fun j hj => (p.2 j hj).2.1) e e he
  have h2 : ∀ k, wX B' e k = wX B e k ∧ wX B e k < B.1 := fun k => by
    unfold wX
    rw [h1]
    exact itr_cg hf (fun j hj => (p.2 j hj).2.1) he _ (Nat.sub_le _ _)
  refine ⟨h1, funext fun k => ?_, funext fun k => ?_, funext fun k => ?_⟩
  · unfold wC; rw [(h2 k).1, (p.2 _ (h2 k).2).1]
  · unfold wL; rw [(h2 _).1, (p.2 _ (h2 _).2).2.2]
  · unfold wV; rw [(h2 _).1, (p.2 _ (h2 _).2).2.2]
theorem wF_pW (T U : TM) : wF T U = fw (pW 1 T U) (bF T U).1 0 := congrArg (fun p => fw p (bF T U).1 0) (funext fun i => by
  unfold pW wtd wnt
  rw [if_pos rfl])
/-- the other machine of a least row -/
def isU (s : SG) (x2 : Int32) (U : TM) : Prop := (x2 = NO ∧ U = T0) ∨ ∃ j, j < s.2.1.1 ∧ x2 = nI j ∧ U = s.2.1.2 j
theorem isC.lst {h h1 : AH} {x : Nat} {s : SG} {q : Nat} {X : CX0} {D : D_Row} (c : isC h x s) (w : WFS s q) (t : cTop h1 x s.2.1.1 s.2.2.1.1 X) (u : cUn s.2.1 X) (k : cWalk h1 x) (r : cWr h1 x) (l : isRow h1 (x + 36) D 1872) (o : lsOK s.2.1 X D) (p : Fs h h1 [(x, 1), (x + 17, 22)]) : isC h1 x s := by
  obtain ⟨_, c1, c2, c3, c4, c5, c6, c7, c8, c9, c10, c11, c12, c13⟩ := c
  have w1 := w.2.1.1
  have w2 := w.2.2.1.1
  have D : ∀ o k, 1 ≤ o → (o + k ≤ 17 ∨ 39 ≤ o) → dj (x + o) k [(x, 1), (x + 17, 22)] := fun o k ho hk => dj.cons (by omega) (dj.cons (by omega) (dj.nil _ _))
  exact ⟨X, t, c2.fs p (D 4 3 (by omega) (by omega)), c3.fs p (D 1 3 (by omega) (by omega)), c4.fs p (D 7 5 (by omega) (by omega)), c5.fs p (D 12 2 (by omega) (by omega)), c6.fs p (D 14 3 (by omega) (by omega)), k, r, ⟨_, l, o⟩, c10.fs p (D 39 35 (by omega) (by omega)) (by omega), c11.fs p (D 74 16 (by omega) (by omega)) w2, c12.fs p (D 90 8 (by omega) (by omega)), u⟩
section LEAST
variable {d x y q : Nat} {h : AH} {s : SG}
theorem isU.wf {x2 : Int32} {U : TM} (w : WFS s q) (u : isU s x2 U) : WFT U := by
  rcases u with ⟨_, rfl⟩ | ⟨j, j1, _, rfl⟩
  · exact T0_wf
  · exact w.2.1.2 j j1
theorem isU.to {x2 : Int32} {U : TM} {I : Nat → Int32} {A : Nat → Nat → Int32} (w : WFS s q) (u : isU s x2 U) (rs : rsMac I A s.2.1) : isTo A x2 U := by
  have wK := w.2.1.1
  rcases u with ⟨e, rfl⟩ | ⟨j, j1, e, rfl⟩
  · exact Or.inr ⟨e, rfl⟩
  · exact Or.inl ⟨j, by omega, e, rs.2 j j1⟩
theorem isU.one {x2 : Int32} {U V : TM} (w : WFS s q) (u : isU s x2 U) (v : isU s x2 V) : U = V := by
  have wK := w.2.1.1
  rcases u with ⟨e, rfl⟩ | ⟨j, j1, e, rfl⟩
  · rcases v with ⟨f, rfl⟩ | ⟨k, k1, f, rfl⟩
    · rfl
    · rw [e, NO_eq (by omega)] at f
      exact absurd f (fun e => e)
  · rcases v with ⟨f, rfl⟩ | ⟨k, k1, f, rfl⟩
    · rw [f, NO_eq (by omega)] at e
      exact absurd e (fun e => e)
    · rw [e] at f
      have := (nI_eq (by omega) (by omega)).mp f
      rw [this]
/-- the other machine's place -/
theorem isU.at {x2 : Int32} {U : TM} (c : isC h x s) (w : WFS s q) (u : isU s x2 U) : ∃ b2 M2, isM h b2 M2 ∧ MTT M2 U ∧ x + 7 ≤ b2 ∧ (b2 + 5 ≤ x + 12 ∨ x + 39 ≤ b2) ∧ b2 + 5 ≤ x + 74 ∧ ∀ i, i < s.2.1.1 → run (d + 5) mt_91 0 [some (.ref x), some (.int (nI i)), some (.int x2), none, none, none] [] h = run (d + 5) mt_91 24 [some (.ref x), some (.int (nI i)), some (.int x2), some (.ref (mo x i)), none, none] [.ref b2] h := by
  obtain ⟨X, c1, c2, c3, ⟨M0, s1, s2⟩, c5, c6, c7, c8, c9, c10, _⟩ := id c
  have wK := w.2.1.1
  rcases u with ⟨rfl, rfl⟩ | ⟨j, j1, rfl, rfl⟩
  · refine ⟨x + 7, M0, s1, s2, by omega, by omega, by omega, fun i hi => ?_⟩
    rw [nd_91_0 (St_run (d + 5) mt_91), c1.o, C_mAt (d := d + 4) c1 c2 wK i hi, bind_some', rQ_some, if_pos L_m4.symm, c1.g6]
  · obtain ⟨M, m1, m2, _⟩ := c10.1 j j1
    refine ⟨mo x j, M, m1, m2, by unfold mo; omega, by unfold mo; omega, by unfold mo; omega, fun i hi => ?_⟩
    rw [nd_91_0 (St_run (d + 5) mt_91), c1.o, C_mAt (d := d + 4) c1 c2 wK i hi, bind_some', rQ_some, if_neg (fun e => by rw [L_m4] at e; have := e.symm; rw [NO_eq (by omega)] at this; exact this), c1.o, C_mAt (d := d + 4) c1 c2 wK j j1, bind_some', rQ_some]
theorem l_91_127 {K W : Nat} {X : CX0} (c : cTop h x K W X) (x1 x2 : Int32) : ∃ h', run d mt_91 127 [some (.ref x), some (.int x1), some (.int x2), none, none, none] [] h = some (some (.int X.2.2.2.1), h') ∧ cTop h' x K W (1, (x1, (x2, X.2.2.2))) ∧ Fr h h' x 1 := by
  have q1 := cTop.mk h x K W (X.1, (x1, X.2.2))
  have q2 := cTop.mk (hS h x (oTop x K W (X.1, (x1, X.2.2)))) x K W (X.1, (x1, (x2, X.2.2.2)))
  have q3 := cTop.mk (hS (hS h x (oTop x K W (X.1, (x1, X.2.2)))) x (oTop x K W (X.1, (x1, (x2, X.2.2.2))))) x K W (1, (x1, (x2, X.2.2.2)))
  refine ⟨_, ?_, q3, ((cTop.fr1 _ _ _ _ _).tr (cTop.fr1 _ _ _ _ _)).tr (cTop.fr1 _ _ _ _ _)⟩
  rw [nd_91_127 (St_run d mt_91), c.p12, q1.p13, isZ1, q2.p11, nd_91_142 (St_run d mt_91), q3.g14]
/-- what findLeast leaves -/
def FLo (T U : TM) (D : D_Row) : Prop := ∀ n, lenF T U = some n → D.1 = nI n ∧ ∀ j, j < n → D.2.1 j = nI (LLf T U j) ∧ D.2.2 j = nI (NNf T U j)
theorem C_findLeast (c : isC h x s) (w : WFS s q) (i : Nat) (hi : i < s.2.1.1) {x2 : Int32} {U : TM} (u : isU s x2 U) : ∃ h1 D, call (d + 6) 91 [.ref x, .int (nI i), .int x2] h = some (some (.int (oI (lenF (s.2.1.2 i) U))), h1) ∧ isC h1 x s ∧ isRow h1 (x + 36) D 1872 ∧ FLo (s.2.1.2 i) U D ∧ Fs h h1 [(x, 1), (x + 17, 22)] := by
  have wK := w.2.1.1
  have hT := w.2.1.2 i hi
  have hU := u.wf w
  obtain ⟨X, c1, c2, c3, c4, c5, c6, ⟨I, A, k1, k2⟩, ⟨D1, D2, r1, r2⟩, ⟨R, l1, l2⟩, c10, c11, c12, c13⟩ := id c
  obtain ⟨M1, m1, t1, _⟩ := c10.1 i hi
  obtain ⟨b2, M2, m2, t2, o1, o2, o3, o4⟩ := u.at (d := d) c w
  have cl0 : call (d + 6) 91 [.ref x, .int (nI i), .int x2] h = run (d + 5) mt_91 0 [some (.ref x), some (.int (nI i)), some (.int x2), none, none, none] [] h := call_at mt_91 [some (.ref x), some (.int (nI i)), some (.int x2), none, none, none] rfl rfl rfl
  have bo : mo x i + 5 ≤ x + 74 ∧ x + 39 ≤ mo x i := by unfold mo; omega
  -- the search itself
  have anew : ∃ h1 D, run (d + 5) mt_91 60 [some (.ref x), some (.int (nI i)), some (.int x2), some (.ref (mo x i)), some (.ref b2), none] [] h = some (some (.int (oI (lenF (s.2.1.2 i) U))), h1) ∧ isC h1 x s ∧ isRow h1 (x + 36) D 1872 ∧ FLo (s.2.1.2 i) U D ∧ Fs h h1 [(x, 1), (x + 17, 22)] := by
    have hm1 : ∀ J C, isM (mkW h (x + 17) J C) (mo x i) M1 := fun J C => m1.fr (mkW_Fr h (x + 17) J C) (by omega)
    have hm2 : ∀ J C, isM (mkW h (x + 17) J C) b2 M2 := fun J C => m2.fr (mkW_Fr h (x + 17) J C) (by omega)
    obtain ⟨I1, A1, N, e1, e2, e3, e4, e5, e6⟩ := W_explore (d := d + 1) hm1 t1 hT hm2 t2 hU 1 (by omega) k2
    rw [← mkW_self k1, ← wF_pW] at e1
    rw [← wF_pW] at e4 e5
    have fr1 := mkW_Fr h (x + 17) I1 A1
    have qw1 := mkW_is h (x + 17) I1 A1
    have g := bf_GB hT hU N
    have pr := bF_pre hT hU e2
    have wv := e3.v hT hU g
    have c1' := c1.fs fr1.s (dj.cons (by omega) (dj.nil _ _))
    have r1' := r1.fr fr1 (by omega)
    have r2' := r2.fr fr1 (by omega)
    have l1' := l1.fr fr1 (by omega)
    have e1' : call (d + 5) 41 [.ref (x + 17), .ref (mo x i), .ref b2, .int 1] h = some (some (.int (oI (wF (s.2.1.2 i) U))), mkW h (x + 17) I1 A1) := e1
    rw [nd_91_60 (St_run (d + 5) mt_91), c1.g9, k1.o, e1', bind_some', rI_some]
    cases hw : wF (s.2.1.2 i) U with
    | none =>
      have hl : lenF (s.2.1.2 i) U = none := by unfold lenF; rw [hw]; rfl
      have t3 := cTop.mk (mkW h (x + 17) I1 A1) x s.2.1.1 s.2.2.1.1 (X.1, (X.2.1, (X.2.2.1, (-4, X.2.2.2.2))))
      obtain ⟨h4, f1, f2, f3⟩ := l_91_127 (d := d + 5) t3 (nI i) x2
      have fr3 := cTop.fr1 (mkW h (x + 17) I1 A1) x s.2.1.1 s.2.2.1.1 (X.1, (X.2.1, (X.2.2.1, (-4, X.2.2.2.2))))
      have fr4 := fr3.tr f3
      have fs : Fs h h4 [(x, 1), (x + 17, 22)] := (fr1.in (x + 17, 22) (by simp) (by dsimp only; omega) (by dsimp only; omega)).tr (fr4.in (x, 1) (by simp) (Nat.le_refl _) (Nat.le_refl _))
      have l4 := l1'.fr fr4 (by omega)
      have fl : FLo (s.2.1.2 i) U R := fun n hn => by rw [hl] at hn; cases hn
      refine ⟨h4, R, ?_, c.lst w f2 c13 ⟨I1, A1, qw1.fr fr4 (by omega), wv⟩ ⟨D1, D2, r1'.fr fr4 (by omega), r2'.fr fr4 (by omega)⟩ l4 (Or.inr ⟨rfl, i, U, hi, rfl, u, by rw [hl]; rfl, fl⟩) fs, l4, fl, fs⟩
      rw [if_pos (show oI none = -4 from rfl), c1'.p14, f1, hl]
      rfl
    | some e =>
      have he : e < (bf (s.2.1.2 i) U N).1 := e4 e hw
      have h1872 := GB_most hT hU g
      obtain ⟨p1, p2, p3, p4⟩ := pre_w pr g he
      obtain ⟨x1, x2', x3, x4⟩ := wX_ok g he
      have hl : lenF (s.2.1.2 i) U = some (wn (bf (s.2.1.2 i) U N) e) := by unfold lenF; rw [hw, ← p1]; rfl
      obtain ⟨h2, f, g', f1, f2, f3, f4⟩ := W_tellWays (d := d + 4) (ro := x + 36) hT hU g qw1 e3 l1' (by omega) e he
      have W1 := (wW hT hU g he).1
      have hv : vd (s.2.1.2 i) U (wC (bf (s.2.1.2 i) U N) e (wn (bf (s.2.1.2 i) U N) e)) := by
        unfold wC
        rw [x2']
        exact g.2.2.1 e he
      obtain ⟨h3, D1', D2', g'', j1, j2, j3, j4, j5, j6⟩ := W_giveNames (d := d + 2) (a := x + 17) (ro := x + 36) t1 hT t2 hU (n := wn (bf (s.2.1.2 i) U N) e) (by omega) W1 hv (dj.cons (by omega) (dj.cons (by omega) (dj.nil _ _))) (dj.cons (by omega) (dj.cons (by omega) (dj.nil _ _))) (by omega) (qw1.fr f4 (by omega)) (r1'.fr f4 (by omega)) (r2'.fr f4 (by omega)) f2 ((hm1 I1 A1).fr f4 (by omega)) ((hm2 I1 A1).fr f4 (by omega)) rfl f3
      have c2' := c1'.fs f4.s (dj.cons (by omega) (dj.nil _ _))
      have c3' := c2'.fs j6 (dj.cons (by omega) (dj.cons (by omega) (dj.nil _ _)))
      have t3 := cTop.mk h3 x s.2.1.1 s.2.2.1.1 (X.1, (X.2.1, (X.2.2.1, (nI (wn (bf (s.2.1.2 i) U N) e), X.2.2.2.2))))
      obtain ⟨h4, n1, n2, n3⟩ := l_91_127 (d := d + 5) t3 (nI i) x2
      have fr3 := cTop.fr1 h3 x s.2.1.1 s.2.2.1.1 (X.1, (X.2.1, (X.2.2.1, (nI (wn (bf (s.2.1.2 i) U N) e), X.2.2.2.2))))
      have fr4 := fr3.tr n3
      have fs : Fs h h4 [(x, 1), (x + 17, 22)] := (fr1.in (x + 17, 22) (by simp) (by dsimp only; omega) (by dsimp only; omega)).tr ((f4.in (x + 17, 22) (by simp) (by dsimp only; omega) (by dsimp only; omega)).tr ((j6.sub (fun z hz => by
        simp only [List.mem_cons, List.not_mem_nil, or_false] at hz
        refine ⟨(x + 17, 22), by simp, ?_⟩
        rcases hz with rfl | rfl <;> dsimp only <;> omega)).tr (fr4.in (x, 1) (by simp) (Nat.le_refl _) (Nat.le_refl _))))
      have l4 := j4.fr fr4 (by omega)
      have qw3 := ((qw1.fr f4 (by omega)).fs j6 (dj.cons (by omega) (dj.cons (by omega) (dj.nil _ _)))).fr fr4 (by omega)
      have fl : FLo (s.2.1.2 i) U (nI (wn (bf (s.2.1.2 i) U N) e), (f, g'')) := fun n hn => by
        rw [hl] at hn
        cases hn
        refine ⟨rfl, fun j hj => ⟨?_, ?_⟩⟩
        · show f j = _
          rw [(f3 j hj).1]
          unfold LLf
          rw [hw, LLo_s, p3]
        · show g'' j = _
          rw [j5 j hj]
          unfold NNf
          rw [hw, NNo_s, p2, p3, p4]
      refine ⟨h4, _, ?_, c.lst w n2 c13 ⟨I1, A1, qw3, wv⟩ ⟨D1', D2', j2.fr fr4 (by omega), j3.fr fr4 (by omega)⟩ l4 (Or.inr ⟨rfl, i, U, hi, rfl, u, by rw [hl]; rfl, fl⟩) fs, l4, fl, fs⟩
      rw [if_neg (show ¬ oI (some e) = -4 from fun e => by rw [L_m4] at e; have := e.symm; exact absurd this (fun f => by rw [show oI (some _) = nI _ from rfl, NO_eq (by omega)] at f; exact f)), c1'.g9, c1'.g10, qw1.o, show oI (some e) = nI e from rfl, f1, bind_some', rV_some, c2'.g9, c2'.g10, (qw1.fr f4 (by omega)).o, j1, bind_some', rV_some, c3'.g10, j4.g2, c3'.p14, n1, hl]
      rfl
  rw [cl0, o4 i hi, nd_91_24_4 (St_run (d + 5) mt_91), c1.g11]
  rcases l2 with z | ⟨z1, i', U', z2, z3, z4, z5, z6⟩
  · rw [z, if_pos rfl]
    exact anew
  · rw [z1, if_neg (by decide), c1.g12, z3]
    by_cases hii : i = i'
    · rw [if_pos (by rw [hii]), c1.g13]
      by_cases h2 : x2 = X.2.2.1
      · have hu : U = U' := u.one w (by rw [h2]; exact z4)
        refine ⟨h, R, ?_, c, l1, ?_, Fs.rf _ _⟩
        · rw [if_pos h2, nd_91_142 (St_run (d + 5) mt_91), c1.g14, z5, hii, hu]
        · rw [hii, hu]; exact z6
      · rw [if_neg h2]
        exact anew
    · rw [if_neg (fun e => hii ((nI_eq (by omega) (by omega)).mp e))]
      exact anew
theorem C_findLeast_bad (c : isC h x s) (w : WFS s q) (x1 x2 : Int32) (hb : (∀ i, i < s.2.1.1 → x1 ≠ nI i) ∨ (x2 ≠ NO ∧ ∀ i, i < s.2.1.1 → x2 ≠ nI i)) : call (d + 6) 91 [.ref x, .int x1, .int x2] h = some (some (.int (-1)), h) := by
  obtain ⟨X, c1, c2, _⟩ := id c
  have wK := w.2.1.1
  have w0 := w
  rw [call_at mt_91 [some (.ref x), some (.int x1), some (.int x2), none, none, none] rfl rfl rfl, nd_91_0 (St_run (d + 5) mt_91), c1.o]
  have e35 := nd_91_35 (St_run (d + 5) mt_91) h
  rcases mach_cases w x1 with ⟨i, i1, rfl, i3⟩ | ⟨i1, i2⟩
  · rcases hb with hb | ⟨hb1, hb2⟩
    · exact absurd rfl (hb i i1)
    · rw [C_mAt (d := d + 4) c1 c2 wK i i1, bind_some', rQ_some, if_neg (fun e => hb1 (e.trans L_m4)), c1.o, C_mNo (d := d + 4) c1 wK x2 hb2, bind_some', rQ_null, nd_91_24_3 (St_run (d + 5) mt_91), e35]
  · rw [C_mNo (d := d + 4) c1 wK x1 i2, bind_some', rQ_null, c1.g6, c1.o]
    by_cases h2 : x2 = -4
    · rw [if_pos h2, nd_91_24_2 (St_run (d + 5) mt_91), e35]
    · rw [if_neg h2]
      rcases mach_cases w x2 with ⟨j, j1, rfl, j3⟩ | ⟨j1, j2⟩
      · rw [C_mAt (d := d + 4) c1 c2 wK j j1, bind_some', rQ_some, nd_91_24_2 (St_run (d + 5) mt_91), e35]
      · rw [C_mNo (d := d + 4) c1 wK x2 j2, bind_some', rQ_null, nd_91_24 (St_run (d + 5) mt_91), e35]
theorem lenF_lt {T U : TM} (hT : WFT T) (hU : WFT U) {n : Nat} (h : lenF T U = some n) : n < 1872 := by
  unfold lenF at h
  cases hw : wF T U with
  | none => rw [hw] at h; cases h
  | some e =>
    rw [hw] at h
    have he := wF_lt hw
    have g := bF_GB hT hU
    have := GB_most hT hU g
    have h3 := (wX_ok g he).2.2.1
    have h4 : wn (bF T U) e = n := Option.some.inj h
    omega
end LEAST
