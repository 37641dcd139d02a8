/-! ===== machines: step, good, told, stepOf ===== -/
theorem stp_cases {st rg : Nat} (hst : st ≤ 6) (hrg : rg ≤ 2) (s l w : Int32) : (∃ s' l' w', s' < st ∧ l' < 3 ∧ (w' = 2 ∨ w' < rg) ∧ s = nI s' ∧ l = nI l' ∧ w = nI w' ∧ v_stepAt (nI st) (nI rg) s l w = nI (9 * s' + 3 * l' + w') ∧ v_in s (nI st - 1) = 1 ∧ v_in l 2 = 1 ∧ (if w = 2 then 1 else v_in w (nI rg - 1)) = 1) ∨ (v_stepAt (nI st) (nI rg) s l w = -4 ∧ (v_in s (nI st - 1) = 0 ∨ v_in l 2 = 0 ∨ (if w = 2 then 1 else v_in w (nI rg - 1)) = 0)) := by
  rcases inC s st (by omega) with ⟨s', s1, rfl, s3⟩ | ⟨s1, s2, s3⟩
  · rcases in2 l with ⟨l', l1, rfl, l3⟩ | ⟨l1, l2, l3⟩
    · by_cases hw : w = 2
      · refine Or.inl ⟨s', l', 2, s1, l1, Or.inl rfl, rfl, rfl, hw, ?_, s3, l3, if_pos hw⟩
        rw [hw]
        exact v_stepAt_ok (w := 2) hst hrg s1 l1 (Or.inl rfl)
      · rcases inC w rg (by omega) with ⟨w', w1, rfl, w3⟩ | ⟨w1, w2, w3⟩
        · exact Or.inl ⟨s', l', w', s1, l1, Or.inr w1, rfl, rfl, rfl, v_stepAt_ok hst hrg s1 l1 (Or.inr w1), s3, l3, by rw [if_neg hw]; exact w3⟩
        · refine Or.inr ⟨?_, Or.inr (Or.inr (by rw [if_neg hw]; exact w1))⟩
          unfold v_stepAt
          rw [if_neg]
          rintro ⟨e | ⟨e1, e2⟩, _⟩
          · exact hw e
          · exact w3.elim e1 e2
    · refine Or.inr ⟨?_, Or.inr (Or.inl l1)⟩
      unfold v_stepAt
      rw [if_neg]
      rintro ⟨_, _, _, e1, e2⟩
      exact l3.elim e1 e2
  · refine Or.inr ⟨?_, Or.inl s1⟩
    unfold v_stepAt
    rw [if_neg]
    rintro ⟨_, e1, e2, _⟩
    exact s3.elim e1 e2
theorem s111 : (if (1 : Int32) = 0 then (0 : Int32) else if (1 : Int32) = 0 then 0 else if (1 : Int32) = 0 then 0 else 1) = 1 := by decide
theorem kp_cases {rg : Nat} (hrg : rg ≤ 2) (k : Int32) : (∃ r, (r = 2 ∨ r < rg) ∧ k = kI r ∧ v_canKeep (nI rg) k = 1 ∧ (k = -4 ∨ v_in k (nI rg - 1) = 1)) ∨ (v_canKeep (nI rg) k = 0 ∧ k ≠ -4 ∧ v_in k (nI rg - 1) = 0) := by
  unfold v_canKeep
  by_cases h4 : k = -4
  · rw [if_pos h4]
    exact Or.inl ⟨2, Or.inl rfl, h4, rfl, Or.inl h4⟩
  · rw [if_neg h4]
    rcases inC k rg (by omega) with ⟨j, j1, rfl, j3⟩ | ⟨j1, j2, j3⟩
    · rw [if_neg (nI_pos (by omega)), if_neg (nI_ge j1 (by omega))]
      exact Or.inl ⟨j, Or.inr j1, (kI_n (by omega)).symm, rfl, Or.inr j3⟩
    · refine Or.inr ⟨?_, h4, j1⟩
      by_cases h0 : k < 0
      · rw [if_pos h0]
      · rw [if_neg h0, if_pos (j3.resolve_left h0)]
section RM
variable {d y : Nat} {h : AH} {I : Nat → Int32} {A : Nat → Nat → Int32}
theorem R_isStep {i : Nat} {T : TM} (hi : i < 6) (hv : v_in (nI i) (I 3 - 1) = 1) (iT : isT A i T) (s l w : Int32) : call (d + 4) 117 [.ref y, .int (nI i), .int s, .int l, .int w] (mkR h y I A) = some (some (.int (if v_in s (nI T.1.1 - 1) = 0 then 0 else if v_in l 2 = 0 then 0 else if (if w = 2 then 1 else v_in w (nI T.1.2 - 1)) = 0 then 0 else 1)), mkR h y I A) := by
  have q := mkR_is h y I A
  rw [call_at mt_117 [some (.ref y), some (.int (nI i)), some (.int s), some (.int l), some (.int w)] rfl rfl rfl, nd_117_0 (St_run (d + 3) mt_117), q.o, r_isState q i hi s hv, bind_some', rI_some, show (2 : Int64) = (2 : Int32).toInt64 from by decide, m_in0, bind_some', rI_some, q.o, r_isCase q i hi w, bind_some', rI_some, nd_117_35 (St_run (d + 3) mt_117), nd_117_36 (St_run (d + 3) mt_117), nd_117_36 (St_run (d + 3) mt_117), isZ0, isZ1, iT.1, iT.2.1, ifR, ifR, ifR]
theorem R_isStep_bad (m s l w : Int32) (hv : v_in m (I 3 - 1) = 0) : call (d + 4) 117 [.ref y, .int m, .int s, .int l, .int w] (mkR h y I A) = some (some (.int 0), mkR h y I A) := by
  have q := mkR_is h y I A
  rw [call_at mt_117 [some (.ref y), some (.int m), some (.int s), some (.int l), some (.int w)] rfl rfl rfl, nd_117_0 (St_run (d + 3) mt_117), q.o, r_isState_bad q m s hv, bind_some', rI_some, if_pos rfl, nd_117_35 (St_run (d + 3) mt_117), nd_117_36 (St_run (d + 3) mt_117), isZ0]
end RM
/-- a machine with one step changed -/
def sTM (T : TM) (z t k : Nat) : TM := (T.1, (updN T.2.1 z t, (updN T.2.2.1 z k, T.2.2.2)))
def gTM (T : TM) (j : Nat) (b : Bool) : TM := (T.1, (T.2.1, (T.2.2.1, fun i => if i = j then b else T.2.2.2 i)))
def setT (f : Nat → TM) (i : Nat) (T : TM) : Nat → TM := fun j => if j = i then T else f j
theorem setT_at (f : Nat → TM) (i : Nat) (T : TM) : setT f i T i = T := if_pos rfl
theorem setT_ne {f : Nat → TM} {i j : Nat} {T : TM} (h : j ≠ i) : setT f i T j = f j := if_neg h
theorem wdB_iff {w : Nat × (Nat → WS)} {m : Nat} : wdB w m = true ↔ ∃ v, v < w.1 ∧ (w.2 v).1 = m := memN_iff
/-- a machine that no watch is of changes -/
theorem isC.mach {h h1 : AH} {x : Nat} {s : SG} {q i : Nat} {T : TM} {X' : CX0} (c : isC h x s) (w : WFS s q) (hi : i < s.2.1.1) (hw : wdB s.2.2.1 i = false) (t : cTop h1 x s.2.1.1 s.2.2.1.1 (chX X')) (m : cM1 h1 (mo x i) T false) (p : Fs h h1 [(x, 1), (mo x i, 5)]) : isC h1 x (s.1, ((s.2.1.1, setT s.2.1.2 i T), s.2.2)) := by
  obtain ⟨X, c1, c2, c3, c4, c5, c6, c7, c8, c9, c10, c11, c12, c13⟩ := c
  have w1 := w.2.1.1
  have w2 := w.2.2.1.1
  have D : ∀ o k, 1 ≤ o → (o + k ≤ 39 ∨ 74 ≤ o) → dj (x + o) k [(x, 1), (mo x i, 5)] := fun o k ho hk => dj.cons (by omega) (dj.cons (by unfold mo; omega) (dj.nil _ _))
  have DM : ∀ j, j ≠ i → dj (mo x j) 5 [(x, 1), (mo x i, 5)] := fun j hj => dj.cons (by unfold mo; omega) (dj.cons (by unfold mo; omega) (dj.nil _ _))
  obtain ⟨D9, a9, b9⟩ := c9.fs p (D 36 3 (by omega) (by omega))
  refine ⟨chX X', t, c2.fs p (D 4 3 (by omega) (by omega)), c3.fs p (D 1 3 (by omega) (by omega)), c4.fs p (D 7 5 (by omega) (by omega)), c5.fs p (D 12 2 (by omega) (by omega)), c6.fs p (D 14 3 (by omega) (by omega)), c7.fs p (D 17 13 (by omega) (by omega)), c8.fs p (D 30 6 (by omega) (by omega)), ⟨D9, a9, Or.inl rfl⟩, ⟨fun j hj => ?_, fun j h1 h2 => ?_⟩, c11.fs p (D 74 16 (by omega) (by omega)) w2, c12.fs p (D 90 8 (by omega) (by omega)), Or.inl rfl⟩
  · by_cases e : j = i
    · subst e
      show cM1 h1 (mo x j) (setT s.2.1.2 j T j) (wdB s.2.2.1 j)
      rw [setT_at, hw]
      exact m
    · show cM1 h1 (mo x j) (setT s.2.1.2 i T j) (wdB s.2.2.1 j)
      rw [setT_ne e]
      exact (c10.1 j hj).fs p (DM j e)
  · obtain ⟨M, a⟩ := c10.2 j h1 h2
    have h1' : s.2.1.1 ≤ j := h1
    exact ⟨M, a.fs p (DM j (by omega))⟩
section OPS2
variable {d x y q : Nat} {h : AH} {s : SG}
/-- what both sides see of a machine's number -/
theorem mach_cases (w : WFS s q) (m : Int32) : (∃ i, i < s.2.1.1 ∧ m = nI i ∧ v_in m (nI s.2.1.1 - 1) = 1) ∨ (v_in m (nI s.2.1.1 - 1) = 0 ∧ ∀ i, i < s.2.1.1 → m ≠ nI i) := by
  have := w.2.1.1
  rcases inC m s.2.1.1 (by omega) with e | ⟨e1, e2, _⟩
  · exact Or.inl e
  · exact Or.inr ⟨e1, e2⟩
theorem wfs_setT {i : Nat} {T : TM} (w : WFS s q) (hT : WFT T) (hw : wdB s.2.2.1 i = false) : WFS (s.1, ((s.2.1.1, setT s.2.1.2 i T), s.2.2)) (q + 1) := by
  have w' := w.mono (Nat.le_succ q)
  refine ⟨w'.1, ⟨w'.2.1.1, fun j hj => ?_⟩, ⟨w'.2.2.1.1, fun k hk => ?_⟩, w'.2.2.2⟩
  · show WFT (setT s.2.1.2 i T j)
    by_cases e : j = i
    · rw [e, setT_at]; exact hT
    · rw [setT_ne e]; exact w'.2.1.2 j hj
  · obtain ⟨a1, a2⟩ := w'.2.2.1.2 k hk
    refine ⟨a1, ?_⟩
    show PG (setT s.2.1.2 i T _) _ ∧ _
    rw [setT_ne (fun e => by
      have := wdB_iff.mpr ⟨k, hk, e⟩
      rw [hw] at this
      cases this)]
    exact a2
theorem R_isWat {I : Nat → Int32} {A : Nat → Nat → Int32} (w : WFS s q) (rs : RS I A s) (i : Nat) (hi : i < 6) : call (d + 1) 120 [.ref y, .int (nI i)] (mkR h y I A) = some (some (.int (bI (wdB s.2.2.1 i))), mkR h y I A) := by
  have w1 := w.2.1.1
  obtain ⟨b, e1, e2⟩ := r_isWatched (d := d) (mkR_is h y I A) (nI i) s.2.2.1.1 rs.2.2.1.1 w.2.2.1.1
  rw [e1]
  have : b = wdB s.2.2.1 i := by
    have e3 : b = true ↔ wdB s.2.2.1 i = true := by
      rw [e2, wdB_iff]
      constructor
      · rintro ⟨v, hv, e⟩
        have := (w.2.2.1.2 v hv).1
        rw [(rs.2.2.1.2 v hv).1, nI_eq (by omega) (by omega)] at e
        exact ⟨v, hv, e⟩
      · rintro ⟨v, hv, e⟩
        exact ⟨v, hv, by rw [(rs.2.2.1.2 v hv).1, e]⟩
    cases b <;> cases hb : wdB s.2.2.1 i <;> simp_all
  rw [this]
theorem op_step (S : SS h x y s q) (m st l wh t kp : Int32) : OP d x y h q 68 121 [.int m, .int st, .int l, .int wh, .int t, .int kp] := by
  obtain ⟨w, c, _, _⟩ := id S
  obtain ⟨X, c1, c2, _, _, _, _, _, _, _, c10, _⟩ := id c
  have wK := w.2.1.1
  have cl0 : call (d + 8) 68 [.ref x, .int m, .int st, .int l, .int wh, .int t, .int kp] h = run (d + 7) mt_68 0 [some (.ref x), some (.int m), some (.int st), some (.int l), some (.int wh), some (.int t), some (.int kp), none, none] [] h := call_at mt_68 [some (.ref x), some (.int m), some (.int st), some (.int l), some (.int wh), some (.int t), some (.int kp), none, none] rfl rfl rfl
  have rl0 : ∀ (h : AH) I A, call (d + 8) 121 [.ref y, .int m, .int st, .int l, .int wh, .int t, .int kp] (mkR h y I A) = run (d + 7) mt_121 0 [some (.ref y), some (.int m), some (.int st), some (.int l), some (.int wh), some (.int t), some (.int kp)] [] (mkR h y I A) := fun h I A => call_at mt_121 [some (.ref y), some (.int m), some (.int st), some (.int l), some (.int wh), some (.int t), some (.int kp)] rfl rfl rfl
  rcases mach_cases w m with ⟨i, i1, rfl, i3⟩ | ⟨i1, i2⟩
  · have hT := w.2.1.2 i i1
    obtain ⟨M, m1, m2, m3, m4⟩ := c10.1 i i1
    have st6 := hT.2.1
    have rg2 := hT.2.2.1
    have ma := C_mAt (d := d + 6) c1 c2 wK i i1
    have cl : call (d + 8) 68 [.ref x, .int (nI i), .int st, .int l, .int wh, .int t, .int kp] h = if v_hasState (nI (s.2.1.2 i).1.1) t = 0 then some (some (.int (-1)), h) else if v_canKeep (nI (s.2.1.2 i).1.2) kp = 0 then some (some (.int (-1)), h) else if 0 ≤ v_stepAt (nI (s.2.1.2 i).1.1) (nI (s.2.1.2 i).1.2) st l wh then (if bI (wdB s.2.2.1 i) = 0 then ((call (d + 7) 6 [.ref (mo x i), .int (v_stepAt (nI (s.2.1.2 i).1.1) (nI (s.2.1.2 i).1.2) st l wh), .int t, .int kp] h).bind fun q14 => rV q14 fun h15 => isO h15 x 7 ((call (d + 7) 78 [.ref x] h15).bind fun q16 => rV q16 fun h17 => some (some (.int 1), h17))) else (some (some (.int (-2)), h))) else (some (some (.int (-1)), h)) := by
      rw [cl0, nd_68_0 (St_run (d + 7) mt_68), c1.o, ma, bind_some', rQ_some, m1.o, m_hasState m1, bind_some', rI_some, m1.o, m_canKeep m1, bind_some', rI_some, m1.o, m_stepAt m1, bind_some', rI_some, m1.g5, m1.o, m2.1, m2.2.1, m3, nd_68_32 (St_run (d + 7) mt_68)]
    have hbad : ∀ (hc : (v_hasState (nI (s.2.1.2 i).1.1) t = 0 ∧ v_in t (nI (s.2.1.2 i).1.1 - 1) = 0) ∨ (v_canKeep (nI (s.2.1.2 i).1.2) kp = 0 ∧ kp ≠ -4 ∧ v_in kp (nI (s.2.1.2 i).1.2 - 1) = 0) ∨ (v_stepAt (nI (s.2.1.2 i).1.1) (nI (s.2.1.2 i).1.2) st l wh = -4 ∧ (v_in st (nI (s.2.1.2 i).1.1 - 1) = 0 ∨ v_in l 2 = 0 ∨ (if wh = 2 then 1 else v_in wh (nI (s.2.1.2 i).1.2 - 1)) = 0))), OP d x y h q 68 121 [.int (nI i), .int st, .int l, .int wh, .int t, .int kp] := by
      intro hc
      refine comb (s' := s) (r := -1) S (CO_same c ?_) (RO_same (fun h I A rs => ?_)) (w.mono (by omega))
      · rw [cl]
        by_cases e1 : v_hasState (nI (s.2.1.2 i).1.1) t = 0
        · rw [if_pos e1]
        · rw [if_neg e1]
          by_cases e2 : v_canKeep (nI (s.2.1.2 i).1.2) kp = 0
          · rw [if_pos e2]
          · rw [if_neg e2]
            rcases hc with hc | hc | hc
            · exact absurd hc.1 e1
            · exact absurd hc.1 e2
            · rw [hc.1, if_neg (by decide)]
      · have iT := rs.2.1.2 i i1
        have v3 : v_in (nI i) (I 3 - 1) = 1 := by rw [rs.2.1.1]; exact i3
        have a5 := iT.2.1
        rw [rl0, nd_121_0 (St_run (d + 7) mt_121), mkR_o, R_isStep (d := d + 3) (by omega) v3 iT, bind_some', rI_some, mkR_o, r_isState (mkR_is h y I A) i (by omega) t v3, bind_some', rI_some, iT.1, nd_121_48 (St_run (d + 7) mt_121), mkR_g5, mkR_l5 _ _ _ _ (by omega), a5, m_in0, bind_some', rI_some]
        by_cases e1 : (if v_in st (nI (s.2.1.2 i).1.1 - 1) = 0 then 0 else if v_in l 2 = 0 then 0 else if (if wh = 2 then 1 else v_in wh (nI (s.2.1.2 i).1.2 - 1)) = 0 then 0 else 1) = (0 : Int32)
        · rw [if_pos e1]
        · rw [if_neg e1]
          by_cases e2 : v_in t (nI (s.2.1.2 i).1.1 - 1) = 0
          · rw [if_pos e2]
          · rw [if_neg e2]
            rcases hc with hc | hc | hc
            · exact absurd hc.2 e2
            · rw [if_neg hc.2.1, hc.2.2, if_pos rfl, nd_121_48 (St_run (d + 7) mt_121)]
            · exfalso
              refine e1 ?_
              rcases hc.2 with e | e | e
              · rw [if_pos e]
              · by_cases e5 : v_in st (nI (s.2.1.2 i).1.1 - 1) = 0
                · rw [if_pos e5]
                · rw [if_neg e5, if_pos e]
              · by_cases e5 : v_in st (nI (s.2.1.2 i).1.1 - 1) = 0
                · rw [if_pos e5]
                · rw [if_neg e5]
                  by_cases e6 : v_in l 2 = 0
                  · rw [if_pos e6]
                  · rw [if_neg e6, if_pos e]
    rcases inC t (s.2.1.2 i).1.1 (by omega) with ⟨t', t1, rfl, t3⟩ | ⟨t1, t2, t3⟩
    · rcases kp_cases rg2 kp with ⟨r, r1, rfl, r3, r4⟩ | ⟨r1, r2, r3⟩
      · rcases stp_cases st6 rg2 st l wh with ⟨s', l', w', a1, a2, a3, rfl, rfl, rfl, a7, a8, a9, a10⟩ | ⟨a1, a2⟩
        · have hz : 9 * s' + 3 * l' + w' < 54 := by omega
          have hs1 := v_hasState_1 st6 t1
          cases hwd : wdB s.2.2.1 i with
          | true =>
            rw [hwd] at cl
            refine comb (s' := s) (r := -2) S (CO_same c ?_) (RO_same (fun h I A rs => ?_)) (w.mono (by omega))
            · rw [cl, hs1, if_neg (by decide), r3, if_neg (by decide), a7, if_pos (nI_pos' (by omega)), if_neg (by decide)]
            · have iT := rs.2.1.2 i i1
              have v3 : v_in (nI i) (I 3 - 1) = 1 := by rw [rs.2.1.1]; exact i3
              have iw := R_isWat (d := d + 6) (h := h) (y := y) w rs i (by omega)
              rw [hwd] at iw
              have e50 : run (d + 7) mt_121 50 [some (.ref y), some (.int (nI i)), some (.int (nI s')), some (.int (nI l')), some (.int (nI w')), some (.int (nI t')), some (.int (kI r))] [] (mkR h y I A) = some (some (.int (-2)), mkR h y I A) := by
                rw [nd_121_50 (St_run (d + 7) mt_121), mkR_o, iw, bind_some', rI_some, if_neg (by decide)]
              rw [rl0, nd_121_0 (St_run (d + 7) mt_121), mkR_o, R_isStep (d := d + 3) (by omega) v3 iT, bind_some', rI_some, a8, a9, a10, s111, if_neg (show ¬ (1 : Int32) = 0 by decide), mkR_o, r_isState (mkR_is h y I A) i (by omega) (nI t') v3, bind_some', rI_some, iT.1, t3, if_neg (by decide), mkR_g5, mkR_l5 _ _ _ _ (by omega), iT.2.1, m_in0, bind_some', rI_some, e50]
              by_cases e4 : kI r = -4
              · rw [if_pos e4]
              · rw [if_neg e4, r4.resolve_left e4, if_neg (by decide)]
          | false =>
            rw [hwd] at cl m3 m4
            obtain ⟨h1, e1, e2, e3⟩ := m_setStep (d := d + 6) m1 (9 * s' + 3 * l' + w') hz (nI t') (kI r)
            have tp1 := c1.fs e3.s (dj.cons (by unfold mo; omega) (dj.nil _ _))
            obtain ⟨h2, f1, f2, f3⟩ := C_changed (d := d + 6) tp1
            have p : Fs h h2 [(x, 1), (mo x i, 5)] := (e3.in (mo x i, 5) (by simp) (Nat.le_refl _) (Nat.le_refl _)).tr (f3.in (x, 1) (by simp) (Nat.le_refl _) (Nat.le_refl _))
            have e2' := e2.fr f3 (by unfold mo; omega)
            refine comb (s' := (s.1, ((s.2.1.1, setT s.2.1.2 i (sTM (s.2.1.2 i) (9 * s' + 3 * l' + w') t' r)), s.2.2))) (r := 1) S ⟨h2, ?_, c.mach w i1 hwd f2 ⟨_, e2', ⟨m2.1, m2.2.1, fun j hj => ?_, fun j hj => ?_, m2.2.2.2.2⟩, m3, Or.inl ⟨rfl, rfl⟩⟩ p, p.fr (fun z hz => ?_)⟩ (fun h I A rs => ?_) (wfs_setT w ⟨hT.1, hT.2.1, hT.2.2.1, fun j hj => ?_, fun j => ?_⟩ hwd)
            · rw [cl, hs1, if_neg (by decide), r3, if_neg (by decide), a7, if_pos (nI_pos' (by omega)), if_pos (by rfl), e1, bind_some', rV_some, tp1.o, f1, bind_some', rV_some]
            · show upd M.2.1 _ _ j = nI (updN (s.2.1.2 i).2.1 _ t' j)
              by_cases e : j = 9 * s' + 3 * l' + w'
              · rw [e, pk_us, updN_at]
              · rw [pk_un e, updN_ne e]; exact m2.2.2.1 j hj
            · show upd M.2.2.1 _ _ j = kI (updN (s.2.1.2 i).2.2.1 _ r j)
              by_cases e : j = 9 * s' + 3 * l' + w'
              · rw [e, pk_us, updN_at]
              · rw [pk_un e, updN_ne e]; exact m2.2.2.2.1 j hj
            · simp only [List.mem_cons, List.not_mem_nil, or_false] at hz
              rcases hz with rfl | rfl
              · dsimp only; omega
              · dsimp only; unfold mo; omega
            · have iT := rs.2.1.2 i i1
              have v3 : v_in (nI i) (I 3 - 1) = 1 := by rw [rs.2.1.1]; exact i3
              have iw := R_isWat (d := d + 6) (h := h) (y := y) w rs i (by omega)
              rw [hwd] at iw
              have sa : ∀ (C : Nat → Nat → Int32), call (d + 7) 115 [.int (nI i), .int (nI s'), .int (nI l'), .int (nI w')] (mkR h y I C) = some (some (.int (nI (54 * i + (9 * s' + 3 * l' + w')))), mkR h y I C) := fun C => by
                rw [r_stepAt]
                show some (some (Value.int (nI 54 * nI i + nI 9 * nI s' + nI 3 * nI l' + nI w')), _) = _
                rw [pk_mul, pk_mul, pk_mul, nI_add, nI_add, nI_add, show 54 * i + 9 * s' + 3 * l' + w' = 54 * i + (9 * s' + 3 * l' + w') by omega]
              have e50 : run (d + 7) mt_121 50 [some (.ref y), some (.int (nI i)), some (.int (nI s')), some (.int (nI l')), some (.int (nI w')), some (.int (nI t')), some (.int (kI r))] [] (mkR h y I A) = some (some (.int 1), mkR h y I (updA (updA A 7 (upd (A 7) (54 * i + (9 * s' + 3 * l' + w')) (nI t'))) 8 (upd (A 8) (54 * i + (9 * s' + 3 * l' + w')) (kI r)))) := by
                rw [nd_121_50 (St_run (d + 7) mt_121), mkR_o, iw, bind_some', rI_some, if_pos (by rfl), mkR_g7, sa, bind_some', rI_some, mkR_s7 _ _ _ _ (by omega), mkR_g8, sa, bind_some', rI_some, mkR_s8 _ _ _ _ (by omega), updA_ne (show (8 : Nat) ≠ 7 by decide)]
              have pf : fra I I A (updA (updA A 7 (upd (A 7) (54 * i + (9 * s' + 3 * l' + w')) (nI t'))) 8 (upd (A 8) (54 * i + (9 * s' + 3 * l' + w')) (kI r))) [] [7, 8] := ((fra.rf _ _ _ _).w _ (by decide)).w _ (by decide)
              have pt : frT A (updA (updA A 7 (upd (A 7) (54 * i + (9 * s' + 3 * l' + w')) (nI t'))) 8 (upd (A 8) (54 * i + (9 * s' + 3 * l' + w')) (kI r))) i := ⟨fun _ _ => ⟨rfl, rfl⟩, fun _ _ => rfl, fun j hj => ⟨by show upd (A 7) _ _ j = _; rw [pk_un (by omega)], by show upd (A 8) _ _ j = _; rw [pk_un (by omega)]⟩⟩
              refine ⟨_, _, ?_, rs.1.fa pf (by decide) (by decide), ⟨rs.2.1.1, fun j hj => ?_⟩, rs.2.2.1.fa pf (by decide) (by decide), rs.2.2.2.fa pf (by decide)⟩
              · rw [rl0, nd_121_0 (St_run (d + 7) mt_121), mkR_o, R_isStep (d := d + 3) (by omega) v3 iT, bind_some', rI_some, a8, a9, a10, s111, if_neg (show ¬ (1 : Int32) = 0 by decide), mkR_o, r_isState (mkR_is h y I A) i (by omega) (nI t') v3, bind_some', rI_some, iT.1, t3, if_neg (by decide), mkR_g5, mkR_l5 _ _ _ _ (by omega), iT.2.1, m_in0, bind_some', rI_some, e50]
                by_cases e4 : kI r = -4
                · rw [if_pos e4]
                · rw [if_neg e4, r4.resolve_left e4, if_neg (by decide)]
              · show isT _ j (setT s.2.1.2 i _ j)
                by_cases e : j = i
                · subst e
                  rw [setT_at]
                  refine ⟨iT.1, iT.2.1, fun k hk => ?_, fun k hk => ?_, iT.2.2.2.2⟩
                  · show upd (A 7) _ _ _ = nI (updN (s.2.1.2 j).2.1 _ t' k)
                    by_cases e : k = 9 * s' + 3 * l' + w'
                    · rw [e, pk_us, updN_at]
                    · rw [pk_un (by omega), updN_ne e]; exact iT.2.2.1 k hk
                  · show upd (A 8) _ _ _ = kI (updN (s.2.1.2 j).2.2.1 _ r k)
                    by_cases e : k = 9 * s' + 3 * l' + w'
                    · rw [e, pk_us, updN_at]
                    · rw [pk_un (by omega), updN_ne e]; exact iT.2.2.2.1 k hk
                · rw [setT_ne e]
                  exact (rs.2.1.2 j hj).ot pt e
            · show updN _ _ _ j < _
              by_cases e : j = 9 * s' + 3 * l' + w'
              · rw [e, updN_at]; exact t1
              · rw [updN_ne e]; exact hT.2.2.2.1 j hj
            · show updN _ _ _ j = 2 ∨ updN _ _ _ j < _
              by_cases e : j = 9 * s' + 3 * l' + w'
              · rw [e, updN_at]; exact r1
              · rw [updN_ne e]; exact hT.2.2.2.2 j
        · exact hbad (Or.inr (Or.inr ⟨a1, a2⟩))
      · exact hbad (Or.inr (Or.inl ⟨r1, r2, r3⟩))
    · refine hbad (Or.inl ⟨?_, t1⟩)
      unfold v_hasState
      by_cases h0 : t < 0
      · rw [if_pos h0]
      · rw [if_neg h0, if_pos (t3.resolve_left h0)]
  · refine comb (s' := s) (r := -1) S (CO_same c ?_) (RO_same (fun h I A rs => ?_)) (w.mono (by omega))
    · rw [cl0, nd_68_0 (St_run (d + 7) mt_68), c1.o, C_mNo (d := d + 6) c1 wK m i2, bind_some', rQ_null, nd_68_32 (St_run (d + 7) mt_68)]
    · rw [rl0, nd_121_0 (St_run (d + 7) mt_121), mkR_o, R_isStep_bad (d := d + 3) m st l wh (by rw [rs.2.1.1]; exact i1), bind_some', rI_some, if_pos rfl, nd_121_48 (St_run (d + 7) mt_121)]
end OPS2
