/-! ===== the law's loop ===== -/
section LAW
variable {b L x y q : Nat} {xs : Nat → Int32} {h : AH} {s : SG}
/-- what comes behind one call of both sides -/
def NX (b L : Nat) (xs : Nat → Int32) (x y q : Nat) (h : AH) : Prop := ∀ h2 s', SS h2 x y s' (q + 1) → h2.1 b = some (aI 2 L xs) → h2.2 = h.2 → ∃ h', run 10 mt_169 1209 [some (.ref b), some (.ref x), some (.ref y), some (.int (nI (7 * q)))] [] h2 = some (some (.int 1), h') ∧ h'.2 = h.2
theorem rdk {h : AH} (hs : h.1 b = some (aI 2 L xs)) (hq : 7 * q + 7 ≤ L) (hL : L ≤ 3584) {k : Nat} (hk : k < 7) {z : Int32} (hz : z = nI k) (f : Int32 → Option RV) : ldI h b (nI (7 * q) + z) f = f (xs (7 * q + k)) := by
  rw [hz, nI_add]
  exact ldX_of hs rfl (by omega) (by omega) f
theorem SS.mono (S : SS h x y s q) : SS h x y s (q + 1) := ⟨S.1.mono (Nat.le_succ q), S.2⟩
theorem SS.o (S : SS h x y s q) (f : Option RV) : isO h x 7 f = f := by
  obtain ⟨_, ⟨X, c1, _⟩, _⟩ := S
  exact c1.o f
theorem lw_164 (S : SS h x y s q) (hs : h.1 b = some (aI 2 L xs)) (hq : 7 * q + 7 ≤ L) (hL : L ≤ 3584) (hb : b < x) (nx : NX b L xs x y q h) : ∃ h', run 10 mt_169 164 [some (.ref b), some (.ref x), some (.ref y), some (.int (nI (7 * q)))] [] h = some (some (.int 1), h') ∧ h'.2 = h.2 := by
  obtain ⟨h1, h2, r, s', e1, e2, e3, e4, e5, I, A, e6⟩ := op_place (d := 2) S (xs (7 * q + 1)) (xs (7 * q + 2))
  change call 10 _ _ _ = _ at e1 e2
  have hs1 := (e5 b hb).1.trans hs
  have hs2 := (e5 b hb).2.trans hs
  obtain ⟨h', f1, f2⟩ := nx h2 s' e3 hs2 e4
  refine ⟨h', ?_, f2⟩
  rw [nd_169_164 (St_run 10 mt_169), rdk hs hq hL (k := 1) (by decide) (z := 1) rfl, rdk hs hq hL (k := 2) (by decide) (z := 2) rfl, S.o, e1, bind_some', rI_some, rdk hs1 hq hL (k := 1) (by decide) (z := 1) rfl, rdk hs1 hq hL (k := 2) (by decide) (z := 2) rfl, e6.o, e2, bind_some', rI_some, if_pos rfl]
  exact f1
theorem lw_197 (S : SS h x y s q) (hs : h.1 b = some (aI 2 L xs)) (hq : 7 * q + 7 ≤ L) (hL : L ≤ 3584) (hb : b < x) (nx : NX b L xs x y q h) : ∃ h', run 10 mt_169 197 [some (.ref b), some (.ref x), some (.ref y), some (.int (nI (7 * q)))] [] h = some (some (.int 1), h') ∧ h'.2 = h.2 := by
  obtain ⟨h1, h2, r, s', e1, e2, e3, e4, e5, I, A, e6⟩ := op_cut (d := 2) S (xs (7 * q + 1))
  change call 10 _ _ _ = _ at e1 e2
  have hs1 := (e5 b hb).1.trans hs
  have hs2 := (e5 b hb).2.trans hs
  obtain ⟨h', f1, f2⟩ := nx h2 s' e3 hs2 e4
  refine ⟨h', ?_, f2⟩
  rw [nd_169_197 (St_run 10 mt_169), rdk hs hq hL (k := 1) (by decide) (z := 1) rfl, S.o, e1, bind_some', rI_some, rdk hs1 hq hL (k := 1) (by decide) (z := 1) rfl, e6.o, e2, bind_some', rI_some, if_pos rfl]
  exact f1
theorem lw_220 (S : SS h x y s q) (hs : h.1 b = some (aI 2 L xs)) (hq : 7 * q + 7 ≤ L) (hL : L ≤ 3584) (hb : b < x) (nx : NX b L xs x y q h) : ∃ h', run 10 mt_169 220 [some (.ref b), some (.ref x), some (.ref y), some (.int (nI (7 * q)))] [] h = some (some (.int 1), h') ∧ h'.2 = h.2 := by
  obtain ⟨h1, h2, r, s', e1, e2, e3, e4, e5, I, A, e6⟩ := op_first (d := 2) S (xs (7 * q + 1))
  change call 10 _ _ _ = _ at e1 e2
  have hs1 := (e5 b hb).1.trans hs
  have hs2 := (e5 b hb).2.trans hs
  obtain ⟨h', f1, f2⟩ := nx h2 s' e3 hs2 e4
  refine ⟨h', ?_, f2⟩
  rw [nd_169_220 (St_run 10 mt_169), rdk hs hq hL (k := 1) (by decide) (z := 1) rfl, S.o, e1, bind_some', rI_some, rdk hs1 hq hL (k := 1) (by decide) (z := 1) rfl, e6.o, e2, bind_some', rI_some, if_pos rfl]
  exact f1
theorem lw_243 (S : SS h x y s q) (hs : h.1 b = some (aI 2 L xs)) (hq : 7 * q + 7 ≤ L) (hL : L ≤ 3584) (hb : b < x) (nx : NX b L xs x y q h) : ∃ h', run 10 mt_169 243 [some (.ref b), some (.ref x), some (.ref y), some (.int (nI (7 * q)))] [] h = some (some (.int 1), h') ∧ h'.2 = h.2 := by
  obtain ⟨h1, h2, r, s', e1, e2, e3, e4, e5, I, A, e6⟩ := op_names (d := 2) S 
  change call 10 _ _ _ = _ at e1 e2
  have hs1 := (e5 b hb).1.trans hs
  have hs2 := (e5 b hb).2.trans hs
  obtain ⟨h', f1, f2⟩ := nx h2 s' e3 hs2 e4
  refine ⟨h', ?_, f2⟩
  rw [nd_169_243 (St_run 10 mt_169), S.o, e1, bind_some', rI_some, e6.o, e2, bind_some', rI_some, if_pos rfl]
  exact f1
theorem lw_256 (S : SS h x y s q) (hs : h.1 b = some (aI 2 L xs)) (hq : 7 * q + 7 ≤ L) (hL : L ≤ 3584) (hb : b < x) (nx : NX b L xs x y q h) : ∃ h', run 10 mt_169 256 [some (.ref b), some (.ref x), some (.ref y), some (.int (nI (7 * q)))] [] h = some (some (.int 1), h') ∧ h'.2 = h.2 := by
  obtain ⟨h1, h2, r, s', e1, e2, e3, e4, e5, I, A, e6⟩ := op_machine (d := 2) S (xs (7 * q + 1)) (xs (7 * q + 2))
  change call 10 _ _ _ = _ at e1 e2
  have hs1 := (e5 b hb).1.trans hs
  have hs2 := (e5 b hb).2.trans hs
  obtain ⟨h', f1, f2⟩ := nx h2 s' e3 hs2 e4
  refine ⟨h', ?_, f2⟩
  rw [nd_169_256 (St_run 10 mt_169), rdk hs hq hL (k := 1) (by decide) (z := 1) rfl, rdk hs hq hL (k := 2) (by decide) (z := 2) rfl, S.o, e1, bind_some', rI_some, rdk hs1 hq hL (k := 1) (by decide) (z := 1) rfl, rdk hs1 hq hL (k := 2) (by decide) (z := 2) rfl, e6.o, e2, bind_some', rI_some, if_pos rfl]
  exact f1
theorem lw_289 (S : SS h x y s q) (hs : h.1 b = some (aI 2 L xs)) (hq : 7 * q + 7 ≤ L) (hL : L ≤ 3584) (hb : b < x) (nx : NX b L xs x y q h) : ∃ h', run 10 mt_169 289 [some (.ref b), some (.ref x), some (.ref y), some (.int (nI (7 * q)))] [] h = some (some (.int 1), h') ∧ h'.2 = h.2 := by
  obtain ⟨h1, h2, r, s', e1, e2, e3, e4, e5, I, A, e6⟩ := op_step (d := 2) S (xs (7 * q + 1)) (xs (7 * q + 2)) (xs (7 * q + 3)) (xs (7 * q + 4)) (xs (7 * q + 5)) (xs (7 * q + 6))
  change call 10 _ _ _ = _ at e1 e2
  have hs1 := (e5 b hb).1.trans hs
  have hs2 := (e5 b hb).2.trans hs
  obtain ⟨h', f1, f2⟩ := nx h2 s' e3 hs2 e4
  refine ⟨h', ?_, f2⟩
  rw [nd_169_289 (St_run 10 mt_169), rdk hs hq hL (k := 1) (by decide) (z := 1) rfl, rdk hs hq hL (k := 2) (by decide) (z := 2) rfl, rdk hs hq hL (k := 3) (by decide) (z := 3) rfl, rdk hs hq hL (k := 4) (by decide) (z := 4) rfl, rdk hs hq hL (k := 5) (by decide) (z := 5) rfl, rdk hs hq hL (k := 6) (by decide) (z := 6) rfl, S.o, e1, bind_some', rI_some, rdk hs1 hq hL (k := 1) (by decide) (z := 1) rfl, rdk hs1 hq hL (k := 2) (by decide) (z := 2) rfl, rdk hs1 hq hL (k := 3) (by decide) (z := 3) rfl, rdk hs1 hq hL (k := 4) (by decide) (z := 4) rfl, rdk hs1 hq hL (k := 5) (by decide) (z := 5) rfl, rdk hs1 hq hL (k := 6) (by decide) (z := 6) rfl, e6.o, e2, bind_some', rI_some, if_pos rfl]
  exact f1
theorem lw_423 (S : SS h x y s q) (hs : h.1 b = some (aI 2 L xs)) (hq : 7 * q + 7 ≤ L) (hL : L ≤ 3584) (hb : b < x) (nx : NX b L xs x y q h) : ∃ h', run 10 mt_169 423 [some (.ref b), some (.ref x), some (.ref y), some (.int (nI (7 * q)))] [] h = some (some (.int 1), h') ∧ h'.2 = h.2 := by
  obtain ⟨h1, h2, r, s', e1, e2, e3, e4, e5, I, A, e6⟩ := op_told (d := 2) S (xs (7 * q + 1)) (xs (7 * q + 2))
  change call 10 _ _ _ = _ at e1 e2
  have hs1 := (e5 b hb).1.trans hs
  have hs2 := (e5 b hb).2.trans hs
  obtain ⟨h', f1, f2⟩ := nx h2 s' e3 hs2 e4
  refine ⟨h', ?_, f2⟩
  rw [nd_169_423 (St_run 10 mt_169), rdk hs hq hL (k := 1) (by decide) (z := 1) rfl, rdk hs hq hL (k := 2) (by decide) (z := 2) rfl, S.o, e1, bind_some', rI_some, rdk hs1 hq hL (k := 1) (by decide) (z := 1) rfl, rdk hs1 hq hL (k := 2) (by decide) (z := 2) rfl, e6.o, e2, bind_some', rI_some, if_pos rfl]
  exact f1
theorem lw_456 (S : SS h x y s q) (hs : h.1 b = some (aI 2 L xs)) (hq : 7 * q + 7 ≤ L) (hL : L ≤ 3584) (hb : b < x) (nx : NX b L xs x y q h) : ∃ h', run 10 mt_169 456 [some (.ref b), some (.ref x), some (.ref y), some (.int (nI (7 * q)))] [] h = some (some (.int 1), h') ∧ h'.2 = h.2 := by
  obtain ⟨h1, h2, r, s', e1, e2, e3, e4, e5, I, A, e6⟩ := op_stepOf (d := 2) S (xs (7 * q + 1)) (xs (7 * q + 2)) (xs (7 * q + 3)) (xs (7 * q + 4)) (xs (7 * q + 5))
  change call 10 _ _ _ = _ at e1 e2
  have hs1 := (e5 b hb).1.trans hs
  have hs2 := (e5 b hb).2.trans hs
  obtain ⟨h', f1, f2⟩ := nx h2 s' e3 hs2 e4
  refine ⟨h', ?_, f2⟩
  rw [nd_169_456 (St_run 10 mt_169), rdk hs hq hL (k := 1) (by decide) (z := 1) rfl, rdk hs hq hL (k := 2) (by decide) (z := 2) rfl, rdk hs hq hL (k := 3) (by decide) (z := 3) rfl, rdk hs hq hL (k := 4) (by decide) (z := 4) rfl, rdk hs hq hL (k := 5) (by decide) (z := 5) rfl, S.o, e1, bind_some', rI_some, rdk hs1 hq hL (k := 1) (by decide) (z := 1) rfl, rdk hs1 hq hL (k := 2) (by decide) (z := 2) rfl, rdk hs1 hq hL (k := 3) (by decide) (z := 3) rfl, rdk hs1 hq hL (k := 4) (by decide) (z := 4) rfl, rdk hs1 hq hL (k := 5) (by decide) (z := 5) rfl, e6.o, e2, bind_some', rI_some, if_pos rfl]
  exact f1
theorem lw_519 (S : SS h x y s q) (hs : h.1 b = some (aI 2 L xs)) (hq : 7 * q + 7 ≤ L) (hL : L ≤ 3584) (hb : b < x) (nx : NX b L xs x y q h) : ∃ h', run 10 mt_169 519 [some (.ref b), some (.ref x), some (.ref y), some (.int (nI (7 * q)))] [] h = some (some (.int 1), h') ∧ h'.2 = h.2 := by
  obtain ⟨h1, h2, r, s', e1, e2, e3, e4, e5, I, A, e6⟩ := op_drop (d := 2) S 
  change call 10 _ _ _ = _ at e1 e2
  have hs1 := (e5 b hb).1.trans hs
  have hs2 := (e5 b hb).2.trans hs
  obtain ⟨h', f1, f2⟩ := nx h2 s' e3 hs2 e4
  refine ⟨h', ?_, f2⟩
  rw [nd_169_519 (St_run 10 mt_169), S.o, e1, bind_some', rI_some, e6.o, e2, bind_some', rI_some, if_pos rfl]
  exact f1
theorem lw_532 (S : SS h x y s q) (hs : h.1 b = some (aI 2 L xs)) (hq : 7 * q + 7 ≤ L) (hL : L ≤ 3584) (hb : b < x) (nx : NX b L xs x y q h) : ∃ h', run 10 mt_169 532 [some (.ref b), some (.ref x), some (.ref y), some (.int (nI (7 * q)))] [] h = some (some (.int 1), h') ∧ h'.2 = h.2 := by
  obtain ⟨h1, h2, r, s', e1, e2, e3, e4, e5, I, A, e6⟩ := op_turned (d := 2) S (xs (7 * q + 1))
  change call 10 _ _ _ = _ at e1 e2
  have hs1 := (e5 b hb).1.trans hs
  have hs2 := (e5 b hb).2.trans hs
  obtain ⟨h', f1, f2⟩ := nx h2 s' e3 hs2 e4
  refine ⟨h', ?_, f2⟩
  rw [nd_169_532 (St_run 10 mt_169), rdk hs hq hL (k := 1) (by decide) (z := 1) rfl, S.o, e1, bind_some', rI_some, rdk hs1 hq hL (k := 1) (by decide) (z := 1) rfl, e6.o, e2, bind_some', rI_some, if_pos rfl]
  exact f1
theorem lw_555 (S : SS h x y s q) (hs : h.1 b = some (aI 2 L xs)) (hq : 7 * q + 7 ≤ L) (hL : L ≤ 3584) (hb : b < x) (nx : NX b L xs x y q h) : ∃ h', run 10 mt_169 555 [some (.ref b), some (.ref x), some (.ref y), some (.int (nI (7 * q)))] [] h = some (some (.int 1), h') ∧ h'.2 = h.2 := by
  obtain ⟨h1, h2, r, s', e1, e2, e3, e4, e5, I, A, e6⟩ := op_both (d := 2) S (xs (7 * q + 1)) (xs (7 * q + 2)) (xs (7 * q + 3))
  change call 10 _ _ _ = _ at e1 e2
  have hs1 := (e5 b hb).1.trans hs
  have hs2 := (e5 b hb).2.trans hs
  obtain ⟨h', f1, f2⟩ := nx h2 s' e3 hs2 e4
  refine ⟨h', ?_, f2⟩
  rw [nd_169_555 (St_run 10 mt_169), rdk hs hq hL (k := 1) (by decide) (z := 1) rfl, rdk hs hq hL (k := 2) (by decide) (z := 2) rfl, rdk hs hq hL (k := 3) (by decide) (z := 3) rfl, S.o, e1, bind_some', rI_some, rdk hs1 hq hL (k := 1) (by decide) (z := 1) rfl, rdk hs1 hq hL (k := 2) (by decide) (z := 2) rfl, rdk hs1 hq hL (k := 3) (by decide) (z := 3) rfl, e6.o, e2, bind_some', rI_some, if_pos rfl]
  exact f1
theorem lw_598 (S : SS h x y s q) (hs : h.1 b = some (aI 2 L xs)) (hq : 7 * q + 7 ≤ L) (hL : L ≤ 3584) (hb : b < x) (nx : NX b L xs x y q h) : ∃ h', run 10 mt_169 598 [some (.ref b), some (.ref x), some (.ref y), some (.int (nI (7 * q)))] [] h = some (some (.int 1), h') ∧ h'.2 = h.2 := by
  obtain ⟨h1, h2, r, s', e1, e2, e3, e4, e5, I, A, e6⟩ := op_takes (d := 2) S (xs (7 * q + 1)) (xs (7 * q + 2))
  change call 10 _ _ _ = _ at e1 e2
  have hs1 := (e5 b hb).1.trans hs
  have hs2 := (e5 b hb).2.trans hs
  obtain ⟨h', f1, f2⟩ := nx h2 s' e3 hs2 e4
  refine ⟨h', ?_, f2⟩
  rw [nd_169_598 (St_run 10 mt_169), rdk hs hq hL (k := 1) (by decide) (z := 1) rfl, rdk hs hq hL (k := 2) (by decide) (z := 2) rfl, S.o, e1, bind_some', rI_some, rdk hs1 hq hL (k := 1) (by decide) (z := 1) rfl, rdk hs1 hq hL (k := 2) (by decide) (z := 2) rfl, e6.o, e2, bind_some', rI_some, if_pos rfl]
  exact f1
theorem lw_631 (S : SS h x y s q) (hs : h.1 b = some (aI 2 L xs)) (hq : 7 * q + 7 ≤ L) (hL : L ≤ 3584) (hb : b < x) (nx : NX b L xs x y q h) : ∃ h', run 10 mt_169 631 [some (.ref b), some (.ref x), some (.ref y), some (.int (nI (7 * q)))] [] h = some (some (.int 1), h') ∧ h'.2 = h.2 := by
  obtain ⟨h1, h2, r, s', e1, e2, e3, e4, e5, I, A, e6⟩ := op_ran (d := 2) S (xs (7 * q + 1)) (xs (7 * q + 2)) (xs (7 * q + 3))
  change call 10 _ _ _ = _ at e1 e2
  have hs1 := (e5 b hb).1.trans hs
  have hs2 := (e5 b hb).2.trans hs
  obtain ⟨h', f1, f2⟩ := nx h2 s' e3 hs2 e4
  refine ⟨h', ?_, f2⟩
  rw [nd_169_631 (St_run 10 mt_169), rdk hs hq hL (k := 1) (by decide) (z := 1) rfl, rdk hs hq hL (k := 2) (by decide) (z := 2) rfl, rdk hs hq hL (k := 3) (by decide) (z := 3) rfl, S.o, e1, bind_some', rI_some, rdk hs1 hq hL (k := 1) (by decide) (z := 1) rfl, rdk hs1 hq hL (k := 2) (by decide) (z := 2) rfl, rdk hs1 hq hL (k := 3) (by decide) (z := 3) rfl, e6.o, e2, bind_some', rI_some, if_pos rfl]
  exact f1
theorem lw_674 (S : SS h x y s q) (hs : h.1 b = some (aI 2 L xs)) (hq : 7 * q + 7 ≤ L) (hL : L ≤ 3584) (hb : b < x) (nx : NX b L xs x y q h) : ∃ h', run 10 mt_169 674 [some (.ref b), some (.ref x), some (.ref y), some (.int (nI (7 * q)))] [] h = some (some (.int 1), h') ∧ h'.2 = h.2 := by
  obtain ⟨h1, h2, r, s', e1, e2, e3, e4, e5, I, A, e6⟩ := op_doomed (d := 2) S (xs (7 * q + 1))
  change call 10 _ _ _ = _ at e1 e2
  have hs1 := (e5 b hb).1.trans hs
  have hs2 := (e5 b hb).2.trans hs
  obtain ⟨h', f1, f2⟩ := nx h2 s' e3 hs2 e4
  refine ⟨h', ?_, f2⟩
  rw [nd_169_674 (St_run 10 mt_169), rdk hs hq hL (k := 1) (by decide) (z := 1) rfl, S.o, e1, bind_some', rI_some, rdk hs1 hq hL (k := 1) (by decide) (z := 1) rfl, e6.o, e2, bind_some', rI_some, if_pos rfl]
  exact f1
theorem lw_697 (S : SS h x y s q) (hs : h.1 b = some (aI 2 L xs)) (hq : 7 * q + 7 ≤ L) (hL : L ≤ 3584) (hb : b < x) (nx : NX b L xs x y q h) : ∃ h', run 10 mt_169 697 [some (.ref b), some (.ref x), some (.ref y), some (.int (nI (7 * q)))] [] h = some (some (.int 1), h') ∧ h'.2 = h.2 := by
  obtain ⟨h1, h2, r, s', e1, e2, e3, e4, e5, I, A, e6⟩ := op_orbits (d := 2) S (xs (7 * q + 1)) (xs (7 * q + 2))
  change call 10 _ _ _ = _ at e1 e2
  have hs1 := (e5 b hb).1.trans hs
  have hs2 := (e5 b hb).2.trans hs
  obtain ⟨h', f1, f2⟩ := nx h2 s' e3 hs2 e4
  refine ⟨h', ?_, f2⟩
  rw [nd_169_697 (St_run 10 mt_169), rdk hs hq hL (k := 1) (by decide) (z := 1) rfl, rdk hs hq hL (k := 2) (by decide) (z := 2) rfl, S.o, e1, bind_some', rI_some, rdk hs1 hq hL (k := 1) (by decide) (z := 1) rfl, rdk hs1 hq hL (k := 2) (by decide) (z := 2) rfl, e6.o, e2, bind_some', rI_some, if_pos rfl]
  exact f1
theorem lw_730 (S : SS h x y s q) (hs : h.1 b = some (aI 2 L xs)) (hq : 7 * q + 7 ≤ L) (hL : L ≤ 3584) (hb : b < x) (nx : NX b L xs x y q h) : ∃ h', run 10 mt_169 730 [some (.ref b), some (.ref x), some (.ref y), some (.int (nI (7 * q)))] [] h = some (some (.int 1), h') ∧ h'.2 = h.2 := by
  obtain ⟨h1, h2, r, s', e1, e2, e3, e4, e5, I, A, e6⟩ := op_shortest (d := 2) S (xs (7 * q + 1))
  change call 10 _ _ _ = _ at e1 e2
  have hs1 := (e5 b hb).1.trans hs
  have hs2 := (e5 b hb).2.trans hs
  obtain ⟨h', f1, f2⟩ := nx h2 s' e3 hs2 e4
  refine ⟨h', ?_, f2⟩
  rw [nd_169_730 (St_run 10 mt_169), rdk hs hq hL (k := 1) (by decide) (z := 1) rfl, S.o, e1, bind_some', rI_some, rdk hs1 hq hL (k := 1) (by decide) (z := 1) rfl, e6.o, e2, bind_some', rI_some, if_pos rfl]
  exact f1
theorem lw_753 (S : SS h x y s q) (hs : h.1 b = some (aI 2 L xs)) (hq : 7 * q + 7 ≤ L) (hL : L ≤ 3584) (hb : b < x) (nx : NX b L xs x y q h) : ∃ h', run 10 mt_169 753 [some (.ref b), some (.ref x), some (.ref y), some (.int (nI (7 * q)))] [] h = some (some (.int 1), h') ∧ h'.2 = h.2 := by
  obtain ⟨h1, h2, r, s', e1, e2, e3, e4, e5, I, A, e6⟩ := op_shortestAt (d := 2) S (xs (7 * q + 1)) (xs (7 * q + 2)) (xs (7 * q + 3))
  change call 10 _ _ _ = _ at e1 e2
  have hs1 := (e5 b hb).1.trans hs
  have hs2 := (e5 b hb).2.trans hs
  obtain ⟨h', f1, f2⟩ := nx h2 s' e3 hs2 e4
  refine ⟨h', ?_, f2⟩
  rw [nd_169_753 (St_run 10 mt_169), rdk hs hq hL (k := 1) (by decide) (z := 1) rfl, rdk hs hq hL (k := 2) (by decide) (z := 2) rfl, rdk hs hq hL (k := 3) (by decide) (z := 3) rfl, S.o, e1, bind_some', rI_some, rdk hs1 hq hL (k := 1) (by decide) (z := 1) rfl, rdk hs1 hq hL (k := 2) (by decide) (z := 2) rfl, rdk hs1 hq hL (k := 3) (by decide) (z := 3) rfl, e6.o, e2, bind_some', rI_some, if_pos rfl]
  exact f1
theorem lw_796 (S : SS h x y s q) (hs : h.1 b = some (aI 2 L xs)) (hq : 7 * q + 7 ≤ L) (hL : L ≤ 3584) (hb : b < x) (nx : NX b L xs x y q h) : ∃ h', run 10 mt_169 796 [some (.ref b), some (.ref x), some (.ref y), some (.int (nI (7 * q)))] [] h = some (some (.int 1), h') ∧ h'.2 = h.2 := by
  obtain ⟨h1, h2, r, s', e1, e2, e3, e4, e5, I, A, e6⟩ := op_parts (d := 2) S (xs (7 * q + 1)) (xs (7 * q + 2))
  change call 10 _ _ _ = _ at e1 e2
  have hs1 := (e5 b hb).1.trans hs
  have hs2 := (e5 b hb).2.trans hs
  obtain ⟨h', f1, f2⟩ := nx h2 s' e3 hs2 e4
  refine ⟨h', ?_, f2⟩
  rw [nd_169_796 (St_run 10 mt_169), rdk hs hq hL (k := 1) (by decide) (z := 1) rfl, rdk hs hq hL (k := 2) (by decide) (z := 2) rfl, S.o, e1, bind_some', rI_some, rdk hs1 hq hL (k := 1) (by decide) (z := 1) rfl, rdk hs1 hq hL (k := 2) (by decide) (z := 2) rfl, e6.o, e2, bind_some', rI_some, if_pos rfl]
  exact f1
theorem lw_829 (S : SS h x y s q) (hs : h.1 b = some (aI 2 L xs)) (hq : 7 * q + 7 ≤ L) (hL : L ≤ 3584) (hb : b < x) (nx : NX b L xs x y q h) : ∃ h', run 10 mt_169 829 [some (.ref b), some (.ref x), some (.ref y), some (.int (nI (7 * q)))] [] h = some (some (.int 1), h') ∧ h'.2 = h.2 := by
  obtain ⟨h1, h2, r, s', e1, e2, e3, e4, e5, I, A, e6⟩ := op_partsAt (d := 2) S (xs (7 * q + 1)) (xs (7 * q + 2)) (xs (7 * q + 3)) (xs (7 * q + 4))
  change call 10 _ _ _ = _ at e1 e2
  have hs1 := (e5 b hb).1.trans hs
  have hs2 := (e5 b hb).2.trans hs
  obtain ⟨h', f1, f2⟩ := nx h2 s' e3 hs2 e4
  refine ⟨h', ?_, f2⟩
  rw [nd_169_829 (St_run 10 mt_169), rdk hs hq hL (k := 1) (by decide) (z := 1) rfl, rdk hs hq hL (k := 2) (by decide) (z := 2) rfl, rdk hs hq hL (k := 3) (by decide) (z := 3) rfl, rdk hs hq hL (k := 4) (by decide) (z := 4) rfl, S.o, e1, bind_some', rI_some, rdk hs1 hq hL (k := 1) (by decide) (z := 1) rfl, rdk hs1 hq hL (k := 2) (by decide) (z := 2) rfl, rdk hs1 hq hL (k := 3) (by decide) (z := 3) rfl, rdk hs1 hq hL (k := 4) (by decide) (z := 4) rfl, e6.o, e2, bind_some', rI_some, if_pos rfl]
  exact f1
theorem lw_882 (S : SS h x y s q) (hs : h.1 b = some (aI 2 L xs)) (hq : 7 * q + 7 ≤ L) (hL : L ≤ 3584) (hb : b < x) (nx : NX b L xs x y q h) : ∃ h', run 10 mt_169 882 [some (.ref b), some (.ref x), some (.ref y), some (.int (nI (7 * q)))] [] h = some (some (.int 1), h') ∧ h'.2 = h.2 := by
  obtain ⟨h1, h2, r, s', e1, e2, e3, e4, e5, I, A, e6⟩ := op_within (d := 2) S (xs (7 * q + 1)) (xs (7 * q + 2))
  change call 10 _ _ _ = _ at e1 e2
  have hs1 := (e5 b hb).1.trans hs
  have hs2 := (e5 b hb).2.trans hs
  obtain ⟨h', f1, f2⟩ := nx h2 s' e3 hs2 e4
  refine ⟨h', ?_, f2⟩
  rw [nd_169_882 (St_run 10 mt_169), rdk hs hq hL (k := 1) (by decide) (z := 1) rfl, rdk hs hq hL (k := 2) (by decide) (z := 2) rfl, S.o, e1, bind_some', rI_some, rdk hs1 hq hL (k := 1) (by decide) (z := 1) rfl, rdk hs1 hq hL (k := 2) (by decide) (z := 2) rfl, e6.o, e2, bind_some', rI_some, if_pos rfl]
  exact f1
theorem lw_915 (S : SS h x y s q) (hs : h.1 b = some (aI 2 L xs)) (hq : 7 * q + 7 ≤ L) (hL : L ≤ 3584) (hb : b < x) (nx : NX b L xs x y q h) : ∃ h', run 10 mt_169 915 [some (.ref b), some (.ref x), some (.ref y), some (.int (nI (7 * q)))] [] h = some (some (.int 1), h') ∧ h'.2 = h.2 := by
  obtain ⟨h1, h2, r, s', e1, e2, e3, e4, e5, I, A, e6⟩ := op_show (d := 2) S (xs (7 * q + 1)) (xs (7 * q + 2))
  change call 10 _ _ _ = _ at e1 e2
  have hs1 := (e5 b hb).1.trans hs
  have hs2 := (e5 b hb).2.trans hs
  obtain ⟨h', f1, f2⟩ := nx h2 s' e3 hs2 e4
  refine ⟨h', ?_, f2⟩
  rw [nd_169_915 (St_run 10 mt_169), rdk hs hq hL (k := 1) (by decide) (z := 1) rfl, rdk hs hq hL (k := 2) (by decide) (z := 2) rfl, S.o, e1, bind_some', rI_some, rdk hs1 hq hL (k := 1) (by decide) (z := 1) rfl, rdk hs1 hq hL (k := 2) (by decide) (z := 2) rfl, e6.o, e2, bind_some', rI_some, if_pos rfl]
  exact f1
theorem lw_948 (S : SS h x y s q) (hs : h.1 b = some (aI 2 L xs)) (hq : 7 * q + 7 ≤ L) (hL : L ≤ 3584) (hb : b < x) (nx : NX b L xs x y q h) : ∃ h', run 10 mt_169 948 [some (.ref b), some (.ref x), some (.ref y), some (.int (nI (7 * q)))] [] h = some (some (.int 1), h') ∧ h'.2 = h.2 := by
  obtain ⟨h1, h2, r, s', e1, e2, e3, e4, e5, I, A, e6⟩ := op_watch (d := 2) S (xs (7 * q + 1))
  change call 10 _ _ _ = _ at e1 e2
  have hs1 := (e5 b hb).1.trans hs
  have hs2 := (e5 b hb).2.trans hs
  obtain ⟨h', f1, f2⟩ := nx h2 s' e3 hs2 e4
  refine ⟨h', ?_, f2⟩
  rw [nd_169_948 (St_run 10 mt_169), rdk hs hq hL (k := 1) (by decide) (z := 1) rfl, S.o, e1, bind_some', rI_some, rdk hs1 hq hL (k := 1) (by decide) (z := 1) rfl, e6.o, e2, bind_some', rI_some, if_pos rfl]
  exact f1
theorem lw_971 (S : SS h x y s q) (hs : h.1 b = some (aI 2 L xs)) (hq : 7 * q + 7 ≤ L) (hL : L ≤ 3584) (hb : b < x) (nx : NX b L xs x y q h) : ∃ h', run 10 mt_169 971 [some (.ref b), some (.ref x), some (.ref y), some (.int (nI (7 * q)))] [] h = some (some (.int 1), h') ∧ h'.2 = h.2 := by
  obtain ⟨h1, h2, r, s', e1, e2, e3, e4, e5, I, A, e6⟩ := op_see (d := 2) S (by omega) (xs (7 * q + 1)) (xs (7 * q + 2)) (xs (7 * q + 3))
  change call 10 _ _ _ = _ at e1 e2
  have hs1 := (e5 b hb).1.trans hs
  have hs2 := (e5 b hb).2.trans hs
  obtain ⟨h', f1, f2⟩ := nx h2 s' e3 hs2 e4
  refine ⟨h', ?_, f2⟩
  rw [nd_169_971 (St_run 10 mt_169), rdk hs hq hL (k := 1) (by decide) (z := 1) rfl, rdk hs hq hL (k := 2) (by decide) (z := 2) rfl, rdk hs hq hL (k := 3) (by decide) (z := 3) rfl, S.o, e1, bind_some', rI_some, rdk hs1 hq hL (k := 1) (by decide) (z := 1) rfl, rdk hs1 hq hL (k := 2) (by decide) (z := 2) rfl, rdk hs1 hq hL (k := 3) (by decide) (z := 3) rfl, e6.o, e2, bind_some', rI_some, if_pos rfl]
  exact f1
theorem lw_1014 (S : SS h x y s q) (hs : h.1 b = some (aI 2 L xs)) (hq : 7 * q + 7 ≤ L) (hL : L ≤ 3584) (hb : b < x) (nx : NX b L xs x y q h) : ∃ h', run 10 mt_169 1014 [some (.ref b), some (.ref x), some (.ref y), some (.int (nI (7 * q)))] [] h = some (some (.int 1), h') ∧ h'.2 = h.2 := by
  obtain ⟨h1, h2, r, s', e1, e2, e3, e4, e5, I, A, e6⟩ := op_seen (d := 2) S (xs (7 * q + 1)) (xs (7 * q + 2))
  change call 10 _ _ _ = _ at e1 e2
  have hs1 := (e5 b hb).1.trans hs
  have hs2 := (e5 b hb).2.trans hs
  obtain ⟨h', f1, f2⟩ := nx h2 s' e3 hs2 e4
  refine ⟨h', ?_, f2⟩
  rw [nd_169_1014 (St_run 10 mt_169), rdk hs hq hL (k := 1) (by decide) (z := 1) rfl, rdk hs hq hL (k := 2) (by decide) (z := 2) rfl, S.o, e1, bind_some', rI_some, rdk hs1 hq hL (k := 1) (by decide) (z := 1) rfl, rdk hs1 hq hL (k := 2) (by decide) (z := 2) rfl, e6.o, e2, bind_some', rI_some, if_pos rfl]
  exact f1
theorem lw_1047 (S : SS h x y s q) (hs : h.1 b = some (aI 2 L xs)) (hq : 7 * q + 7 ≤ L) (hL : L ≤ 3584) (hb : b < x) (nx : NX b L xs x y q h) : ∃ h', run 10 mt_169 1047 [some (.ref b), some (.ref x), some (.ref y), some (.int (nI (7 * q)))] [] h = some (some (.int 1), h') ∧ h'.2 = h.2 := by
  obtain ⟨h1, h2, r, s', e1, e2, e3, e4, e5, I, A, e6⟩ := op_sheet (d := 2) S (xs (7 * q + 1)) (xs (7 * q + 2)) (xs (7 * q + 3))
  change call 10 _ _ _ = _ at e1 e2
  have hs1 := (e5 b hb).1.trans hs
  have hs2 := (e5 b hb).2.trans hs
  obtain ⟨h', f1, f2⟩ := nx h2 s' e3 hs2 e4
  refine ⟨h', ?_, f2⟩
  rw [nd_169_1047 (St_run 10 mt_169), rdk hs hq hL (k := 1) (by decide) (z := 1) rfl, rdk hs hq hL (k := 2) (by decide) (z := 2) rfl, rdk hs hq hL (k := 3) (by decide) (z := 3) rfl, S.o, e1, bind_some', rI_some, rdk hs1 hq hL (k := 1) (by decide) (z := 1) rfl, rdk hs1 hq hL (k := 2) (by decide) (z := 2) rfl, rdk hs1 hq hL (k := 3) (by decide) (z := 3) rfl, e6.o, e2, bind_some', rI_some, if_pos rfl]
  exact f1
theorem lw_1090 (S : SS h x y s q) (hs : h.1 b = some (aI 2 L xs)) (hq : 7 * q + 7 ≤ L) (hL : L ≤ 3584) (hb : b < x) (nx : NX b L xs x y q h) : ∃ h', run 10 mt_169 1090 [some (.ref b), some (.ref x), some (.ref y), some (.int (nI (7 * q)))] [] h = some (some (.int 1), h') ∧ h'.2 = h.2 := by
  obtain ⟨h1, h2, r, s', e1, e2, e3, e4, e5, I, A, e6⟩ := op_lay (d := 2) S (xs (7 * q + 1)) (xs (7 * q + 2)) (xs (7 * q + 3))
  change call 10 _ _ _ = _ at e1 e2
  have hs1 := (e5 b hb).1.trans hs
  have hs2 := (e5 b hb).2.trans hs
  obtain ⟨h', f1, f2⟩ := nx h2 s' e3 hs2 e4
  refine ⟨h', ?_, f2⟩
  rw [nd_169_1090 (St_run 10 mt_169), rdk hs hq hL (k := 1) (by decide) (z := 1) rfl, rdk hs hq hL (k := 2) (by decide) (z := 2) rfl, rdk hs hq hL (k := 3) (by decide) (z := 3) rfl, S.o, e1, bind_some', rI_some, rdk hs1 hq hL (k := 1) (by decide) (z := 1) rfl, rdk hs1 hq hL (k := 2) (by decide) (z := 2) rfl, rdk hs1 hq hL (k := 3) (by decide) (z := 3) rfl, e6.o, e2, bind_some', rI_some, if_pos rfl]
  exact f1
theorem lw_1133 (S : SS h x y s q) (hs : h.1 b = some (aI 2 L xs)) (hq : 7 * q + 7 ≤ L) (hL : L ≤ 3584) (hb : b < x) (nx : NX b L xs x y q h) : ∃ h', run 10 mt_169 1133 [some (.ref b), some (.ref x), some (.ref y), some (.int (nI (7 * q)))] [] h = some (some (.int 1), h') ∧ h'.2 = h.2 := by
  obtain ⟨h1, h2, r, s', e1, e2, e3, e4, e5, I, A, e6⟩ := op_scan (d := 2) S (xs (7 * q + 1)) (xs (7 * q + 2)) (xs (7 * q + 3)) (xs (7 * q + 4))
  change call 10 _ _ _ = _ at e1 e2
  have hs1 := (e5 b hb).1.trans hs
  have hs2 := (e5 b hb).2.trans hs
  obtain ⟨h', f1, f2⟩ := nx h2 s' e3 hs2 e4
  refine ⟨h', ?_, f2⟩
  rw [nd_169_1133 (St_run 10 mt_169), rdk hs hq hL (k := 1) (by decide) (z := 1) rfl, rdk hs hq hL (k := 2) (by decide) (z := 2) rfl, rdk hs hq hL (k := 3) (by decide) (z := 3) rfl, rdk hs hq hL (k := 4) (by decide) (z := 4) rfl, S.o, e1, bind_some', rI_some, rdk hs1 hq hL (k := 1) (by decide) (z := 1) rfl, rdk hs1 hq hL (k := 2) (by decide) (z := 2) rfl, rdk hs1 hq hL (k := 3) (by decide) (z := 3) rfl, rdk hs1 hq hL (k := 4) (by decide) (z := 4) rfl, e6.o, e2, bind_some', rI_some, if_pos rfl]
  exact f1
theorem lw_1186 (S : SS h x y s q) (hs : h.1 b = some (aI 2 L xs)) (hq : 7 * q + 7 ≤ L) (hL : L ≤ 3584) (hb : b < x) (nx : NX b L xs x y q h) : ∃ h', run 10 mt_169 1186 [some (.ref b), some (.ref x), some (.ref y), some (.int (nI (7 * q)))] [] h = some (some (.int 1), h') ∧ h'.2 = h.2 := by
  obtain ⟨h1, h2, r, s', e1, e2, e3, e4, e5, I, A, e6⟩ := op_count (d := 2) S (by omega) (xs (7 * q + 1))
  change call 10 _ _ _ = _ at e1 e2
  have hs1 := (e5 b hb).1.trans hs
  have hs2 := (e5 b hb).2.trans hs
  obtain ⟨h', f1, f2⟩ := nx h2 s' e3 hs2 e4
  refine ⟨h', ?_, f2⟩
  rw [nd_169_1186 (St_run 10 mt_169), rdk hs hq hL (k := 1) (by decide) (z := 1) rfl, S.o, e1, bind_some', rI_some, rdk hs1 hq hL (k := 1) (by decide) (z := 1) rfl, e6.o, e2, bind_some', rI_some, if_pos rfl]
  exact f1
theorem lw_364 (S : SS h x y s q) (hs : h.1 b = some (aI 2 L xs)) (hq : 7 * q + 7 ≤ L) (hL : L ≤ 3584) (hb : b < x) (nx : NX b L xs x y q h) : ∃ h', run 10 mt_169 364 [some (.ref b), some (.ref x), some (.ref y), some (.int (nI (7 * q)))] [] h = some (some (.int 1), h') ∧ h'.2 = h.2 := by
  have main : ∀ (t : Bool), run 10 mt_169 364 [some (.ref b), some (.ref x), some (.ref y), some (.int (nI (7 * q)))] [] h = run 10 mt_169 388 [some (.ref b), some (.ref x), some (.ref y), some (.int (nI (7 * q)))] [.int (bI t), .int (xs (7 * q + 2)), .int (xs (7 * q + 1)), .ref x] h → (∀ (h1 : AH) (r : Int32), (if xs (7 * q + 3) = 0 then run 10 mt_169 415 [some (.ref b), some (.ref x), some (.ref y), some (.int (nI (7 * q)))] [.int 0, .int (xs (7 * q + 2)), .int (xs (7 * q + 1)), .ref y, .int r] h1 else run 10 mt_169 415 [some (.ref b), some (.ref x), some (.ref y), some (.int (nI (7 * q)))] [.int 1, .int (xs (7 * q + 2)), .int (xs (7 * q + 1)), .ref y, .int r] h1) = run 10 mt_169 415 [some (.ref b), some (.ref x), some (.ref y), some (.int (nI (7 * q)))] [.int (bI t), .int (xs (7 * q + 2)), .int (xs (7 * q + 1)), .ref y, .int r] h1) → ∃ h', run 10 mt_169 364 [some (.ref b), some (.ref x), some (.ref y), some (.int (nI (7 * q)))] [] h = some (some (.int 1), h') ∧ h'.2 = h.2 := by
    intro t h0 hif
    obtain ⟨h1, h2, r, s', e1, e2, e3, e4, e5, I, A, e6⟩ := op_good (d := 2) S (xs (7 * q + 1)) (xs (7 * q + 2)) t
    change call 10 _ _ _ = _ at e1 e2
    have hs1 := (e5 b hb).1.trans hs
    have hs2 := (e5 b hb).2.trans hs
    obtain ⟨h', f1, f2⟩ := nx h2 s' e3 hs2 e4
    refine ⟨h', ?_, f2⟩
    rw [h0, nd_169_388 (St_run 10 mt_169), S.o, e1, bind_some', rI_some, rdk hs1 hq hL (k := 1) (by decide) (z := 1) rfl, rdk hs1 hq hL (k := 2) (by decide) (z := 2) rfl, rdk hs1 hq hL (k := 3) (by decide) (z := 3) rfl, hif h1 r, nd_169_415 (St_run 10 mt_169), e6.o, e2, bind_some', rI_some, if_pos rfl]
    exact f1
  by_cases hz : xs (7 * q + 3) = 0
  · refine main false ?_ (fun h1 r => by rw [if_pos hz]; rfl)
    rw [nd_169_364 (St_run 10 mt_169), rdk hs hq hL (k := 1) (by decide) (z := 1) rfl, rdk hs hq hL (k := 2) (by decide) (z := 2) rfl, rdk hs hq hL (k := 3) (by decide) (z := 3) rfl, if_pos hz]
    rfl
  · refine main true ?_ (fun h1 r => by rw [if_neg hz]; rfl)
    rw [nd_169_364 (St_run 10 mt_169), rdk hs hq hL (k := 1) (by decide) (z := 1) rfl, rdk hs hq hL (k := 2) (by decide) (z := 2) rfl, rdk hs hq hL (k := 3) (by decide) (z := 3) rfl, if_neg hz]
    rfl
theorem cmp7 (hL : L ≤ 3584) (hq : q ≤ 600) : (nI L - 7 < nI (7 * q)) = (L < 7 * q + 7) := propext (by
  rw [Int32.lt_iff_toInt_lt, Int32.toInt_sub, nI_toInt (show L < 2 ^ 31 by omega), nI_toInt (show 7 * q < 2 ^ 31 by omega), show (7 : Int32).toInt = 7 from by decide, Int.bmod_def]
  split <;> omega)
theorem l_law (hL : L ≤ 3584) (hb : b < x) : ∀ (m q : Nat) (h : AH) (s : SG), q + m = 520 → L < 7 * q + 7 * m + 7 → SS h x y s q → h.1 b = some (aI 2 L xs) → ∃ h', run 10 mt_169 18 [some (.ref b), some (.ref x), some (.ref y), some (.int (nI (7 * q)))] [] h = some (some (.int 1), h') ∧ h'.2 = h.2 := by
  intro m
  induction m with
  | zero =>
    intro q h s hqm hlt S hs
    refine ⟨h, ?_, rfl⟩
    rw [nd_169_18 (St_run 10 mt_169), lnI_of hs, if_pos (show nI L - 7 < nI (7 * q) by rw [cmp7 hL (by omega)]; omega), isZ1]
  | succ m ih =>
    intro q h s hqm hlt S hs
    rw [nd_169_18 (St_run 10 mt_169), lnI_of hs]
    by_cases hend : L < 7 * q + 7
    · refine ⟨h, ?_, rfl⟩
      rw [if_pos (show nI L - 7 < nI (7 * q) by rw [cmp7 hL (by omega)]; exact hend), isZ1]
    · have hq : 7 * q + 7 ≤ L := by omega
      rw [if_neg (show ¬ nI L - 7 < nI (7 * q) by rw [cmp7 hL (by omega)]; exact hend), ldX_of hs rfl (show 7 * q < L by omega) (by omega)]
      have nxt : ∀ h2 s', SS h2 x y s' (q + 1) → h2.1 b = some (aI 2 L xs) → h2.2 = h.2 → ∃ h', run 10 mt_169 1209 [some (.ref b), some (.ref x), some (.ref y), some (.int (nI (7 * q)))] [] h2 = some (some (.int 1), h') ∧ h'.2 = h.2 := fun h2 s' S2 hs2 e => by
        obtain ⟨h', f1, f2⟩ := ih (q + 1) h2 s' (by omega) (by omega) S2 hs2
        refine ⟨h', ?_, f2.trans e⟩
        rw [nd_169_1209 (St_run 10 mt_169), show nI (7 * q) + 7 = nI (7 * (q + 1)) from nI_add (7 * q) 7]
        exact f1
      have nx : NX b L xs x y q h := nxt
      generalize ((xs (7 * q) &&& 31)).toInt = t
      by_cases c0 : t = 0
      · rw [if_pos c0]; exact lw_164 S hs hq hL hb nx
      rw [if_neg c0]
      by_cases c1 : t = 1
      · rw [if_pos c1]; exact lw_197 S hs hq hL hb nx
      rw [if_neg c1]
      by_cases c2 : t = 2
      · rw [if_pos c2]; exact lw_220 S hs hq hL hb nx
      rw [if_neg c2]
      by_cases c3 : t = 3
      · rw [if_pos c3]; exact lw_243 S hs hq hL hb nx
      rw [if_neg c3]
      by_cases c4 : t = 4
      · rw [if_pos c4]; exact lw_256 S hs hq hL hb nx
      rw [if_neg c4]
      by_cases c5 : t = 5
      · rw [if_pos c5]; exact lw_289 S hs hq hL hb nx
      rw [if_neg c5]
      by_cases c6 : t = 6
      · rw [if_pos c6]; exact lw_364 S hs hq hL hb nx
      rw [if_neg c6]
      by_cases c7 : t = 7
      · rw [if_pos c7]; exact lw_423 S hs hq hL hb nx
      rw [if_neg c7]
      by_cases c8 : t = 8
      · rw [if_pos c8]; exact lw_456 S hs hq hL hb nx
      rw [if_neg c8]
      by_cases c9 : t = 9
      · rw [if_pos c9]; exact lw_519 S hs hq hL hb nx
      rw [if_neg c9]
      by_cases c10 : t = 10
      · rw [if_pos c10]; exact lw_532 S hs hq hL hb nx
      rw [if_neg c10]
      by_cases c11 : t = 11
      · rw [if_pos c11]; exact lw_555 S hs hq hL hb nx
      rw [if_neg c11]
      by_cases c12 : t = 12
      · rw [if_pos c12]; exact lw_598 S hs hq hL hb nx
      rw [if_neg c12]
      by_cases c13 : t = 13
      · rw [if_pos c13]; exact lw_631 S hs hq hL hb nx
      rw [if_neg c13]
      by_cases c14 : t = 14
      · rw [if_pos c14]; exact lw_674 S hs hq hL hb nx
      rw [if_neg c14]
      by_cases c15 : t = 15
      · rw [if_pos c15]; exact lw_697 S hs hq hL hb nx
      rw [if_neg c15]
      by_cases c16 : t = 16
      · rw [if_pos c16]; exact lw_730 S hs hq hL hb nx
      rw [if_neg c16]
      by_cases c17 : t = 17
      · rw [if_pos c17]; exact lw_753 S hs hq hL hb nx
      rw [if_neg c17]
      by_cases c18 : t = 18
      · rw [if_pos c18]; exact lw_796 S hs hq hL hb nx
      rw [if_neg c18]
      by_cases c19 : t = 19
      · rw [if_pos c19]; exact lw_829 S hs hq hL hb nx
      rw [if_neg c19]
      by_cases c20 : t = 20
      · rw [if_pos c20]; exact lw_882 S hs hq hL hb nx
      rw [if_neg c20]
      by_cases c21 : t = 21
      · rw [if_pos c21]; exact lw_915 S hs hq hL hb nx
      rw [if_neg c21]
      by_cases c22 : t = 22
      · rw [if_pos c22]; exact lw_948 S hs hq hL hb nx
      rw [if_neg c22]
      by_cases c23 : t = 23
      · rw [if_pos c23]; exact lw_971 S hs hq hL hb nx
      rw [if_neg c23]
      by_cases c24 : t = 24
      · rw [if_pos c24]; exact lw_1014 S hs hq hL hb nx
      rw [if_neg c24]
      by_cases c25 : t = 25
      · rw [if_pos c25]; exact lw_1047 S hs hq hL hb nx
      rw [if_neg c25]
      by_cases c26 : t = 26
      · rw [if_pos c26]; exact lw_1090 S hs hq hL hb nx
      rw [if_neg c26]
      by_cases c27 : t = 27
      · rw [if_pos c27]; exact lw_1133 S hs hq hL hb nx
      rw [if_neg c27]
      by_cases c28 : t = 28
      · rw [if_pos c28]; exact lw_1186 S hs hq hL hb nx
      rw [if_neg c28]
      exact nxt h s (S.mono) hs rfl
end LAW
