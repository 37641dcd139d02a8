/-! ===== the law runs ===== -/
theorem law_runs (b L lo : Nat) (xs : Nat → Int32) (hL : L ≤ 3584) (hb : b < lo) : ∃ h' : AH, run 10 mt_169 0 (entL 4 [.ref b]) [] (h00 b L lo xs) = some (some (.int 1), h') ∧ h'.2.1 ≤ lo + 600000 ∧ h'.2.2 ≤ 7302250 := by
  obtain ⟨h1, a1, a2, a3, a4, a5⟩ := K_62 (d := 6) (h00 b L lo xs)
  obtain ⟨h2, b1, ⟨I, A, b2, b2'⟩, b3, b4, b5⟩ := K_106 (d := 8) h1
  change call 10 _ _ _ = _ at a1 b1
  have t0 : (h00 b L lo xs).2.1 = lo := rfl
  rw [t0] at a2 a3 a5
  have a4' : h1.2.2 = 0 + 15925 := a4
  have hs0 : (h00 b L lo xs).1 b = some (aI 2 L xs) := if_pos rfl
  have hs : h2.1 b = some (aI 2 L xs) := (b5 b (by omega)).trans ((a5 b hb).trans hs0)
  have fr : Fr h1 (h2.1, h1.2) h1.2.1 33 := ⟨rfl, fun z hz => b5 z (by omega)⟩
  have c2 : isC (h2.1, h1.2) lo s0 := a2.fr s0_wf fr (by omega)
  have c3 : isC h2 lo s0 := c2
  have S : SS h2 lo h1.2.1 s0 0 := ⟨s0_wf, c3, ⟨I, A, b2, b2'⟩, by omega⟩
  obtain ⟨h', f1, f2⟩ := l_law (b := b) (L := L) (xs := xs) hL hb 520 0 h2 s0 rfl (by omega) S hs
  refine ⟨h', ?_, by rw [f2, b3, a3]; omega, by rw [f2, b4, a4']; omega⟩
  rw [show entL 4 [Value.ref b] = [some (.ref b), none, none, none] from rfl, nd_169_0 (St_run 10 mt_169), a1, bind_some', rV_some, b1, bind_some', rV_some, t0]
  exact f1
