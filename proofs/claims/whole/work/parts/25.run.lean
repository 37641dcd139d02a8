/-! ===== Run (class 3) ===== -/
/-- a machine's numbers are as they must be -/
def WFM (M : MD) (st rg : Nat) : Prop := M.1.1 = nI st ∧ M.1.2.1 = nI rg ∧ 1 ≤ st ∧ st ≤ 6 ∧ rg ≤ 2 ∧ (∀ j, j < 54 → j / 9 < st → ∃ t, t < st ∧ M.2.1 j = nI t) ∧ (∀ j, j < 54 → M.2.2.1 j = -4 ∨ ∃ r, r < rg ∧ M.2.2.1 j = nI r) ∧ (∀ j, j < 6 → M.2.2.2.1 j = 0 ∨ M.2.2.2.1 j = 1)
def caseN (D : D_Run) (x : Int32) : Nat := if D.2.2.2.2 0 ≠ -4 ∧ D.2.2.2.1 0 = x then 0 else if D.2.2.2.2 1 ≠ -4 ∧ D.2.2.2.1 1 = x then 1 else 2
theorem caseN_le (D : D_Run) (x : Int32) : caseN D x ≤ 2 := by
  unfold caseN
  split
  · omega
  · split <;> omega
theorem m_runBegin {d a : Nat} {h : AH} {D : D_Run} (q : isRun h a D) : ∃ h' f g, call (d + 1) 28 [.ref a] h = some (none, h') ∧ isRun h' a (0, (-4, (0, (f, g)))) ∧ (f 0 = 0 ∧ f 1 = 0 ∧ g 0 = -4 ∧ g 1 = -4) ∧ Fr h h' a 3 := by
  have q1 := q.u0 0
  have q2 := q1.u3 (-4)
  have q3 := q2.u4 0
  have q4 := q3.w0 (upd D.2.2.2.1 0 0)
  have q5 := q4.w1 (upd D.2.2.2.2 0 (-4))
  have q6 := q5.w0 (upd (upd D.2.2.2.1 0 0) 1 0)
  have q7 := q6.w1 (upd (upd D.2.2.2.2 0 (-4)) 1 (-4))
  refine ⟨_, _, _, ?_, q7, ⟨rfl, rfl, rfl, rfl⟩, ?_⟩
  · rw [call_at mt_28 [some (.ref a), none] rfl rfl rfl, nd_28_0 (St_run d mt_28), q.p0, q1.p3, q2.p4, nd_28_18 (St_run d mt_28), if_neg (by decide), q3.g1, stI_of (i := 0) q3.a0 (j := 0) rfl (by decide) (by decide), q4.g2, stI_of (i := 0) q4.a1 (j := 0) rfl (by decide) (by decide), nd_28_18 (St_run d mt_28), if_neg (by decide), q5.g1, stI_of (i := 0 + 1) q5.a0 (j := 1) rfl (by decide) (by decide), q6.g2, stI_of (i := 0 + 1) q6.a1 (j := 1) rfl (by decide) (by decide), nd_28_18 (St_run d mt_28), if_pos (by decide)]
  · exact Fr.tr (Fr.tr (Fr.tr (Fr.tr (Fr.tr (Fr.tr (Fr.set ⟨by omega, by omega⟩) (Fr.set ⟨by omega, by omega⟩)) (Fr.set ⟨by omega, by omega⟩)) (Fr.set ⟨by omega, by omega⟩)) (Fr.set ⟨by omega, by omega⟩)) (Fr.set ⟨by omega, by omega⟩)) (Fr.set ⟨by omega, by omega⟩)
theorem m_caseOf {d a : Nat} {h : AH} {D : D_Run} (q : isRun h a D) (x : Int32) : call (d + 1) 31 [.ref a, .int x] h = some (some (.int (nI (caseN D x))), h) := by
  have r2 : run d mt_31 2 [some (.ref a), some (.int x), some (.int (0 + 1 + 1))] [] h = some (some (.int 2), h) := by
    rw [nd_31_2 (St_run d mt_31), if_pos (by decide)]
  have r1 : run d mt_31 2 [some (.ref a), some (.int x), some (.int (0 + 1))] [] h = if D.2.2.2.2 1 = -4 then some (some (.int 2), h) else if D.2.2.2.1 1 = x then some (some (.int (0 + 1)), h) else some (some (.int 2), h) := by
    rw [nd_31_2 (St_run d mt_31), if_neg (by decide), q.g2, ldI_of (i := 0 + 1) q.a1 (j := 1) rfl (by decide) (by decide), q.g1, ldI_of (i := 0 + 1) q.a0 (j := 1) rfl (by decide) (by decide), nd_31_30 (St_run d mt_31), r2]
  rw [call_at mt_31 [some (.ref a), some (.int x), none] rfl rfl rfl, nd_31_0 (St_run d mt_31), nd_31_2 (St_run d mt_31), if_neg (by decide), q.g2, ldI_of (i := 0) q.a1 (j := 0) rfl (by decide) (by decide), q.g1, ldI_of (i := 0) q.a0 (j := 0) rfl (by decide) (by decide), nd_31_30 (St_run d mt_31), r1]
  unfold caseN
  by_cases h1 : D.2.2.2.2 0 = -4 <;> by_cases h2 : D.2.2.2.1 0 = x <;> by_cases h3 : D.2.2.2.2 1 = -4 <;> by_cases h4 : D.2.2.2.1 1 = x <;> simp [h1, h2, h3, h4] <;> rfl
def kpH (k : Int32) (f : Nat → Int32) (x : Int32) : Nat → Int32 := if k = 0 then upd f 0 x else if k = 1 then upd f 1 x else f
theorem m_keepIn {d a : Nat} {h : AH} {D : D_Run} (q : isRun h a D) (k x : Int32) (hk : k = -4 ∨ k = 0 ∨ k = 1) : ∃ h', call (d + 1) 30 [.ref a, .int k, .int x] h = some (none, h') ∧ isRun h' a (D.1, (D.2.1, (D.2.2.1, (kpH k D.2.2.2.1 x, kpH k D.2.2.2.2 D.2.2.1)))) ∧ Fr h h' a 3 := by
  rcases hk with rfl | rfl | rfl
  · refine ⟨h, ?_, q, Fr.rf _ _ _⟩
    rw [call_at mt_30 [some (.ref a), some (.int (-4)), some (.int x)] rfl rfl rfl, nd_30_0 (St_run d mt_30), if_pos (by decide), nd_30_26 (St_run d mt_30)]
  · have q1 := q.w0 (upd D.2.2.2.1 0 x)
    refine ⟨_, ?_, q1.w1 (upd D.2.2.2.2 0 D.2.2.1), Fr.tr (Fr.set ⟨by omega, by omega⟩) (Fr.set ⟨by omega, by omega⟩)⟩
    rw [call_at mt_30 [some (.ref a), some (.int 0), some (.int x)] rfl rfl rfl, nd_30_0 (St_run d mt_30), if_neg (by decide), if_neg (by decide), q.g1, stI_of (i := 0) q.a0 (j := 0) rfl (by decide) (by decide), q1.g2, q1.g4, stI_of (i := 0) q1.a1 (j := 0) rfl (by decide) (by decide), nd_30_26 (St_run d mt_30)]
  · have q1 := q.w0 (upd D.2.2.2.1 1 x)
    refine ⟨_, ?_, q1.w1 (upd D.2.2.2.2 1 D.2.2.1), Fr.tr (Fr.set ⟨by omega, by omega⟩) (Fr.set ⟨by omega, by omega⟩)⟩
    rw [call_at mt_30 [some (.ref a), some (.int 1), some (.int x)] rfl rfl rfl, nd_30_0 (St_run d mt_30), if_neg (by decide), if_neg (by decide), q.g1, stI_of (i := 1) q.a0 (j := 1) rfl (by decide) (by decide), q1.g2, q1.g4, stI_of (i := 1) q1.a1 (j := 1) rfl (by decide) (by decide), nd_30_26 (St_run d mt_30)]
/-- a run's numbers behind one more place -/
def goD (D : D_Run) (M : MD) (s l : Nat) (x : Int32) : D_Run := (M.2.1 (9 * s + 3 * l + caseN D x), (nI (caseN D x), (D.2.2.1 + 1, (kpH (M.2.2.1 (9 * s + 3 * l + caseN D x)) D.2.2.2.1 x, kpH (M.2.2.1 (9 * s + 3 * l + caseN D x)) D.2.2.2.2 D.2.2.1))))
theorem v_stepAt_ok {st rg s l w : Nat} (hst : st ≤ 6) (hrg : rg ≤ 2) (hs : s < st) (hl : l < 3) (hw : w = 2 ∨ w < rg) : v_stepAt (nI st) (nI rg) (nI s) (nI l) (nI w) = nI (9 * s + 3 * l + w) := by
  unfold v_stepAt
  rw [if_pos]
  · show (nI s * nI 3 + nI l) * nI 3 + nI w = _
    rw [pk_mul, nI_add, pk_mul, nI_add]
    congr 1
    omega
  · refine ⟨?_, nI_pos (by omega), nI_ge hs (by omega), nI_pos (by omega), show ¬ nI 3 ≤ nI l from nI_ge hl (by omega)⟩
    rcases hw with rfl | hw
    · exact Or.inl rfl
    · exact Or.inr ⟨nI_pos (by omega), nI_ge hw (by omega)⟩
theorem m_go {d a b st rg : Nat} {h : AH} {D : D_Run} {M : MD} (q : isRun h a D) (hM : isM h b M) (hd : a + 3 ≤ b ∨ b + 5 ≤ a) (hw : WFM M st rg) (s l : Nat) (x : Int32) (hs : D.1 = nI s) (hst : s < st) (hl : l < 3) (hk : ∀ r, rg ≤ r → r < 2 → D.2.2.2.2 r = -4) : ∃ h', call (d + 2) 29 [.ref a, .ref b, .int (nI l), .int x] h = some (none, h') ∧ isRun h' a (goD D M s l x) ∧ Fr h h' a 3 := by
  obtain ⟨w1, w2, w3, w4, w5, w6, w7, w8⟩ := hw
  have hc2 := caseN_le D x
  have hcw : caseN D x = 2 ∨ caseN D x < rg := by
    by_cases h2 : caseN D x = 2
    · exact Or.inl h2
    · right
      unfold caseN at h2 ⊢
      by_cases e0 : D.2.2.2.2 0 ≠ -4 ∧ D.2.2.2.1 0 = x
      · rw [if_pos e0]
        by_cases hr : rg ≤ 0
        · exact absurd (hk 0 hr (by omega)) e0.1
        · omega
      · rw [if_neg e0] at h2 ⊢
        by_cases e1 : D.2.2.2.2 1 ≠ -4 ∧ D.2.2.2.1 1 = x
        · rw [if_pos e1]
          by_cases hr : rg ≤ 1
          · exact absurd (hk 1 hr (by omega)) e1.1
          · omega
        · rw [if_neg e1] at h2
          exact absurd rfl h2
  generalize hcc : caseN D x = cc at *
  have hat : 9 * s + 3 * l + cc < 54 := by omega
  have q1 := q.u3 (nI cc)
  have f1 : Fr h (hS h a (oB 3 [.int D.1, .ref (a + 1), .ref (a + 2), .int (nI cc), .int D.2.2.1])) a 3 := Fr.set ⟨by omega, by omega⟩
  have hM1 := hM.fr f1 (by omega)
  have hkp : M.2.2.1 (9 * s + 3 * l + cc) = -4 ∨ M.2.2.1 (9 * s + 3 * l + cc) = 0 ∨ M.2.2.1 (9 * s + 3 * l + cc) = 1 := by
    rcases w7 _ hat with e | ⟨r, hr, e⟩
    · exact Or.inl e
    · rcases (show r = 0 ∨ r = 1 by omega) with rfl | rfl
      · exact Or.inr (Or.inl e)
      · exact Or.inr (Or.inr e)
  obtain ⟨h2, k1, k2, k3⟩ := m_keepIn (d := d) q1 (M.2.2.1 (9 * s + 3 * l + cc)) x hkp
  dsimp only at k2
  have hM2 := hM1.fr k3 (by omega)
  have q3 := k2.u0 (M.2.1 (9 * s + 3 * l + cc))
  dsimp only at q3
  have q4 := q3.u4 (D.2.2.1 + 1)
  dsimp only at q4
  have eD : goD D M s l x = (M.2.1 (9 * s + 3 * l + cc), (nI cc, (D.2.2.1 + 1, (kpH (M.2.2.1 (9 * s + 3 * l + cc)) D.2.2.2.1 x, kpH (M.2.2.1 (9 * s + 3 * l + cc)) D.2.2.2.2 D.2.2.1)))) := by
    unfold goD
    rw [hcc]
  rw [eD]
  refine ⟨_, ?_, q4, Fr.tr (Fr.tr (Fr.tr f1 k3) (Fr.set ⟨by omega, by omega⟩)) (Fr.set ⟨by omega, by omega⟩)⟩
  rw [call_at mt_29 [some (.ref a), some (.ref b), some (.int (nI l)), some (.int x), none] rfl rfl rfl, nd_29_0 (St_run (d + 1) mt_29), q.o, m_caseOf q, hcc, bind_some', rI_some, q.p3, q1.g0, q1.g3, hM1.o, m_stepAt hM1]
  dsimp only
  rw [w1, w2, show v_stepAt (nI st) (nI rg) D.1 (nI l) (nI cc) = nI (9 * s + 3 * l + cc) from by rw [hs]; exact v_stepAt_ok w4 w5 hst hl hcw, bind_some', rI_some, if_neg (nI_pos (by omega)), hM1.g1, ldI_of hM1.2.2.1 rfl hat (by decide), q1.o, k1, bind_some', rV_some, hM2.g0, ldI_of hM2.2.1 rfl hat (by decide), k2.p0, nd_29_52 (St_run (d + 1) mt_29), q3.g4, q3.p4]
/-- the pattern of a run's registers -/
def patN (D : D_Run) : Nat := if D.2.2.2.2 0 = -4 then (if D.2.2.2.2 1 = -4 then 0 else 1) else if D.2.2.2.2 1 = -4 then 3 else if D.2.2.2.1 0 = D.2.2.2.1 1 then 4 else 5
theorem patN_lt (D : D_Run) : patN D < 6 := by
  unfold patN
  repeat' split
  all_goals omega
theorem m_patternOf {d : Nat} {h : AH} (x y : Int32) : call (d + 1) 40 [.int x, .int y] h = some (some (.int (x * 3 + y)), h) := by
  rw [call_at mt_40 [some (.int x), some (.int y)] rfl rfl rfl, nd_40_0 (St_run d mt_40)]
theorem m_pattern {d a : Nat} {h : AH} {D : D_Run} (q : isRun h a D) : call (d + 2) 33 [.ref a] h = some (some (.int (nI (patN D))), h) := by
  rw [call_at mt_33 [some (.ref a), none, none] rfl rfl rfl]
  simp only [nd_33_0 (St_run (d + 1) mt_33), nd_33_16 (St_run (d + 1) mt_33), nd_33_58 (St_run (d + 1) mt_33), nd_33_59 (St_run (d + 1) mt_33), nd_33_72 (St_run (d + 1) mt_33), q.g1, q.g2, ldI_of (i := 0) q.a0 (j := 0) rfl (by decide) (by decide), ldI_of (i := 1) q.a0 (j := 1) rfl (by decide) (by decide), ldI_of (i := 0) q.a1 (j := 0) rfl (by decide) (by decide), ldI_of (i := 1) q.a1 (j := 1) rfl (by decide) (by decide), m_patternOf, bind_some', rI_some]
  unfold patN
  by_cases h1 : D.2.2.2.2 0 = -4 <;> by_cases h2 : D.2.2.2.2 1 = -4 <;> by_cases h3 : D.2.2.2.1 0 = D.2.2.2.1 1 <;> simp [h1, h2, h3] <;> rfl
theorem m_isDoomed {d a b st : Nat} {h : AH} {D : D_Run} {M : MD} (q : isRun h a D) (hM : isM h b M) (hs : M.1.1 = nI st) (h6 : st ≤ 6) (s : Nat) (hD : D.1 = nI s) (hj : s < st) : call (d + 3) 32 [.ref a, .ref b] h = some (some (.int (if M.2.2.2.2 (6 * s + patN D) = 2 then 1 else 0)), h) := by
  rw [call_at mt_32 [some (.ref a), some (.ref b)] rfl rfl rfl, nd_32_0 (St_run (d + 2) mt_32), q.g0, q.o, m_pattern q, bind_some', rI_some, hM.o, hD, m_fateOf hM hs h6 s (patN D) hj (patN_lt D), bind_some', rI_some]
  simp only [nd_32_21 (St_run (d + 2) mt_32), isZ0, isZ1, ifR]
