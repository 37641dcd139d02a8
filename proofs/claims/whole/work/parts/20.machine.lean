/-! ===== Machine (class 0) ===== -/
/-- a machine's numbers: states, registers, watched, orbitsKnown; next, keep, goodOnes, fate -/
abbrev MD : Type := (Int32 × (Int32 × (Int32 × Int32))) × ((Nat → Int32) × ((Nat → Int32) × ((Nat → Int32) × (Nat → Int32))))
def isM (h : AH) (a : Nat) (M : MD) : Prop :=
  h.1 a = some (oB 0 [.ref (a + 1), .ref (a + 2), .ref (a + 3), .int M.1.1, .int M.1.2.1, .int M.1.2.2.1, .ref (a + 4), .int M.1.2.2.2]) ∧ h.1 (a + 1) = some (aI 0 54 M.2.1) ∧ h.1 (a + 2) = some (aI 0 54 M.2.2.1) ∧ h.1 (a + 3) = some (aI 1 6 M.2.2.2.1) ∧ h.1 (a + 4) = some (aI 0 36 M.2.2.2.2)
theorem isM.fr {h h1 : AH} {a : Nat} {M : MD} {b n : Nat} (hM : isM h a M) (p : Fr h h1 b n) (hd : a + 5 ≤ b ∨ b + n ≤ a) : isM h1 a M := ⟨p.at (by omega) hM.1, p.at (by omega) hM.2.1, p.at (by omega) hM.2.2.1, p.at (by omega) hM.2.2.2.1, p.at (by omega) hM.2.2.2.2⟩
theorem isM.g3 {h : AH} {a : Nat} {M : MD} (hM : isM h a M) (f : Int32 → Option RV) : gfI h a 0 3 f = f M.1.1 := gfI_of hM.1 rfl f
theorem isM.g4 {h : AH} {a : Nat} {M : MD} (hM : isM h a M) (f : Int32 → Option RV) : gfI h a 0 4 f = f M.1.2.1 := gfI_of hM.1 rfl f
theorem isM.g5 {h : AH} {a : Nat} {M : MD} (hM : isM h a M) (f : Int32 → Option RV) : gfI h a 0 5 f = f M.1.2.2.1 := gfI_of hM.1 rfl f
theorem isM.g7 {h : AH} {a : Nat} {M : MD} (hM : isM h a M) (f : Int32 → Option RV) : gfI h a 0 7 f = f M.1.2.2.2 := gfI_of hM.1 rfl f
theorem isM.g0 {h : AH} {a : Nat} {M : MD} (hM : isM h a M) (n : Option RV) (f : Nat → Option RV) : gfQ h a 0 0 n f = f (a + 1) := gfQ_of hM.1 rfl n f
theorem isM.g1 {h : AH} {a : Nat} {M : MD} (hM : isM h a M) (n : Option RV) (f : Nat → Option RV) : gfQ h a 0 1 n f = f (a + 2) := gfQ_of hM.1 rfl n f
theorem isM.g2 {h : AH} {a : Nat} {M : MD} (hM : isM h a M) (n : Option RV) (f : Nat → Option RV) : gfQ h a 0 2 n f = f (a + 3) := gfQ_of hM.1 rfl n f
theorem isM.g6 {h : AH} {a : Nat} {M : MD} (hM : isM h a M) (n : Option RV) (f : Nat → Option RV) : gfQ h a 0 6 n f = f (a + 4) := gfQ_of hM.1 rfl n f
theorem isM.o {h : AH} {a : Nat} {M : MD} (hM : isM h a M) (f : Option RV) : isO h a 0 f = f := isO_of hM.1 f
def v_hasState (st s : Int32) : Int32 := if s < 0 then 0 else if st ≤ s then 0 else 1
theorem m_hasState {d a : Nat} {h : AH} {M : MD} (hM : isM h a M) (s : Int32) : call (d + 1) 3 [.ref a, .int s] h = some (some (.int (v_hasState M.1.1 s)), h) := by
  rw [call_at mt_3 [some (.ref a), some (.int s)] rfl rfl rfl]
  simp only [nd_3_0 (St_run d mt_3), nd_3_16 (St_run d mt_3), nd_3_17 (St_run d mt_3), hM.g3, hM.g4, isZ0, isZ1, ifR]
  rfl
def v_canKeep (rg r : Int32) : Int32 := if r = -4 then 1 else if r < 0 then 0 else if rg ≤ r then 0 else 1
theorem m_canKeep {d a : Nat} {h : AH} {M : MD} (hM : isM h a M) (r : Int32) : call (d + 1) 5 [.ref a, .int r] h = some (some (.int (v_canKeep M.1.2.1 r)), h) := by
  rw [call_at mt_5 [some (.ref a), some (.int r)] rfl rfl rfl]
  simp only [nd_5_0 (St_run d mt_5), nd_5_18 (St_run d mt_5), nd_5_22 (St_run d mt_5), nd_5_23 (St_run d mt_5), hM.g3, hM.g4, isZ0, isZ1, ifR]
  rfl
def v_stepAt (st rg s l w : Int32) : Int32 := if (w = 2 ∨ (¬ w < 0 ∧ ¬ rg ≤ w)) ∧ ¬ s < 0 ∧ ¬ st ≤ s ∧ ¬ l < 0 ∧ ¬ 3 ≤ l then (s * 3 + l) * 3 + w else -4
theorem m_stepAt {d a : Nat} {h : AH} {M : MD} (hM : isM h a M) (s l w : Int32) : call (d + 1) 4 [.ref a, .int s, .int l, .int w] h = some (some (.int (v_stepAt M.1.1 M.1.2.1 s l w)), h) := by
  rw [call_at mt_4 [some (.ref a), some (.int s), some (.int l), some (.int w), none, none] rfl rfl rfl]
  simp only [nd_4_0 (St_run d mt_4), nd_4_17 (St_run d mt_4), nd_4_21 (St_run d mt_4), nd_4_22 (St_run d mt_4), nd_4_54 (St_run d mt_4), nd_4_55 (St_run d mt_4), nd_4_76 (St_run d mt_4), hM.g3, hM.g4, isZ0, isZ1]
  unfold v_stepAt
  by_cases h1 : w = 2 <;> by_cases h2 : w < 0 <;> by_cases h3 : M.1.2.1 ≤ w <;> by_cases h4 : s < 0 <;> by_cases h5 : M.1.1 ≤ s <;> by_cases h6 : l < 0 <;> by_cases h7 : 3 ≤ l <;> simp [h1, h2, h3, h4, h5, h6, h7]
