/-! ===== Machine: what it writes ===== -/
theorem hS_self {h : AH} {a : Nat} {e : AC} (he : h.1 a = some e) : hS h a e = h := by
  unfold hS
  obtain ⟨f, g⟩ := h
  show ((fun q => if q = a then some e else f q), g) = (f, g)
  congr 1
  funext q
  by_cases hq : q = a
  · subst hq
    rw [if_pos rfl]
    exact he.symm
  · rw [if_neg hq]
section MW
variable {h : AH} {a : Nat} {M : MD}
theorem isM.w1 (hM : isM h a M) (f : Nat → Int32) : isM (hS h (a + 1) (aI 0 54 f)) a (M.1, (f, M.2.2)) := ⟨(hS_ne (by omega)).trans hM.1, hS_at _ _ _, (hS_ne (by omega)).trans hM.2.2.1, (hS_ne (by omega)).trans hM.2.2.2.1, (hS_ne (by omega)).trans hM.2.2.2.2⟩
theorem isM.w2 (hM : isM h a M) (f : Nat → Int32) : isM (hS h (a + 2) (aI 0 54 f)) a (M.1, (M.2.1, (f, M.2.2.2))) := ⟨(hS_ne (by omega)).trans hM.1, (hS_ne (by omega)).trans hM.2.1, hS_at _ _ _, (hS_ne (by omega)).trans hM.2.2.2.1, (hS_ne (by omega)).trans hM.2.2.2.2⟩
theorem isM.w3 (hM : isM h a M) (f : Nat → Int32) : isM (hS h (a + 3) (aI 1 6 f)) a (M.1, (M.2.1, (M.2.2.1, (f, M.2.2.2.2)))) := ⟨(hS_ne (by omega)).trans hM.1, (hS_ne (by omega)).trans hM.2.1, (hS_ne (by omega)).trans hM.2.2.1, hS_at _ _ _, (hS_ne (by omega)).trans hM.2.2.2.2⟩
theorem isM.w4 (hM : isM h a M) (f : Nat → Int32) : isM (hS h (a + 4) (aI 0 36 f)) a (M.1, (M.2.1, (M.2.2.1, (M.2.2.2.1, f)))) := ⟨(hS_ne (by omega)).trans hM.1, (hS_ne (by omega)).trans hM.2.1, (hS_ne (by omega)).trans hM.2.2.1, (hS_ne (by omega)).trans hM.2.2.2.1, hS_at _ _ _⟩
theorem isM.w0 (hM : isM h a M) (N : Int32 × (Int32 × (Int32 × Int32))) : isM (hS h a (oB 0 [.ref (a + 1), .ref (a + 2), .ref (a + 3), .int N.1, .int N.2.1, .int N.2.2.1, .ref (a + 4), .int N.2.2.2])) a (N, M.2) := ⟨hS_at _ _ _, (hS_ne (by omega)).trans hM.2.1, (hS_ne (by omega)).trans hM.2.2.1, (hS_ne (by omega)).trans hM.2.2.2.1, (hS_ne (by omega)).trans hM.2.2.2.2⟩
theorem isM.p3 (hM : isM h a M) (x : Int32) (f : AH → Option RV) : pfV h a 0 3 (.int x) f = f (hS h a (oB 0 [.ref (a + 1), .ref (a + 2), .ref (a + 3), .int x, .int M.1.2.1, .int M.1.2.2.1, .ref (a + 4), .int M.1.2.2.2])) := pfV_of hM.1 (Nat.le_of_ble_eq_true rfl) _ f
theorem isM.p4 (hM : isM h a M) (x : Int32) (f : AH → Option RV) : pfV h a 0 4 (.int x) f = f (hS h a (oB 0 [.ref (a + 1), .ref (a + 2), .ref (a + 3), .int M.1.1, .int x, .int M.1.2.2.1, .ref (a + 4), .int M.1.2.2.2])) := pfV_of hM.1 (Nat.le_of_ble_eq_true rfl) _ f
theorem isM.p5 (hM : isM h a M) (x : Int32) (f : AH → Option RV) : pfV h a 0 5 (.int x) f = f (hS h a (oB 0 [.ref (a + 1), .ref (a + 2), .ref (a + 3), .int M.1.1, .int M.1.2.1, .int x, .ref (a + 4), .int M.1.2.2.2])) := pfV_of hM.1 (Nat.le_of_ble_eq_true rfl) _ f
theorem isM.p7 (hM : isM h a M) (x : Int32) (f : AH → Option RV) : pfV h a 0 7 (.int x) f = f (hS h a (oB 0 [.ref (a + 1), .ref (a + 2), .ref (a + 3), .int M.1.1, .int M.1.2.1, .int M.1.2.2.1, .ref (a + 4), .int x])) := pfV_of hM.1 (Nat.le_of_ble_eq_true rfl) _ f
end MW
/-- Machine.forgetOrbits -/
theorem l_forgetOrbits {d a : Nat} : ∀ (k i : Nat) (h : AH) (M : MD), isM h a M → i + k = 36 → ∃ h' f, run d mt_10 2 [some (.ref a), some (.int (nI i))] [] h = some (none, h') ∧ isM h' a (M.1, (M.2.1, (M.2.2.1, (M.2.2.2.1, f)))) ∧ (∀ j, f j = if i ≤ j ∧ j < 36 then 0 else M.2.2.2.2 j) ∧ Fr h h' a 5 := by
  intro k
  induction k with
  | zero =>
    intro i h M hM hi
    refine ⟨h, M.2.2.2.2, ?_, hM, fun j => (if_neg (by omega)).symm, Fr.rf _ _ _⟩
    rw [nd_10_2 (St_run d mt_10), hM.g6, lnI_of hM.2.2.2.2, if_pos (nI_le (by omega) (by omega))]
  | succ k ih =>
    intro i h M hM hi
    obtain ⟨h', f, e1, e2, e3, e4⟩ := ih (i + 1) _ _ (hM.w4 (upd M.2.2.2.2 i 0)) (by omega)
    refine ⟨h', f, ?_, e2, fun j => ?_, Fr.tr (Fr.set ⟨by omega, by omega⟩) e4⟩
    · rw [nd_10_2 (St_run d mt_10), hM.g6, lnI_of hM.2.2.2.2, if_neg (nI_ge (by omega) (by omega)), hM.g6, stI_of hM.2.2.2.2 rfl (show i < 36 by omega) (by decide), nI_1]
      exact e1
    · rw [e3]
      dsimp only [upd]
      by_cases h1 : i + 1 ≤ j ∧ j < 36
      · rw [if_pos h1, if_pos (by omega)]
      · rw [if_neg h1]
        by_cases h2 : j = i
        · rw [if_pos h2, if_pos (by omega)]
        · rw [if_neg h2, if_neg (by omega)]
theorem m_forgetOrbits {d a : Nat} {h : AH} {M : MD} (hM : isM h a M) : ∃ h' f, call (d + 1) 10 [.ref a] h = some (none, h') ∧ isM h' a (M.1, (M.2.1, (M.2.2.1, (M.2.2.2.1, f)))) ∧ (∀ j, j < 36 → f j = 0) ∧ Fr h h' a 5 := by
  obtain ⟨h', f, e1, e2, e3, e4⟩ := l_forgetOrbits (d := d) 36 0 h M hM rfl
  refine ⟨h', f, ?_, e2, fun j hj => by rw [e3, if_pos ⟨Nat.zero_le _, hj⟩], e4⟩
  rw [call_at mt_10 [some (.ref a), none] rfl rfl rfl, nd_10_0 (St_run d mt_10)]
  exact e1
/-- Machine.begin: the loop over the steps -/
theorem l_begin1 {d a : Nat} : ∀ (k i : Nat) (h : AH) (M : MD), isM h a M → i + k = 54 → ∃ h' f g, run d mt_1 22 [some (.ref a), none, none, some (.int (nI i))] [] h = run d mt_1 57 [some (.ref a), none, none, some (.int 0)] [] h' ∧ isM h' a (M.1, (f, (g, M.2.2.2))) ∧ (∀ j, f j = if i ≤ j ∧ j < 54 then nI (j / 9) else M.2.1 j) ∧ (∀ j, g j = if i ≤ j ∧ j < 54 then -4 else M.2.2.1 j) ∧ Fr h h' a 5 := by
  intro k
  induction k with
  | zero =>
    intro i h M hM hi
    refine ⟨h, M.2.1, M.2.2.1, ?_, hM, fun j => (if_neg (by omega)).symm, fun j => (if_neg (by omega)).symm, Fr.rf _ _ _⟩
    rw [nd_1_22 (St_run d mt_1), hM.g0, lnI_of hM.2.1, if_pos (nI_le (by omega) (by omega))]
  | succ k ih =>
    intro i h M hM hi
    have hM1 := hM.w1 (upd M.2.1 i (nI i / 9))
    have hM2 := hM1.w2 (upd M.2.2.1 i (-4))
    obtain ⟨h', f, g, e1, e2, e3, e4, e5⟩ := ih (i + 1) _ _ hM2 (by omega)
    have hdv : nI i / 9 = nI (i / 9) := pk_div (d := 9) (by omega) (by decide) (by decide)
    refine ⟨h', f, g, ?_, e2, fun j => ?_, fun j => ?_, Fr.tr (Fr.tr (Fr.set ⟨by omega, by omega⟩) (Fr.set ⟨by omega, by omega⟩)) e5⟩
    · rw [nd_1_22 (St_run d mt_1), hM.g0, lnI_of hM.2.1, if_neg (nI_ge (by omega) (by omega)), hM.g0, stI_of hM.2.1 rfl (show i < 54 by omega) (by decide), hM1.g1, stI_of hM1.2.2.1 rfl (show i < 54 by omega) (by decide), nI_1]
      exact e1
    · rw [e3]
      dsimp only [upd]
      by_cases h1 : i + 1 ≤ j ∧ j < 54
      · rw [if_pos h1, if_pos (by omega)]
      · rw [if_neg h1]
        by_cases h2 : j = i
        · subst h2
          rw [if_pos rfl, if_pos (by omega), hdv]
        · rw [if_neg h2, if_neg (by omega)]
    · rw [e4]
      dsimp only [upd]
      by_cases h1 : i + 1 ≤ j ∧ j < 54
      · rw [if_pos h1, if_pos (by omega)]
      · rw [if_neg h1]
        by_cases h2 : j = i
        · rw [if_pos h2, if_pos (by omega)]
        · rw [if_neg h2, if_neg (by omega)]
theorem l_begin2 {d a : Nat} : ∀ (k i : Nat) (h : AH) (M : MD), isM h a M → i + k = 6 → ∃ h' f, run d mt_1 57 [some (.ref a), none, none, some (.int (nI i))] [] h = some (none, h') ∧ isM h' a (M.1, (M.2.1, (M.2.2.1, (f, M.2.2.2.2)))) ∧ (∀ j, f j = if i ≤ j ∧ j < 6 then 0 else M.2.2.2.1 j) ∧ Fr h h' a 5 := by
  intro k
  induction k with
  | zero =>
    intro i h M hM hi
    refine ⟨h, M.2.2.2.1, ?_, hM, fun j => (if_neg (by omega)).symm, Fr.rf _ _ _⟩
    rw [nd_1_57 (St_run d mt_1), if_pos (show (6 : Int32) ≤ nI i from nI_le (a := 6) (b := i) (by omega) (by omega))]
  | succ k ih =>
    intro i h M hM hi
    obtain ⟨h', f, e1, e2, e3, e4⟩ := ih (i + 1) _ _ (hM.w3 (upd M.2.2.2.1 i (0 &&& 1))) (by omega)
    refine ⟨h', f, ?_, e2, fun j => ?_, Fr.tr (Fr.set ⟨by omega, by omega⟩) e4⟩
    · rw [nd_1_57 (St_run d mt_1), if_neg (show ¬ (6 : Int32) ≤ nI i from nI_ge (a := i) (b := 6) (by omega) (by omega)), hM.g2, stZ_of hM.2.2.2.1 rfl (show i < 6 by omega) (by decide), nI_1]
      exact e1
    · rw [e3]
      dsimp only [upd]
      by_cases h1 : i + 1 ≤ j ∧ j < 6
      · rw [if_pos h1, if_pos (by omega)]
      · rw [if_neg h1]
        by_cases h2 : j = i
        · rw [if_pos h2, if_pos (by omega)]
          rfl
        · rw [if_neg h2, if_neg (by omega)]
/-- Machine.begin: a new machine's numbers -/
def bgM (M M' : MD) (n k : Int32) : Prop := M'.1 = (n, (k, (0, 0))) ∧ (∀ j, j < 54 → M'.2.1 j = nI (j / 9)) ∧ (∀ j, j < 54 → M'.2.2.1 j = -4) ∧ (∀ j, j < 6 → M'.2.2.2.1 j = 0) ∧ M'.2.2.2.2 = M.2.2.2.2
theorem m_begin {d a : Nat} {h : AH} {M : MD} (hM : isM h a M) (n k : Int32) : ∃ h' M', call (d + 1) 1 [.ref a, .int n, .int k] h = some (none, h') ∧ isM h' a M' ∧ bgM M M' n k ∧ Fr h h' a 5 := by
  have h1 := hM.w0 (n, (M.1.2.1, (M.1.2.2.1, M.1.2.2.2)))
  have h2 := h1.w0 (n, (k, (M.1.2.2.1, M.1.2.2.2)))
  have h3 := h2.w0 (n, (k, (0, M.1.2.2.2)))
  have h4 := h3.w0 (n, (k, (0, 0)))
  obtain ⟨h5, f, g, e1, e2, e3, e4, e5⟩ := l_begin1 (d := d) 54 0 _ _ h4 rfl
  obtain ⟨h6, g2, e6, e7, e8, e9⟩ := l_begin2 (d := d) 6 0 _ _ e2 rfl
  refine ⟨h6, _, ?_, e7, ⟨rfl, fun j hj => by show f j = _; rw [e3, if_pos ⟨Nat.zero_le _, hj⟩], fun j hj => by show g j = _; rw [e4, if_pos ⟨Nat.zero_le _, hj⟩], fun j hj => by show g2 j = _; rw [e8, if_pos ⟨Nat.zero_le _, hj⟩], rfl⟩, ?_⟩
  · rw [call_at mt_1 [some (.ref a), some (.int n), some (.int k), none] rfl rfl rfl, nd_1_0 (St_run d mt_1), hM.p3, h1.p4, isZ0, h2.p5, isZ0, h3.p7]
    exact e1.trans e6
  · exact Fr.tr (Fr.tr (Fr.tr (Fr.tr (Fr.tr (Fr.set ⟨by omega, by omega⟩) (Fr.set ⟨by omega, by omega⟩)) (Fr.set ⟨by omega, by omega⟩)) (Fr.set ⟨by omega, by omega⟩)) e5) e9
