/-! ===== Machine: the rest ===== -/
theorem nI_lit (n : Nat) : (OfNat.ofNat n : Int32) = nI n := rfl
/-- a state that it has -/
theorem v_hasState_1 {st j : Nat} (hst : st ≤ 6) (hj : j < st) : v_hasState (nI st) (nI j) = 1 := by
  unfold v_hasState
  rw [if_neg (nI_pos (by omega)), if_neg (nI_ge hj (by omega))]
theorem v_hasState_0 {st j : Nat} (hst : st ≤ 6) (hj : st ≤ j) (hb : j < 2 ^ 31) : v_hasState (nI st) (nI j) = 0 := by
  unfold v_hasState
  rw [if_neg (nI_pos hb), if_pos (nI_le hj hb)]
/-- Machine.setStep at a place -/
theorem m_setStep {d a : Nat} {h : AH} {M : MD} (hM : isM h a M) (j : Nat) (hj : j < 54) (t r : Int32) : ∃ h', call (d + 1) 6 [.ref a, .int (nI j), .int t, .int r] h = some (none, h') ∧ isM h' a ((M.1.1, (M.1.2.1, (M.1.2.2.1, 0))), (upd M.2.1 j t, (upd M.2.2.1 j r, M.2.2.2))) ∧ Fr h h' a 5 := by
  have h1 := hM.w1 (upd M.2.1 j t)
  have h2 := h1.w2 (upd M.2.2.1 j r)
  have h3 := h2.w0 (M.1.1, (M.1.2.1, (M.1.2.2.1, 0)))
  refine ⟨_, ?_, h3, Fr.tr (Fr.tr (Fr.set ⟨by omega, by omega⟩) (Fr.set ⟨by omega, by omega⟩)) (Fr.set ⟨by omega, by omega⟩)⟩
  rw [call_at mt_6 [some (.ref a), some (.int (nI j)), some (.int t), some (.int r)] rfl rfl rfl, nd_6_0 (St_run d mt_6), if_neg (nI_pos (by omega)), hM.g0, lnI_of hM.2.1, if_neg (nI_ge hj (by omega)), hM.g0, stI_of hM.2.1 rfl hj (by decide), h1.g1, stI_of h1.2.2.1 rfl hj (by decide), isZ0, h2.p7, nd_6_32 (St_run d mt_6)]
/-- Machine.isGood -/
theorem m_isGood {d a st : Nat} {h : AH} {M : MD} (hM : isM h a M) (hs : M.1.1 = nI st) (h6 : st ≤ 6) (j : Nat) (hj : j < st) : call (d + 2) 7 [.ref a, .int (nI j)] h = some (some (.int (if M.2.2.2.1 j = 0 then 0 else 1)), h) := by
  rw [call_at mt_7 [some (.ref a), some (.int (nI j))] rfl rfl rfl, nd_7_0 (St_run (d + 1) mt_7), hM.o, m_hasState hM, hs, v_hasState_1 h6 hj, bind_some', rI_some, if_neg (by decide), hM.g2, ldZ_of hM.2.2.2.1 rfl (show j < 6 by omega) (by decide)]
  simp only [nd_7_21 (St_run (d + 1) mt_7), nd_7_22 (St_run (d + 1) mt_7), isZ0, isZ1, ifR]
/-- Machine.setGood -/
theorem m_setGood {d a st : Nat} {h : AH} {M : MD} (hM : isM h a M) (hs : M.1.1 = nI st) (h6 : st ≤ 6) (j : Nat) (hj : j < st) (x : Int32) : ∃ h', call (d + 2) 8 [.ref a, .int (nI j), .int x] h = some (none, h') ∧ isM h' a ((M.1.1, (M.1.2.1, (M.1.2.2.1, 0))), (M.2.1, (M.2.2.1, (upd M.2.2.2.1 j (x &&& 1), M.2.2.2.2)))) ∧ Fr h h' a 5 := by
  have h1 := hM.w3 (upd M.2.2.2.1 j (x &&& 1))
  have h2 := h1.w0 (M.1.1, (M.1.2.1, (M.1.2.2.1, 0)))
  refine ⟨_, ?_, h2, Fr.tr (Fr.set ⟨by omega, by omega⟩) (Fr.set ⟨by omega, by omega⟩)⟩
  rw [call_at mt_8 [some (.ref a), some (.int (nI j)), some (.int x)] rfl rfl rfl, nd_8_0 (St_run (d + 1) mt_8), hM.o, m_hasState hM, hs, v_hasState_1 h6 hj, bind_some', rI_some, if_neg (by decide), hM.g2, stZ_of hM.2.2.2.1 rfl (show j < 6 by omega) (by decide), isZ0, h1.p7, nd_8_20 (St_run (d + 1) mt_8), hs]
/-- how many of the first n hold p -/
def ctN (p : Nat → Bool) : Nat → Nat
  | 0 => 0
  | n + 1 => ctN p n + if p n then 1 else 0
theorem ctN_le (p : Nat → Bool) : ∀ n, ctN p n ≤ n
  | 0 => Nat.le_refl _
  | n + 1 => by
    have := ctN_le p n
    unfold ctN
    split <;> omega
theorem ctN_cong {p q : Nat → Bool} : ∀ {n : Nat}, (∀ k, k < n → p k = q k) → ctN p n = ctN q n
  | 0, _ => rfl
  | n + 1, h => by
    unfold ctN
    rw [ctN_cong (fun k hk => h k (by omega)), h n (by omega)]
theorem ctN_t {p : Nat → Bool} {n : Nat} (h : p n = true) : ctN p (n + 1) = ctN p n + 1 := by
  show ctN p n + (if p n then 1 else 0) = _
  rw [h]
  rfl
theorem ctN_f {p : Nat → Bool} {n : Nat} (h : p n = false) : ctN p (n + 1) = ctN p n := by
  show ctN p n + (if p n then 1 else 0) = _
  rw [h]
  rfl
/-- Machine.goodStates -/
theorem l_goodStates {d a st : Nat} {h : AH} {M : MD} (hM : isM h a M) (hs : M.1.1 = nI st) (h6 : st ≤ 6) : ∀ (k i : Nat), i + k = st → run d mt_9 4 [some (.ref a), some (.int (nI (ctN (fun j => M.2.2.2.1 j != 0) i))), some (.int (nI i))] [] h = some (some (.int (nI (ctN (fun j => M.2.2.2.1 j != 0) st))), h) := by
  intro k
  induction k with
  | zero =>
    intro i hi
    have : i = st := by omega
    subst this
    rw [nd_9_4 (St_run d mt_9), hM.g3, hs, if_pos (nI_le (Nat.le_refl _) (by omega))]
  | succ k ih =>
    intro i hi
    have e := ih (i + 1) (by omega)
    rw [nd_9_4 (St_run d mt_9), hM.g3, hs, if_neg (nI_ge (by omega) (by omega)), hM.g2, ldZ_of hM.2.2.2.1 rfl (show i < 6 by omega) (by decide), nd_9_24 (St_run d mt_9), nd_9_24 (St_run d mt_9), nI_1 i, nI_1]
    by_cases h0 : M.2.2.2.1 i = 0
    · rw [if_pos h0]
      rw [ctN_f (n := i) (by simp [h0])] at e
      exact e
    · rw [if_neg h0]
      rw [ctN_t (n := i) (by simp [h0])] at e
      exact e
theorem m_goodStates {d a st : Nat} {h : AH} {M : MD} (hM : isM h a M) (hs : M.1.1 = nI st) (h6 : st ≤ 6) : call (d + 1) 9 [.ref a] h = some (some (.int (nI (ctN (fun j => M.2.2.2.1 j != 0) st))), h) := by
  rw [call_at mt_9 [some (.ref a), none, none] rfl rfl rfl, nd_9_0 (St_run d mt_9)]
  exact l_goodStates hM hs h6 st 0 (by omega)
/-- Machine.setFate, fateOf -/
theorem ix6 (s p : Nat) : nI s * 6 + nI p = nI (6 * s + p) := by
  show nI s * nI 6 + nI p = _
  rw [pk_mul, nI_add, Nat.mul_comm]
theorem m_setFate {d a st : Nat} {h : AH} {M : MD} (hM : isM h a M) (hs : M.1.1 = nI st) (h6 : st ≤ 6) (j p : Nat) (hj : j < st) (hp : p < 6) (x : Int32) : ∃ h', call (d + 2) 11 [.ref a, .int (nI j), .int (nI p), .int x] h = some (none, h') ∧ isM h' a (M.1, (M.2.1, (M.2.2.1, (M.2.2.2.1, upd M.2.2.2.2 (6 * j + p) x)))) ∧ Fr h h' a 5 := by
  refine ⟨_, ?_, hM.w4 (upd M.2.2.2.2 (6 * j + p) x), Fr.set ⟨by omega, by omega⟩⟩
  rw [call_at mt_11 [some (.ref a), some (.int (nI j)), some (.int (nI p)), some (.int x)] rfl rfl rfl, nd_11_0 (St_run (d + 1) mt_11), hM.o, m_hasState hM, hs, v_hasState_1 h6 hj, bind_some', rI_some, if_neg (by decide), if_neg (nI_pos (by omega)), if_neg (show ¬ (6 : Int32) ≤ nI p from nI_ge (a := p) (b := 6) hp (by omega)), hM.g6, stI_of hM.2.2.2.2 (ix6 j p) (show 6 * j + p < 36 by omega) (by decide), nd_11_30 (St_run (d + 1) mt_11)]
theorem m_fateOf {d a st : Nat} {h : AH} {M : MD} (hM : isM h a M) (hs : M.1.1 = nI st) (h6 : st ≤ 6) (j p : Nat) (hj : j < st) (hp : p < 6) : call (d + 2) 12 [.ref a, .int (nI j), .int (nI p)] h = some (some (.int (M.2.2.2.2 (6 * j + p))), h) := by
  rw [call_at mt_12 [some (.ref a), some (.int (nI j)), some (.int (nI p))] rfl rfl rfl, nd_12_0 (St_run (d + 1) mt_12), hM.o, m_hasState hM, hs, v_hasState_1 h6 hj, bind_some', rI_some, if_neg (by decide), if_neg (nI_pos (by omega)), if_neg (show ¬ (6 : Int32) ≤ nI p from nI_ge (a := p) (b := 6) hp (by omega)), hM.g6, ldI_of hM.2.2.2.2 (ix6 j p) (show 6 * j + p < 36 by omega) (by decide), nd_12_33 (St_run (d + 1) mt_12)]
/-- Machine.orbitsOf -/
theorem l_orbitsOf {d a : Nat} {h : AH} {M : MD} (hM : isM h a M) (w : Int32) : ∀ (k i : Nat), i + k = 36 → run d mt_13 4 [some (.ref a), some (.int w), some (.int (nI (ctN (fun j => M.2.2.2.2 j == w) i))), some (.int (nI i))] [] h = some (some (.int (nI (ctN (fun j => M.2.2.2.2 j == w) 36))), h) := by
  intro k
  induction k with
  | zero =>
    intro i hi
    have : i = 36 := by omega
    subst this
    rw [nd_13_4 (St_run d mt_13), hM.g6, lnI_of hM.2.2.2.2, if_pos (nI_le (Nat.le_refl _) (by omega))]
  | succ k ih =>
    intro i hi
    have e := ih (i + 1) (by omega)
    rw [nd_13_4 (St_run d mt_13), hM.g6, lnI_of hM.2.2.2.2, if_neg (nI_ge (by omega) (by omega)), hM.g6, ldI_of hM.2.2.2.2 rfl (show i < 36 by omega) (by decide), nd_13_26 (St_run d mt_13), nd_13_26 (St_run d mt_13), nI_1 i, nI_1]
    by_cases h0 : M.2.2.2.2 i = w
    · rw [if_pos h0]
      rw [ctN_t (n := i) (by simp [h0])] at e
      exact e
    · rw [if_neg h0]
      rw [ctN_f (n := i) (by simp [h0])] at e
      exact e
theorem m_orbitsOf {d a : Nat} {h : AH} {M : MD} (hM : isM h a M) (w : Int32) : call (d + 1) 13 [.ref a, .int w] h = some (some (.int (nI (ctN (fun j => M.2.2.2.2 j == w) 36))), h) := by
  rw [call_at mt_13 [some (.ref a), some (.int w), none, none] rfl rfl rfl, nd_13_0 (St_run d mt_13)]
  exact l_orbitsOf hM w 36 0 (by omega)
/-- Machine.isMet -/
theorem l_isMet {d a st : Nat} {h : AH} {M : MD} (hM : isM h a M) (hs : M.1.1 = nI st) (h6 : st ≤ 6) (j : Nat) (hj : j < st) : ∀ (k i : Nat), i + k = 6 → ∃ b : Bool, run (d + 2) mt_15 2 [some (.ref a), some (.int (nI j)), some (.int (nI i))] [] h = some (some (.int (if b then 1 else 0)), h) ∧ (b = true ↔ ∃ p, i ≤ p ∧ p < 6 ∧ M.2.2.2.2 (6 * j + p) ≠ 0) := by
  intro k
  induction k with
  | zero =>
    intro i hi
    refine ⟨false, ?_, by simp; omega⟩
    rw [nd_15_2 (St_run (d + 2) mt_15), if_pos (show (6 : Int32) ≤ nI i from nI_le (a := 6) (b := i) (by omega) (by omega)), isZ0]
    rfl
  | succ k ih =>
    intro i hi
    obtain ⟨b, e1, e2⟩ := ih (i + 1) (by omega)
    rw [nd_15_2 (St_run (d + 2) mt_15), if_neg (show ¬ (6 : Int32) ≤ nI i from nI_ge (a := i) (b := 6) (by omega) (by omega)), hM.o, m_fateOf hM hs h6 j i hj (by omega), bind_some', rI_some, nI_1, isZ1]
    by_cases h0 : M.2.2.2.2 (6 * j + i) = 0
    · refine ⟨b, by rw [if_pos h0]; exact e1, e2.trans ⟨fun ⟨p, p1, p2, p3⟩ => ⟨p, by omega, p2, p3⟩, fun ⟨p, p1, p2, p3⟩ => ⟨p, ?_, p2, p3⟩⟩⟩
      by_cases hp : p = i
      · subst hp; exact absurd h0 p3
      · omega
    · exact ⟨true, by rw [if_neg h0]; rfl, ⟨fun _ => ⟨i, Nat.le_refl _, by omega, h0⟩, fun _ => rfl⟩⟩
theorem m_isMet {d a st : Nat} {h : AH} {M : MD} (hM : isM h a M) (hs : M.1.1 = nI st) (h6 : st ≤ 6) (j : Nat) (hj : j < st) : ∃ b : Bool, call (d + 3) 15 [.ref a, .int (nI j)] h = some (some (.int (if b then 1 else 0)), h) ∧ (b = true ↔ ∃ p, p < 6 ∧ M.2.2.2.2 (6 * j + p) ≠ 0) := by
  obtain ⟨b, e1, e2⟩ := l_isMet (d := d) hM hs h6 j hj 6 0 rfl
  refine ⟨b, ?_, e2.trans ⟨fun ⟨p, _, p2, p3⟩ => ⟨p, p2, p3⟩, fun ⟨p, p2, p3⟩ => ⟨p, Nat.zero_le _, p2, p3⟩⟩⟩
  rw [call_at mt_15 [some (.ref a), some (.int (nI j)), none] rfl rfl rfl, nd_15_0 (St_run (d + 2) mt_15)]
  exact e1
/-- Machine.statesMet -/
theorem l_statesMet {d a st : Nat} {h : AH} {M : MD} (hM : isM h a M) (hs : M.1.1 = nI st) (h6 : st ≤ 6) (q : Nat → Bool) (hq : ∀ j, j < st → (q j = true ↔ ∃ p, p < 6 ∧ M.2.2.2.2 (6 * j + p) ≠ 0)) : ∀ (k i : Nat), i + k = st → run (d + 3) mt_14 4 [some (.ref a), some (.int (nI (ctN q i))), some (.int (nI i))] [] h = some (some (.int (nI (ctN q st))), h) := by
  intro k
  induction k with
  | zero =>
    intro i hi
    have : i = st := by omega
    subst this
    rw [nd_14_4 (St_run (d + 3) mt_14), hM.g3, hs, if_pos (nI_le (Nat.le_refl _) (by omega))]
  | succ k ih =>
    intro i hi
    have e := ih (i + 1) (by omega)
    obtain ⟨b, b1, b2⟩ := m_isMet (d := d) hM hs h6 i (by omega)
    have hb : b = q i := by
      have := b2.trans (hq i (by omega)).symm
      cases b <;> cases hqi : q i <;> simp_all
    subst hb
    rw [nd_14_4 (St_run (d + 3) mt_14), hM.g3, hs, if_neg (nI_ge (by omega) (by omega)), hM.o, b1, bind_some', rI_some, nd_14_23 (St_run (d + 3) mt_14), nd_14_23 (St_run (d + 3) mt_14), nI_1 i, nI_1]
    cases h0 : q i with
    | true =>
      rw [if_neg (by simp)]
      rw [ctN_t h0] at e
      exact e
    | false =>
      rw [if_pos (by simp)]
      rw [ctN_f h0] at e
      exact e
theorem m_statesMet {d a st : Nat} {h : AH} {M : MD} (hM : isM h a M) (hs : M.1.1 = nI st) (h6 : st ≤ 6) (q : Nat → Bool) (hq : ∀ j, j < st → (q j = true ↔ ∃ p, p < 6 ∧ M.2.2.2.2 (6 * j + p) ≠ 0)) : call (d + 4) 14 [.ref a] h = some (some (.int (nI (ctN q st))), h) := by
  rw [call_at mt_14 [some (.ref a), none, none] rfl rfl rfl, nd_14_0 (St_run (d + 3) mt_14)]
  exact l_statesMet hM hs h6 q hq st 0 (by omega)
