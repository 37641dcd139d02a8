/-! ===== Row (class 2), Sheet (class 4) ===== -/
def v_hasPlace (len i : Int32) : Int32 := if i < 0 then 0 else if len ≤ i then 0 else 1
theorem m_hasPlace {d a N : Nat} {h : AH} {D : D_Row} (q : isRow h a D N) (i : Int32) : call (d + 1) 22 [.ref a, .int i] h = some (some (.int (v_hasPlace D.1 i)), h) := by
  rw [call_at mt_22 [some (.ref a), some (.int i)] rfl rfl rfl]
  simp only [nd_22_0 (St_run d mt_22), nd_22_16 (St_run d mt_22), nd_22_17 (St_run d mt_22), q.g2, isZ0, isZ1, ifR]
  rfl
def v_hasPrefix (len i : Int32) : Int32 := if i < 0 then 0 else if len < i then 0 else 1
theorem m_hasPrefix {d a N : Nat} {h : AH} {D : D_Row} (q : isRow h a D N) (i : Int32) : call (d + 1) 23 [.ref a, .int i] h = some (some (.int (v_hasPrefix D.1 i)), h) := by
  rw [call_at mt_23 [some (.ref a), some (.int i)] rfl rfl rfl]
  simp only [nd_23_0 (St_run d mt_23), nd_23_16 (St_run d mt_23), nd_23_17 (St_run d mt_23), q.g2, isZ0, isZ1, ifR]
  rfl
/-- Row.append refuses a letter -/
theorem m_append_bad {d a N : Nat} {h : AH} {D : D_Row} (l x : Int32) (hl : l < 0 ∨ ¬ l < 3) : call (d + 1) 24 [.ref a, .int l, .int x] h = some (some (.int (-1)), h) := by
  rw [call_at mt_24 [some (.ref a), some (.int l), some (.int x)] rfl rfl rfl, nd_24_0 (St_run d mt_24), nd_24_9 (St_run d mt_24)]
  by_cases h1 : l < 0
  · rw [if_pos h1]
  · rw [if_neg h1, if_neg (hl.resolve_left h1)]
theorem m_append_full {d a N : Nat} {h : AH} {D : D_Row} (q : isRow h a D N) (l x : Int32) (h0 : ¬ l < 0) (h3 : l < 3) (n : Nat) (hn : D.1 = nI n) (hN : N ≤ n) (hb : n < 2 ^ 31) : call (d + 1) 24 [.ref a, .int l, .int x] h = some (some (.int (-3)), h) := by
  rw [call_at mt_24 [some (.ref a), some (.int l), some (.int x)] rfl rfl rfl, nd_24_0 (St_run d mt_24), if_neg h0, if_pos h3, q.g2, q.g0, lnI_of q.a0, hn, if_neg (nI_nlt hN hb)]
theorem m_append {d a N : Nat} {h : AH} {D : D_Row} (q : isRow h a D N) (l x : Int32) (h0 : ¬ l < 0) (h3 : l < 3) (n : Nat) (hn : D.1 = nI n) (hN : n < N) (hb : N < 2 ^ 31) : ∃ h', call (d + 1) 24 [.ref a, .int l, .int x] h = some (some (.int (nI (n + 1))), h') ∧ isRow h' a (nI (n + 1), (upd D.2.1 n l, upd D.2.2 n x)) N ∧ Fr h h' a 3 := by
  have q1 := q.w0 (upd D.2.1 n l)
  have q2 := q1.w1 (upd D.2.2 n x)
  have q3 := q2.u2 (nI (n + 1))
  refine ⟨_, ?_, q3, Fr.tr (Fr.tr (Fr.set ⟨by omega, by omega⟩) (Fr.set ⟨by omega, by omega⟩)) (Fr.set ⟨by omega, by omega⟩)⟩
  rw [call_at mt_24 [some (.ref a), some (.int l), some (.int x)] rfl rfl rfl, nd_24_0 (St_run d mt_24), if_neg h0, if_pos h3, q.g2, q.g0, lnI_of q.a0, hn, if_pos (nI_lt hN hb), q.g0, q.g2, stI_of q.a0 hn hN hb, q1.g1, q1.g2, stI_of q1.a1 hn hN hb, q2.g2, q2.p2]
  dsimp only
  rw [hn, nI_1, q3.g2]
/-- the first place up to i with the name of i -/
theorem l_first {d a N : Nat} {h : AH} {D : D_Row} (q : isRow h a D N) (hN : N < 2 ^ 31) (i : Nat) (hi : i < N) : ∀ (k t : Nat), t + k = i → ∃ r, run d mt_25 2 [some (.ref a), some (.int (nI i)), some (.int (nI t))] [] h = some (some (.int (nI r)), h) ∧ t ≤ r ∧ r ≤ i ∧ D.2.2 r = D.2.2 i ∧ ∀ j, t ≤ j → j < r → D.2.2 j ≠ D.2.2 i := by
  intro k
  induction k with
  | zero =>
    intro t ht
    have : t = i := by omega
    subst this
    refine ⟨t, ?_, Nat.le_refl _, Nat.le_refl _, rfl, fun j h1 h2 => absurd h2 (by omega)⟩
    rw [nd_25_2 (St_run d mt_25), if_pos (nI_le (Nat.le_refl _) (by omega))]
  | succ k ih =>
    intro t ht
    rw [nd_25_2 (St_run d mt_25), if_neg (nI_ge (by omega) (by omega)), q.g1, ldI_of q.a1 rfl (show t < N by omega) hN, q.g1, ldI_of q.a1 rfl hi hN, nI_1]
    by_cases h0 : D.2.2 t = D.2.2 i
    · exact ⟨t, by rw [if_pos h0], Nat.le_refl _, by omega, h0, fun j h1 h2 => absurd h2 (by omega)⟩
    · obtain ⟨r, e1, e2, e3, e4, e5⟩ := ih (t + 1) (by omega)
      refine ⟨r, by rw [if_neg h0]; exact e1, by omega, e3, e4, fun j h1 h2 => ?_⟩
      by_cases hj : j = t
      · subst hj; exact h0
      · exact e5 j (by omega) h2
theorem m_first {d a N : Nat} {h : AH} {D : D_Row} (q : isRow h a D N) (hN : N < 2 ^ 31) (i : Nat) (hi : i < N) : ∃ r, call (d + 1) 25 [.ref a, .int (nI i)] h = some (some (.int (nI r)), h) ∧ r ≤ i ∧ D.2.2 r = D.2.2 i ∧ ∀ j, j < r → D.2.2 j ≠ D.2.2 i := by
  obtain ⟨r, e1, e2, e3, e4, e5⟩ := l_first (d := d) q hN i hi i 0 (by omega)
  refine ⟨r, ?_, e3, e4, fun j hj => e5 j (Nat.zero_le _) hj⟩
  rw [call_at mt_25 [some (.ref a), some (.int (nI i)), none] rfl rfl rfl, nd_25_0 (St_run d mt_25)]
  exact e1
/-! Sheet -/
theorem l_shBegin {d a : Nat} : ∀ (k i : Nat) (h : AH) (D : D_Sheet), isSheet h a D → i + k = 60 → ∃ h' f, run d mt_35 12 [some (.ref a), none, none, some (.int (nI i))] [] h = some (none, h') ∧ isSheet h' a (D.1, (D.2.1, f)) ∧ (∀ j, f j = if i ≤ j ∧ j < 60 then 0 else D.2.2 j) ∧ Fr h h' a 2 := by
  intro k
  induction k with
  | zero =>
    intro i h D q hi
    refine ⟨h, D.2.2, ?_, q, fun j => (if_neg (by omega)).symm, Fr.rf _ _ _⟩
    rw [nd_35_12 (St_run d mt_35), q.g0, lnI_of q.a0, if_pos (nI_le (by omega) (by omega))]
  | succ k ih =>
    intro i h D q hi
    obtain ⟨h', f, e1, e2, e3, e4⟩ := ih (i + 1) _ _ (q.w0 (upd D.2.2 i 0)) (by omega)
    refine ⟨h', f, ?_, e2, fun j => ?_, Fr.tr (Fr.set ⟨by omega, by omega⟩) e4⟩
    · rw [nd_35_12 (St_run d mt_35), q.g0, lnI_of q.a0, if_neg (nI_ge (by omega) (by omega)), q.g0, stI_of q.a0 rfl (show i < 60 by omega) (by decide), nI_1]
      exact e1
    · rw [e3]
      dsimp only [upd]
      by_cases h1 : i + 1 ≤ j ∧ j < 60
      · rw [if_pos h1, if_pos (by omega)]
      · rw [if_neg h1]
        by_cases h2 : j = i
        · rw [if_pos h2, if_pos (by omega)]
        · rw [if_neg h2, if_neg (by omega)]
theorem m_shBegin {d a : Nat} {h : AH} {D : D_Sheet} (q : isSheet h a D) (l n : Int32) : ∃ h' f, call (d + 1) 35 [.ref a, .int l, .int n] h = some (none, h') ∧ isSheet h' a (l, (n, f)) ∧ (∀ j, j < 60 → f j = 0) ∧ Fr h h' a 2 := by
  have q1 := q.u1 l
  have q2 := q1.u2 n
  obtain ⟨h', f, e1, e2, e3, e4⟩ := l_shBegin (d := d) 60 0 _ _ q2 rfl
  refine ⟨h', f, ?_, e2, fun j hj => by rw [e3, if_pos ⟨Nat.zero_le _, hj⟩], Fr.tr (Fr.tr (Fr.set ⟨by omega, by omega⟩) (Fr.set ⟨by omega, by omega⟩)) e4⟩
  rw [call_at mt_35 [some (.ref a), some (.int l), some (.int n), none] rfl rfl rfl, nd_35_0 (St_run d mt_35), q.p1, q1.p2]
  exact e1
theorem m_isNothing {d a : Nat} {h : AH} {D : D_Sheet} (q : isSheet h a D) : call (d + 1) 36 [.ref a] h = some (some (.int (if D.1 = -4 then 1 else 0)), h) := by
  rw [call_at mt_36 [some (.ref a)] rfl rfl rfl]
  simp only [nd_36_0 (St_run d mt_36), nd_36_14 (St_run d mt_36), q.g1, isZ0, isZ1, ifR]
theorem m_hasCell {d a : Nat} {h : AH} {D : D_Sheet} (q : isSheet h a D) (i : Int32) : call (d + 1) 37 [.ref a, .int i] h = some (some (.int (v_hasPlace D.2.1 i)), h) := by
  rw [call_at mt_37 [some (.ref a), some (.int i)] rfl rfl rfl]
  simp only [nd_37_0 (St_run d mt_37), nd_37_16 (St_run d mt_37), nd_37_17 (St_run d mt_37), q.g2, isZ0, isZ1, ifR]
  rfl
def v_cut (lane v : Int32) : Int32 := if lane = 0 then v.toInt8.toInt32 else if lane = 1 then v.toInt16.toInt32 else v
theorem m_setCell {d a : Nat} {h : AH} {D : D_Sheet} (q : isSheet h a D) (n j : Nat) (hn : D.2.1 = nI n) (hj : j < n) (h60 : n ≤ 60) (v : Int32) : ∃ h', call (d + 2) 38 [.ref a, .int (nI j), .int v] h = some (none, h') ∧ isSheet h' a (D.1, (D.2.1, upd D.2.2 j (v_cut D.1 v))) ∧ Fr h h' a 2 := by
  refine ⟨_, ?_, q.w0 (upd D.2.2 j (v_cut D.1 v)), Fr.set ⟨by omega, by omega⟩⟩
  have hp : v_hasPlace (nI n) (nI j) = 1 := by
    unfold v_hasPlace
    rw [if_neg (nI_pos (by omega)), if_neg (nI_ge hj (by omega))]
  rw [call_at mt_38 [some (.ref a), some (.int (nI j)), some (.int v)] rfl rfl rfl, nd_38_0 (St_run (d + 1) mt_38), q.o, m_hasCell q, hn, hp, bind_some', rI_some, if_neg (by decide), q.g0, q.g1, q.g1]
  simp only [nd_38_39 (St_run (d + 1) mt_38), nd_38_40 (St_run (d + 1) mt_38), stI_of q.a0 rfl (show j < 60 by omega) (by decide)]
  unfold v_cut
  by_cases h0 : D.1 = 0
  · rw [if_pos h0, if_pos h0]
  · rw [if_neg h0, if_neg h0]
    by_cases h1 : D.1 = 1
    · rw [if_pos h1, if_pos h1]
    · rw [if_neg h1, if_neg h1]
