/-! ===== the reference: machines, told and changed ===== -/
def bI (b : Bool) : Int32 := if b then 1 else 0
theorem isZb {b : Bool} {f : Option RV} : isZ (bI b) f = f := by cases b; exact isZ0; exact isZ1
section MX
variable {d a : Nat} {h : AH} {I : Nat → Int32} {A : Nat → Nat → Int32}
theorem l_isWatched (q : isMod h a I A) (m : Int32) (W : Nat) (hW : I 31 = nI W) (h4 : W ≤ 4) : ∀ (k w : Nat) (b0 : Bool), w + k = W → ∃ b : Bool, run d mt_120 4 [some (.ref a), some (.int m), some (.int (bI b0)), some (.int (nI w))] [] h = some (some (.int (bI b)), h) ∧ (b = true ↔ (b0 = true ∨ ∃ v, w ≤ v ∧ v < W ∧ A 32 v = m)) := by
  intro k
  induction k with
  | zero =>
    intro w b0 hw
    refine ⟨b0, ?_, ⟨fun h => Or.inl h, fun h => h.elim id (fun ⟨v, h1, h2, _⟩ => absurd h2 (by omega))⟩⟩
    rw [nd_120_4 (St_run d mt_120), q.g31, hW, if_pos (nI_le (by omega) (by omega)), isZb]
  | succ k ih =>
    intro w b0 hw
    have hstep : run d mt_120 4 [some (.ref a), some (.int m), some (.int (bI b0)), some (.int (nI w))] [] h = run d mt_120 4 [some (.ref a), some (.int m), some (.int (bI (b0 || decide (A 32 w = m)))), some (.int (nI (w + 1)))] [] h := by
      rw [nd_120_4 (St_run d mt_120), q.g31, hW, if_neg (nI_ge (by omega) (by omega)), q.g32, ldI_of q.a32 rfl (show w < 4 by omega) (by decide)]
      simp only [nd_120_26 (St_run d mt_120), nd_120_31 (St_run d mt_120), nI_1]
      cases b0 with
      | true => rfl
      | false =>
        by_cases h0 : A 32 w = m
        · rw [if_pos (show bI false = 0 from rfl), if_pos h0]
          simp [h0, bI]
        · rw [if_pos (show bI false = 0 from rfl), if_neg h0]
          simp [h0, bI]
    obtain ⟨b, e1, e2⟩ := ih (w + 1) (b0 || decide (A 32 w = m)) (by omega)
    refine ⟨b, hstep.trans e1, e2.trans ?_⟩
    simp only [Bool.or_eq_true, decide_eq_true_eq]
    constructor
    · rintro ((h1 | h1) | ⟨v, h1, h2, h3⟩)
      · exact Or.inl h1
      · exact Or.inr ⟨w, Nat.le_refl _, by omega, h1⟩
      · exact Or.inr ⟨v, by omega, h2, h3⟩
    · rintro (h1 | ⟨v, h1, h2, h3⟩)
      · exact Or.inl (Or.inl h1)
      · by_cases hv : v = w
        · subst hv; exact Or.inl (Or.inr h3)
        · exact Or.inr ⟨v, by omega, h2, h3⟩
theorem r_isWatched (q : isMod h a I A) (m : Int32) (W : Nat) (hW : I 31 = nI W) (h4 : W ≤ 4) : ∃ b : Bool, call (d + 1) 120 [.ref a, .int m] h = some (some (.int (bI b)), h) ∧ (b = true ↔ ∃ v, v < W ∧ A 32 v = m) := by
  obtain ⟨b, e1, e2⟩ := l_isWatched (d := d) q m W hW h4 W 0 false (by omega)
  refine ⟨b, ?_, e2.trans ⟨fun h => h.elim (fun z => by cases z) (fun ⟨v, _, h2, h3⟩ => ⟨v, h2, h3⟩), fun ⟨v, h2, h3⟩ => Or.inr ⟨v, Nat.zero_le _, h2, h3⟩⟩⟩
  rw [call_at mt_120 [some (.ref a), some (.int m), none, none] rfl rfl rfl, nd_120_0 (St_run d mt_120)]
  exact e1
/-- machine(n, k) -/
theorem r_machine_bad (n k : Int32) (hb : (n < 1 ∨ 6 < n) ∨ v_in k 2 = 0) : call (d + 2) 119 [.ref a, .int n, .int k] h = some (some (.int (-1)), h) := by
  rw [call_at mt_119 [some (.ref a), some (.int n), some (.int k)] rfl rfl rfl, nd_119_0 (St_run (d + 1) mt_119), m_in, bind_some', rI_some]
  have e1 : n.toInt64 < (1 : Int64) ↔ n < 1 := w_lt n 1
  have e2 : (6 : Int64) < n.toInt64 ↔ 6 < n := w_lt 6 n
  simp only [e1, e2, nd_119_24 (St_run (d + 1) mt_119)]
  by_cases h1 : n < 1
  · simp only [h1, if_true]
  · by_cases h2 : 6 < n
    · simp only [h1, h2, if_true, if_false]
    · have hk : v_in k 2 = 0 := by
        rcases hb with (hb | hb) | hb
        · exact absurd hb h1
        · exact absurd hb h2
        · exact hb
      rw [show (2 : Int64) = (2 : Int32).toInt64 from by decide, m_in0, bind_some', rI_some, hk]
      simp
theorem m1_of {n : Nat} (hn : I 3 = nI n) : I 3 + 1 = nI (n + 1) := by rw [hn, nI_1]
theorem r_machine_full (q : isMod h a I A) (n k : Int32) (h1 : ¬ n < 1) (h2 : ¬ 6 < n) (hk : v_in k 2 = 1) (hf : I 3 = 6) : call (d + 2) 119 [.ref a, .int n, .int k] h = some (some (.int (-3)), h) := by
  have e1 : n.toInt64 < (1 : Int64) ↔ n < 1 := w_lt n 1
  have e2 : (6 : Int64) < n.toInt64 ↔ 6 < n := w_lt 6 n
  rw [call_at mt_119 [some (.ref a), some (.int n), some (.int k)] rfl rfl rfl, nd_119_0 (St_run (d + 1) mt_119), m_in, bind_some', rI_some, if_neg (fun z => h1 (e1.mp z)), if_neg (fun z => h2 (e2.mp z)), if_neg (by decide), show (2 : Int64) = (2 : Int32).toInt64 from by decide, m_in0, bind_some', rI_some, hk, if_neg (by decide), q.g3, if_pos hf]
theorem r_machine (q : isMod h a I A) (n k : Int32) (h1 : ¬ n < 1) (h2 : ¬ 6 < n) (hk : v_in k 2 = 1) (N : Nat) (hN : I 3 = nI N) (hf : N < 6) : ∃ h' A', call (d + 2) 119 [.ref a, .int n, .int k] h = some (some (.int (nI N)), h') ∧ isMod h' a (upd I 3 (nI (N + 1))) A' ∧ Fr h h' a 33 ∧ bgA A A' N n k := by
  have e1 : n.toInt64 < (1 : Int64) ↔ n < 1 := w_lt n 1
  have e2 : (6 : Int64) < n.toInt64 ↔ 6 < n := w_lt 6 n
  have h6 : ¬ I 3 = 6 := by
    rw [hN]
    intro e
    have : nI N = nI 6 := e
    rw [nI_eq (by omega) (by omega)] at this
    omega
  obtain ⟨h', A', f1, f2, f3, f4⟩ := r_begins (d := d) q N hf n k
  have q3 := f2.u (upd I 3 (nI (N + 1)))
  refine ⟨_, A', ?_, q3, Fr.tr f3 (Fr.set ⟨by omega, by omega⟩), f4⟩
  rw [call_at mt_119 [some (.ref a), some (.int n), some (.int k)] rfl rfl rfl, nd_119_0 (St_run (d + 1) mt_119), m_in, bind_some', rI_some, if_neg (fun z => h1 (e1.mp z)), if_neg (fun z => h2 (e2.mp z)), if_neg (by decide), show (2 : Int64) = (2 : Int32).toInt64 from by decide, m_in0, bind_some', rI_some, hk, if_neg (by decide), q.g3, if_neg h6, q.g3, q.o, hN, f1, bind_some', rV_some, f2.g3, f2.p3, m1_of hN, q3.g3]
  show some (some (Value.int (nI (N + 1) - 1)), _) = _
  rw [nI_pred]
/-- drop() -/
theorem r_drop_none (q : isMod h a I A) (h0 : I 3 = 0) : call (d + 2) 125 [.ref a] h = some (some (.int (-4)), h) := by
  rw [call_at mt_125 [some (.ref a)] rfl rfl rfl, nd_125_0 (St_run (d + 1) mt_125), q.g3, if_pos h0]
theorem r_drop (q : isMod h a I A) (N : Nat) (hN : I 3 = nI (N + 1)) (h6 : N < 6) (W : Nat) (hW : I 31 = nI W) (h4 : W ≤ 4) : (∃ v, v < W ∧ A 32 v = nI N) ∧ call (d + 2) 125 [.ref a] h = some (some (.int (-2)), h) ∨ (¬ ∃ v, v < W ∧ A 32 v = nI N) ∧ ∃ h', call (d + 2) 125 [.ref a] h = some (some (.int (nI N)), h') ∧ isMod h' a (upd I 3 (nI N)) A ∧ Fr h h' a 33 := by
  obtain ⟨b, e1, e2⟩ := r_isWatched (d := d) q (nI N) W hW h4
  have h0 : ¬ nI (N + 1) = 0 := nI_ne0 (by omega) (by omega)
  cases b with
  | true =>
    refine Or.inl ⟨e2.mp rfl, ?_⟩
    rw [call_at mt_125 [some (.ref a)] rfl rfl rfl, nd_125_0 (St_run (d + 1) mt_125), q.g3, hN, if_neg h0, q.g3, q.o, hN, nI_pred, e1, bind_some', rI_some, if_neg (by decide)]
  | false =>
    have q3 := q.u (upd I 3 (nI N))
    refine Or.inr ⟨fun hv => by simpa using e2.mpr hv, _, ?_, q3, Fr.set ⟨by omega, by omega⟩⟩
    rw [call_at mt_125 [some (.ref a)] rfl rfl rfl, nd_125_0 (St_run (d + 1) mt_125), q.g3, hN, if_neg h0, q.g3, q.o, hN, nI_pred, e1, bind_some', rI_some, if_pos (by decide), q.g3, q.p3, hN, nI_pred, q3.g3]
    rfl
end MX
