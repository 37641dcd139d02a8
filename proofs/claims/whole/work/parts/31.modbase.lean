/-! ===== the reference: small methods ===== -/
theorem w_lt (x y : Int32) : x.toInt64 < y.toInt64 ↔ x < y := by rw [Int64.lt_iff_toInt_lt, Int32.lt_iff_toInt_lt, Int32.toInt_toInt64, Int32.toInt_toInt64]
theorem lgc_lt (x y : Int64) : lg_cmp x y < 0 ↔ x < y := by
  have h := lg_cmp_ge x y
  rw [← Int32.not_le, h, Int64.not_le]
theorem lgc_gt (x y : Int64) : 0 < lg_cmp x y ↔ y < x := by
  unfold lg_cmp
  by_cases h1 : y < x
  · rw [if_pos h1]
    exact ⟨fun _ => h1, fun _ => by decide⟩
  · rw [if_neg h1]
    refine ⟨fun h => ?_, fun h => absurd h h1⟩
    by_cases h2 : x = y
    · rw [if_pos h2] at h; exact absurd h (by decide)
    · rw [if_neg h2] at h; exact absurd h (by decide)
theorem m_in {d : Nat} {h : AH} (x lo hi : Int64) : call (d + 1) 107 [.long x, .long lo, .long hi] h = some (some (.int (if x < lo then 0 else if hi < x then 0 else 1)), h) := by
  rw [call_at mt_107 [some (.long x), none, some (.long lo), none, some (.long hi), none] rfl rfl rfl]
  simp only [nd_107_0 (St_run d mt_107), nd_107_17 (St_run d mt_107), nd_107_18 (St_run d mt_107), isZ0, isZ1, lgc_lt, lgc_gt, ifR]
/-- between 0 and y -/
def v_in (x y : Int32) : Int32 := if x < 0 then 0 else if y < x then 0 else 1
theorem m_in0 {d : Nat} {h : AH} (x y : Int32) : call (d + 1) 107 [.long x.toInt64, .long 0, .long y.toInt64] h = some (some (.int (v_in x y)), h) := by
  rw [m_in]
  unfold v_in
  have e0 : x.toInt64 < (0 : Int64) ↔ x < 0 := w_lt x 0
  simp only [e0, w_lt]
theorem v_in_z (x y : Int32) : v_in x y = 0 ∨ v_in x y = 1 := by
  unfold v_in
  split
  · exact Or.inl rfl
  · split
    · exact Or.inl rfl
    · exact Or.inr rfl
theorem isZv {x y : Int32} {f : Option RV} : isZ (v_in x y) f = f := if_pos (v_in_z x y)
section MB
variable {d a : Nat} {h : AH} {I : Nat → Int32} {A : Nat → Nat → Int32}
theorem r_place_bad (l x : Int32) (hl : v_in l 2 = 0) : call (d + 2) 108 [.ref a, .int l, .int x] h = some (some (.int (-1)), h) := by
  rw [call_at mt_108 [some (.ref a), some (.int l), some (.int x)] rfl rfl rfl, nd_108_0 (St_run (d + 1) mt_108), show (2 : Int64) = (2 : Int32).toInt64 from by decide, m_in0, bind_some', rI_some, hl, if_pos rfl]
theorem r_place_full (q : isMod h a I A) (l x : Int32) (hl : v_in l 2 = 1) (hf : I 0 = 40) : call (d + 2) 108 [.ref a, .int l, .int x] h = some (some (.int (-3)), h) := by
  rw [call_at mt_108 [some (.ref a), some (.int l), some (.int x)] rfl rfl rfl, nd_108_0 (St_run (d + 1) mt_108), show (2 : Int64) = (2 : Int32).toInt64 from by decide, m_in0, bind_some', rI_some, hl, if_neg (by decide), q.g0, if_pos hf]
theorem r_place (q : isMod h a I A) (l x : Int32) (hl : v_in l 2 = 1) (n : Nat) (hn : I 0 = nI n) (h40 : n < 40) : ∃ h', call (d + 2) 108 [.ref a, .int l, .int x] h = some (some (.int (nI (n + 1))), h') ∧ isMod h' a (upd I 0 (nI (n + 1))) (updA (updA A 1 (upd (A 1) n l)) 2 (upd (A 2) n x)) ∧ Fr h h' a 33 := by
  have q1 := q.w 1 rfl (upd (A 1) n l)
  have q2 := q1.w 2 rfl (upd (A 2) n x)
  have q3 := q2.u (upd I 0 (nI (n + 1)))
  refine ⟨_, ?_, q3, Fr.tr (Fr.tr (Fr.set ⟨by omega, by omega⟩) (Fr.set ⟨by omega, by omega⟩)) (Fr.set ⟨by omega, by omega⟩)⟩
  have h4 : ¬ I 0 = 40 := by
    rw [hn]
    intro e
    have : nI n = nI 40 := e
    rw [nI_eq (by omega) (by omega)] at this
    omega
  rw [call_at mt_108 [some (.ref a), some (.int l), some (.int x)] rfl rfl rfl, nd_108_0 (St_run (d + 1) mt_108), show (2 : Int64) = (2 : Int32).toInt64 from by decide, m_in0, bind_some', rI_some, hl, if_neg (by decide), q.g0, if_neg h4, q.g1, q.g0, stI_of q.a1 hn h40 (by decide), q1.g2, q1.g0, stI_of q1.a2 hn h40 (by decide), show updA A 1 (upd (A 1) n l) 2 = A 2 from rfl, q2.g0, q2.p0, show I 0 + 1 = nI (n + 1) from by rw [hn, nI_1], q3.g0]
  rfl
theorem r_cut_bad (q : isMod h a I A) (n : Int32) (hl : v_in n (I 0) = 0) : call (d + 2) 109 [.ref a, .int n] h = some (some (.int (-1)), h) := by
  rw [call_at mt_109 [some (.ref a), some (.int n), none] rfl rfl rfl, nd_109_0 (St_run (d + 1) mt_109), q.g0, m_in0, bind_some', rI_some, hl, if_pos rfl]
theorem r_cut (q : isMod h a I A) (n : Int32) (hl : v_in n (I 0) = 1) : ∃ h', call (d + 2) 109 [.ref a, .int n] h = some (some (.int (I 0)), h') ∧ isMod h' a (upd I 0 n) A ∧ Fr h h' a 33 := by
  refine ⟨_, ?_, q.u (upd I 0 n), Fr.set ⟨by omega, by omega⟩⟩
  rw [call_at mt_109 [some (.ref a), some (.int n), none] rfl rfl rfl, nd_109_0 (St_run (d + 1) mt_109), q.g0, m_in0, bind_some', rI_some, hl, if_neg (by decide), q.g0, q.p0]
theorem r_isMachine (q : isMod h a I A) (m : Int32) : call (d + 2) 113 [.ref a, .int m] h = some (some (.int (v_in m (I 3 - 1))), h) := by
  rw [call_at mt_113 [some (.ref a), some (.int m)] rfl rfl rfl, nd_113_0 (St_run (d + 1) mt_113), q.g3, m_in0, bind_some', rI_some, isZv]
theorem r_stepAt (m s l w : Int32) : call (d + 1) 115 [.int m, .int s, .int l, .int w] h = some (some (.int (54 * m + 9 * s + 3 * l + w)), h) := by
  rw [call_at mt_115 [some (.int m), some (.int s), some (.int l), some (.int w)] rfl rfl rfl, nd_115_0 (St_run d mt_115)]
/-- firstOf: the first place with the name of place i -/
theorem l_firstOf (q : isMod h a I A) (i : Nat) (hi : i < 40) : ∀ (k t : Nat), t + k = i → ∃ r, run d mt_110 2 [some (.ref a), some (.int (nI i)), some (.int (nI t))] [] h = some (some (.int (nI r)), h) ∧ t ≤ r ∧ r ≤ i ∧ A 2 r = A 2 i ∧ ∀ j, t ≤ j → j < r → A 2 j ≠ A 2 i := by
  intro k
  induction k with
  | zero =>
    intro t ht
    have : t = i := by omega
    subst this
    refine ⟨t, ?_, Nat.le_refl _, Nat.le_refl _, rfl, fun j h1 h2 => absurd h2 (by omega)⟩
    rw [nd_110_2 (St_run d mt_110), q.g2, ldI_of q.a2 rfl hi (by decide), q.g2, ldI_of q.a2 rfl hi (by decide), if_pos rfl]
  | succ k ih =>
    intro t ht
    rw [nd_110_2 (St_run d mt_110), q.g2, ldI_of q.a2 rfl (show t < 40 by omega) (by decide), q.g2, ldI_of q.a2 rfl hi (by decide), nI_1]
    by_cases h0 : A 2 t = A 2 i
    · exact ⟨t, by rw [if_pos h0], Nat.le_refl _, by omega, h0, fun j h1 h2 => absurd h2 (by omega)⟩
    · obtain ⟨r, e1, e2, e3, e4, e5⟩ := ih (t + 1) (by omega)
      refine ⟨r, by rw [if_neg h0]; exact e1, by omega, e3, e4, fun j h1 h2 => ?_⟩
      by_cases hj : j = t
      · subst hj; exact h0
      · exact e5 j (by omega) h2
theorem r_firstOf (q : isMod h a I A) (i : Nat) (hi : i < 40) : ∃ r, call (d + 1) 110 [.ref a, .int (nI i)] h = some (some (.int (nI r)), h) ∧ r ≤ i ∧ A 2 r = A 2 i ∧ ∀ j, j < r → A 2 j ≠ A 2 i := by
  obtain ⟨r, e1, e2, e3, e4, e5⟩ := l_firstOf (d := d) q i hi i 0 (by omega)
  refine ⟨r, ?_, e3, e4, fun j hj => e5 j (Nat.zero_le _) hj⟩
  rw [call_at mt_110 [some (.ref a), some (.int (nI i)), none] rfl rfl rfl, nd_110_0 (St_run d mt_110)]
  exact e1
end MB
