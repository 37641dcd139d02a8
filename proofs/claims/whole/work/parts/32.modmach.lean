/-! ===== the reference: machines ===== -/
/-- in reach or not -/
theorem v_in_cases (x : Int32) (n : Nat) (hn : n < 2 ^ 30) : (∃ j, j < n ∧ x = nI j ∧ v_in x (nI n - 1) = 1) ∨ (v_in x (nI n - 1) = 0 ∧ ∀ j, j < n → x ≠ nI j) := by
  have e : (nI n - 1).toInt = (n : Int) - 1 := pk_sub_toInt (b := 1) hn (by decide)
  unfold v_in
  by_cases h0 : x < 0
  · right
    rw [if_pos h0]
    refine ⟨rfl, fun j hj hx => ?_⟩
    rw [hx] at h0
    exact nI_pos (by omega) h0
  · obtain ⟨j, hj, rfl⟩ := nI_of h0
    rw [if_neg h0]
    by_cases hjn : j < n
    · left
      refine ⟨j, hjn, rfl, ?_⟩
      rw [if_neg]
      rw [Int32.lt_iff_toInt_lt, e, nI_toInt hj]
      omega
    · right
      refine ⟨?_, fun k hk hx => ?_⟩
      · rw [if_pos]
        rw [Int32.lt_iff_toInt_lt, e, nI_toInt hj]
        omega
      · rw [nI_eq hj (by omega)] at hx
        omega
theorem v_in_ok {j n : Nat} (hn : n < 2 ^ 30) (hj : j < n) : v_in (nI j) (nI n - 1) = 1 := by
  rcases v_in_cases (nI j) n hn with ⟨k, h1, h2, h3⟩ | ⟨h1, h2⟩
  · exact h3
  · exact absurd rfl (h2 j hj)
/-- the class' own test is the same -/
theorem v_hp_cases (x : Int32) (n : Nat) (hn : n < 2 ^ 30) : (∃ j, j < n ∧ x = nI j ∧ v_hasPlace (nI n) x = 1) ∨ (v_hasPlace (nI n) x = 0 ∧ ∀ j, j < n → x ≠ nI j) := by
  unfold v_hasPlace
  by_cases h0 : x < 0
  · right
    rw [if_pos h0]
    refine ⟨rfl, fun j hj hx => ?_⟩
    rw [hx] at h0
    exact nI_pos (by omega) h0
  · obtain ⟨j, hj, rfl⟩ := nI_of h0
    rw [if_neg h0]
    by_cases hjn : j < n
    · exact Or.inl ⟨j, hjn, rfl, if_neg (nI_ge hjn (by omega))⟩
    · refine Or.inr ⟨if_pos (nI_le (by omega) hj), fun k hk hx => ?_⟩
      rw [nI_eq hj (by omega)] at hx
      omega
section MM
variable {d a : Nat} {h : AH} {I : Nat → Int32} {A : Nat → Nat → Int32}
theorem r_isState_bad (q : isMod h a I A) (m s : Int32) (hm : v_in m (I 3 - 1) = 0) : call (d + 3) 114 [.ref a, .int m, .int s] h = some (some (.int 0), h) := by
  rw [call_at mt_114 [some (.ref a), some (.int m), some (.int s)] rfl rfl rfl, nd_114_0 (St_run (d + 2) mt_114), q.o, r_isMachine q, bind_some', rI_some, hm, if_pos rfl, nd_114_30 (St_run (d + 2) mt_114), nd_114_31 (St_run (d + 2) mt_114), isZ0]
theorem z01 {x : Int32} (hx : x = 0 ∨ x = 1) (h : AH) : (if x = 0 then (some (some (.int 0), h) : Option RV) else some (some (.int 1), h)) = some (some (.int x), h) := by
  rcases hx with rfl | rfl
  · rfl
  · rfl
theorem r_isState (q : isMod h a I A) (j : Nat) (hj : j < 6) (s : Int32) (hm : v_in (nI j) (I 3 - 1) = 1) : call (d + 3) 114 [.ref a, .int (nI j), .int s] h = some (some (.int (v_in s (A 4 j - 1))), h) := by
  rw [call_at mt_114 [some (.ref a), some (.int (nI j)), some (.int s)] rfl rfl rfl, nd_114_0 (St_run (d + 2) mt_114), q.o, r_isMachine q, bind_some', rI_some, hm, if_neg (by decide), q.g4, ldI_of q.a4 rfl hj (by decide), m_in0, bind_some', rI_some]
  simp only [nd_114_30 (St_run (d + 2) mt_114), nd_114_31 (St_run (d + 2) mt_114), isZ0, isZ1]
  exact z01 (v_in_z _ _) h
theorem r_isCase (q : isMod h a I A) (j : Nat) (hj : j < 6) (w : Int32) : call (d + 2) 116 [.ref a, .int (nI j), .int w] h = some (some (.int (if w = 2 then 1 else v_in w (A 5 j - 1))), h) := by
  rw [call_at mt_116 [some (.ref a), some (.int (nI j)), some (.int w)] rfl rfl rfl, nd_116_0 (St_run (d + 1) mt_116), q.g5, ldI_of q.a5 rfl hj (by decide), m_in0, bind_some', rI_some]
  simp only [nd_116_23 (St_run (d + 1) mt_116), nd_116_28 (St_run (d + 1) mt_116), isZ0, isZ1, z01 (v_in_z _ _) h]
  by_cases hw : w = 2
  · rw [if_pos hw, if_pos hw]
  · rw [if_neg hw, if_neg hw]
/-- begins: the loops -/
theorem ix54 (m s i : Nat) : (54 : Int32) * nI m + 9 * nI s + nI i = nI (54 * m + 9 * s + i) := by
  show nI 54 * nI m + nI 9 * nI s + nI i = _
  rw [pk_mul, pk_mul, nI_add, nI_add]
theorem ix6m (m s : Nat) : (6 : Int32) * nI m + nI s = nI (6 * m + s) := by
  show nI 6 * nI m + nI s = _
  rw [pk_mul, nI_add]
theorem updA_at (A : Nat → Nat → Int32) (k : Nat) (f : Nat → Int32) : updA A k f k = f := if_pos rfl
theorem updA_ne {A : Nat → Nat → Int32} {k j : Nat} {f : Nat → Int32} (hj : j ≠ k) : updA A k f j = A j := if_neg hj
/-- arrays that agree but for two -/
def sameA (A B : Nat → Nat → Int32) (ks : List Nat) : Prop := ∀ k, k ∉ ks → A k = B k
theorem l_begins1 (m s : Nat) (hm : m < 6) (hs : s < 6) : ∀ (k i : Nat) (h : AH) (A : Nat → Nat → Int32), isMod h a I A → i + k = 9 → ∃ h' A', run d mt_118 40 [some (.ref a), some (.int (nI m)), none, none, some (.int (nI s)), some (.int (nI i))] [] h = run d mt_118 17 [some (.ref a), some (.int (nI m)), none, none, some (.int (nI (s + 1))), none] [] h' ∧ isMod h' a I A' ∧ Fr h h' a 33 ∧ sameA A A' [7, 8] ∧ (∀ j, A' 7 j = if 54 * m + 9 * s + i ≤ j ∧ j < 54 * m + 9 * s + 9 then nI s else A 7 j) ∧ (∀ j, A' 8 j = if 54 * m + 9 * s + i ≤ j ∧ j < 54 * m + 9 * s + 9 then -4 else A 8 j) := by
  intro k
  induction k with
  | zero =>
    intro i h A q hi
    refine ⟨h, A, ?_, q, Fr.rf _ _ _, fun _ _ => rfl, fun j => (if_neg (by omega)).symm, fun j => (if_neg (by omega)).symm⟩
    rw [nd_118_40 (St_run d mt_118), if_pos (show (9 : Int32) ≤ nI i from nI_le (a := 9) (b := i) (by omega) (by omega)), nI_1]
  | succ k ih =>
    intro i h A q hi
    have q1 := q.w 7 rfl (upd (A 7) (54 * m + 9 * s + i) (nI s))
    have q2 := q1.w 8 rfl (upd (A 8) (54 * m + 9 * s + i) (-4))
    obtain ⟨h', A', e1, e2, e3, e4, e5, e6⟩ := ih (i + 1) _ _ q2 (by omega)
    refine ⟨h', A', ?_, e2, Fr.tr (Fr.tr (Fr.set ⟨by omega, by omega⟩) (Fr.set ⟨by omega, by omega⟩)) e3, fun k hk => ?_, fun j => ?_, fun j => ?_⟩
    · rw [nd_118_40 (St_run d mt_118), if_neg (show ¬ (9 : Int32) ≤ nI i from nI_ge (a := i) (b := 9) (by omega) (by omega)), q.g7, stI_of q.a7 (ix54 m s i) (show 54 * m + 9 * s + i < 324 by omega) (by decide), q1.g8, stI_of q1.a8 (ix54 m s i) (show 54 * m + 9 * s + i < 324 by omega) (by decide), show updA A 7 (upd (A 7) (54 * m + 9 * s + i) (nI s)) 8 = A 8 from rfl, nI_1]
      exact e1
    · rw [← e4 k hk, updA_ne (fun e => hk (by simp [e])), updA_ne (fun e => hk (by simp [e]))]
    · rw [e5, show updA (updA A 7 (upd (A 7) (54 * m + 9 * s + i) (nI s))) 8 (upd (A 8) (54 * m + 9 * s + i) (-4)) 7 = upd (A 7) (54 * m + 9 * s + i) (nI s) from rfl]
      dsimp only [upd]
      by_cases h1 : 54 * m + 9 * s + (i + 1) ≤ j ∧ j < 54 * m + 9 * s + 9
      · rw [if_pos h1, if_pos (by omega)]
      · rw [if_neg h1]
        by_cases h2 : j = 54 * m + 9 * s + i
        · rw [if_pos h2, if_pos (by omega)]
        · rw [if_neg h2, if_neg (by omega)]
    · rw [e6, updA_at]
      dsimp only [upd]
      by_cases h1 : 54 * m + 9 * s + (i + 1) ≤ j ∧ j < 54 * m + 9 * s + 9
      · rw [if_pos h1, if_pos (by omega)]
      · rw [if_neg h1]
        by_cases h2 : j = 54 * m + 9 * s + i
        · rw [if_pos h2, if_pos (by omega)]
        · rw [if_neg h2, if_neg (by omega)]
theorem l_begins2 (m : Nat) (hm : m < 6) : ∀ (k s : Nat) (h : AH) (A : Nat → Nat → Int32), isMod h a I A → s + k = 6 → ∃ h' A', run d mt_118 17 [some (.ref a), some (.int (nI m)), none, none, some (.int (nI s)), none] [] h = some (none, h') ∧ isMod h' a I A' ∧ Fr h h' a 33 ∧ sameA A A' [6, 7, 8] ∧ (∀ j, A' 6 j = if 6 * m + s ≤ j ∧ j < 6 * m + 6 then 0 else A 6 j) ∧ (∀ j, A' 7 j = if 54 * m + 9 * s ≤ j ∧ j < 54 * m + 54 then nI ((j - 54 * m) / 9) else A 7 j) ∧ (∀ j, A' 8 j = if 54 * m + 9 * s ≤ j ∧ j < 54 * m + 54 then -4 else A 8 j) := by
  intro k
  induction k with
  | zero =>
    intro s h A q hs
    refine ⟨h, A, ?_, q, Fr.rf _ _ _, fun _ _ => rfl, fun j => (if_neg (by omega)).symm, fun j => (if_neg (by omega)).symm, fun j => (if_neg (by omega)).symm⟩
    rw [nd_118_17 (St_run d mt_118), if_pos (show (6 : Int32) ≤ nI s from nI_le (a := 6) (b := s) (by omega) (by omega))]
  | succ k ih =>
    intro s h A q hs
    have q1 := q.w 6 rfl (upd (A 6) (6 * m + s) (0 &&& 1))
    obtain ⟨h1, A1, e1, e2, e3, e4, e5, e6⟩ := l_begins1 (d := d) m s hm (by omega) 9 0 _ _ q1 rfl
    obtain ⟨h2, A2, f1, f2, f3, f4, f5, f6, f7⟩ := ih (s + 1) _ _ e2 (by omega)
    refine ⟨h2, A2, ?_, f2, Fr.tr (Fr.tr (Fr.set ⟨by omega, by omega⟩) e3) f3, fun k hk => ?_, fun j => ?_, fun j => ?_, fun j => ?_⟩
    · rw [nd_118_17 (St_run d mt_118), if_neg (show ¬ (6 : Int32) ≤ nI s from nI_ge (a := s) (b := 6) (by omega) (by omega)), q.g6, stZ_of q.a6 (ix6m m s) (show 6 * m + s < 36 by omega) (by decide)]
      exact e1.trans f1
    · rw [← f4 k hk, ← e4 k (fun e => hk (List.mem_cons_of_mem _ e)), updA_ne (fun e => hk (by simp [e]))]
    · rw [f5, ← e4 6 (by decide), updA_at]
      dsimp only [upd]
      by_cases g1 : 6 * m + (s + 1) ≤ j ∧ j < 6 * m + 6
      · rw [if_pos g1, if_pos (by omega)]
      · rw [if_neg g1]
        by_cases g2 : j = 6 * m + s
        · rw [if_pos g2, if_pos (by omega)]; rfl
        · rw [if_neg g2, if_neg (by omega)]
    · rw [f6, e5, updA_ne (by decide)]
      by_cases g1 : 54 * m + 9 * (s + 1) ≤ j ∧ j < 54 * m + 54
      · rw [if_pos g1, if_pos (by omega)]
      · rw [if_neg g1]
        by_cases g2 : 54 * m + 9 * s + 0 ≤ j ∧ j < 54 * m + 9 * s + 9
        · rw [if_pos g2, if_pos (by omega)]
          congr 1
          omega
        · rw [if_neg g2, if_neg (by omega)]
    · rw [f7, e6, updA_ne (by decide)]
      by_cases g1 : 54 * m + 9 * (s + 1) ≤ j ∧ j < 54 * m + 54
      · rw [if_pos g1, if_pos (by omega)]
      · rw [if_neg g1]
        by_cases g2 : 54 * m + 9 * s + 0 ≤ j ∧ j < 54 * m + 9 * s + 9
        · rw [if_pos g2, if_pos (by omega)]
        · rw [if_neg g2, if_neg (by omega)]
/-- begins(m, n, k) -/
def bgA (A A' : Nat → Nat → Int32) (m : Nat) (n k : Int32) : Prop := sameA A A' [4, 5, 6, 7, 8] ∧ A' 4 = upd (A 4) m n ∧ A' 5 = upd (A 5) m k ∧ (∀ j, A' 6 j = if 6 * m ≤ j ∧ j < 6 * m + 6 then 0 else A 6 j) ∧ (∀ j, A' 7 j = if 54 * m ≤ j ∧ j < 54 * m + 54 then nI ((j - 54 * m) / 9) else A 7 j) ∧ (∀ j, A' 8 j = if 54 * m ≤ j ∧ j < 54 * m + 54 then -4 else A 8 j)
theorem r_begins (q : isMod h a I A) (m : Nat) (hm : m < 6) (n k : Int32) : ∃ h' A', call (d + 1) 118 [.ref a, .int (nI m), .int n, .int k] h = some (none, h') ∧ isMod h' a I A' ∧ Fr h h' a 33 ∧ bgA A A' m n k := by
  have q1 := q.w 4 rfl (upd (A 4) m n)
  have q2 := q1.w 5 rfl (upd (A 5) m k)
  obtain ⟨h1, A1, e1, e2, e3, e4, e5, e6, e7⟩ := l_begins2 (d := d) m hm 6 0 _ _ q2 rfl
  refine ⟨h1, A1, ?_, e2, Fr.tr (Fr.tr (Fr.set ⟨by omega, by omega⟩) (Fr.set ⟨by omega, by omega⟩)) e3, fun j hj => ?_, ?_, ?_, fun j => ?_, fun j => ?_, fun j => ?_⟩
  · rw [call_at mt_118 [some (.ref a), some (.int (nI m)), some (.int n), some (.int k), none, none] rfl rfl rfl, nd_118_0 (St_run d mt_118), q.g4, stI_of q.a4 rfl hm (by decide), q1.g5, stI_of q1.a5 rfl hm (by decide), show updA A 4 (upd (A 4) m n) 5 = A 5 from rfl]
    exact e1
  · rw [← e4 j (fun e => hj (List.mem_cons_of_mem _ (List.mem_cons_of_mem _ e))), updA_ne (fun e => hj (by simp [e])), updA_ne (fun e => hj (by simp [e]))]
  · rw [← e4 4 (by decide)]; rfl
  · rw [← e4 5 (by decide)]; rfl
  · rw [e5]; rfl
  · rw [e6]; rfl
  · rw [e7]; rfl
end MM
