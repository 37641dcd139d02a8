/-! ===== the class' own object; the row's calls ===== -/
section TOP
variable {h : AH} {x K W : Nat} {X : CX0}
theorem cTop.o (q : cTop h x K W X) (f : Option RV) : isO h x 7 f = f := isO_of q f
theorem cTop.g0 (q : cTop h x K W X) (n : Option RV) (f : Nat → Option RV) : gfQ h x 7 0 n f = f (x + 1) := gfQ_of q rfl n f
theorem cTop.g1 (q : cTop h x K W X) (n : Option RV) (f : Nat → Option RV) : gfQ h x 7 1 n f = f (x + 4) := gfQ_of q rfl n f
theorem cTop.g2 (q : cTop h x K W X) (f : Int32 → Option RV) : gfI h x 7 2 f = f (nI K) := gfI_of q rfl f
theorem cTop.g3 (q : cTop h x K W X) (n : Option RV) (f : Nat → Option RV) : gfQ h x 7 3 n f = f (x + 5) := gfQ_of q rfl n f
theorem cTop.g4 (q : cTop h x K W X) (f : Int32 → Option RV) : gfI h x 7 4 f = f (nI W) := gfI_of q rfl f
theorem cTop.g5 (q : cTop h x K W X) (n : Option RV) (f : Nat → Option RV) : gfQ h x 7 5 n f = f (x + 6) := gfQ_of q rfl n f
theorem cTop.g6 (q : cTop h x K W X) (n : Option RV) (f : Nat → Option RV) : gfQ h x 7 6 n f = f (x + 7) := gfQ_of q rfl n f
theorem cTop.g7 (q : cTop h x K W X) (n : Option RV) (f : Nat → Option RV) : gfQ h x 7 7 n f = f (x + 12) := gfQ_of q rfl n f
theorem cTop.g8 (q : cTop h x K W X) (n : Option RV) (f : Nat → Option RV) : gfQ h x 7 8 n f = f (x + 14) := gfQ_of q rfl n f
theorem cTop.g9 (q : cTop h x K W X) (n : Option RV) (f : Nat → Option RV) : gfQ h x 7 9 n f = f (x + 17) := gfQ_of q rfl n f
theorem cTop.g10 (q : cTop h x K W X) (n : Option RV) (f : Nat → Option RV) : gfQ h x 7 10 n f = f (x + 36) := gfQ_of q rfl n f
theorem cTop.g11 (q : cTop h x K W X) (f : Int32 → Option RV) : gfI h x 7 11 f = f X.1 := gfI_of q rfl f
theorem cTop.g12 (q : cTop h x K W X) (f : Int32 → Option RV) : gfI h x 7 12 f = f X.2.1 := gfI_of q rfl f
theorem cTop.g13 (q : cTop h x K W X) (f : Int32 → Option RV) : gfI h x 7 13 f = f X.2.2.1 := gfI_of q rfl f
theorem cTop.g14 (q : cTop h x K W X) (f : Int32 → Option RV) : gfI h x 7 14 f = f X.2.2.2.1 := gfI_of q rfl f
theorem cTop.g15 (q : cTop h x K W X) (f : Int32 → Option RV) : gfI h x 7 15 f = f X.2.2.2.2 := gfI_of q rfl f
/-- the object with other numbers -/
def oTop (x K W : Nat) (X : CX0) : AC := oB 7 [.ref (x + 1), .ref (x + 4), .int (nI K), .ref (x + 5), .int (nI W), .ref (x + 6), .ref (x + 7), .ref (x + 12), .ref (x + 14), .ref (x + 17), .ref (x + 36), .int X.1, .int X.2.1, .int X.2.2.1, .int X.2.2.2.1, .int X.2.2.2.2]
theorem cTop.mk (h : AH) (x K W : Nat) (X : CX0) : cTop (hS h x (oTop x K W X)) x K W X := hS_at _ _ _
theorem cTop.p2 (q : cTop h x K W X) (K' : Nat) (f : AH → Option RV) : pfV h x 7 2 (.int (nI K')) f = f (hS h x (oTop x K' W X)) := pfV_of q (Nat.le_of_ble_eq_true rfl) _ f
theorem cTop.p4 (q : cTop h x K W X) (W' : Nat) (f : AH → Option RV) : pfV h x 7 4 (.int (nI W')) f = f (hS h x (oTop x K W' X)) := pfV_of q (Nat.le_of_ble_eq_true rfl) _ f
theorem cTop.p11 (q : cTop h x K W X) (v : Int32) (f : AH → Option RV) : pfV h x 7 11 (.int v) f = f (hS h x (oTop x K W (v, X.2))) := pfV_of q (Nat.le_of_ble_eq_true rfl) _ f
theorem cTop.p12 (q : cTop h x K W X) (v : Int32) (f : AH → Option RV) : pfV h x 7 12 (.int v) f = f (hS h x (oTop x K W (X.1, (v, X.2.2)))) := pfV_of q (Nat.le_of_ble_eq_true rfl) _ f
theorem cTop.p13 (q : cTop h x K W X) (v : Int32) (f : AH → Option RV) : pfV h x 7 13 (.int v) f = f (hS h x (oTop x K W (X.1, (X.2.1, (v, X.2.2.2))))) := pfV_of q (Nat.le_of_ble_eq_true rfl) _ f
theorem cTop.p14 (q : cTop h x K W X) (v : Int32) (f : AH → Option RV) : pfV h x 7 14 (.int v) f = f (hS h x (oTop x K W (X.1, (X.2.1, (X.2.2.1, (v, X.2.2.2.2)))))) := pfV_of q (Nat.le_of_ble_eq_true rfl) _ f
theorem cTop.p15 (q : cTop h x K W X) (v : Int32) (f : AH → Option RV) : pfV h x 7 15 (.int v) f = f (hS h x (oTop x K W (X.1, (X.2.1, (X.2.2.1, (X.2.2.2.1, v)))))) := pfV_of q (Nat.le_of_ble_eq_true rfl) _ f
theorem cTop.fr1 (h : AH) (x K W : Nat) (X : CX0) : Fr h (hS h x (oTop x K W X)) x 1 := Fr.set ⟨by omega, by omega⟩
variable {d : Nat}
theorem C_mAt (q : cTop h x K W X) (a : cArr h x) (hK : K ≤ 6) (j : Nat) (hj : j < K) : call (d + 1) 75 [.ref x, .int (nI j)] h = some (some (.ref (mo x j)), h) := by
  obtain ⟨⟨g, a1, a2⟩, _⟩ := a
  rw [call_at mt_75 [some (.ref x), some (.int (nI j))] rfl rfl rfl, nd_75_0 (St_run d mt_75), if_neg (nI_pos (by omega)), q.g2, if_neg (nI_ge hj (by omega)), q.g1, ldQ_of a1 rfl (show j < 7 by omega) (by decide) (a2 j (by omega)), nd_75_22 (St_run d mt_75)]
theorem C_mNo (q : cTop h x K W X) (hK : K ≤ 6) (m : Int32) (hm : ∀ j, j < K → m ≠ nI j) : call (d + 1) 75 [.ref x, .int m] h = some (some .null, h) := by
  rw [call_at mt_75 [some (.ref x), some (.int m)] rfl rfl rfl, nd_75_0 (St_run d mt_75), q.g2, nd_75_21 (St_run d mt_75), nd_75_22_2 (St_run d mt_75)]
  by_cases h0 : m < 0
  · rw [if_pos h0]
  · obtain ⟨j, hj, rfl⟩ := nI_of h0
    rw [if_neg h0, if_pos (nI_le (by have := hm j; by_cases e : j < K; exact absurd rfl (this e); omega) hj)]
theorem C_spare (q : cTop h x K W X) (a : cArr h x) (hK : K ≤ 6) : call (d + 1) 76 [.ref x] h = some (some (.ref (mo x K)), h) := by
  obtain ⟨⟨g, a1, a2⟩, _⟩ := a
  rw [call_at mt_76 [some (.ref x)] rfl rfl rfl, nd_76_0 (St_run d mt_76), q.g1, q.g2, ldQ_of a1 rfl (show K < 7 by omega) (by decide) (a2 K (by omega))]
/-- the numbers when machines have changed -/
def chX (X : CX0) : CX0 := (0, (X.2.1, (X.2.2.1, (X.2.2.2.1, NO))))
theorem C_changed (q : cTop h x K W X) : ∃ h', call (d + 1) 78 [.ref x] h = some (none, h') ∧ cTop h' x K W (chX X) ∧ Fr h h' x 1 := by
  have q1 := cTop.mk h x K W (0, X.2)
  have q2 := cTop.mk (hS h x (oTop x K W (0, X.2))) x K W (chX X)
  refine ⟨_, ?_, q2, (cTop.fr1 _ _ _ _ _).tr (cTop.fr1 _ _ _ _ _)⟩
  rw [call_at mt_78 [some (.ref x)] rfl rfl rfl, nd_78_0 (St_run d mt_78), isZ0, q.p11, q1.p15]
  rfl
theorem C_add (q : cTop h x K W X) (hK : K < 6) : ∃ h', call (d + 2) 77 [.ref x] h = some (some (.int (nI K)), h') ∧ cTop h' x (K + 1) W (chX X) ∧ Fr h h' x 1 := by
  obtain ⟨h1, e1, e2, e3⟩ := C_changed (d := d) q
  have q2 := cTop.mk h1 x (K + 1) W (chX X)
  refine ⟨_, ?_, q2, e3.tr (cTop.fr1 _ _ _ _ _)⟩
  rw [call_at mt_77 [some (.ref x)] rfl rfl rfl, nd_77_0 (St_run (d + 1) mt_77), q.g2, if_pos (show nI K < (6 : Int32) from nI_lt (a := K) (b := 6) hK (by decide)), q.o, e1, bind_some', rV_some, e2.g2, nI_1, e2.p2, q2.g2, nI_pred]
theorem C_addFull (q : cTop h x 6 W X) : call (d + 2) 77 [.ref x] h = some (some (.int (-3)), h) := by
  rw [call_at mt_77 [some (.ref x)] rfl rfl rfl, nd_77_0 (St_run (d + 1) mt_77), q.g2, if_neg (by decide)]
end TOP
theorem inC (x : Int32) (n : Nat) (hn : n < 2 ^ 30) : (∃ j, j < n ∧ x = nI j ∧ v_in x (nI n - 1) = 1) ∨ (v_in x (nI n - 1) = 0 ∧ (∀ j, j < n → x ≠ nI j) ∧ (x < 0 ∨ nI n ≤ x)) := by
  rcases v_in_cases x n hn with e | ⟨e1, e2⟩
  · exact Or.inl e
  · refine Or.inr ⟨e1, e2, ?_⟩
    by_cases h0 : x < 0
    · exact Or.inl h0
    · obtain ⟨j, hj, rfl⟩ := nI_of h0
      exact Or.inr (nI_le (by by_cases e : j < n; exact absurd rfl (e2 j e); omega) hj)
theorem in2 (x : Int32) : (∃ j, j < 3 ∧ x = nI j ∧ v_in x 2 = 1) ∨ (v_in x 2 = 0 ∧ (∀ j, j < 3 → x ≠ nI j) ∧ (x < 0 ∨ 3 ≤ x)) := inC x 3 (by decide)
theorem in1 (x : Int32) : (∃ j, j < 2 ∧ x = nI j ∧ v_in x 1 = 1) ∨ (v_in x 1 = 0 ∧ (∀ j, j < 2 → x ≠ nI j) ∧ (x < 0 ∨ 2 ≤ x)) := inC x 2 (by decide)
theorem in3 (x : Int32) : (∃ j, j < 4 ∧ x = nI j ∧ v_in x 3 = 1) ∨ (v_in x 3 = 0 ∧ (∀ j, j < 4 → x ≠ nI j) ∧ (x < 0 ∨ 4 ≤ x)) := inC x 4 (by decide)
/-- between 0 and n -/
theorem inP (x : Int32) (n : Nat) (hn : n < 2 ^ 30) : (∃ j, j ≤ n ∧ x = nI j ∧ v_in x (nI n) = 1 ∧ v_hasPrefix (nI n) x = 1) ∨ (v_in x (nI n) = 0 ∧ v_hasPrefix (nI n) x = 0 ∧ ∀ j, j ≤ n → x ≠ nI j) := by
  unfold v_in v_hasPrefix
  by_cases h0 : x < 0
  · rw [if_pos h0]
    refine Or.inr ⟨rfl, rfl, fun j hj e => ?_⟩
    rw [e] at h0
    exact nI_pos (by omega) h0
  · obtain ⟨j, hj, rfl⟩ := nI_of h0
    rw [if_neg h0]
    by_cases e : j ≤ n
    · rw [if_neg (nI_nlt e (by omega))]
      exact Or.inl ⟨j, e, rfl, rfl, rfl⟩
    · rw [if_pos (nI_lt (by omega) hj)]
      refine Or.inr ⟨rfl, rfl, fun k hk e2 => ?_⟩
      rw [nI_eq hj (by omega)] at e2
      omega
theorem isC.row {h h1 : AH} {x : Nat} {s : SG} {q : Nat} {r : Nat × ((Nat → Nat) × (Nat → Int32))} (c : isC h x s) (w : WFS s q) (n : cRow h1 x r) (p : Fr h h1 (x + 1) 3) : isC h1 x (r, s.2) := by
  obtain ⟨X, c1, c2, c3, c4, c5, c6, c7, c8, c9, c10, c11, c12, c13⟩ := c
  have D : ∀ o k, (o + k ≤ 1 ∨ 4 ≤ o) → dj (x + o) k [(x + 1, 3)] := fun o k hk => dj.cons (by omega) (dj.nil _ _)
  have w1 := w.2.1.1
  have w2 := w.2.2.1.1
  exact ⟨X, c1.fs p.s (D 0 1 (by omega)), c2.fs p.s (D 4 3 (by omega)), n, c4.fs p.s (D 7 5 (by omega)), c5.fs p.s (D 12 2 (by omega)), c6.fs p.s (D 14 3 (by omega)), c7.fs p.s (D 17 13 (by omega)), c8.fs p.s (D 30 6 (by omega)), c9.fs p.s (D 36 3 (by omega)), c10.fs p.s (D 39 35 (by omega)) (by omega), c11.fs p.s (D 74 16 (by omega)) w2, c12.fs p.s (D 90 8 (by omega)), c13⟩
section OPS1
variable {d x y q : Nat} {h : AH} {s : SG}
theorem op_place (S : SS h x y s q) (l nm : Int32) : OP d x y h q 63 108 [.int l, .int nm] := by
  obtain ⟨w, c, _, _⟩ := id S
  obtain ⟨X, c1, c2, ⟨D, r1, r2, r3⟩, _⟩ := id c
  have wr := w.1.1
  have pre : call (d + 8) 63 [.ref x, .int l, .int nm] h = (call (d + 7) 24 [.ref (x + 1), .int l, .int nm] h).bind fun q2 => rI q2 fun v4 h3 => some (some (.int v4), h3) := by
    rw [call_at mt_63 [some (.ref x), some (.int l), some (.int nm)] rfl rfl rfl, nd_63_0 (St_run (d + 7) mt_63), c1.g0, r1.o]
  rcases in2 l with ⟨j, j1, rfl, j3⟩ | ⟨j1, j2, j3⟩
  · by_cases hf : s.1.1 = 40
    · refine comb (s' := s) (r := -3) S (CO_same c ?_) (RO_same (fun h I A rs => ?_)) (w.mono (by omega))
      · rw [pre, m_append_full r1 (nI j) nm (nI_pos (by omega)) (nI_lt (a := j) (b := 3) j1 (by decide)) s.1.1 r2 (by omega) (by omega), bind_some', rI_some]
      · exact r_place_full (mkR_is h y I A) (nI j) nm j3 (by rw [rs.1.1, hf]; rfl)
    · obtain ⟨h1, e1, e2, e3⟩ := m_append (d := d + 6) r1 (nI j) nm (nI_pos (by omega)) (nI_lt (a := j) (b := 3) j1 (by decide)) s.1.1 r2 (by omega) (by decide)
      refine comb (s' := ((s.1.1 + 1, (updN s.1.2.1 s.1.1 j, upd s.1.2.2 s.1.1 nm)), s.2)) (r := nI (s.1.1 + 1)) S ⟨h1, by rw [pre, e1, bind_some', rI_some], c.row w ⟨_, e2, rfl, fun k hk => ?_⟩ e3, e3.sub (by omega) (by omega)⟩ (fun h I A rs => ?_) ⟨⟨by show s.1.1 + 1 ≤ 40; omega, fun k hk => ?_⟩, (w.mono (Nat.le_succ q)).2⟩
      · show upd D.2.1 s.1.1 (nI j) k = nI (updN s.1.2.1 s.1.1 j k) ∧ upd D.2.2 s.1.1 nm k = upd s.1.2.2 s.1.1 nm k
        by_cases e : k = s.1.1
        · rw [e, pk_us, pk_us, pk_us, updN_at]
          exact ⟨rfl, rfl⟩
        · rw [pk_un e, pk_un e, pk_un e, updN_ne e]
          exact r3 k (by dsimp only at hk; omega)
      · obtain ⟨h2, f1, f2, f3⟩ := r_place (d := d + 6) (mkR_is h y I A) (nI j) nm j3 s.1.1 rs.1.1 (by omega)
        rw [mkR_fr f2 f3] at f1
        refine ⟨_, _, f1, ⟨⟨rfl, fun k hk => ?_⟩, rs.2.1.fa (I1 := upd I 0 (nI (s.1.1 + 1))) (A1 := updA (updA A 1 (upd (A 1) s.1.1 (nI j))) 2 (upd (A 2) s.1.1 nm)) (js := [0]) (ks := [1, 2]) ((((fra.rf _ _ _ _).u _ (by decide)).w _ (by decide)).w _ (by decide)) (by decide) (by decide), rs.2.2.1.fa (I1 := upd I 0 (nI (s.1.1 + 1))) (A1 := updA (updA A 1 (upd (A 1) s.1.1 (nI j))) 2 (upd (A 2) s.1.1 nm)) (js := [0]) (ks := [1, 2]) ((((fra.rf _ _ _ _).u _ (by decide)).w _ (by decide)).w _ (by decide)) (by decide) (by decide), rs.2.2.2⟩⟩
        show upd (A 1) s.1.1 (nI j) k = nI (updN s.1.2.1 s.1.1 j k) ∧ upd (A 2) s.1.1 nm k = upd s.1.2.2 s.1.1 nm k
        by_cases e : k = s.1.1
        · rw [e, pk_us, pk_us, pk_us, updN_at]
          exact ⟨rfl, rfl⟩
        · rw [pk_un e, pk_un e, pk_un e, updN_ne e]
          exact rs.1.2 k (by dsimp only at hk; omega)
      · show updN s.1.2.1 s.1.1 j k < 3
        by_cases e : k = s.1.1
        · rw [e, updN_at]; exact j1
        · rw [updN_ne e]; exact w.1.2 k (by dsimp only at hk; omega)
  · refine comb (s' := s) (r := -1) S (CO_same c ?_) (RO_same (fun h I A rs => ?_)) (w.mono (by omega))
    · rw [pre, m_append_bad (D := D) (N := 40) l nm (j3.imp id Int32.not_lt.mpr), bind_some', rI_some]
    · exact r_place_bad l nm j1
theorem op_cut (S : SS h x y s q) (n : Int32) : OP d x y h q 64 109 [.int n] := by
  obtain ⟨w, c, _, _⟩ := id S
  obtain ⟨X, c1, c2, ⟨D, r1, r2, r3⟩, _⟩ := id c
  have wr := w.1.1
  rcases inP n s.1.1 (by omega) with ⟨j, j1, rfl, j3, j4⟩ | ⟨j1, j2, j3⟩
  · have u := r1.u2 (nI j)
    have fr : Fr h (hS h (x + 1) (oB 2 [.ref (x + 1 + 1), .ref (x + 1 + 2), .int (nI j)])) (x + 1) 3 := Fr.set ⟨by omega, by omega⟩
    refine comb (s' := ((j, s.1.2), s.2)) (r := nI s.1.1) S ⟨_, ?_, c.row w ⟨_, u, rfl, fun k hk => r3 k (by dsimp only at hk; omega)⟩ fr, fr.sub (by omega) (by omega)⟩ (fun h I A rs => ?_) ⟨⟨by show j ≤ 40; omega, fun k hk => w.1.2 k (by dsimp only at hk; omega)⟩, (w.mono (Nat.le_succ q)).2⟩
    · rw [call_at mt_64 [some (.ref x), some (.int (nI j)), none] rfl rfl rfl, nd_64_0 (St_run (d + 7) mt_64), c1.g0, r1.o, m_hasPrefix r1, r2, j4, bind_some', rI_some, if_neg (by decide), c1.g0, r1.g2, c1.g0, r1.p2, r2]
    · obtain ⟨h2, f1, f2, f3⟩ := r_cut (d := d + 6) (mkR_is h y I A) (nI j) (by rw [rs.1.1]; exact j3)
      rw [mkR_fr f2 f3, rs.1.1] at f1
      have p : fra I (upd I 0 (nI j)) A A [0] [] := (fra.rf _ _ _ _).u _ (by decide)
      exact ⟨_, _, f1, ⟨⟨rfl, fun k hk => rs.1.2 k (by dsimp only at hk; omega)⟩, rs.2.1.fa p (by decide) (by decide), rs.2.2.1.fa p (by decide) (by decide), rs.2.2.2⟩⟩
  · refine comb (s' := s) (r := -1) S (CO_same c ?_) (RO_same (fun h I A rs => ?_)) (w.mono (by omega))
    · rw [call_at mt_64 [some (.ref x), some (.int n), none] rfl rfl rfl, nd_64_0 (St_run (d + 7) mt_64), c1.g0, r1.o, m_hasPrefix r1, r2, j2, bind_some', rI_some, if_pos rfl]
    · exact r_cut_bad (mkR_is h y I A) n (by rw [rs.1.1]; exact j1)
/-- the first place with a name is one only -/
theorem fst_un {f : Nat → Int32} {i a b : Nat} (a1 : f a = f i) (a2 : ∀ j, j < a → f j ≠ f i) (b1 : f b = f i) (b2 : ∀ j, j < b → f j ≠ f i) : a = b := by
  rcases Nat.lt_trichotomy a b with h1 | h1 | h1
  · exact absurd a1 (b2 a h1)
  · exact h1
  · exact absurd b1 (a2 b h1)
theorem op_first (S : SS h x y s q) (i : Int32) : OP d x y h q 65 111 [.int i] := by
  obtain ⟨w, c, _, _⟩ := id S
  obtain ⟨X, c1, c2, ⟨D, r1, r2, r3⟩, _⟩ := id c
  have wr := w.1.1
  rcases inC i s.1.1 (by omega) with ⟨j, j1, rfl, j3⟩ | ⟨j1, j2, j3⟩
  · obtain ⟨r, e1, e2, e3, e4⟩ := m_first (d := d + 6) r1 (by decide) j (by omega)
    have hp : v_hasPlace (nI s.1.1) (nI j) = 1 := by
      unfold v_hasPlace
      rw [if_neg (nI_pos (by omega)), if_neg (nI_ge j1 (by omega))]
    refine comb (s' := s) (r := nI r) S (CO_same c ?_) (RO_same (fun h I A rs => ?_)) (w.mono (by omega))
    · rw [call_at mt_65 [some (.ref x), some (.int (nI j))] rfl rfl rfl, nd_65_0 (St_run (d + 7) mt_65), c1.g0, r1.o, m_hasPlace r1, r2, hp, bind_some', rI_some, if_neg (by decide), c1.g0, r1.o, e1, bind_some', rI_some, nd_65_23 (St_run (d + 7) mt_65)]
    · obtain ⟨r', f1, f2, f3, f4⟩ := r_firstOf (d := d + 6) (mkR_is h y I A) j (by omega)
      have hX : ∀ k, k < s.1.1 → D.2.2 k = A 2 k := fun k hk => (r3 k hk).2.trans (rs.1.2 k hk).2.symm
      have er : r = r' := fst_un (f := A 2) (i := j) (by rw [← hX r (by omega), ← hX j j1]; exact e3) (fun k hk => by rw [← hX k (by omega), ← hX j j1]; exact e4 k hk) f3 f4
      rw [← er] at f1
      rw [call_at mt_111 [some (.ref y), some (.int (nI j))] rfl rfl rfl, nd_111_0 (St_run (d + 7) mt_111), mkR_g0, rs.1.1, m_in0, j3, bind_some', rI_some, if_neg (by decide), mkR_o, f1, bind_some', rI_some]
      exact nd_111_25 (St_run (d + 7) mt_111) _ _
  · have hp : v_hasPlace (nI s.1.1) i = 0 := by
      rcases v_hp_cases i s.1.1 (by omega) with ⟨k, k1, k2, _⟩ | ⟨k1, _⟩
      · exact absurd k2 (j2 k k1)
      · exact k1
    refine comb (s' := s) (r := -1) S (CO_same c ?_) (RO_same (fun h I A rs => ?_)) (w.mono (by omega))
    · rw [call_at mt_65 [some (.ref x), some (.int i)] rfl rfl rfl, nd_65_0 (St_run (d + 7) mt_65), c1.g0, r1.o, m_hasPlace r1, r2, hp, bind_some', rI_some, if_pos rfl, nd_65_23 (St_run (d + 7) mt_65)]
    · rw [call_at mt_111 [some (.ref y), some (.int i)] rfl rfl rfl, nd_111_0 (St_run (d + 7) mt_111), mkR_g0, rs.1.1, m_in0, j1, bind_some', rI_some, if_pos rfl]
      exact nd_111_25 (St_run (d + 7) mt_111) _ _
/-- a name comes first at i -/
def nmF (X : Nat → Int32) (i : Nat) : Bool := decide (∀ j, j < i → X j ≠ X i)
theorem nmF_eq {X f : Nat → Int32} {n i r : Nat} (hi : i < n) (hX : ∀ k, k < n → f k = X k) (h2 : r ≤ i) (h3 : f r = f i) (h4 : ∀ j, j < r → f j ≠ f i) : (r = i ↔ nmF X i = true) := by
  unfold nmF
  rw [decide_eq_true_eq]
  constructor
  · rintro rfl
    exact fun j hj => by rw [← hX j (by omega), ← hX r hi]; exact h4 j hj
  · intro e
    by_cases hr : r = i
    · exact hr
    · have := e r (by omega)
      rw [← hX r (by omega), ← hX i hi] at this
      exact absurd h3 this
theorem l_names {K W : Nat} {X : CX0} {D : D_Row} {R : Nat → Int32} {n : Nat} (c1 : cTop h x K W X) (r1 : isRow h (x + 1) D 40) (r2 : D.1 = nI n) (hn : n ≤ 40) (hX : ∀ k, k < n → D.2.2 k = R k) : ∀ (m i : Nat), i + m = n → run (d + 1) mt_66 4 [some (.ref x), some (.int (nI (ctN (nmF R) i))), some (.int (nI i))] [] h = some (some (.int (nI (ctN (nmF R) n))), h) := by
  intro m
  induction m with
  | zero =>
    intro i hi
    have : i = n := by omega
    subst this
    rw [nd_66_4 (St_run (d + 1) mt_66), c1.g0, r1.g2, r2, if_pos (nI_le (Nat.le_refl _) (by omega))]
  | succ m ih =>
    intro i hi
    obtain ⟨r, e1, e2, e3, e4⟩ := m_first (d := d) r1 (by decide) i (by omega)
    have e := ih (i + 1) (by omega)
    have hq := nmF_eq (n := n) (by omega) hX e2 e3 e4
    rw [nd_66_4 (St_run (d + 1) mt_66), c1.g0, r1.g2, r2, if_neg (nI_ge (by omega) (by omega)), c1.g0, r1.o, e1, bind_some', rI_some, nd_66_30 (St_run (d + 1) mt_66), nd_66_30 (St_run (d + 1) mt_66), nI_1 i, nI_1]
    cases hF : nmF R i with
    | true =>
      rw [if_pos (congrArg nI (hq.mpr hF))]
      rw [ctN_t hF] at e
      exact e
    | false =>
      rw [if_neg (fun e0 => by
        rw [nI_eq (by omega) (by omega)] at e0
        rw [hq.mp e0] at hF
        cases hF)]
      rw [ctN_f hF] at e
      exact e
theorem l_rnames {I : Nat → Int32} {A : Nat → Nat → Int32} {R : Nat → Int32} {n : Nat} (r0 : I 0 = nI n) (hn : n ≤ 40) (hX : ∀ k, k < n → A 2 k = R k) : ∀ (m i : Nat), i + m = n → run (d + 1) mt_112 4 [some (.ref y), some (.int (nI (ctN (nmF R) i))), some (.int (nI i))] [] (mkR h y I A) = some (some (.int (nI (ctN (nmF R) n))), mkR h y I A) := by
  intro m
  induction m with
  | zero =>
    intro i hi
    have : i = n := by omega
    subst this
    rw [nd_112_4 (St_run (d + 1) mt_112), mkR_g0, r0, if_pos (nI_le (Nat.le_refl _) (by omega))]
  | succ m ih =>
    intro i hi
    obtain ⟨r, e1, e2, e3, e4⟩ := r_firstOf (d := d) (mkR_is h y I A) i (by omega)
    have e := ih (i + 1) (by omega)
    have hq := nmF_eq (n := n) (by omega) hX e2 e3 e4
    rw [nd_112_4 (St_run (d + 1) mt_112), mkR_g0, r0, if_neg (nI_ge (by omega) (by omega)), mkR_o, e1, bind_some', rI_some, nd_112_27 (St_run (d + 1) mt_112), nd_112_27 (St_run (d + 1) mt_112), nI_1 i, nI_1]
    cases hF : nmF R i with
    | true =>
      rw [if_pos (congrArg nI (hq.mpr hF))]
      rw [ctN_t hF] at e
      exact e
    | false =>
      rw [if_neg (fun e0 => by
        rw [nI_eq (by omega) (by omega)] at e0
        rw [hq.mp e0] at hF
        cases hF), show nI (ctN (nmF R) i) + 0 = nI (ctN (nmF R) i) from nI_add _ 0]
      rw [ctN_f hF] at e
      exact e
theorem op_names (S : SS h x y s q) : OP d x y h q 66 112 [] := by
  obtain ⟨w, c, _, _⟩ := id S
  obtain ⟨X, c1, c2, ⟨D, r1, r2, r3⟩, _⟩ := id c
  have wr := w.1.1
  refine comb (s' := s) (r := nI (ctN (nmF s.1.2.2) s.1.1)) S (CO_same c ?_) (RO_same (fun h I A rs => ?_)) (w.mono (by omega))
  · rw [call_at mt_66 [some (.ref x), none, none] rfl rfl rfl, nd_66_0 (St_run (d + 7) mt_66)]
    exact l_names (d := d + 6) c1 r1 r2 wr (fun k hk => (r3 k hk).2) s.1.1 0 (by omega)
  · rw [call_at mt_112 [some (.ref y), none, none] rfl rfl rfl, nd_112_0 (St_run (d + 7) mt_112)]
    exact l_rnames (d := d + 6) rs.1.1 wr (fun k hk => (rs.1.2 k hk).2) s.1.1 0 (by omega)
end OPS1
