/-! ===== machines: machine, drop, turned, both ===== -/
def nTM (n k : Nat) : TM := ((n, k), ((fun j => j / 9), ((fun _ => 2), (fun _ => false))))
theorem nTM_wf {n k : Nat} (h1 : 1 ≤ n) (h6 : n ≤ 6) (h2 : k ≤ 2) : WFT (nTM n k) := ⟨h1, h6, h2, fun _ h => h, fun _ => Or.inl rfl⟩
theorem wd_out {s : SG} {q i : Nat} (w : WFS s q) (hi : s.2.1.1 ≤ i) : wdB s.2.2.1 i = false := by
  cases hb : wdB s.2.2.1 i with
  | false => rfl
  | true =>
    obtain ⟨v, hv, e⟩ := wdB_iff.mp hb
    have := (w.2.2.1.2 v hv).1
    omega
/-- a machine more -/
theorem isC.add {h h1 : AH} {x : Nat} {s : SG} {q : Nat} {T : TM} {X' : CX0} (c : isC h x s) (w : WFS s q) (hK : s.2.1.1 < 6) (t : cTop h1 x (s.2.1.1 + 1) s.2.2.1.1 (chX X')) (m : cM1 h1 (mo x s.2.1.1) T false) (pr : cPair h1 x) (p : Fs h h1 [(x, 1), (x + 12, 2), (mo x s.2.1.1, 5)]) : isC h1 x (s.1, ((s.2.1.1 + 1, setT s.2.1.2 s.2.1.1 T), s.2.2)) := by
  obtain ⟨X, c1, c2, c3, c4, c5, c6, c7, c8, c9, c10, c11, c12, c13⟩ := c
  have w2 := w.2.2.1.1
  have D : ∀ o k, 1 ≤ o → (o + k ≤ 12 ∨ 14 ≤ o) → (o + k ≤ 39 ∨ 74 ≤ o) → dj (x + o) k [(x, 1), (x + 12, 2), (mo x s.2.1.1, 5)] := fun o k ho hp hk => dj.cons (by omega) (dj.cons (by omega) (dj.cons (by unfold mo; omega) (dj.nil _ _)))
  have DM : ∀ j, j ≠ s.2.1.1 → dj (mo x j) 5 [(x, 1), (x + 12, 2), (mo x s.2.1.1, 5)] := fun j hj => dj.cons (by unfold mo; omega) (dj.cons (by unfold mo; omega) (dj.cons (by unfold mo; omega) (dj.nil _ _)))
  obtain ⟨D9, a9, b9⟩ := c9.fs p (D 36 3 (by omega) (by omega) (by omega))
  refine ⟨chX X', t, c2.fs p (D 4 3 (by omega) (by omega) (by omega)), c3.fs p (D 1 3 (by omega) (by omega) (by omega)), c4.fs p (D 7 5 (by omega) (by omega) (by omega)), pr, c6.fs p (D 14 3 (by omega) (by omega) (by omega)), c7.fs p (D 17 13 (by omega) (by omega) (by omega)), c8.fs p (D 30 6 (by omega) (by omega) (by omega)), ⟨D9, a9, Or.inl rfl⟩, ⟨fun j hj => ?_, fun j h1 h2 => ?_⟩, c11.fs p (D 74 16 (by omega) (by omega) (by omega)) w2, c12.fs p (D 90 8 (by omega) (by omega) (by omega)), Or.inl rfl⟩
  · by_cases e : j = s.2.1.1
    · show cM1 h1 (mo x j) (setT s.2.1.2 s.2.1.1 T j) (wdB s.2.2.1 j)
      rw [e, setT_at, wd_out w (Nat.le_refl _)]
      exact m
    · show cM1 h1 (mo x j) (setT s.2.1.2 s.2.1.1 T j) (wdB s.2.2.1 j)
      rw [setT_ne e]
      have hj' : j < s.2.1.1 + 1 := hj
      exact (c10.1 j (by omega)).fs p (DM j e)
  · have h1' : s.2.1.1 + 1 ≤ j := h1
    obtain ⟨M, a⟩ := c10.2 j (by omega) h2
    exact ⟨M, a.fs p (DM j (by omega))⟩
/-- the spare machine alone -/
theorem isC.spare {h h1 : AH} {x : Nat} {s : SG} {q : Nat} {M : MD} (c : isC h x s) (w : WFS s q) (m : isM h1 (mo x s.2.1.1) M) (pr : cPair h1 x) (p : Fs h h1 [(x + 12, 2), (mo x s.2.1.1, 5)]) : isC h1 x s := by
  obtain ⟨X, c1, c2, c3, c4, c5, c6, c7, c8, c9, c10, c11, c12, c13⟩ := c
  have w1 := w.2.1.1
  have w2 := w.2.2.1.1
  have D : ∀ o k, (o + k ≤ 12 ∨ 14 ≤ o) → (o + k ≤ 39 ∨ 74 ≤ o) → dj (x + o) k [(x + 12, 2), (mo x s.2.1.1, 5)] := fun o k hp hk => dj.cons (by omega) (dj.cons (by unfold mo; omega) (dj.nil _ _))
  have DM : ∀ j, j ≠ s.2.1.1 → dj (mo x j) 5 [(x + 12, 2), (mo x s.2.1.1, 5)] := fun j hj => dj.cons (by unfold mo; omega) (dj.cons (by unfold mo; omega) (dj.nil _ _))
  refine ⟨X, c1.fs p (D 0 1 (by omega) (by omega)), c2.fs p (D 4 3 (by omega) (by omega)), c3.fs p (D 1 3 (by omega) (by omega)), c4.fs p (D 7 5 (by omega) (by omega)), pr, c6.fs p (D 14 3 (by omega) (by omega)), c7.fs p (D 17 13 (by omega) (by omega)), c8.fs p (D 30 6 (by omega) (by omega)), c9.fs p (D 36 3 (by omega) (by omega)), ⟨fun j hj => (c10.1 j hj).fs p (DM j (by omega)), fun j h1 h2 => ?_⟩, c11.fs p (D 74 16 (by omega) (by omega)) w2, c12.fs p (D 90 8 (by omega) (by omega)), c13⟩
  by_cases e : j = s.2.1.1
  · rw [e]; exact ⟨M, m⟩
  · obtain ⟨M', a⟩ := c10.2 j h1 h2
    exact ⟨M', a.fs p (DM j e)⟩
theorem isC.spareM {h : AH} {x : Nat} {s : SG} {q : Nat} (c : isC h x s) (w : WFS s q) : ∃ M, isM h (mo x s.2.1.1) M := by
  obtain ⟨X, c1, c2, c3, c4, c5, c6, c7, c8, c9, c10, c11, c12, c13⟩ := c
  have w1 := w.2.1.1
  exact c10.2 s.2.1.1 (Nat.le_refl _) (by omega)
section OPS4
variable {d x y q : Nat} {h : AH} {s : SG}
theorem wfs_add {T : TM} (w : WFS s q) (hT : WFT T) (hK : s.2.1.1 < 6) : WFS (s.1, ((s.2.1.1 + 1, setT s.2.1.2 s.2.1.1 T), s.2.2)) (q + 1) := by
  have w' := w.mono (Nat.le_succ q)
  refine ⟨w'.1, ⟨by show s.2.1.1 + 1 ≤ 6; omega, fun j hj => ?_⟩, ⟨w'.2.2.1.1, fun k hk => ?_⟩, w'.2.2.2⟩
  · show WFT (setT s.2.1.2 s.2.1.1 T j)
    by_cases e : j = s.2.1.1
    · rw [e, setT_at]; exact hT
    · rw [setT_ne e]; exact w'.2.1.2 j (by dsimp only at hj; omega)
  · obtain ⟨a1, a2⟩ := w'.2.2.1.2 k hk
    refine ⟨Nat.lt_succ_of_lt a1, ?_⟩
    show PG (setT s.2.1.2 s.2.1.1 T (s.2.2.1.2 k).1) _ ∧ _
    rw [setT_ne (by omega)]
    exact a2
/-- the reference's machines when one more stands -/
theorem rs_add {I : Nat → Int32} {A A' : Nat → Nat → Int32} {T : TM} (rs : RS I A s) (iT : isT A' s.2.1.1 T) (f : frT A A' s.2.1.1) (o : ∀ k, k ∉ [4, 5, 6, 7, 8, 9, 10, 11] → A' k = A k) : RS (upd I 3 (nI (s.2.1.1 + 1))) A' (s.1, ((s.2.1.1 + 1, setT s.2.1.2 s.2.1.1 T), s.2.2)) := by
  have p : fra I (upd I 3 (nI (s.2.1.1 + 1))) A A' [3] [4, 5, 6, 7, 8, 9, 10, 11] := ⟨fun k hk => pk_un (fun e => hk (by simp [e])), o⟩
  refine ⟨rs.1.fa p (by decide) (by decide), ⟨rfl, fun j hj => ?_⟩, rs.2.2.1.fa p (by decide) (by decide), rs.2.2.2.fa p (by decide)⟩
  show isT A' j (setT s.2.1.2 s.2.1.1 T j)
  by_cases e : j = s.2.1.1
  · rw [e, setT_at]; exact iT
  · rw [setT_ne e]
    exact (rs.2.1.2 j (by dsimp only at hj; omega)).ot f e
theorem bgA_T {A A' : Nat → Nat → Int32} {t n k : Nat} (b : bgA A A' t (nI n) (nI k)) : isT A' t (nTM n k) := by
  obtain ⟨_, b4, b5, b6, b7, b8⟩ := b
  refine ⟨by rw [b4, pk_us]; rfl, by rw [b5, pk_us]; rfl, fun j hj => ?_, fun j hj => ?_, fun j hj => ?_⟩
  · rw [b7, if_pos (by omega), show 54 * t + j - 54 * t = j by omega]; rfl
  · rw [b8, if_pos (by omega)]; rfl
  · rw [b6, if_pos (by omega)]; rfl
theorem op_machine (S : SS h x y s q) (n k : Int32) : OP d x y h q 67 119 [.int n, .int k] := by
  obtain ⟨w, c, _, _⟩ := id S
  obtain ⟨X, c1, c2, _, _, c5, _, _, _, _, c10, _⟩ := id c
  have wK := w.2.1.1
  have cl0 : call (d + 8) 67 [.ref x, .int n, .int k] h = run (d + 7) mt_67 0 [some (.ref x), some (.int n), some (.int k)] [] h := call_at mt_67 [some (.ref x), some (.int n), some (.int k)] rfl rfl rfl
  have hbad : ∀ hb : (n < 1 ∨ 6 < n) ∨ (v_in k 2 = 0 ∧ (k < 0 ∨ 3 ≤ k)), OP d x y h q 67 119 [.int n, .int k] := by
    intro hb
    refine comb (s' := s) (r := -1) S (CO_same c ?_) (RO_same (fun h I A rs => ?_)) (w.mono (by omega))
    · rw [cl0, nd_67_0 (St_run (d + 7) mt_67), nd_67_20 (St_run (d + 7) mt_67)]
      by_cases h1 : n < 1
      · rw [if_pos h1]
      · rw [if_neg h1]
        by_cases h2 : 6 < n
        · rw [if_pos h2]
        · rw [if_neg h2]
          rcases hb with (hb | hb) | hb
          · exact absurd hb h1
          · exact absurd hb h2
          · by_cases h3 : k < 0
            · rw [if_pos h3]
            · rw [if_neg h3, if_neg (fun e => by
                have h4 := hb.2.resolve_left h3
                have := Int32.le_trans h4 e
                exact absurd this (by decide))]
    · exact r_machine_bad (d := d + 6) n k (hb.imp id (fun e => e.1))
  by_cases h1 : n < 1
  · exact hbad (Or.inl (Or.inl h1))
  · by_cases h2 : 6 < n
    · exact hbad (Or.inl (Or.inr h2))
    · rcases in2 k with ⟨k', k1, rfl, k3⟩ | ⟨k1, k2, k3⟩
      · have hn0 : ¬ n < 0 := fun e => h1 (Int32.lt_trans e (by decide))
        obtain ⟨n', hn', rfl⟩ := nI_of hn0
        have n1 : 1 ≤ n' := by
          by_cases e : n' = 0
          · subst e; exact absurd (by decide) h1
          · omega
        have n6 : n' ≤ 6 := by
          by_cases e : n' ≤ 6
          · exact e
          · exact absurd (nI_lt (a := 6) (by omega) hn') h2
        obtain ⟨M0, m0⟩ := c.spareM w
        obtain ⟨h1', M1, e1, e2, e3, e4⟩ := m_begin (d := d + 6) m0 (nI n') (nI k')
        have tp1 := c1.fs e4.s (dj.cons (by unfold mo; omega) (dj.nil _ _))
        have pr1 := c5.fs e4.s (dj.cons (by unfold mo; omega) (dj.nil _ _))
        have sp := C_spare (d := d + 6) c1 c2 wK
        have hk2 : nI k' ≤ 2 := nI_le (b := 2) (by omega) (by decide)
        by_cases hf : s.2.1.1 = 6
        · have tp6 : cTop h1' x 6 s.2.2.1.1 X := hf ▸ tp1
          refine comb (s' := s) (r := -3) S ⟨h1', ?_, c.spare w e2 pr1 (e4.in (mo x s.2.1.1, 5) (by simp) (Nat.le_refl _) (Nat.le_refl _)), e4.sub (by unfold mo; omega) (by unfold mo; omega)⟩ (RO_same (fun h I A rs => ?_)) (w.mono (by omega))
          · rw [cl0, nd_67_0 (St_run (d + 7) mt_67), if_neg h1, if_neg h2, if_neg (nI_pos (by omega)), if_pos hk2, c1.o, sp, bind_some', rQ_some, m0.o, e1, bind_some', rV_some, tp1.o, C_addFull (d := d + 5) tp6, bind_some', rI_some]
          · exact r_machine_full (d := d + 6) (mkR_is h y I A) (nI n') (nI k') h1 h2 k3 (by rw [rs.2.1.1, hf]; rfl)
        · obtain ⟨h2', f1, f2, f3⟩ := C_add (d := d + 5) tp1 (by omega)
          have e2' := e2.fr f3 (by unfold mo; omega)
          have p : Fs h h2' [(x, 1), (x + 12, 2), (mo x s.2.1.1, 5)] := (e4.in (mo x s.2.1.1, 5) (by simp) (Nat.le_refl _) (Nat.le_refl _)).tr (f3.in (x, 1) (by simp) (Nat.le_refl _) (Nat.le_refl _))
          refine comb (s' := (s.1, ((s.2.1.1 + 1, setT s.2.1.2 s.2.1.1 (nTM n' k')), s.2.2))) (r := nI s.2.1.1) S ⟨h2', ?_, c.add w (by omega) f2 ⟨M1, e2', ⟨by rw [e3.1]; rfl, by rw [e3.1]; rfl, e3.2.1, e3.2.2.1, fun j hj => by rw [e3.2.2.2.1 j hj]; rfl⟩, by rw [e3.1]; rfl, Or.inl ⟨by rw [e3.1], rfl⟩⟩ (pr1.fs f3.s (dj.cons (by omega) (dj.nil _ _))) p, p.fr (fun z hz => ?_)⟩ (fun h I A rs => ?_) (wfs_add w (nTM_wf n1 n6 (by omega)) (by omega))
          · rw [cl0, nd_67_0 (St_run (d + 7) mt_67), if_neg h1, if_neg h2, if_neg (nI_pos (by omega)), if_pos hk2, c1.o, sp, bind_some', rQ_some, m0.o, e1, bind_some', rV_some, tp1.o, f1, bind_some', rI_some]
          · simp only [List.mem_cons, List.not_mem_nil, or_false] at hz
            rcases hz with rfl | rfl | rfl
            · dsimp only; omega
            · dsimp only; omega
            · dsimp only; unfold mo; omega
          · obtain ⟨h3, A', g1, g2, g3, g4⟩ := r_machine (d := d + 6) (mkR_is h y I A) (nI n') (nI k') h1 h2 k3 s.2.1.1 rs.2.1.1 (by omega)
            rw [mkR_fr g2 g3] at g1
            exact ⟨_, A', g1, rs_add rs (bgA_T g4) g4.fr (fun k hk => (g4.1 k (fun e => hk (by revert e; simp; omega))).symm)⟩
      · exact hbad (Or.inr ⟨k1, k3⟩)
theorem isC.drop {h h1 : AH} {x : Nat} {s : SG} {q K : Nat} {X' : CX0} (c : isC h x s) (w : WFS s q) (hK : s.2.1.1 = K + 1) (t : cTop h1 x K s.2.2.1.1 (chX X')) (p : Fs h h1 [(x, 1)]) : isC h1 x (s.1, ((K, s.2.1.2), s.2.2)) := by
  obtain ⟨X, c1, c2, c3, c4, c5, c6, c7, c8, c9, c10, c11, c12, c13⟩ := c
  have w1 := w.2.1.1
  have w2 := w.2.2.1.1
  have D : ∀ o k, 1 ≤ o → dj (x + o) k [(x, 1)] := fun o k ho => dj.cons (by omega) (dj.nil _ _)
  obtain ⟨D9, a9, b9⟩ := c9.fs p (D 36 3 (by omega))
  have c10' := c10.fs p (D 39 35 (by omega)) (by omega)
  refine ⟨chX X', t, c2.fs p (D 4 3 (by omega)), c3.fs p (D 1 3 (by omega)), c4.fs p (D 7 5 (by omega)), c5.fs p (D 12 2 (by omega)), c6.fs p (D 14 3 (by omega)), c7.fs p (D 17 13 (by omega)), c8.fs p (D 30 6 (by omega)), ⟨D9, a9, Or.inl rfl⟩, ⟨fun j hj => c10'.1 j (by dsimp only at hj; omega), fun j h1 h2 => ?_⟩, c11.fs p (D 74 16 (by omega)) w2, c12.fs p (D 90 8 (by omega)), Or.inl rfl⟩
  by_cases e : j < s.2.1.1
  · obtain ⟨M, a, _⟩ := c10'.1 j e
    exact ⟨M, a⟩
  · exact c10'.2 j (by omega) h2
theorem op_drop (S : SS h x y s q) : OP d x y h q 72 125 [] := by
  obtain ⟨w, c, _, _⟩ := id S
  obtain ⟨X, c1, c2, _, _, c5, _, _, _, _, c10, _⟩ := id c
  have wK := w.2.1.1
  have w4 := w.2.2.1.1
  have cl0 : call (d + 8) 72 [.ref x] h = run (d + 7) mt_72 0 [some (.ref x), none] [] h := call_at mt_72 [some (.ref x), none] rfl rfl rfl
  by_cases h0 : s.2.1.1 = 0
  · have c1' : cTop h x 0 s.2.2.1.1 X := h0 ▸ c1
    refine comb (s' := s) (r := -4) S (CO_same c ?_) (RO_same (fun h I A rs => ?_)) (w.mono (by omega))
    · rw [cl0, nd_72_0 (St_run (d + 7) mt_72), c1'.g2, c1'.o, C_mNo (d := d + 6) c1' (by omega) (nI 0 - 1) (fun j hj => by omega), bind_some', rQ_null]
    · exact r_drop_none (d := d + 6) (mkR_is h y I A) (by rw [rs.2.1.1, h0]; rfl)
  · obtain ⟨K, hK⟩ : ∃ K, s.2.1.1 = K + 1 := ⟨s.2.1.1 - 1, by omega⟩
    have c1' : cTop h x (K + 1) s.2.2.1.1 X := hK ▸ c1
    obtain ⟨M, m1, m2, m3, m4⟩ := c10.1 K (by omega)
    have ma := C_mAt (d := d + 6) c1' c2 (by omega) K (by omega)
    cases hwd : wdB s.2.2.1 K with
    | true =>
      rw [hwd] at m3
      refine comb (s' := s) (r := -2) S (CO_same c ?_) (RO_same (fun h I A rs => ?_)) (w.mono (by omega))
      · rw [cl0, nd_72_0 (St_run (d + 7) mt_72), c1'.g2, nI_pred, c1'.o, ma, bind_some', rQ_some, m1.g5, m3, if_neg (by decide)]
      · obtain ⟨v, hv, e⟩ := wdB_iff.mp hwd
        rcases r_drop (d := d + 6) (mkR_is h y I A) K (by rw [rs.2.1.1, hK]) (by omega) s.2.2.1.1 rs.2.2.1.1 w4 with ⟨_, e2⟩ | ⟨e1, _⟩
        · exact e2
        · exact absurd ⟨v, hv, by rw [(rs.2.2.1.2 v hv).1, e]⟩ e1
    | false =>
      rw [hwd] at m3
      have tp := cTop.mk h x K s.2.2.1.1 X
      have fr1 := cTop.fr1 h x K s.2.2.1.1 X
      obtain ⟨h2, f1, f2, f3⟩ := C_changed (d := d + 6) tp
      have p := fr1.tr f3
      refine comb (s' := (s.1, ((K, s.2.1.2), s.2.2))) (r := nI K) S ⟨h2, ?_, c.drop w hK f2 p.s, p.sub (by omega) (by omega)⟩ (fun h I A rs => ?_) ?_
      · rw [cl0, nd_72_0 (St_run (d + 7) mt_72), c1'.g2, nI_pred, c1'.o, ma, bind_some', rQ_some, m1.g5, m3, if_pos (by rfl), c1'.g2, nI_pred, c1'.p2, tp.o, f1, bind_some', rV_some, f2.g2]
      · rcases r_drop (d := d + 6) (mkR_is h y I A) K (by rw [rs.2.1.1, hK]) (by omega) s.2.2.1.1 rs.2.2.1.1 w4 with ⟨⟨v, hv, e⟩, _⟩ | ⟨_, h3, g1, g2, g3⟩
        · exfalso
          have := (w.2.2.1.2 v hv).1
          rw [(rs.2.2.1.2 v hv).1, nI_eq (by omega) (by omega)] at e
          have := wdB_iff.mpr ⟨v, hv, e⟩
          rw [hwd] at this
          cases this
        · rw [mkR_fr g2 g3] at g1
          have pf : fra I (upd I 3 (nI K)) A A [3] [] := (fra.rf _ _ _ _).u _ (by decide)
          exact ⟨_, _, g1, rs.1.fa pf (by decide) (by decide), ⟨rfl, fun j hj => rs.2.1.2 j (by dsimp only at hj; omega)⟩, rs.2.2.1.fa pf (by decide) (by decide), rs.2.2.2⟩
      · have w' := w.mono (Nat.le_succ q)
        refine ⟨w'.1, ⟨by show K ≤ 6; omega, fun j hj => w'.2.1.2 j (by dsimp only at hj; omega)⟩, ⟨w'.2.2.1.1, fun k hk => ?_⟩, w'.2.2.2⟩
        obtain ⟨a1, a2⟩ := w'.2.2.1.2 k hk
        refine ⟨?_, a2⟩
        show (s.2.2.1.2 k).1 < K
        have hne : (s.2.2.1.2 k).1 ≠ K := fun e => by
          have := wdB_iff.mpr ⟨k, hk, e⟩
          rw [hwd] at this
          cases this
        omega
theorem op_turned (S : SS h x y s q) (m : Int32) : OP d x y h q 73 126 [.int m] := by
  obtain ⟨w, c, _, _⟩ := id S
  obtain ⟨X, c1, c2, _, _, c5, _, _, _, _, c10, _⟩ := id c
  have wK := w.2.1.1
  have cl0 : call (d + 8) 73 [.ref x, .int m] h = run (d + 7) mt_73 0 [some (.ref x), some (.int m), none] [] h := call_at mt_73 [some (.ref x), some (.int m), none] rfl rfl rfl
  rcases mach_cases w m with ⟨i, i1, rfl, i3⟩ | ⟨i1, i2⟩
  · have hT := w.2.1.2 i i1
    obtain ⟨M, m1, m2, m3, m4⟩ := c10.1 i i1
    have ma := C_mAt (d := d + 6) c1 c2 wK i i1
    have sp := C_spare (d := d + 6) c1 c2 wK
    obtain ⟨M0, m0⟩ := c.spareM w
    obtain ⟨h1, M1, e1, e2, e3, e4, e5, e6⟩ := C_turnFrom (d := d + 5) hT m2 (by unfold mo; omega) m0 m1
    have tp1 := c1.fs e6.s (dj.cons (by unfold mo; omega) (dj.nil _ _))
    have pr1 := c5.fs e6.s (dj.cons (by unfold mo; omega) (dj.nil _ _))
    by_cases hf : s.2.1.1 = 6
    · have tp6 : cTop h1 x 6 s.2.2.1.1 X := hf ▸ tp1
      refine comb (s' := s) (r := -3) S ⟨h1, ?_, c.spare w e2 pr1 (e6.in (mo x s.2.1.1, 5) (by simp) (Nat.le_refl _) (Nat.le_refl _)), e6.sub (by unfold mo; omega) (by unfold mo; omega)⟩ (RO_same (fun h I A rs => ?_)) (w.mono (by omega))
      · rw [cl0, nd_73_0 (St_run (d + 7) mt_73), c1.o, ma, bind_some', rQ_some, c1.o, sp, bind_some', rQ_some, m0.o, e1, bind_some', rV_some, tp1.o, C_addFull (d := d + 5) tp6, bind_some', rI_some]
      · have v3 : v_in (nI i) (I 3 - 1) = 1 := by rw [rs.2.1.1]; exact i3
        rw [call_at mt_126 [some (.ref y), some (.int (nI i)), none, none] rfl rfl rfl, nd_126_0 (St_run (d + 7) mt_126), mkR_o, R_isMachine (d := d + 5), v3, bind_some', rI_some, if_neg (by decide), mkR_g3, if_pos (by rw [rs.2.1.1, hf]; rfl)]
    · obtain ⟨h2', f1, f2, f3⟩ := C_add (d := d + 5) tp1 (by omega)
      have e2' := e2.fr f3 (by unfold mo; omega)
      have p : Fs h h2' [(x, 1), (x + 12, 2), (mo x s.2.1.1, 5)] := (e6.in (mo x s.2.1.1, 5) (by simp) (Nat.le_refl _) (Nat.le_refl _)).tr (f3.in (x, 1) (by simp) (Nat.le_refl _) (Nat.le_refl _))
      refine comb (s' := (s.1, ((s.2.1.1 + 1, setT s.2.1.2 s.2.1.1 (tTM (s.2.1.2 i))), s.2.2))) (r := nI s.2.1.1) S ⟨h2', ?_, c.add w (by omega) f2 ⟨M1, e2', e3, e4, Or.inl ⟨e5, rfl⟩⟩ (pr1.fs f3.s (dj.cons (by omega) (dj.nil _ _))) p, p.fr (fun z hz => ?_)⟩ (fun h I A rs => ?_) (wfs_add w (tTM_wf hT) (by omega))
      · rw [cl0, nd_73_0 (St_run (d + 7) mt_73), c1.o, ma, bind_some', rQ_some, c1.o, sp, bind_some', rQ_some, m0.o, e1, bind_some', rV_some, tp1.o, f1, bind_some', rI_some]
      · simp only [List.mem_cons, List.not_mem_nil, or_false] at hz
        rcases hz with rfl | rfl | rfl
        · dsimp only; omega
        · dsimp only; omega
        · dsimp only; unfold mo; omega
      · obtain ⟨A', g1, g2, g3, g4⟩ := R_turned (d := d + 5) (a := y) (h := h) hT i1 (by omega) rs.2.1.1 (rs.2.1.2 i i1)
        exact ⟨_, A', g1, rs_add rs g2 g3 (fun k hk => g4 k (fun e => hk (by revert e; simp; omega)))⟩
  · refine comb (s' := s) (r := -1) S (CO_same c ?_) (RO_same (fun h I A rs => ?_)) (w.mono (by omega))
    · rw [cl0, nd_73_0 (St_run (d + 7) mt_73), c1.o, C_mNo (d := d + 6) c1 wK m i2, bind_some', rQ_null]
    · have v3 : v_in m (I 3 - 1) = 0 := by rw [rs.2.1.1]; exact i1
      rw [call_at mt_126 [some (.ref y), some (.int m), none, none] rfl rfl rfl, nd_126_0 (St_run (d + 7) mt_126), mkR_o, R_isMachine (d := d + 5), v3, bind_some', rI_some, if_pos rfl]
theorem op_both (S : SS h x y s q) (a b wy_ : Int32) : OP d x y h q 74 128 [.int a, .int b, .int wy_] := by
  obtain ⟨w, c, _, _⟩ := id S
  obtain ⟨X, c1, c2, _, _, c5, _, _, _, _, c10, _⟩ := id c
  have wK := w.2.1.1
  have cl0 : call (d + 8) 74 [.ref x, .int a, .int b, .int wy_] h = run (d + 7) mt_74 0 [some (.ref x), some (.int a), some (.int b), some (.int wy_), none, none] [] h := call_at mt_74 [some (.ref x), some (.int a), some (.int b), some (.int wy_), none, none] rfl rfl rfl
  have rl0 : ∀ (h : AH) I A, call (d + 8) 128 [.ref y, .int a, .int b, .int wy_] (mkR h y I A) = run (d + 7) mt_128 0 [some (.ref y), some (.int a), some (.int b), some (.int wy_), none, none, none, none, none, none, none, none, none] [] (mkR h y I A) := fun h I A => call_at mt_128 [some (.ref y), some (.int a), some (.int b), some (.int wy_), none, none, none, none, none, none, none, none, none] rfl rfl rfl
  rcases mach_cases w a with ⟨i, i1, rfl, i3⟩ | ⟨i1, i2⟩
  · have ma := C_mAt (d := d + 6) c1 c2 wK i i1
    rcases mach_cases w b with ⟨j, j1, rfl, j3⟩ | ⟨j1, j2⟩
    · have mb := C_mAt (d := d + 6) c1 c2 wK j j1
      have hT := w.2.1.2 i i1
      have hU := w.2.1.2 j j1
      obtain ⟨MA, a1, a2, a3, a4⟩ := c10.1 i i1
      obtain ⟨MB, b1, b2, b3, b4⟩ := c10.1 j j1
      have rT := hT.2.2.1
      have rU := hU.2.2.1
      rcases in2 wy_ with ⟨k, k1, rfl, k3⟩ | ⟨k1, k2, k3⟩
      · have hk0 : ¬ nI k < 0 := nI_pos (by omega)
        have hk2 : nI k ≤ 2 := nI_le (b := 2) (by omega) (by decide)
        by_cases hrr : (s.2.1.2 i).1.2 = 0 ∨ (s.2.1.2 j).1.2 = 0
        · obtain ⟨M0, m0⟩ := c.spareM w
          obtain ⟨Dp, dp⟩ := c5
          have sp := C_spare (d := d + 6) c1 c2 wK
          obtain ⟨J1, J2⟩ := C_join (d := d + 4) (pa := x + 12) (mm := mo x s.2.1.1) (ba := mo x i) (bb := mo x j) hT hU a2 b2 hrr (dj.cons (by unfold mo; omega) (dj.cons (by unfold mo; omega) (dj.nil _ _))) (dj.cons (by unfold mo; omega) (dj.cons (by unfold mo; omega) (dj.nil _ _))) (by unfold mo; omega) k k1 dp m0 a1 b1
          have e54 : run (d + 7) mt_74 0 [some (.ref x), some (.int (nI i)), some (.int (nI j)), some (.int (nI k)), none, none] [] h = run (d + 7) mt_74 54 [some (.ref x), none, none, some (.int (nI k)), some (.ref (mo x i)), some (.ref (mo x j))] [] h := by
            rw [nd_74_0 (St_run (d + 7) mt_74), c1.o, ma, bind_some', rQ_some, c1.o, mb, bind_some', rQ_some, if_neg hk0, if_pos hk2, a1.g4, a2.2.1, b1.g4, b2.2.1]
            by_cases z : (s.2.1.2 i).1.2 = 0
            · rw [z, if_pos (by decide)]
            · rw [if_neg (nI_nle (by omega) (by omega)), hrr.resolve_left z, if_pos (by decide)]
          cases hJ : jall (s.2.1.2 i) (s.2.1.2 j) 7 0 J0 with
          | none =>
            obtain ⟨h1, D1, M1, e1, e2, e3, e4⟩ := J2 hJ
            refine comb (s' := s) (r := -2) S ⟨h1, ?_, c.spare w e3 ⟨D1, e2⟩ e4, e4.fr (fun z hz => ?_)⟩ (RO_scr (fun h I A rs => ?_)) (w.mono (by omega))
            · rw [cl0, e54, nd_74_54 (St_run (d + 7) mt_74), c1.g7, c1.o, sp, bind_some', rQ_some, dp.o, e1, bind_some', rI_some, if_pos rfl, nd_74_82 (St_run (d + 7) mt_74)]
            · simp only [List.mem_cons, List.not_mem_nil, or_false] at hz
              rcases hz with rfl | rfl
              · dsimp only; omega
              · dsimp only; unfold mo; omega
            · obtain ⟨A', g1, g2⟩ := (R_both (d := d + 5) (a := y) (h := h) hT hU hrr k1 wK i1 j1 rs.2.1.1 (rs.2.1.2 i i1) (rs.2.1.2 j j1)).1 hJ
              exact ⟨_, A', g1, g2.sub (by decide) (by decide)⟩
          | some K =>
            obtain ⟨h1, D1, M1, e1, e2, e3, e4, e5, e6, e7⟩ := J1 K hJ
            have gK := jall_ok hT hU 7 0 J0 K rfl (J0_JI hT hU) (Nat.zero_le _) hJ
            have tp1 := c1.fs e7 (dj.cons (by omega) (dj.cons (by unfold mo; omega) (dj.nil _ _)))
            by_cases hf : s.2.1.1 = 6
            · have tp6 : cTop h1 x 6 s.2.2.1.1 X := hf ▸ tp1
              refine comb (s' := s) (r := -3) S ⟨h1, ?_, c.spare w e3 ⟨D1, e2⟩ e7, e7.fr (fun z hz => ?_)⟩ (RO_scr (fun h I A rs => ?_)) (w.mono (by omega))
              · rw [cl0, e54, nd_74_54 (St_run (d + 7) mt_74), c1.g7, c1.o, sp, bind_some', rQ_some, dp.o, e1, bind_some', rI_some, if_neg (by decide), tp1.o, C_addFull (d := d + 5) tp6, bind_some', rI_some, nd_74_82 (St_run (d + 7) mt_74)]
              · simp only [List.mem_cons, List.not_mem_nil, or_false] at hz
                rcases hz with rfl | rfl
                · dsimp only; omega
                · dsimp only; unfold mo; omega
              · obtain ⟨A', g1, g2⟩ := ((R_both (d := d + 5) (a := y) (h := h) hT hU hrr k1 wK i1 j1 rs.2.1.1 (rs.2.1.2 i i1) (rs.2.1.2 j j1)).2 K hJ).1 hf
                exact ⟨_, A', g1, g2.sub (by decide) (by decide)⟩
            · obtain ⟨h2', f1, f2, f3⟩ := C_add (d := d + 5) tp1 (by omega)
              have e3' := e3.fr f3 (by unfold mo; omega)
              have p : Fs h h2' [(x, 1), (x + 12, 2), (mo x s.2.1.1, 5)] := (e7.sub (fun z hz => ⟨z, List.mem_cons_of_mem _ hz, Nat.le_refl _, Nat.le_refl _⟩)).tr (f3.in (x, 1) (by simp) (Nat.le_refl _) (Nat.le_refl _))
              refine comb (s' := (s.1, ((s.2.1.1 + 1, setT s.2.1.2 s.2.1.1 (jTM (s.2.1.2 i) (s.2.1.2 j) k K)), s.2.2))) (r := nI s.2.1.1) S ⟨h2', ?_, c.add w (by omega) f2 ⟨M1, e3', e4, e5, Or.inl ⟨e6, rfl⟩⟩ ⟨D1, e2.fr f3 (by omega)⟩ p, p.fr (fun z hz => ?_)⟩ (fun h I A rs => ?_) (wfs_add w (jTM_wf hT hU gK) (by omega))
              · rw [cl0, e54, nd_74_54 (St_run (d + 7) mt_74), c1.g7, c1.o, sp, bind_some', rQ_some, dp.o, e1, bind_some', rI_some, if_neg (by decide), tp1.o, f1, bind_some', rI_some, nd_74_82 (St_run (d + 7) mt_74)]
              · simp only [List.mem_cons, List.not_mem_nil, or_false] at hz
                rcases hz with rfl | rfl | rfl
                · dsimp only; omega
                · dsimp only; omega
                · dsimp only; unfold mo; omega
              · obtain ⟨A', g1, g2, g3, g4⟩ := ((R_both (d := d + 5) (a := y) (h := h) hT hU hrr k1 wK i1 j1 rs.2.1.1 (rs.2.1.2 i i1) (rs.2.1.2 j j1)).2 K hJ).2 (by omega)
                exact ⟨_, A', g1, rs_add rs g2 g3 g4⟩
        · have zi : 0 < (s.2.1.2 i).1.2 := by omega
          have zj : 0 < (s.2.1.2 j).1.2 := by omega
          refine comb (s' := s) (r := -2) S (CO_same c ?_) (RO_same (fun h I A rs => ?_)) (w.mono (by omega))
          · rw [cl0, nd_74_0 (St_run (d + 7) mt_74), c1.o, ma, bind_some', rQ_some, c1.o, mb, bind_some', rQ_some, if_neg hk0, if_pos hk2, a1.g4, a2.2.1, b1.g4, b2.2.1, if_neg (nI_nle zi (by omega)), if_neg (nI_nle zj (by omega))]
          · have v3 : v_in (nI i) (I 3 - 1) = 1 := by rw [rs.2.1.1]; exact i3
            have v4 : v_in (nI j) (I 3 - 1) = 1 := by rw [rs.2.1.1]; exact j3
            rw [rl0, nd_128_0 (St_run (d + 7) mt_128), mkR_o, R_isMachine (d := d + 5), v3, bind_some', rI_some, if_neg (by decide), mkR_o, R_isMachine (d := d + 5), v4, bind_some', rI_some, if_neg (by decide), show (2 : Int64) = (2 : Int32).toInt64 from by decide, m_in0, k3, bind_some', rI_some, if_neg (by decide), mkR_g5, mkR_l5 _ _ _ _ (by omega), (rs.2.1.2 i i1).2.1, if_neg (nI_nle zi (by omega)), mkR_g5, mkR_l5 _ _ _ _ (by omega), (rs.2.1.2 j j1).2.1, if_neg (nI_nle zj (by omega))]
      · refine comb (s' := s) (r := -1) S (CO_same c ?_) (RO_same (fun h I A rs => ?_)) (w.mono (by omega))
        · rw [cl0, nd_74_0 (St_run (d + 7) mt_74), c1.o, ma, bind_some', rQ_some, c1.o, mb, bind_some', rQ_some, nd_74_33 (St_run (d + 7) mt_74)]
          by_cases h0 : wy_ < 0
          · rw [if_pos h0]
          · rw [if_neg h0, if_neg (fun e => by
              have h2 := k3.resolve_left h0
              have := Int32.le_trans h2 e
              exact absurd this (by decide))]
        · have v3 : v_in (nI i) (I 3 - 1) = 1 := by rw [rs.2.1.1]; exact i3
          have v4 : v_in (nI j) (I 3 - 1) = 1 := by rw [rs.2.1.1]; exact j3
          rw [rl0, nd_128_0 (St_run (d + 7) mt_128), mkR_o, R_isMachine (d := d + 5), v3, bind_some', rI_some, if_neg (by decide), mkR_o, R_isMachine (d := d + 5), v4, bind_some', rI_some, if_neg (by decide), show (2 : Int64) = (2 : Int32).toInt64 from by decide, m_in0, k1, bind_some', rI_some, if_pos rfl, nd_128_28 (St_run (d + 7) mt_128)]
    · refine comb (s' := s) (r := -1) S (CO_same c ?_) (RO_same (fun h I A rs => ?_)) (w.mono (by omega))
      · rw [cl0, nd_74_0 (St_run (d + 7) mt_74), c1.o, ma, bind_some', rQ_some, c1.o, C_mNo (d := d + 6) c1 wK b j2, bind_some', rQ_null, nd_74_33 (St_run (d + 7) mt_74)]
      · have v3 : v_in (nI i) (I 3 - 1) = 1 := by rw [rs.2.1.1]; exact i3
        have v4 : v_in b (I 3 - 1) = 0 := by rw [rs.2.1.1]; exact j1
        rw [rl0, nd_128_0 (St_run (d + 7) mt_128), mkR_o, R_isMachine (d := d + 5), v3, bind_some', rI_some, if_neg (by decide), mkR_o, R_isMachine (d := d + 5), v4, bind_some', rI_some, if_pos rfl, nd_128_28 (St_run (d + 7) mt_128)]
  · have hn : ∃ v, call (d + 7) 75 [.ref x, .int b] h = some (some v, h) ∧ (v = .null ∨ ∃ r, v = .ref r) := by
      rcases mach_cases w b with ⟨j, j1, rfl, j3⟩ | ⟨j1, j2⟩
      · exact ⟨_, C_mAt (d := d + 6) c1 c2 wK j j1, Or.inr ⟨_, rfl⟩⟩
      · exact ⟨_, C_mNo (d := d + 6) c1 wK b j2, Or.inl rfl⟩
    obtain ⟨v, hv, hv2⟩ := hn
    refine comb (s' := s) (r := -1) S (CO_same c ?_) (RO_same (fun h I A rs => ?_)) (w.mono (by omega))
    · rw [cl0, nd_74_0 (St_run (d + 7) mt_74), c1.o, C_mNo (d := d + 6) c1 wK a i2, bind_some', rQ_null, c1.o, hv, bind_some']
      rcases hv2 with rfl | ⟨r, rfl⟩
      · rw [rQ_null, nd_74_33 (St_run (d + 7) mt_74)]
      · rw [rQ_some, nd_74_33 (St_run (d + 7) mt_74)]
    · have v3 : v_in a (I 3 - 1) = 0 := by rw [rs.2.1.1]; exact i1
      rw [rl0, nd_128_0 (St_run (d + 7) mt_128), mkR_o, R_isMachine (d := d + 5), v3, bind_some', rI_some, if_pos rfl, nd_128_28 (St_run (d + 7) mt_128)]
end OPS4
