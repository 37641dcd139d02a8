/-! ===== count, on both sides ===== -/
def dnB (w : Nat × (Nat → WS)) (j : Nat) : Bool := (w.2 j).2.2.2.2.isSome
/-- the reference: machine k is like one of the first j -/
def rkB (m : Nat → TM) (k j : Nat) : Bool := memN (fun i => (wF (m k) (m i)).elim 1 (fun _ => 0)) 1 j
theorem rkB_s (m : Nat → TM) (k j : Nat) : rkB m k (j + 1) = (rkB m k j || (wF (m k) (m j)).elim 1 (fun _ => 0) == 1) := rfl
theorem rkB_iff {m : Nat → TM} {k j : Nat} : rkB m k j = true ↔ ∃ i, i < j ∧ wF (m k) (m i) = none := by
  unfold rkB
  rw [memN_iff]
  constructor
  · rintro ⟨i, hi, e⟩
    refine ⟨i, hi, ?_⟩
    cases hw : wF (m k) (m i) with
    | none => rfl
    | some z => rw [hw] at e; exact absurd (show (0 : Nat) = 1 from e) (by decide)
  · rintro ⟨i, hi, e⟩
    exact ⟨i, hi, by rw [e]; rfl⟩
section OPS10
variable {d x y q : Nat} {h : AH} {s : SG}
theorem rk_lk (w : WFS s q) {k : Nat} (hk : k < s.2.1.1) : rkB s.2.1.2 k k = lkB s.2.1.2 k := by
  have e : rkB s.2.1.2 k k = true ↔ lkB s.2.1.2 k = true := by
    rw [rkB_iff, lkB_iff]
    constructor
    · rintro ⟨i, hi, e⟩
      exact ⟨i, hi, wF_sym (w.2.1.2 k hk) (w.2.1.2 i (by omega)) e⟩
    · rintro ⟨i, hi, e⟩
      exact ⟨i, hi, wF_sym (w.2.1.2 i (by omega)) (w.2.1.2 k hk) e⟩
  cases ha : rkB s.2.1.2 k k with
  | true => exact (e.mp ha).symm
  | false =>
    cases hb : lkB s.2.1.2 k with
    | true => exact (ha.symm.trans (e.mpr hb))
    | false => rfl
theorem l_done (c : isC h x s) (w : WFS s q) (hq : q < 2 ^ 30) : ∀ (m j : Nat), j + m = s.2.2.1.1 → run (d + 2) mt_103 4 [some (.ref x), some (.int (nI (ctN (dnB s.2.2.1) j))), some (.int (nI j))] [] h = some (some (.int (nI (ctN (dnB s.2.2.1) s.2.2.1.1))), h) := by
  obtain ⟨X, c1, ⟨_, ⟨g, a1, a2⟩, _⟩, _, _, _, _, _, _, _, _, c11, _⟩ := id c
  have wW := w.2.2.1.1
  intro m
  induction m with
  | zero =>
    intro j hj
    rw [nd_103_4 (St_run (d + 2) mt_103), c1.g4, if_pos (nI_le (by omega) (by omega)), show j = s.2.2.1.1 by omega]
  | succ m ih =>
    intro j hj
    have e := ih (j + 1) (by omega)
    obtain ⟨D, b1, b2, b3⟩ := c11.1 j (by omega)
    obtain ⟨w1, w2, w3, w4, w5⟩ := w.2.2.1.2 j (by omega)
    have q0 : isWo h (wo x j) _ _ _ := b1
    have dn := C_isDone (d := d + 1) q0 (fun e he => by have := w5 e he; omega)
    rw [nd_103_4 (St_run (d + 2) mt_103), c1.g4, if_neg (nI_ge (by omega) (by omega)), c1.g3, ldQ_of a1 rfl (show j < 4 by omega) (by decide) (a2 j (by omega)), q0.o, dn, bind_some', rI_some, nd_103_27 (St_run (d + 2) mt_103), nd_103_27 (St_run (d + 2) mt_103), nI_1, nI_1]
    cases hb : (s.2.2.1.2 j).2.2.2.2.isSome with
    | true =>
      rw [ctN_t (n := j) (show dnB s.2.2.1 j = true from hb)] at e
      rw [if_neg (show ¬ bI true = 0 by decide)]
      exact e
    | false =>
      rw [ctN_f (n := j) (show dnB s.2.2.1 j = false from hb)] at e
      rw [if_pos (show bI false = 0 from rfl)]
      exact e
theorem l_rdone {I : Nat → Int32} {A : Nat → Nat → Int32} (w : WFS s q) (hq : q < 2 ^ 30) (rs : RS I A s) : ∀ (m j : Nat), j + m = s.2.2.1.1 → run d mt_168 9 [some (.ref y), none, some (.int (nI (ctN (dnB s.2.2.1) j))), some (.int (nI j)), none, none] [] (mkR h y I A) = some (some (.int (nI (ctN (dnB s.2.2.1) s.2.2.1.1))), mkR h y I A) := by
  have wW := w.2.2.1.1
  intro m
  induction m with
  | zero =>
    intro j hj
    rw [nd_168_9 (St_run d mt_168), mkR_g31, rs.2.2.1.1, if_pos (nI_le (by omega) (by omega)), show j = s.2.2.1.1 by omega]
  | succ m ih =>
    intro j hj
    have e := ih (j + 1) (by omega)
    obtain ⟨b1, b2, b3, b4, b5, b6, b7⟩ := rs.2.2.1.2 j (by omega)
    obtain ⟨w1, w2, w3, w4, w5⟩ := w.2.2.1.2 j (by omega)
    rw [nd_168_9 (St_run d mt_168), mkR_g31, rs.2.2.1.1, if_neg (nI_ge (by omega) (by omega)), mkR_g38, mkR_l38 _ _ _ _ (by omega), b7, nd_168_34 (St_run d mt_168), nd_168_34 (St_run d mt_168), nI_1, nI_1]
    cases ho : (s.2.2.1.2 j).2.2.2.2 with
    | some z =>
      have hz := w5 z ho
      rw [ctN_t (n := j) (show dnB s.2.2.1 j = true by unfold dnB; rw [ho]; rfl)] at e
      rw [if_neg (oI_ne (by omega))]
      exact e
    | none =>
      rw [ctN_f (n := j) (show dnB s.2.2.1 j = false by unfold dnB; rw [ho]; rfl)] at e
      rw [if_pos (show oI none = -4 from rfl), show nI (ctN (dnB s.2.2.1) j) + 0 = nI (ctN (dnB s.2.2.1) j) from Int32.add_zero _]
      exact e
theorem l_rlike {x2 : Int32} (w : WFS s q) (k : Nat) (hk : k < s.2.1.1) : ∀ (m j : Nat) (I : Nat → Int32) (A : Nat → Nat → Int32), j + m = k → RS I A s → ∃ I' A', run (d + 5) mt_168 67 [some (.ref y), none, some (.int x2), some (.int (nI k)), some (.int (bI (!rkB s.2.1.2 k j))), some (.int (nI j))] [] (mkR h y I A) = run (d + 5) mt_168 53 [some (.ref y), none, some (.int (x2 + bI (!rkB s.2.1.2 k k))), some (.int (nI (k + 1))), none, none] [] (mkR h y I' A') ∧ fra I I' A A' [22, 23, 24] [17, 19, 20, 21, 25, 26] := by
  have wK := w.2.1.1
  intro m
  induction m with
  | zero =>
    intro j I A hj rs
    have : j = k := by omega
    subst this
    refine ⟨I, A, ?_, fra.rf _ _ _ _⟩
    rw [nd_168_67 (St_run (d + 5) mt_168), if_pos (nI_le (Nat.le_refl _) (by omega)), nd_168_114 (St_run (d + 5) mt_168), nd_168_114 (St_run (d + 5) mt_168), nI_1]
    cases rkB s.2.1.2 j j <;> rfl
  | succ m ih =>
    intro j I A hj rs
    rw [nd_168_67 (St_run (d + 5) mt_168), if_neg (nI_ge (by omega) (by omega))]
    cases hb : rkB s.2.1.2 k j with
    | true =>
      obtain ⟨I1, A1, e1, e2⟩ := ih (j + 1) I A (by omega) rs
      rw [rkB_s, hb, Bool.true_or] at e1
      refine ⟨I1, A1, ?_, e2⟩
      rw [if_pos (show bI (!true) = 0 from rfl), nd_168_94 (St_run (d + 5) mt_168), nd_168_95 (St_run (d + 5) mt_168), nI_1]
      exact e1
    | false =>
      have hT := w.2.1.2 k hk
      have hU := w.2.1.2 j (by omega)
      obtain ⟨I1, A1, f1, f2, f3⟩ := R_wanted (d := d) (a := y) (h := h) (I := I) hT (show k < 6 by omega) hU (rs.2.1.2 k hk) (Or.inl ⟨j, by omega, rfl, rs.2.1.2 j (by omega)⟩)
      obtain ⟨I2, A2, e1, e2⟩ := ih (j + 1) I1 A1 (by omega) (rs.fa f3 (by decide) (by decide))
      rw [rkB_s, hb, Bool.false_or] at e1
      refine ⟨I2, A2, ?_, f3.tr e2⟩
      rw [if_neg (show ¬ bI (!false) = 0 by decide), mkR_o, f1, bind_some', rI_some, nd_168_94 (St_run (d + 5) mt_168), nd_168_95 (St_run (d + 5) mt_168), nd_168_95 (St_run (d + 5) mt_168), nI_1]
      cases hw : wF (s.2.1.2 k) (s.2.1.2 j) with
      | none =>
        rw [hw] at e1
        rw [if_pos (show oI none = -4 from rfl)]
        exact e1
      | some z =>
        have := GB_most hT hU (bF_GB hT hU)
        have := wF_lt hw
        rw [hw] at e1
        rw [if_neg (oI_ne (by omega))]
        exact e1
theorem l_runl (w : WFS s q) : ∀ (m k : Nat) (I : Nat → Int32) (A : Nat → Nat → Int32), k + m = s.2.1.1 → RS I A s → ∃ I' A', run (d + 5) mt_168 53 [some (.ref y), none, some (.int (nI (ctN (fun k => !lkB s.2.1.2 k) k))), some (.int (nI k)), none, none] [] (mkR h y I A) = some (some (.int (nI (unF s.2.1))), mkR h y I' A') ∧ fra I I' A A' [22, 23, 24] [17, 19, 20, 21, 25, 26] := by
  have wK := w.2.1.1
  intro m
  induction m with
  | zero =>
    intro k I A hk rs
    have hk' : k = s.2.1.1 := by omega
    refine ⟨I, A, ?_, fra.rf _ _ _ _⟩
    rw [nd_168_53 (St_run (d + 5) mt_168), mkR_g3, rs.2.1.1, if_pos (nI_le (by omega) (by omega)), hk']
    rfl
  | succ m ih =>
    intro k I A hk rs
    obtain ⟨I1, A1, e1, e2⟩ := l_rlike (d := d) (y := y) (h := h) (x2 := nI (ctN (fun k => !lkB s.2.1.2 k) k)) w k (by omega) k 0 I A (by omega) rs
    obtain ⟨I2, A2, f1, f2⟩ := ih (k + 1) I1 A1 (by omega) (rs.fa e2 (by decide) (by decide))
    refine ⟨I2, A2, ?_, e2.tr f2⟩
    rw [nd_168_53 (St_run (d + 5) mt_168), mkR_g3, rs.2.1.1, if_neg (nI_ge (by omega) (by omega))]
    refine Eq.trans e1 ?_
    rw [rk_lk w (by omega)]
    cases hb : lkB s.2.1.2 k with
    | true =>
      rw [ctN_f (n := k) (by rw [hb]; rfl)] at f1
      rw [show nI (ctN (fun k => !lkB s.2.1.2 k) k) + bI (!true) = nI (ctN (fun k => !lkB s.2.1.2 k) k) from Int32.add_zero _]
      exact f1
    | false =>
      rw [ctN_t (n := k) (by rw [hb]; rfl)] at f1
      rw [show nI (ctN (fun k => !lkB s.2.1.2 k) k) + bI (!false) = nI (ctN (fun k => !lkB s.2.1.2 k) k + 1) from nI_1 _]
      exact f1
theorem op_count (S : SS h x y s q) (hq : q < 2 ^ 30) (k : Int32) : OP d x y h q 102 168 [.int k] := by
  obtain ⟨w, c, _, _⟩ := id S
  obtain ⟨X, c1, _, ⟨R, r1, r2, r3⟩, _, _, _, _, _, _, _, _, _, c13⟩ := id c
  have cl0 : call (d + 8) 102 [.ref x, .int k] h = run (d + 7) mt_102 0 [some (.ref x), some (.int k)] [] h := call_at mt_102 [some (.ref x), some (.int k)] rfl rfl rfl
  have rl0 : ∀ (h : AH) I A, call (d + 8) 168 [.ref y, .int k] (mkR h y I A) = run (d + 7) mt_168 0 [some (.ref y), some (.int k), none, none, none, none] [] (mkR h y I A) := fun h I A => call_at mt_168 [some (.ref y), some (.int k), none, none, none, none] rfl rfl rfl
  rcases inC k 5 (by decide) with ⟨j, j1, rfl, _⟩ | ⟨_, j2, _⟩
  · have z0 : ((nI j).toInt = 0) = (j = 0) := ti_eq (k := 0) (by omega)
    have z1 : ((nI j).toInt = 1) = (j = 1) := ti_eq (k := 1) (by omega)
    have z2 : ((nI j).toInt = 2) = (j = 2) := ti_eq (k := 2) (by omega)
    have z3 : ((nI j).toInt = 3) = (j = 3) := ti_eq (k := 3) (by omega)
    have z4 : ((nI j).toInt = 4) = (j = 4) := ti_eq (k := 4) (by omega)
    rw [nd_102_0 (St_run (d + 7) mt_102)] at cl0
    simp only [z0, z1, z2, z3, z4] at cl0
    rcases (show j = 0 ∨ j = 1 ∨ j = 2 ∨ j = 3 ∨ j = 4 by omega) with rfl | rfl | rfl | rfl | rfl
    · refine comb (s' := s) (r := nI s.1.1) S (CO_same c ?_) (RO_same (fun h I A rs => ?_)) (w.mono (by omega))
      · rw [cl0, if_pos rfl, c1.g0, r1.g2, r2]
      · rw [rl0, nd_168_0 (St_run (d + 7) mt_168), if_neg (show ¬ nI 0 = 3 by decide), if_neg (show ¬ nI 0 = 4 by decide), if_pos (show nI 0 = 0 from rfl), mkR_g0, rs.1.1, nd_168_160 (St_run (d + 7) mt_168)]
    · refine comb (s' := s) (r := nI s.2.1.1) S (CO_same c ?_) (RO_same (fun h I A rs => ?_)) (w.mono (by omega))
      · rw [cl0, if_neg (by decide), if_pos rfl, c1.g2]
      · rw [rl0, nd_168_0 (St_run (d + 7) mt_168), if_neg (show ¬ nI 1 = 3 by decide), if_neg (show ¬ nI 1 = 4 by decide), if_neg (show ¬ nI 1 = 0 by decide), if_pos (show nI 1 = 1 from rfl), mkR_g3, rs.2.1.1, nd_168_160 (St_run (d + 7) mt_168)]
    · refine comb (s' := s) (r := nI s.2.2.1.1) S (CO_same c ?_) (RO_same (fun h I A rs => ?_)) (w.mono (by omega))
      · rw [cl0, if_neg (by decide), if_neg (by decide), if_pos rfl, c1.g4]
      · rw [rl0, nd_168_0 (St_run (d + 7) mt_168), if_neg (show ¬ nI 2 = 3 by decide), if_neg (show ¬ nI 2 = 4 by decide), if_neg (show ¬ nI 2 = 0 by decide), if_neg (show ¬ nI 2 = 1 by decide), if_pos (show nI 2 = 2 from rfl), mkR_g31, rs.2.2.1.1, nd_168_160 (St_run (d + 7) mt_168)]
    · refine comb (s' := s) (r := nI (ctN (dnB s.2.2.1) s.2.2.1.1)) S (CO_same c ?_) (RO_same (fun h I A rs => ?_)) (w.mono (by omega))
      · have e := l_done (d := d + 4) c w hq s.2.2.1.1 0 (by omega)
        have e0 : call (d + 7) 103 [.ref x] h = some (some (.int (nI (ctN (dnB s.2.2.1) s.2.2.1.1))), h) := by
          rw [call_at mt_103 [some (.ref x), none, none] rfl rfl rfl, nd_103_0 (St_run (d + 6) mt_103)]
          exact e
        rw [cl0, if_neg (by decide), if_neg (by decide), if_neg (by decide), if_pos rfl, c1.o, e0, bind_some', rI_some]
      · have e := l_rdone (d := d + 7) (y := y) (h := h) w hq rs s.2.2.1.1 0 (by omega)
        rw [rl0, nd_168_0 (St_run (d + 7) mt_168), if_pos (show nI 3 = 3 from rfl)]
        exact e
    · have ref : RO d y s s 168 [.int (nI 4)] (nI (unF s.2.1)) := RO_scr (fun h I A rs => by
        obtain ⟨I1, A1, e1, e2⟩ := l_runl (d := d + 2) (y := y) (h := h) w s.2.1.1 0 I A (by omega) rs
        refine ⟨I1, A1, ?_, e2.sub (by decide) (by decide)⟩
        rw [rl0, nd_168_0 (St_run (d + 7) mt_168), if_neg (show ¬ nI 4 = 3 by decide), if_pos (show nI 4 = 4 from rfl)]
        exact e1)
      rcases c13 with u | u
      · obtain ⟨h1, e1, e2, e3⟩ := l_count (d := d + 1) w s.2.1.1 0 h (by omega) c
        refine comb (s' := s) (r := nI (unF s.2.1)) S ⟨h1, ?_, e2, e3⟩ ref (w.mono (by omega))
        have e0 : call (d + 7) 104 [.ref x] h = some (some (.int (nI (unF s.2.1))), h1) := by
          rw [call_at mt_104 [some (.ref x), none, none] rfl rfl rfl, nd_104_0 (St_run (d + 6) mt_104), c1.g15, u, if_pos L_m4.symm]
          exact e1
        rw [cl0, if_neg (by decide), if_neg (by decide), if_neg (by decide), if_neg (by decide), if_pos rfl, c1.o, e0, bind_some', rI_some]
      · refine comb (s' := s) (r := nI (unF s.2.1)) S (CO_same c ?_) ref (w.mono (by omega))
        have hle : unF s.2.1 ≤ s.2.1.1 := by
          unfold unF
          exact ctN_le _ _
        have wK := w.2.1.1
        have e0 : call (d + 7) 104 [.ref x] h = some (some (.int (nI (unF s.2.1))), h) := by
          rw [call_at mt_104 [some (.ref x), none, none] rfl rfl rfl, nd_104_0 (St_run (d + 6) mt_104), c1.g15, u, if_neg (show ¬ nI (unF s.2.1) = -4 from oI_ne (e := unF s.2.1) (by omega)), nd_104_43 (St_run (d + 6) mt_104), c1.g15, u]
        rw [cl0, if_neg (by decide), if_neg (by decide), if_neg (by decide), if_neg (by decide), if_pos rfl, c1.o, e0, bind_some', rI_some]
  · refine comb (s' := s) (r := -1) S (CO_same c ?_) (RO_same (fun h I A rs => ?_)) (w.mono (by omega))
    · rw [cl0, nd_102_0 (St_run (d + 7) mt_102), if_neg (ti0 (j2 0 (by omega))), if_neg (ti1 (j2 1 (by omega))), if_neg (ti2 (j2 2 (by omega))), if_neg (ti3 (j2 3 (by omega))), if_neg (ti4 (j2 4 (by omega)))]
    · rw [rl0, nd_168_0 (St_run (d + 7) mt_168), if_neg (show ¬ k = 3 from j2 3 (by omega)), if_neg (show ¬ k = 4 from j2 4 (by omega)), if_neg (show ¬ k = 0 from j2 0 (by omega)), if_neg (show ¬ k = 1 from j2 1 (by omega)), if_neg (show ¬ k = 2 from j2 2 (by omega)), nd_168_160 (St_run (d + 7) mt_168)]
end OPS10
