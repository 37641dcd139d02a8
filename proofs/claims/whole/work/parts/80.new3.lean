/-! ===== the class and the reference, new: the empty state ===== -/
def s0 : SG := ((0, (fun _ => 0, fun _ => 0)), ((0, fun _ => T0), ((0, fun _ => (0, (P0, (0, (0, none))))), fun _ => (NO, (0, fun _ => 0)))))
theorem s0_wf : WFS s0 0 := ⟨⟨Nat.zero_le _, fun j hj => absurd hj (Nat.not_lt_zero _)⟩, ⟨Nat.zero_le _, fun j hj => absurd hj (Nat.not_lt_zero _)⟩, ⟨Nat.zero_le _, fun j hj => absurd hj (Nat.not_lt_zero _)⟩, fun k hk => ⟨Nat.zero_le _, Or.inl rfl⟩⟩
theorem wlk_at {h : AH} {a : Nat} (h0 : h.1 a = some (oB 5 (flWlk a wlI))) (hc : ∀ i, i < 12 → h.1 (a + 1 + i) = (clW a)[i]?) : isWlk h a wlI wlA := by
  refine ⟨h0, fun k o t n hk => ?_⟩
  match k, hk with
  | 0, hk => cases hk; exact hc 0 (by decide)
  | 1, hk => cases hk; exact hc 1 (by decide)
  | 2, hk => cases hk; exact hc 2 (by decide)
  | 3, hk => cases hk; exact hc 3 (by decide)
  | 4, hk => cases hk
  | 5, hk => cases hk
  | 6, hk => cases hk
  | 7, hk => cases hk
  | 8, hk => cases hk; exact hc 4 (by decide)
  | 9, hk => cases hk; exact hc 5 (by decide)
  | 10, hk => cases hk; exact hc 6 (by decide)
  | 11, hk => cases hk; exact hc 7 (by decide)
  | 12, hk => cases hk; exact hc 8 (by decide)
  | 13, hk => cases hk; exact hc 9 (by decide)
  | 14, hk => cases hk; exact hc 10 (by decide)
  | 15, hk => cases hk; exact hc 11 (by decide)
  | 16, hk => cases hk
  | 17, hk => cases hk
  | k + 18, hk => cases hk
section EMPTY
variable {d : Nat}
theorem run_sep {h h' : AH} {a b : Nat} {D : D_Run} (q : isRun h a D) (e : ∀ z, a ≤ z → z < a + 3 → h'.1 z = h.1 z) : isRun h' a D := ⟨(e a (by omega) (by omega)).trans q.1, (e (a + 1) (by omega) (by omega)).trans q.2.1, (e (a + 2) (by omega) (by omega)).trans q.2.2⟩
theorem K_62 (h : AH) : ∃ h1, call (d + 4) 62 [.ref h.2.1] (hN h (oB 7 (dfl 7)) (dfl 7).length) = some (none, h1) ∧ isC h1 h.2.1 s0 ∧ h1.2.1 = h.2.1 + 98 ∧ h1.2.2 = h.2.2 + 15925 ∧ ∀ b, b < h.2.1 → h1.1 b = h.1 b := by
  obtain ⟨M, e1, e2⟩ := K_62a (d := d) h
  obtain ⟨x, hx⟩ : ∃ x, x = h.2.1 := ⟨_, rfl⟩
  obtain ⟨H, hH⟩ : ∃ H, H = mkN h 7 (flC h.2.1) (clC h.2.1 M) 14515 := ⟨_, rfl⟩
  have H0 : cTop H x 0 0 XN := by rw [hH, hx]; exact nk_a _ _ _ _ _
  have HL : ∀ i, i < 38 → H.1 (x + 1 + i) = (clC x M)[i]? := fun i hi => by rw [hH, hx]; exact nk_at _ _ _ _ _ hi
  have Hlo : ∀ b, b < x → H.1 b = h.1 b := fun b hb => by rw [hH]; exact nk_lo _ _ _ _ _ (by omega)
  have H21 : H.2.1 = x + 39 := by rw [hH, hx]; rfl
  have H22 : H.2.2 = h.2.2 + 14515 := by rw [hH]; rfl
  rw [← hH, ← hx] at e1
  obtain ⟨h1, g1, a1, a2, a3, a4, a5, a6, a7⟩ := l_kq (D := d + 3) (pc := 141) (fld := 1) (arr := 4) (t := 2) (N := 7) (n := 5) (ci := 0) (cc := 0) (sl := 158) (base := 39) (E := fun h => run (d + 3) mt_62 171 [some (.ref x), some (.int (nI 0))] [] h) (Q := fun h a => ∃ M, isM h a M) (fun h h' a q e => by
    obtain ⟨M, q⟩ := q
    exact ⟨M, (e a (by omega) (by omega)).trans q.1, (e (a + 1) (by omega) (by omega)).trans q.2.1, (e (a + 2) (by omega) (by omega)).trans q.2.2.1, (e (a + 3) (by omega) (by omega)).trans q.2.2.2.1, (e (a + 4) (by omega) (by omega)).trans q.2.2.2.2⟩) rfl (by decide) (fun h c n f => c.g1 n f) (fun i h => nd_62_141 (St_run (d + 3) mt_62) h x (nI i)) (fun h => by
    obtain ⟨M, m1, m2⟩ := K_0 (d := d + 1) h
    exact ⟨_, _, m1, rfl, M, nk_M h M 158⟩) (by decide) (by decide) 7 0 H (fun _ => none) rfl H0 (HL 3 (by decide)) (fun j hj => by omega) H21 (fun j hj => by omega)
  have c1 : cTop h1 x 0 0 XN := (a7 x (by omega) (by omega)).trans H0
  obtain ⟨h2, g2, b1, b2, b3, b4, b5, b6, b7⟩ := l_kq (D := d + 3) (pc := 171) (fld := 3) (arr := 5) (t := 3) (N := 4) (n := 4) (ci := 6) (cc := 58) (sl := 13) (base := 74) (E := fun h => run (d + 3) mt_62 201 [some (.ref x), some (.int (nI 0))] [] h) (Q := fun h a => ∃ v g e D, h.1 a = some (oB 6 [.ref (a + 1), v, .int g, .int e]) ∧ isRun h (a + 1) D) (fun h h' a q e => by
    obtain ⟨v, g, e', D, q1, q2⟩ := q
    exact ⟨v, g, e', D, (e a (by omega) (by omega)).trans q1, run_sep (b := 0) q2 (fun z h1 h2 => e z (by omega) (by omega))⟩) rfl (by decide) (fun h c n f => c.g3 n f) (fun i h => nd_62_171 (St_run (d + 3) mt_62) h x (nI i)) (fun h => ⟨_, _, K_58 (d := d) h, rfl, .null, 0, -4, (0, (-4, (0, (fun _ => 0, fun _ => 0)))), nk_a _ _ _ _ _, nk_at _ _ _ _ _ (i := 0) (hj' rfl), nk_at _ _ _ _ _ (i := 1) (hj' rfl), nk_at _ _ _ _ _ (i := 2) (hj' rfl)⟩) (by decide) (by decide) 4 0 h1 (fun _ => none) rfl c1 ((a7 (x + 5) (by omega) (by omega)).trans (HL 4 (by decide))) (fun j hj => by omega) (by rw [a4]) (fun j hj => by omega)
  have c2 : cTop h2 x 0 0 XN := (b7 x (by omega) (by omega)).trans c1
  obtain ⟨h3, g3, k1, k2, k3, k4, k5, k6, k7⟩ := l_kq (D := d + 3) (pc := 201) (fld := 5) (arr := 6) (t := 4) (N := 4) (n := 2) (ci := 4) (cc := 34) (sl := 63) (base := 90) (E := fun h => some (none, h)) (Q := fun h a => isSheet h a (-4, (0, fun _ => 0))) (fun h h' a q e => ⟨(e a (by omega) (by omega)).trans q.1, (e (a + 1) (by omega) (by omega)).trans q.2⟩) rfl (by decide) (fun h c n f => c.g5 n f) (fun i h => nd_62_201 (St_run (d + 3) mt_62) h x (nI i)) (fun h => ⟨_, _, K_34 (d := d + 1) h, rfl, nk_a _ _ _ _ _, nk_at _ _ _ _ _ (i := 0) (hj' rfl)⟩) (by decide) (by decide) 4 0 h2 (fun _ => none) rfl c2 ((b7 (x + 6) (by omega) (by omega)).trans ((a7 (x + 6) (by omega) (by omega)).trans (HL 5 (by decide)))) (fun j hj => by omega) (by rw [b4]) (fun j hj => by omega)
  have c3 : cTop h3 x 0 0 XN := (k7 x (by omega) (by omega)).trans c2
  have PL : ∀ i, i < 38 → i ≠ 3 → i ≠ 4 → i ≠ 5 → h3.1 (x + 1 + i) = (clC x M)[i]? := fun i hi n3 n4 n5 => (k7 _ (by omega) (by omega)).trans ((b7 _ (by omega) (by omega)).trans ((a7 _ (by omega) (by omega)).trans (HL i hi)))
  refine ⟨h3, ?_, ?_, ?_, ?_, fun b hb => ?_⟩
  · rw [← hx] at *
    exact e1.trans (a1.trans (b1.trans k1))
  · rw [← hx]
    refine ⟨XN, c3, ⟨⟨g1, (k7 _ (by omega) (by omega)).trans ((b7 _ (by omega) (by omega)).trans a2), a3⟩, ⟨g2, (k7 _ (by omega) (by omega)).trans b2, b3⟩, ⟨g3, k2, k3⟩⟩, ⟨(0, (fun _ => 0, fun _ => 0)), ⟨PL 0 (by decide) (by decide) (by decide) (by decide), PL 1 (by decide) (by decide) (by decide) (by decide), PL 2 (by decide) (by decide) (by decide) (by decide)⟩, rfl, fun j hj => absurd hj (Nat.not_lt_zero _)⟩, ⟨M, ⟨PL 6 (by decide) (by decide) (by decide) (by decide), PL 7 (by decide) (by decide) (by decide) (by decide), PL 8 (by decide) (by decide) (by decide) (by decide), PL 9 (by decide) (by decide) (by decide) (by decide), PL 10 (by decide) (by decide) (by decide) (by decide)⟩, e2⟩, ?_, ⟨(0, (-4, (0, (fun _ => 0, fun _ => 0)))), ⟨PL 13 (by decide) (by decide) (by decide) (by decide), PL 14 (by decide) (by decide) (by decide) (by decide), PL 15 (by decide) (by decide) (by decide) (by decide)⟩⟩, ⟨wlI, wlA, wlk_at (PL 16 (by decide) (by decide) (by decide) (by decide)) (fun i hi => ?_), 0, fun _ => 0, rfl, Nat.zero_le _, fun j hj => absurd hj (Nat.not_lt_zero _), fun z hz _ => rfl⟩, ⟨(0, (-4, (0, (fun _ => 0, fun _ => 0)))), (0, (-4, (0, (fun _ => 0, fun _ => 0)))), ⟨PL 29 (by decide) (by decide) (by decide) (by decide), PL 30 (by decide) (by decide) (by decide) (by decide), PL 31 (by decide) (by decide) (by decide) (by decide)⟩, ⟨PL 32 (by decide) (by decide) (by decide) (by decide), PL 33 (by decide) (by decide) (by decide) (by decide), PL 34 (by decide) (by decide) (by decide) (by decide)⟩⟩, ⟨(0, (fun _ => 0, fun _ => 0)), ⟨PL 35 (by decide) (by decide) (by decide) (by decide), PL 36 (by decide) (by decide) (by decide) (by decide), PL 37 (by decide) (by decide) (by decide) (by decide)⟩, Or.inl rfl⟩, ⟨fun j hj => absurd hj (Nat.not_lt_zero _), fun j _ hj => ?_⟩, ⟨fun j hj => absurd hj (Nat.not_lt_zero _), fun j _ hj => ?_⟩, fun k hk => ⟨(-4, (0, fun _ => 0)), k6 k hk, rfl, rfl, fun _ _ => rfl⟩, Or.inl rfl⟩
    · exact ⟨(0, fun _ => 0), PL 11 (by decide) (by decide) (by decide) (by decide), PL 12 (by decide) (by decide) (by decide) (by decide)⟩
    · have := PL (17 + i) (by omega) (by omega) (by omega) (by omega)
      rw [show x + 17 + 1 + i = x + 1 + (17 + i) by omega, this]
      rcases (show i = 0 ∨ i = 1 ∨ i = 2 ∨ i = 3 ∨ i = 4 ∨ i = 5 ∨ i = 6 ∨ i = 7 ∨ i = 8 ∨ i = 9 ∨ i = 10 ∨ i = 11 by omega) with rfl | rfl | rfl | rfl | rfl | rfl | rfl | rfl | rfl | rfl | rfl | rfl <;> rfl
    · obtain ⟨M', q⟩ := a6 j hj
      have tr : ∀ z, z < 5 → h3.1 (x + 39 + 5 * j + z) = h1.1 (x + 39 + 5 * j + z) := fun z hz => (k7 _ (by omega) (by omega)).trans (b7 _ (by omega) (by omega))
      exact ⟨M', (tr 0 (by decide)).trans q.1, (tr 1 (by decide)).trans q.2.1, (tr 2 (by decide)).trans q.2.2.1, (tr 3 (by decide)).trans q.2.2.2.1, (tr 4 (by decide)).trans q.2.2.2.2⟩
    · obtain ⟨v, g, e, D, q1, q2⟩ := b6 j hj
      have tr : ∀ z, z < 4 → h3.1 (x + 74 + 4 * j + z) = h2.1 (x + 74 + 4 * j + z) := fun z hz => k7 _ (by omega) (by omega)
      exact ⟨v, g, e, D, (tr 0 (by decide)).trans q1, (tr 1 (by decide)).trans q2.1, (tr 2 (by decide)).trans q2.2.1, (tr 3 (by decide)).trans q2.2.2⟩
  · rw [k4, ← hx]
  · rw [k5, b5, a5, H22]
  · rw [← hx] at hb
    exact (k7 b (by omega) (by omega)).trans ((b7 b (by omega) (by omega)).trans ((a7 b (by omega) (by omega)).trans (Hlo b hb)))
end EMPTY
