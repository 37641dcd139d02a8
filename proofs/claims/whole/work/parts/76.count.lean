/-! ===== count; who differs from whom is even-handed ===== -/
def swP (p : Nat) : Nat := nrm (q4 (lb p 2) (lb p 3) (lb p 0) (lb p 1))
def sw (c : Nat) : Nat := 625 * (6 * (c / 625 % 6) + c / 625 / 6) + swP (c % 625)
set_option maxRecDepth 100000 in
theorem fin9 : (List.range 625).all (fun p => !nor p || (decide (swP p < 625) && (List.range 6).all (fun v => decide (v = 0) || (decide (top p + 1 < v) || (List.range 6).any (fun v' => decide (1 ≤ v') && (decide (v' ≤ top (swP p) + 1) && (cs (lb (swP p)) 0 v' == cs (lb p) 2 v && (cs (lb (swP p)) 2 v' == cs (lb p) 0 v && (List.range 3).all (fun kA => (List.range 3).all (fun kB => nxP (swP p) v' kB kA == swP (nxP p v kA kB)))))))))))  = true := by decide +kernel
theorem swP_ok {p : Nat} (hp : p < 625) (hn : nor p = true) : swP p < 625 ∧ ∀ v, 1 ≤ v → v ≤ top p + 1 → ∃ v', 1 ≤ v' ∧ v' ≤ top (swP p) + 1 ∧ cs (lb (swP p)) 0 v' = cs (lb p) 2 v ∧ cs (lb (swP p)) 2 v' = cs (lb p) 0 v ∧ ∀ kA kB, kA < 3 → kB < 3 → nxP (swP p) v' kB kA = swP (nxP p v kA kB) := by
  have e := all_r fin9 hp
  rw [hn] at e
  simp only [Bool.not_true, Bool.false_or] at e
  rw [Bool.and_eq_true] at e
  refine ⟨of_decide_eq_true e.1, fun v h1 h2 => ?_⟩
  have ht := (nxP_ok (p := p) (v := 1) (kA := 2) (kB := 2) hp hn (by omega) (by omega) (by omega) (by omega)).2.2.2
  have e1 := all_r e.2 (show v < 6 by omega)
  simp only [Bool.or_eq_true, decide_eq_true_eq] at e1
  rcases e1 with e1 | e1 | e1
  · omega
  · omega
  · rw [List.any_eq_true] at e1
    obtain ⟨v', _, e2⟩ := e1
    simp only [Bool.and_eq_true, decide_eq_true_eq, beq_iff_eq] at e2
    obtain ⟨a1, a2, a3, a4, a5⟩ := e2
    exact ⟨v', a1, a2, a3, a4, fun kA kB hA hB => beq_iff_eq.mp (all_r (all_r a5 hA) hB)⟩
theorem sw_parts {c : Nat} (hc : c < 22500) (hn : nor (c % 625) = true) : sw c / 625 / 6 = c / 625 % 6 ∧ sw c / 625 % 6 = c / 625 / 6 ∧ sw c % 625 = swP (c % 625) := by
  have h1 := (swP_ok (Nat.mod_lt c (by decide)) hn).1
  have h2 : c / 625 < 36 := by omega
  unfold sw
  generalize swP (c % 625) = z at h1
  refine ⟨?_, ?_, ?_⟩ <;> omega
theorem sw_chd {T U : TM} (hT : WFT T) (hU : WFT U) {c l v : Nat} (hc : vd T U c) (hl : l < 3) (hv : 1 ≤ v) (hv2 : v ≤ top c + 1) : ∃ v', 1 ≤ v' ∧ v' ≤ top (sw c) + 1 ∧ chd U T (sw c) l v' = sw (chd T U c l v) := by
  obtain ⟨p1, p2, p3⟩ := sw_parts hc.1 hc.2.1
  obtain ⟨k1, k2, k3, k4⟩ := chd_ok hT hU hc hl hv hv2
  rw [top_mod] at hv2
  obtain ⟨v', a1, a2, a3, a4, a5⟩ := (swP_ok (Nat.mod_lt c (by decide)) hc.2.1).2 v hv hv2
  have lbs : lb (sw c) = lb (swP (c % 625)) := by rw [lb_mod (sw c), p3]
  have kT : T.2.2.1 (9 * (c / 625 / 6) + 3 * l + cs (lb (c % 625)) 0 v) < 3 := by
    have := hT.2.2.2.2 (9 * (c / 625 / 6) + 3 * l + cs (lb (c % 625)) 0 v)
    have := hT.2.2.1
    omega
  have kU : U.2.2.1 (9 * (c / 625 % 6) + 3 * l + cs (lb (c % 625)) 2 v) < 3 := by
    have := hU.2.2.2.2 (9 * (c / 625 % 6) + 3 * l + cs (lb (c % 625)) 2 v)
    have := hU.2.2.1
    omega
  refine ⟨v', a1, by rw [top_mod, p3]; exact a2, ?_⟩
  rw [show sw (chd T U c l v) = 625 * (6 * (chd T U c l v / 625 % 6) + chd T U c l v / 625 / 6) + swP (chd T U c l v % 625) from rfl, k2, k3, k4]
  unfold chd
  rw [p1, p2, lbs, a3, a4, nxP_mod (sw c), p3, nxP_mod c, lb_mod c, a5 _ _ kT kU]
theorem sw_reach {T U : TM} (hT : WFT T) (hU : WFT U) : ∀ (n i : Nat), i < n → i < (bF T U).1 → ∃ j, j < (bF U T).1 ∧ (bF U T).2.1 j = sw ((bF T U).2.1 i) := by
  have g := bF_GB hT hU
  have g' := bF_GB hU hT
  intro n
  induction n with
  | zero => intro i h; omega
  | succ n ih =>
    intro i hi hiB
    by_cases h0 : i = 0
    · refine ⟨0, g'.1, ?_⟩
      rw [h0, g.2.1, g'.2.1]
      decide
    · obtain ⟨h1, l, v, h2, h3, h4, h5, h6⟩ := g.2.2.2.2 i (by omega) hiB
      obtain ⟨j, j1, j2⟩ := ih _ (show (bF T U).2.2.1 i < n by omega) (by omega)
      obtain ⟨v', a1, a2, a3⟩ := sw_chd hT hU (g.2.2.1 _ (show (bF T U).2.2.1 i < (bF T U).1 by omega)) h2 h3 h4
      rw [← j2] at a2 a3
      obtain ⟨z, z1, z2⟩ := bF_closed hU hT j1 h2 a1 a2
      exact ⟨z, z1, by rw [z2, a3, h6]⟩
theorem wF_sym {T U : TM} (hT : WFT T) (hU : WFT U) (h : wF T U = none) : wF U T = none := by
  unfold wF at h ⊢
  rw [fw_none] at h ⊢
  intro j _ hj
  have hj' : j < (bF U T).1 := by omega
  obtain ⟨i, i1, i2⟩ := sw_reach hU hT (j + 1) j (by omega) hj'
  have e := h i (Nat.zero_le _) (by omega)
  have vc := (bF_GB hU hT).2.2.1 j hj'
  obtain ⟨p1, p2, p3⟩ := sw_parts vc.1 vc.2.1
  unfold wnt at e ⊢
  rw [i2, p1, p2] at e
  rw [bne_comm]
  exact e
theorem lkB_iff {m : Nat → TM} {k : Nat} : lkB m k = true ↔ ∃ i, i < k ∧ wF (m i) (m k) = none := by
  unfold lkB
  rw [memN_iff]
  constructor
  · rintro ⟨i, hi, e⟩
    refine ⟨i, hi, ?_⟩
    cases hw : wF (m i) (m k) with
    | none => rfl
    | some z => rw [hw] at e; exact absurd (show (0 : Nat) = 1 from e) (by decide)
  · rintro ⟨i, hi, e⟩
    exact ⟨i, hi, by rw [e]⟩
section COUNT
variable {d x y q : Nat} {h : AH} {s : SG}
theorem oI_ne {e : Nat} (he : e < 2 ^ 31) : ¬ oI (some e) = -4 := fun e' => by
  have h1 : NO = nI e := (L_m4.symm.trans e'.symm)
  rw [NO_eq he] at h1
  exact h1
/-- two machines are held against each other -/
theorem C_unlike (c : isC h x s) (w : WFS s q) (i j : Nat) (hi : i < s.2.1.1) (hj : j < s.2.1.1) : ∃ h1, call (d + 4) 41 [.ref (x + 17), .ref (mo x i), .ref (mo x j), .int 1] h = some (some (.int (oI (wF (s.2.1.2 i) (s.2.1.2 j)))), h1) ∧ isC h1 x s ∧ Fr h h1 (x + 17) 13 ∧ ∀ e, wF (s.2.1.2 i) (s.2.1.2 j) = some e → e < 2 ^ 31 := by
  obtain ⟨X, c1, c2, c3, c4, c5, c6, ⟨I, A, k1, k2⟩, _, _, c10, _⟩ := id c
  have wK := w.2.1.1
  have hT := w.2.1.2 i hi
  have hU := w.2.1.2 j hj
  obtain ⟨M1, m1, t1, _⟩ := c10.1 i hi
  obtain ⟨M2, m2, t2, _⟩ := c10.1 j hj
  obtain ⟨I1, A1, N, e1, e2, e3, e4, e5, e6⟩ := W_explore (d := d) (a := x + 17) (h := h) (I := I) (A := A) (fun J C => m1.fr (mkW_Fr h (x + 17) J C) (by unfold mo; omega)) t1 hT (fun J C => m2.fr (mkW_Fr h (x + 17) J C) (by unfold mo; omega)) t2 hU 1 (by omega) k2
  rw [← mkW_self k1, ← wF_pW] at e1
  have wv := e3.v hT hU (bf_GB hT hU N)
  have fr1 := mkW_Fr h (x + 17) I1 A1
  refine ⟨_, e1, c.wlk w ⟨I1, A1, mkW_is _ _ _ _, wv⟩ fr1, fr1, fun e he => ?_⟩
  have := GB_most hT hU (bF_GB hT hU)
  have := wF_lt he
  omega
theorem l_early (w : WFS s q) (k : Nat) (hk : k < s.2.1.1) : ∀ (m j : Nat) (h : AH), j + m = k → isC h x s → (∀ i, i < j → wF (s.2.1.2 i) (s.2.1.2 k) ≠ none) → ∃ h1, run (d + 4) mt_105 2 [some (.ref x), some (.int (nI k)), some (.int (nI j))] [] h = some (some (.int (bI (lkB s.2.1.2 k))), h1) ∧ isC h1 x s ∧ Fr h h1 (x + 17) 13 := by
  have wK := w.2.1.1
  intro m
  induction m with
  | zero =>
    intro j h hj c hn
    have : j = k := by omega
    subst this
    have hf : lkB s.2.1.2 j = false := by
      cases hb : lkB s.2.1.2 j with
      | false => rfl
      | true =>
        obtain ⟨i, i1, i2⟩ := lkB_iff.mp hb
        exact absurd i2 (hn i i1)
    refine ⟨h, ?_, c, Fr.rf _ _ _⟩
    rw [nd_105_2 (St_run (d + 4) mt_105), if_pos (nI_le (Nat.le_refl _) (by omega)), isZ0, hf]
    rfl
  | succ m ih =>
    intro j h hj c hn
    obtain ⟨X, c1, ⟨⟨g, a1, a2⟩, _⟩, _, _, _, _, ⟨I, A, k1, k2⟩, _⟩ := id c
    obtain ⟨h1, e1, e2, e3, e4⟩ := C_unlike (d := d) c w j k (by omega) hk
    rw [nd_105_2 (St_run (d + 4) mt_105), if_neg (nI_ge (by omega) (by omega)), c1.g9, c1.g1, ldQ_of a1 rfl (show j < 7 by omega) (by decide) (a2 j (by omega)), c1.g1, ldQ_of a1 rfl (show k < 7 by omega) (by decide) (a2 k (by omega)), k1.o, e1, bind_some', rI_some]
    cases hw : wF (s.2.1.2 j) (s.2.1.2 k) with
    | none =>
      have hf : lkB s.2.1.2 k = true := lkB_iff.mpr ⟨j, by omega, hw⟩
      refine ⟨h1, ?_, e2, e3⟩
      rw [if_pos (show oI none = -4 from rfl), isZ1, hf]
      rfl
    | some e =>
      obtain ⟨h2, f1, f2, f3⟩ := ih (j + 1) h1 (by omega) e2 (fun i hi => by
        by_cases e' : i = j
        · rw [e', hw]; exact fun f => by cases f
        · exact hn i (by omega))
      refine ⟨h2, ?_, f2, e3.tr f3⟩
      rw [if_neg (oI_ne (e4 e hw)), nI_1]
      exact f1
theorem l_count (w : WFS s q) : ∀ (m k : Nat) (h : AH), k + m = s.2.1.1 → isC h x s → ∃ h1, run (d + 5) mt_104 13 [some (.ref x), some (.int (nI (ctN (fun k => !lkB s.2.1.2 k) k))), some (.int (nI k))] [] h = some (some (.int (nI (unF s.2.1))), h1) ∧ isC h1 x s ∧ Fr h h1 x 98 := by
  have wK := w.2.1.1
  intro m
  induction m with
  | zero =>
    intro k h hk c
    have hk' : k = s.2.1.1 := by omega
    obtain ⟨X, c1, _, _, _, _, _, c7, c8, ⟨D, l1, l2⟩, _, _, _, c13⟩ := id c
    have t := cTop.mk h x s.2.1.1 s.2.2.1.1 (X.1, (X.2.1, (X.2.2.1, (X.2.2.2.1, nI (unF s.2.1)))))
    have fr := cTop.fr1 h x s.2.1.1 s.2.2.1.1 (X.1, (X.2.1, (X.2.2.1, (X.2.2.2.1, nI (unF s.2.1)))))
    refine ⟨_, ?_, c.lst w t (Or.inr rfl) (c7.fs fr.s (dj.cons (by omega) (dj.nil _ _))) (c8.fs fr.s (dj.cons (by omega) (dj.nil _ _))) (l1.fr fr (by omega)) l2 (fr.in (x, 1) (by simp) (Nat.le_refl _) (Nat.le_refl _)), fr.sub (by omega) (by omega)⟩
    rw [nd_104_13 (St_run (d + 5) mt_104), c1.g2, if_pos (nI_le (by omega) (by omega)), hk', show ctN (fun k => !lkB s.2.1.2 k) s.2.1.1 = unF s.2.1 from rfl, c1.p15, nd_104_43 (St_run (d + 5) mt_104), t.g15]
  | succ m ih =>
    intro k h hk c
    obtain ⟨X, c1, _⟩ := id c
    obtain ⟨h1, e1, e2, e3⟩ := l_early (d := d) w k (by omega) k 0 h (by omega) c (fun i hi => by omega)
    obtain ⟨h2, f1, f2, f3⟩ := ih (k + 1) h1 (by omega) e2
    refine ⟨h2, ?_, f2, (e3.sub (by omega) (by omega)).tr f3⟩
    have e0 : call (d + 5) 105 [.ref x, .int (nI k)] h = some (some (.int (bI (lkB s.2.1.2 k))), h1) := by
      rw [call_at mt_105 [some (.ref x), some (.int (nI k)), none] rfl rfl rfl, nd_105_0 (St_run (d + 4) mt_105)]
      exact e1
    rw [nd_104_13 (St_run (d + 5) mt_104), c1.g2, if_neg (nI_ge (by omega) (by omega)), c1.o, e0, bind_some', rI_some, nd_104_32 (St_run (d + 5) mt_104), nd_104_32 (St_run (d + 5) mt_104), nI_1, nI_1]
    cases hb : lkB s.2.1.2 k with
    | true =>
      rw [ctN_f (n := k) (by rw [hb]; rfl)] at f1
      rw [if_neg (show ¬ bI true = 0 by decide)]
      exact f1
    | false =>
      rw [ctN_t (n := k) (by rw [hb]; rfl)] at f1
      rw [if_pos (show bI false = 0 from rfl)]
      exact f1
end COUNT
