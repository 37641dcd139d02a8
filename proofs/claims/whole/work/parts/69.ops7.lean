/-! ===== orbits ===== -/
theorem memN_s {q : Nat → Nat} {c n : Nat} : memN q c (n + 1) = (memN q c n || q n == c) := rfl
theorem memN_cg {q q' : Nat → Nat} {c : Nat} : ∀ {n : Nat}, (∀ j, j < n → q j = q' j) → memN q c n = memN q' c n
  | 0, _ => rfl
  | n + 1, h => by rw [memN_s, memN_s, memN_cg (fun j hj => h j (by omega)), h n (by omega)]
theorem ctN_upd {p p' : Nat → Bool} {z : Nat} (h0 : p z = false) (h1 : p' z = true) (he : ∀ j, j ≠ z → p' j = p j) : ∀ {N : Nat}, z < N → ctN p' N = ctN p N + 1
  | 0, h => by omega
  | N + 1, h => by
    by_cases e : z = N
    · subst e
      rw [ctN_t h1, ctN_f h0, ctN_cong (fun k hk => he k (by omega))]
    · have := ctN_upd h0 h1 he (N := N) (by omega)
      show ctN p' N + (if p' N then 1 else 0) = ctN p N + (if p N then 1 else 0) + 1
      rw [this, he N (fun e2 => e e2.symm)]
      omega
/-- counting the places that numbers go to -/
theorem ct_bij {g : Nat → Nat} {r : Nat → Bool} {N : Nat} : ∀ (n : Nat), (∀ i, i < n → g i < N) → (∀ i j, i < n → j < n → g i = g j → i = j) → ctN (fun j => memN (fun i => if r i = true then g i else N) j n) N = ctN r n
  | 0, _, _ => by
    have : ∀ N, ctN (fun _ => false) N = 0 := fun N => by
      induction N with
      | zero => rfl
      | succ N ih => rw [ctN_f rfl, ih]
    exact this N
  | n + 1, hg, hi => by
    have ih := ct_bij (g := g) (r := r) (N := N) n (fun i h => hg i (by omega)) (fun i j h1 h2 => hi i j (by omega) (by omega))
    cases hr : r n with
    | false =>
      rw [ctN_f hr, ← ih]
      refine ctN_cong (fun k hk => ?_)
      rw [memN_s, hr, if_neg (by decide), beq_eq_false_iff_ne.mpr (by omega), Bool.or_false]
    | true =>
      rw [ctN_t hr, ← ih]
      refine ctN_upd (z := g n) ?_ ?_ (fun j hj => ?_) (hg n (by omega))
      · cases hb : memN (fun i => if r i = true then g i else N) (g n) n with
        | false => rfl
        | true =>
          obtain ⟨i, h1, h2⟩ := memN_iff.mp hb
          have hgn := hg n (by omega)
          by_cases hri : r i = true
          · rw [if_pos hri] at h2
            have := hi i n (by omega) (by omega) h2
            omega
          · rw [if_neg hri] at h2
            omega
      · rw [memN_s, hr, if_pos rfl, beq_self_eq_true, Bool.or_true]
      · rw [memN_s, hr, if_pos rfl, beq_eq_false_iff_ne.mpr (fun e => hj e.symm), Bool.or_false]
/-- states that are met -/
def metB (T : TM) (j : Nat) : Bool := memN (fun i => (bF T T0).2.1 i / 625 / 6) j (bF T T0).1
noncomputable def dedF (T : TM) : Nat := ctN (fun i => !alB T ((bF T T0).2.1 i)) (bF T T0).1
noncomputable def livF (T : TM) : Nat := ctN (fun i => alB T ((bF T T0).2.1 i)) (bF T T0).1
theorem ctN_neg (p : Nat → Bool) : ∀ n, ctN p n + ctN (fun i => !p i) n = n
  | 0 => rfl
  | n + 1 => by
    have := ctN_neg p n
    cases h : p n with
    | true => rw [ctN_t h, ctN_f (p := fun i => !p i) (by rw [h]; rfl)]; omega
    | false => rw [ctN_f h, ctN_t (p := fun i => !p i) (by rw [h]; rfl)]; omega
theorem fv_eq (b : Bool) : (fv b == (1 : Int32)) = b ∧ (fv b == (2 : Int32)) = !b := by cases b <;> decide
theorem FT_ct {T : TM} (hT : WFT T) {f : Nat → Int32} (ft : FT T f) : ctN (fun j => f j == 1) 36 = livF T ∧ ctN (fun j => f j == 2) 36 = dedF T := by
  have g := bF_GB hT T0_wf
  have hfx : ∀ i, i < (bF T T0).1 → fx ((bF T T0).2.1 i) < 36 := fun i hi => (fx_lt hT (g.2.2.1 i hi)).2
  have inj : ∀ i j, i < (bF T T0).1 → j < (bF T T0).1 → fx ((bF T T0).2.1 i) = fx ((bF T T0).2.1 j) → i = j := fun i j hi hj e => g.2.2.2.1 i j hi hj (fx_inj (g.2.2.1 i hi) (g.2.2.1 j hj) e)
  have key : ∀ (v : Int32) (r : Nat → Bool), v ≠ 0 → (∀ i, i < (bF T T0).1 → (f (fx ((bF T T0).2.1 i)) == v) = r i) → ctN (fun j => f j == v) 36 = ctN r (bF T T0).1 := by
    intro v r hv hr
    rw [← ct_bij (g := fun i => fx ((bF T T0).2.1 i)) (r := r) (N := 36) (bF T T0).1 hfx inj]
    refine ctN_cong (fun k hk => ?_)
    cases hm : memN (fun i => if r i = true then fx ((bF T T0).2.1 i) else 36) k (bF T T0).1 with
    | true =>
      obtain ⟨i, h1, h2⟩ := memN_iff.mp hm
      by_cases hri : r i = true
      · rw [if_pos hri] at h2
        rw [← h2, hr i h1]
        exact hri
      · rw [if_neg hri] at h2
        omega
    | false =>
      by_cases hx : ∃ i, i < (bF T T0).1 ∧ fx ((bF T T0).2.1 i) = k
      · obtain ⟨i, h1, h2⟩ := hx
        have hri : r i = false := by
          cases hri : r i with
          | false => rfl
          | true =>
            have := (memN_iff (q := fun i => if r i = true then fx ((bF T T0).2.1 i) else 36) (c := k)).mpr ⟨i, h1, show (if r i = true then fx ((bF T T0).2.1 i) else 36) = k by rw [if_pos hri]; exact h2⟩
            rw [hm] at this
            cases this
        rw [← h2, hr i h1, hri]
      · rw [ft.2 k hk (fun i hi e => hx ⟨i, hi, e⟩)]
        exact beq_eq_false_iff_ne.mpr (fun e => hv e.symm)
  refine ⟨key 1 (fun i => alB T ((bF T T0).2.1 i)) (by decide) (fun i hi => by rw [ft.1 i hi, (fv_eq _).1]), key 2 (fun i => !alB T ((bF T T0).2.1 i)) (by decide) (fun i hi => by rw [ft.1 i hi, (fv_eq _).2])⟩
theorem FT_met {T : TM} (hT : WFT T) {f : Nat → Int32} (ft : FT T f) : ∀ j, j < T.1.1 → (metB T j = true ↔ ∃ p, p < 6 ∧ f (6 * j + p) ≠ 0) := by
  have g := bF_GB hT T0_wf
  have t6 := hT.2.1
  intro j hj
  unfold metB
  rw [memN_iff]
  constructor
  · rintro ⟨i, hi, e⟩
    have h6 := (fx_lt hT (g.2.2.1 i hi)).1
    refine ⟨3 * lb ((bF T T0).2.1 i) 0 + lb ((bF T T0).2.1 i) 1, h6, ?_⟩
    have := ft.1 i hi
    unfold fx at this
    rw [e] at this
    rw [this]
    cases alB T ((bF T T0).2.1 i) <;> decide
  · rintro ⟨p, hp, hne⟩
    by_cases hx : ∃ i, i < (bF T T0).1 ∧ fx ((bF T T0).2.1 i) = 6 * j + p
    · obtain ⟨i, hi, e⟩ := hx
      have h6 := (fx_lt hT (g.2.2.1 i hi)).1
      refine ⟨i, hi, ?_⟩
      unfold fx at e
      omega
    · exact absurd (ft.2 (6 * j + p) (by omega) (fun i hi e => hx ⟨i, hi, e⟩)) hne
/-! bits -/
set_option maxRecDepth 100000 in
theorem fin8 : (List.range 64).all (fun b => (List.range 6).all (fun s => (nI b ||| ((1 : Int32) <<< (nI s &&& 31)) == nI (b ||| 2 ^ s)) && ((nI b >>> (nI s &&& 31)) &&& 1 == nI (b / 2 ^ s % 2)) && (decide (b ||| 2 ^ s < 64)) && (List.range 6).all (fun t => (b ||| 2 ^ s) / 2 ^ t % 2 == (if t = s then 1 else b / 2 ^ t % 2)))) = true := by decide +kernel
theorem bit_ok {b s : Nat} (hb : b < 64) (hs : s < 6) : nI b ||| ((1 : Int32) <<< (nI s &&& 31)) = nI (b ||| 2 ^ s) ∧ (nI b >>> (nI s &&& 31)) &&& 1 = nI (b / 2 ^ s % 2) ∧ b ||| 2 ^ s < 64 ∧ ∀ t, t < 6 → (b ||| 2 ^ s) / 2 ^ t % 2 = if t = s then 1 else b / 2 ^ t % 2 := by
  have e := all_r (all_r fin8 hb) hs
  rw [Bool.and_eq_true, Bool.and_eq_true, Bool.and_eq_true] at e
  obtain ⟨⟨⟨e1, e2⟩, e3⟩, e4⟩ := e
  exact ⟨beq_iff_eq.mp e1, beq_iff_eq.mp e2, of_decide_eq_true e3, fun t ht => beq_iff_eq.mp (all_r e4 ht)⟩
section OPS7
variable {d x y q : Nat} {h : AH} {s : SG}
theorem l_orb1 {T : TM} {wt : Int32} (hT : WFT T) : ∀ (m i b : Nat) (I : Nat → Int32) (A : Nat → Nat → Int32), i + m = (bF T T0).1 → b < 64 → (∀ t, t < 6 → b / 2 ^ t % 2 = if memN (fun j => (bF T T0).2.1 j / 625 / 6) t i = true then 1 else 0) → RB I A (bF T T0) → ALS T A (fun j => alB T ((bF T T0).2.1 j)) → ∃ I' A' b', run (d + 2) mt_153 35 [some (.ref y), none, some (.int wt), some (.int (nI (ctN (fun i => !alB T ((bF T T0).2.1 i)) i))), some (.int (nI b)), some (.int (nI i)), none] [] (mkR h y I A) = run (d + 2) mt_153 101 [some (.ref y), none, some (.int wt), some (.int (nI (dedF T))), some (.int (nI b')), some (.int (nI 0)), some (.int (nI 0))] [] (mkR h y I' A') ∧ b' < 64 ∧ (∀ t, t < 6 → b' / 2 ^ t % 2 = if metB T t = true then 1 else 0) ∧ fra I I' A A' [23, 24] [25] := by
  have g := bF_GB hT T0_wf
  have h30 := GB_alone hT g
  have t6 := hT.2.1
  intro m
  induction m with
  | zero =>
    intro i b I A hi hb hbt r al
    have hin : i = (bF T T0).1 := by omega
    rw [hin] at hbt
    refine ⟨I, A, b, ?_, hb, hbt, fra.rf _ _ _ _⟩
    have a22 := r.1
    rw [nd_153_35 (St_run (d + 2) mt_153), mkR_g22, a22, if_pos (nI_le (by omega) (by omega)), hin]
    rfl
  | succ m ih =>
    intro i b I A hi hb hbt r al
    have hiB : i < (bF T T0).1 := by omega
    have vc := g.2.2.1 i hiB
    have hc := vc.1
    have a22 := r.1
    have a19 := r.2.1 i hiB
    have a18 : A 18 ((bF T T0).2.1 i) = bI (alB T ((bF T T0).2.1 i)) := al i hiB
    have sA := vc.2.2.1
    obtain ⟨k1, k2, k3, k4⟩ := bit_ok hb (show (bF T T0).2.1 i / 625 / 6 < 6 by omega)
    have p1 : fra I (upd (upd I 24 (nI ((bF T T0).2.1 i / 625 % 6))) 23 (nI ((bF T T0).2.1 i / 625 / 6))) A (updA A 25 (qL (A 25) (lb ((bF T T0).2.1 i)))) [23, 24] [25] := (((fra.rf _ _ _ _).u _ (by decide)).u _ (by decide)).w _ (by decide)
    obtain ⟨I2, A2, b2, e1, e2, e3, e4⟩ := ih (i + 1) (b ||| 2 ^ ((bF T T0).2.1 i / 625 / 6)) _ _ (by omega) k3 (fun t ht => by
      rw [k4 t ht, memN_s, hbt t ht]
      by_cases e : t = (bF T T0).2.1 i / 625 / 6
      · rw [if_pos e, e, beq_self_eq_true, Bool.or_true, if_pos rfl]
      · rw [if_neg e, beq_eq_false_iff_ne.mpr (fun e2 => e e2.symm), Bool.or_false]) (r.fa p1 (by decide) (by decide)) (fun j hj => by rw [p1.2 18 (by decide)]; exact al j hj)
    refine ⟨I2, A2, b2, ?_, e2, e3, p1.tr e4⟩
    have e65 : ∀ z : Nat, run (d + 2) mt_153 65 [some (.ref y), none, some (.int wt), none, some (.int (nI b)), some (.int (nI i)), none] [.int (nI z), .int (nI (ctN (fun i => !alB T ((bF T T0).2.1 i)) i))] (mkR h y I A) = run (d + 2) mt_153 35 [some (.ref y), none, some (.int wt), some (.int (nI (ctN (fun i => !alB T ((bF T T0).2.1 i)) i + z))), some (.int (nI (b ||| 2 ^ ((bF T T0).2.1 i / 625 / 6)))), some (.int (nI (i + 1))), none] [] (mkR h y (upd (upd I 24 (nI ((bF T T0).2.1 i / 625 % 6))) 23 (nI ((bF T T0).2.1 i / 625 / 6))) (updA A 25 (qL (A 25) (lb ((bF T T0).2.1 i))))) := fun z => by
      rw [nd_153_65 (St_run (d + 2) mt_153), mkR_g19, mkR_l19 _ _ _ _ (by omega), a19, mkR_o, R_apart _ hc, bind_some', rV_some, mkR_g23, pk_us, k1, nI_add, nI_1]
    rw [nd_153_35 (St_run (d + 2) mt_153), mkR_g22, a22, if_neg (nI_ge hiB (by omega)), mkR_g18, mkR_g19, mkR_l19 _ _ _ _ (by omega), a19, mkR_l18 _ _ _ _ hc, a18]
    cases ha : alB T ((bF T T0).2.1 i) with
    | true =>
      rw [ctN_f (n := i) (by rw [ha]; rfl)] at e1
      rw [if_neg (by decide)]
      exact (e65 0).trans e1
    | false =>
      rw [ctN_t (n := i) (by rw [ha]; rfl)] at e1
      rw [if_pos (by rfl)]
      exact (e65 1).trans e1
theorem l_orb2 {T : TM} {I : Nat → Int32} {A : Nat → Nat → Int32} {b : Nat} {wt dd : Int32} (hb : b < 64) (hbt : ∀ t, t < 6 → b / 2 ^ t % 2 = if metB T t = true then 1 else 0) : ∀ (m t : Nat), t + m = 6 → run (d + 2) mt_153 101 [some (.ref y), none, some (.int wt), some (.int dd), some (.int (nI b)), some (.int (nI (ctN (metB T) t))), some (.int (nI t))] [] (mkR h y I A) = run (d + 2) mt_153 101 [some (.ref y), none, some (.int wt), some (.int dd), some (.int (nI b)), some (.int (nI (ctN (metB T) 6))), some (.int (nI 6))] [] (mkR h y I A) := by
  intro m
  induction m with
  | zero =>
    intro t ht
    have : t = 6 := by omega
    subst this
    rfl
  | succ m ih =>
    intro t ht
    have e := ih (t + 1) (by omega)
    obtain ⟨k1, k2, k3, k4⟩ := bit_ok hb (show t < 6 by omega)
    rw [nd_153_101 (St_run (d + 2) mt_153), if_neg (show ¬ (6 : Int32) ≤ nI t from nI_ge (a := t) (b := 6) (by omega) (by omega)), k2, hbt t (by omega), nI_1 t]
    cases hm : metB T t with
    | true =>
      rw [ctN_t hm] at e
      rw [if_pos rfl, nI_add]
      exact e
    | false =>
      rw [ctN_f hm] at e
      rw [if_neg (by decide), nI_add]
      exact e
theorem metB_out {T : TM} (hT : WFT T) {j : Nat} (hj : T.1.1 ≤ j) : metB T j = false := by
  have g := bF_GB hT T0_wf
  cases hb : metB T j with
  | false => rfl
  | true =>
    obtain ⟨i, hi, e⟩ := memN_iff.mp hb
    have := (g.2.2.1 i hi).2.2.1
    omega
theorem ctN_tail {p : Nat → Bool} {a : Nat} (h : ∀ j, a ≤ j → p j = false) : ∀ k, ctN p (a + k) = ctN p a
  | 0 => rfl
  | k + 1 => by
    show ctN p ((a + k) + 1) = _
    rw [ctN_f (h (a + k) (by omega)), ctN_tail h k]
theorem op_orbits (S : SS h x y s q) (m wt : Int32) : OP d x y h q 84 153 [.int m, .int wt] := by
  obtain ⟨w, c, _, _⟩ := id S
  obtain ⟨X, c1, c2, _⟩ := id c
  have wK := w.2.1.1
  have cl0 : call (d + 8) 84 [.ref x, .int m, .int wt] h = run (d + 7) mt_84 0 [some (.ref x), some (.int m), some (.int wt), none] [] h := call_at mt_84 [some (.ref x), some (.int m), some (.int wt), none] rfl rfl rfl
  have rl0 : ∀ (h : AH) I A, call (d + 8) 153 [.ref y, .int m, .int wt] (mkR h y I A) = run (d + 7) mt_153 0 [some (.ref y), some (.int m), some (.int wt), none, none, none, none] [] (mkR h y I A) := fun h I A => call_at mt_153 [some (.ref y), some (.int m), some (.int wt), none, none, none, none] rfl rfl rfl
  rcases mach_cases w m with ⟨i, i1, rfl, i3⟩ | ⟨i1, i2⟩
  · have hT := w.2.1.2 i i1
    have t6 := hT.2.1
    have ma := C_mAt (d := d + 6) c1 c2 wK i i1
    obtain ⟨h1, M, e1, e2, e3, e4, e5, e6, e7, e8⟩ := C_learn (d := d + 1) c w i i1
    have fr : Fr h h1 x 98 := e8.fr (fun z hz => by
      simp only [List.mem_cons, List.not_mem_nil, or_false] at hz
      rcases hz with rfl | rfl
      · dsimp only; omega
      · dsimp only; unfold mo; omega)
    obtain ⟨X1, t1, _⟩ := id e2
    obtain ⟨ct1, ct2⟩ := FT_ct hT e7
    have cl : call (d + 8) 84 [.ref x, .int (nI i), .int wt] h = (if wt.toInt = 0 then some (some (.int (nI (livF (s.2.1.2 i) + dedF (s.2.1.2 i)))), h1) else if wt.toInt = 1 then some (some (.int (nI (dedF (s.2.1.2 i)))), h1) else if wt.toInt = 2 then some (some (.int (nI (ctN (metB (s.2.1.2 i)) (s.2.1.2 i).1.1))), h1) else some (some (.int (-1)), h1)) := by
      rw [cl0, nd_84_0 (St_run (d + 7) mt_84), c1.o, ma, bind_some', rQ_some, c1.o, e1, bind_some', rV_some, e3.o, m_orbitsOf e3, ct1, bind_some', rI_some, e3.o, m_orbitsOf e3, ct2, bind_some', rI_some, e3.o, m_statesMet (d := d + 3) e3 e4.1 t6 (metB (s.2.1.2 i)) (FT_met hT e7), bind_some', rI_some, e3.o, bind_some', rI_some, nI_add]
    rcases in2 wt with ⟨j, j1, rfl, j3⟩ | ⟨j1, j2, j3⟩
    · have z0 : ((nI j).toInt = 0) = (j = 0) := ti_eq (k := 0) (by omega)
      have z1 : ((nI j).toInt = 1) = (j = 1) := ti_eq (k := 1) (by omega)
      have z2 : ((nI j).toInt = 2) = (j = 2) := ti_eq (k := 2) (by omega)
      refine comb (s' := s) (r := if j = 0 then nI (livF (s.2.1.2 i) + dedF (s.2.1.2 i)) else if j = 1 then nI (dedF (s.2.1.2 i)) else nI (ctN (metB (s.2.1.2 i)) (s.2.1.2 i).1.1)) S ⟨h1, ?_, e2, fr⟩ (RO_scr (fun h I A rs => ?_)) (w.mono (by omega))
      · rw [cl]
        simp only [z0, z1, z2]
        rcases (show j = 0 ∨ j = 1 ∨ j = 2 by omega) with rfl | rfl | rfl <;> rfl
      · have v3 : v_in (nI i) (I 3 - 1) = 1 := by rw [rs.2.1.1]; exact i3
        obtain ⟨I1, A1, k1, k2, k3, k4⟩ := R_findAlive (d := d + 2) (a := y) (h := h) (I := I) hT (show i < 6 by omega) (rs.2.1.2 i i1)
        obtain ⟨I2, A2, b, f1, f2, f3, f4⟩ := l_orb1 (d := d + 5) (y := y) (h := h) (wt := nI j) hT (bF (s.2.1.2 i) T0).1 0 0 I1 A1 (by omega) (by omega) (fun t ht => by rw [Nat.zero_div]; rfl) k2 k3
        have l2 := l_orb2 (d := d + 5) (y := y) (h := h) (I := I2) (A := A2) (wt := nI j) (dd := nI (dedF (s.2.1.2 i))) f2 f3 6 0 rfl
        have ecm : ctN (metB (s.2.1.2 i)) 6 = ctN (metB (s.2.1.2 i)) (s.2.1.2 i).1.1 := by
          have := ctN_tail (p := metB (s.2.1.2 i)) (a := (s.2.1.2 i).1.1) (fun j hj => metB_out hT hj) (6 - (s.2.1.2 i).1.1)
          rw [show (s.2.1.2 i).1.1 + (6 - (s.2.1.2 i).1.1) = 6 by omega] at this
          exact this
        have a22 : I2 22 = nI (livF (s.2.1.2 i) + dedF (s.2.1.2 i)) := by
          have hl : livF (s.2.1.2 i) + dedF (s.2.1.2 i) = (bF (s.2.1.2 i) T0).1 := ctN_neg _ _
          rw [f4.1 22 (by decide), k2.1, hl]
        refine ⟨I2, A2, ?_, (k4.sub (by decide) (by decide)).tr (f4.sub (by decide) (by decide))⟩
        rw [rl0, nd_153_0 (St_run (d + 7) mt_153), mkR_o, R_isMachine (d := d + 5), v3, bind_some', rI_some, if_neg (by decide), show (2 : Int64) = (2 : Int32).toInt64 from by decide, m_in0, j3, bind_some', rI_some, if_neg (by decide), mkR_o, k1, bind_some', rV_some]
        refine f1.trans (l2.trans ?_)
        rw [nd_153_101 (St_run (d + 5 + 2) mt_153), if_pos (by decide), mkR_g22, a22, ecm, nd_153_148 (St_run (d + 5 + 2) mt_153), nd_153_148 (St_run (d + 5 + 2) mt_153), nd_153_148 (St_run (d + 5 + 2) mt_153)]
        rcases (show j = 0 ∨ j = 1 ∨ j = 2 by omega) with rfl | rfl | rfl
        · rw [if_pos (show nI 0 = 0 from rfl), if_pos (show 0 = 0 from rfl)]
        · rw [if_neg (show ¬ nI 1 = 0 by decide), if_pos (show nI 1 = 1 from rfl), if_neg (show ¬ 1 = 0 by decide), if_pos (show 1 = 1 from rfl)]
        · rw [if_neg (show ¬ nI 2 = 0 by decide), if_neg (show ¬ nI 2 = 1 by decide), if_neg (show ¬ 2 = 0 by decide), if_neg (show ¬ 2 = 1 by decide)]
    · refine comb (s' := s) (r := -1) S ⟨h1, ?_, e2, fr⟩ (RO_same (fun h I A rs => ?_)) (w.mono (by omega))
      · rw [cl, if_neg (ti0 (j2 0 (by omega))), if_neg (ti1 (j2 1 (by omega))), if_neg (ti2 (j2 2 (by omega)))]
      · have v3 : v_in (nI i) (I 3 - 1) = 1 := by rw [rs.2.1.1]; exact i3
        rw [rl0, nd_153_0 (St_run (d + 7) mt_153), mkR_o, R_isMachine (d := d + 5), v3, bind_some', rI_some, if_neg (by decide), show (2 : Int64) = (2 : Int32).toInt64 from by decide, m_in0, j1, bind_some', rI_some, if_pos rfl, nd_153_20 (St_run (d + 7) mt_153)]
  · refine comb (s' := s) (r := -1) S (CO_same c ?_) (RO_same (fun h I A rs => ?_)) (w.mono (by omega))
    · rw [cl0, nd_84_0 (St_run (d + 7) mt_84), c1.o, C_mNo (d := d + 6) c1 wK m i2, bind_some', rQ_null]
    · have v3 : v_in m (I 3 - 1) = 0 := by rw [rs.2.1.1]; exact i1
      rw [rl0, nd_153_0 (St_run (d + 7) mt_153), mkR_o, R_isMachine (d := d + 5), v3, bind_some', rI_some, if_pos rfl, nd_153_20 (St_run (d + 7) mt_153)]
end OPS7
