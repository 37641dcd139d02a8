/-! ===== pure: the way to an orbit, its names ===== -/
def itr (f : Nat → Nat) : Nat → Nat → Nat
  | 0, j => j
  | k + 1, j => f (itr f k j)
theorem itr_s (f : Nat → Nat) (j : Nat) : ∀ k, itr f (k + 1) j = itr f k (f j)
  | 0 => rfl
  | k + 1 => congrArg f (itr_s f j k)
def dpt (f : Nat → Nat) : Nat → Nat → Nat
  | 0, _ => 0
  | m + 1, j => if j = 0 then 0 else dpt f m (f j) + 1
theorem dpt_ok {f : Nat → Nat} {N : Nat} (hf : ∀ j, 0 < j → j < N → f j < j) : ∀ (m j : Nat), j ≤ m → j < N → itr f (dpt f m j) j = 0 ∧ dpt f m j ≤ j ∧ ∀ k, k < dpt f m j → 0 < itr f k j ∧ itr f k j < N
  | 0, j, hj, _ => ⟨by unfold dpt itr; omega, by unfold dpt; omega, fun k hk => by unfold dpt at hk; omega⟩
  | m + 1, j, hj, hN => by
    unfold dpt
    by_cases h0 : j = 0
    · rw [if_pos h0]
      exact ⟨h0, by omega, fun k hk => by omega⟩
    · rw [if_neg h0]
      have h1 := hf j (by omega) hN
      obtain ⟨e1, e2, e3⟩ := dpt_ok hf m (f j) (by omega) (by omega)
      refine ⟨by rw [itr_s]; exact e1, by omega, fun k hk => ?_⟩
      cases k with
      | zero => exact ⟨by show 0 < j; omega, hN⟩
      | succ k =>
        rw [itr_s]
        exact e3 k (by omega)
set_option maxRecDepth 100000 in
theorem fin2 : (List.range 625).all (fun p => !nor p || (List.range 6).all (fun v => decide (v = 0) || (decide (top p + 1 < v) || (List.range 3).all (fun kA => (List.range 3).all (fun kB => (List.range 4).all (fun r => decide (lb (nxP p v kA kB) r = 0 ↔ asg (asg (lb p) 0 kA v) 2 kB v r = 0) && (List.range 4).all (fun s => decide (lb (nxP p v kA kB) r = lb (nxP p v kA kB) s ↔ asg (asg (lb p) 0 kA v) 2 kB v r = asg (asg (lb p) 0 kA v) 2 kB v s)))))))) = true := by decide +kernel
theorem nxP_pat {p v kA kB : Nat} (hp : p < 625) (hn : nor p = true) (hv : 1 ≤ v) (hv2 : v ≤ top p + 1) (hA : kA = 2 ∨ kA < 2) (hB : kB = 2 ∨ kB < 2) {r : Nat} (hr : r < 4) : (lb (nxP p v kA kB) r = 0 ↔ asg (asg (lb p) 0 kA v) 2 kB v r = 0) ∧ ∀ s, s < 4 → (lb (nxP p v kA kB) r = lb (nxP p v kA kB) s ↔ asg (asg (lb p) 0 kA v) 2 kB v r = asg (asg (lb p) 0 kA v) 2 kB v s) := by
  have e := all_r fin2 hp
  rw [hn] at e
  simp only [Bool.not_true, Bool.false_or] at e
  have ht := (nxP_ok (p := p) (v := 1) (kA := 2) (kB := 2) hp hn (by omega) (by omega) (by omega) (by omega)).2.2.2
  have e1 := all_r e (show v < 6 by omega)
  simp only [Bool.or_eq_true, decide_eq_true_eq] at e1
  rcases e1 with e1 | e1 | e1
  · omega
  · omega
  · have e2 := all_r (all_r (all_r e1 (show kA < 3 by omega)) (show kB < 3 by omega)) hr
    rw [Bool.and_eq_true] at e2
    exact ⟨of_decide_eq_true e2.1, fun s hs => of_decide_eq_true (all_r e2.2 hs)⟩
/-- the name that comes: a register's, or the next new one -/
def nm (c v : Nat) (rn : Nat → Nat) (nx : Nat) : Nat := if lb c 0 = v then rn 0 else if lb c 1 = v then rn 1 else if lb c 2 = v then rn 2 else if lb c 3 = v then rn 3 else nx
def hit (c v : Nat) : Prop := lb c 0 = v ∨ lb c 1 = v ∨ lb c 2 = v ∨ lb c 3 = v
/-- names in registers stand as the labels -/
def NI (c : Nat) (rn : Nat → Nat) (nx : Nat) : Prop := ∀ r, r < 4 → lb c r ≠ 0 → rn r < nx ∧ ∀ s, s < 4 → lb c s ≠ 0 → (lb c r = lb c s ↔ rn r = rn s)
theorem nm_of {c v : Nat} {rn : Nat → Nat} {nx : Nat} (hI : NI c rn nx) (hv : 1 ≤ v) {r : Nat} (hr : r < 4) : lb c r = v ↔ lb c r ≠ 0 ∧ rn r = nm c v rn nx := by
  have key : ∀ s, s < 4 → lb c s = v → (lb c r = v ↔ lb c r ≠ 0 ∧ rn r = rn s) := fun s hs h => by
    constructor
    · intro h2
      exact ⟨by omega, ((hI r hr (by omega)).2 s hs (by omega)).mp (by omega)⟩
    · intro h2
      have := ((hI r hr h2.1).2 s hs (by omega)).mpr h2.2
      omega
  unfold nm
  by_cases h0 : lb c 0 = v
  · rw [if_pos h0]; exact key 0 (by omega) h0
  · rw [if_neg h0]
    by_cases h1 : lb c 1 = v
    · rw [if_pos h1]; exact key 1 (by omega) h1
    · rw [if_neg h1]
      by_cases h2 : lb c 2 = v
      · rw [if_pos h2]; exact key 2 (by omega) h2
      · rw [if_neg h2]
        by_cases h3 : lb c 3 = v
        · rw [if_pos h3]; exact key 3 (by omega) h3
        · rw [if_neg h3]
          constructor
          · intro h
            rcases (show r = 0 ∨ r = 1 ∨ r = 2 ∨ r = 3 by omega) with rfl | rfl | rfl | rfl
            · exact absurd h h0
            · exact absurd h h1
            · exact absurd h h2
            · exact absurd h h3
          · intro h
            have := (hI r hr h.1).1
            omega
theorem nm_miss {c v : Nat} {rn : Nat → Nat} {nx : Nat} (h : ¬ hit c v) : nm c v rn nx = nx := by
  unfold nm
  rw [if_neg (fun e => h (Or.inl e)), if_neg (fun e => h (Or.inr (Or.inl e))), if_neg (fun e => h (Or.inr (Or.inr (Or.inl e)))), if_neg (fun e => h (Or.inr (Or.inr (Or.inr e))))]
theorem nm_hit {c v : Nat} {rn : Nat → Nat} {nx : Nat} (hI : NI c rn nx) (hv : 1 ≤ v) (h : hit c v) : nm c v rn nx < nx := by
  rcases h with h | h | h | h
  · have := (nm_of hI hv (show 0 < 4 by omega)).mp h
    rw [← this.2]
    exact (hI 0 (by omega) this.1).1
  · have := (nm_of hI hv (show 1 < 4 by omega)).mp h
    rw [← this.2]
    exact (hI 1 (by omega) this.1).1
  · have := (nm_of hI hv (show 2 < 4 by omega)).mp h
    rw [← this.2]
    exact (hI 2 (by omega) this.1).1
  · have := (nm_of hI hv (show 3 < 4 by omega)).mp h
    rw [← this.2]
    exact (hI 3 (by omega) this.1).1
def nxn (c v nx : Nat) : Nat := if lb c 0 = v ∨ lb c 1 = v ∨ lb c 2 = v ∨ lb c 3 = v then nx else nx + 1
/-- registers behind a step -/
def rnx (T U : TM) (c l v x : Nat) (rn : Nat → Nat) : Nat → Nat := asg (asg rn 0 (T.2.2.1 (9 * (c / 625 / 6) + 3 * l + cs (lb c) 0 v)) x) 2 (U.2.2.1 (9 * (c / 625 % 6) + 3 * l + cs (lb c) 2 v)) x
theorem asg_cases {kA kB v x : Nat} (l rn : Nat → Nat) (hA : kA = 2 ∨ kA < 2) (hB : kB = 2 ∨ kB < 2) (r : Nat) (hr : r < 4) : (asg (asg l 0 kA v) 2 kB v r = v ∧ asg (asg rn 0 kA x) 2 kB x r = x) ∨ (asg (asg l 0 kA v) 2 kB v r = l r ∧ asg (asg rn 0 kA x) 2 kB x r = rn r) := by
  unfold asg
  by_cases h2 : kB = 2
  · rw [if_pos h2, if_pos h2]
    by_cases h1 : kA = 2
    · rw [if_pos h1, if_pos h1]
      exact Or.inr ⟨rfl, rfl⟩
    · rw [if_neg h1, if_neg h1]
      by_cases h3 : r = 0 + kA
      · subst h3
        rw [updN_at, updN_at]
        exact Or.inl ⟨rfl, rfl⟩
      · rw [updN_ne h3, updN_ne h3]
        exact Or.inr ⟨rfl, rfl⟩
  · rw [if_neg h2, if_neg h2]
    by_cases h3 : r = 2 + kB
    · subst h3
      rw [updN_at, updN_at]
      exact Or.inl ⟨rfl, rfl⟩
    · rw [updN_ne h3, updN_ne h3]
      by_cases h1 : kA = 2
      · rw [if_pos h1, if_pos h1]
        exact Or.inr ⟨rfl, rfl⟩
      · rw [if_neg h1, if_neg h1]
        by_cases h3 : r = 0 + kA
        · subst h3
          rw [updN_at, updN_at]
          exact Or.inl ⟨rfl, rfl⟩
        · rw [updN_ne h3, updN_ne h3]
          exact Or.inr ⟨rfl, rfl⟩
theorem NI_step {T U : TM} (hT : WFT T) (hU : WFT U) {c l v : Nat} (hc : vd T U c) (hl : l < 3) (hv : 1 ≤ v) (hv2 : v ≤ top c + 1) {rn : Nat → Nat} {nx : Nat} (hI : NI c rn nx) : NI (chd T U c l v) (rnx T U c l v (nm c v rn nx) rn) (nxn c v nx) := by
  obtain ⟨_, _, _, e4⟩ := chd_ok hT hU hc hl hv hv2
  have kA := hT.2.2.2.2 (9 * (c / 625 / 6) + 3 * l + cs (lb c) 0 v)
  have kB := hU.2.2.2.2 (9 * (c / 625 % 6) + 3 * l + cs (lb c) 2 v)
  have rA := hT.2.2.1
  have rB := hU.2.2.1
  have hN : nm c v rn nx < nxn c v nx ∧ nx ≤ nxn c v nx := by
    unfold nxn
    by_cases h : lb c 0 = v ∨ lb c 1 = v ∨ lb c 2 = v ∨ lb c 3 = v
    · rw [if_pos h]
      exact ⟨nm_hit hI hv h, Nat.le_refl _⟩
    · rw [if_neg h, nm_miss h]
      omega
  unfold NI rnx
  rw [lb_mod (chd T U c l v), e4, nxP_mod]
  generalize T.2.2.1 (9 * (c / 625 / 6) + 3 * l + cs (lb c) 0 v) = yA at *
  generalize U.2.2.1 (9 * (c / 625 % 6) + 3 * l + cs (lb c) 2 v) = yB at *
  have P := fun r (hr : r < 4) => nxP_pat (p := c % 625) (v := v) (kA := yA) (kB := yB) (by omega) hc.2.1 hv (by rw [← top_mod]; exact hv2) (by omega) (by omega) hr
  rw [← lb_mod] at P
  intro r hr h0
  have p1 := P r hr
  have a1 := asg_cases (v := v) (x := nm c v rn nx) (kA := yA) (kB := yB) (lb c) rn (by omega) (by omega) r hr
  have m0 : asg (asg (lb c) 0 yA v) 2 yB v r ≠ 0 := fun e => h0 (p1.1.mpr e)
  constructor
  · rcases a1 with a1 | a1
    · rw [a1.2]; exact hN.1
    · rw [a1.2]
      have := (hI r hr (by rw [← a1.1]; exact m0)).1
      omega
  · intro s hs hs0
    have p2 := P s hs
    have a2 := asg_cases (v := v) (x := nm c v rn nx) (kA := yA) (kB := yB) (lb c) rn (by omega) (by omega) s hs
    have m1 : asg (asg (lb c) 0 yA v) 2 yB v s ≠ 0 := fun e => hs0 (p2.1.mpr e)
    rw [p1.2 s hs]
    rcases a1 with a1 | a1
    · rcases a2 with a2 | a2
      · rw [a1.1, a1.2, a2.1, a2.2]
        exact ⟨fun _ => rfl, fun _ => rfl⟩
      · rw [a1.1, a1.2, a2.1, a2.2]
        have := nm_of hI hv hs
        rw [a2.1] at m1
        constructor
        · intro e; exact (this.mp e.symm).2.symm
        · intro e; exact (this.mpr ⟨m1, e.symm⟩).symm
    · rcases a2 with a2 | a2
      · rw [a1.1, a1.2, a2.1, a2.2]
        have := nm_of hI hv hr
        rw [a1.1] at m0
        constructor
        · intro e; exact (this.mp e).2
        · intro e; exact this.mpr ⟨m0, e⟩
      · rw [a1.1, a1.2, a2.1, a2.2]
        rw [a1.1] at m0
        rw [a2.1] at m1
        exact (hI r hr m0).2 s hs m1
theorem lb_0 (r : Nat) : lb 0 r = 0 := by unfold lb; rw [Nat.zero_div]
theorem NI_0 : NI 0 (fun _ => 0) 0 := fun r _ h => absurd (lb_0 r) h
/-- registers and the next name behind k steps of a way -/
def tls (T U : TM) (C L V : Nat → Nat) : Nat → (Nat → Nat) × Nat
  | 0 => (fun _ => 0, 0)
  | k + 1 => (rnx T U (C k) (L k) (V k) (nm (C k) (V k) (tls T U C L V k).1 (tls T U C L V k).2) (tls T U C L V k).1, nxn (C k) (V k) (tls T U C L V k).2)
def tlx (T U : TM) (C L V : Nat → Nat) (k : Nat) : Nat := nm (C k) (V k) (tls T U C L V k).1 (tls T U C L V k).2
/-- a way of n steps -/
def isW (T U : TM) (C L V : Nat → Nat) (n : Nat) : Prop := C 0 = 0 ∧ ∀ k, k < n → vd T U (C k) ∧ L k < 3 ∧ 1 ≤ V k ∧ V k ≤ top (C k) + 1 ∧ C (k + 1) = chd T U (C k) (L k) (V k)
theorem tls_ok {T U : TM} (hT : WFT T) (hU : WFT U) {C L V : Nat → Nat} {n : Nat} (hW : isW T U C L V n) : ∀ k, k ≤ n → NI (C k) (tls T U C L V k).1 (tls T U C L V k).2 ∧ (tls T U C L V k).2 ≤ k
  | 0, _ => by rw [hW.1]; exact ⟨NI_0, Nat.le_refl _⟩
  | k + 1, hk => by
    obtain ⟨e1, e2⟩ := tls_ok hT hU hW k (by omega)
    obtain ⟨w1, w2, w3, w4, w5⟩ := hW.2 k (by omega)
    rw [w5]
    refine ⟨NI_step hT hU w1 w2 w3 w4 e1, ?_⟩
    show nxn _ _ _ ≤ _
    unfold nxn
    split <;> omega
theorem tlx_le {T U : TM} (hT : WFT T) (hU : WFT U) {C L V : Nat → Nat} {n : Nat} (hW : isW T U C L V n) {k : Nat} (hk : k < n) : tlx T U C L V k ≤ k := by
  obtain ⟨e1, e2⟩ := tls_ok hT hU hW k (by omega)
  obtain ⟨w1, w2, w3, w4, w5⟩ := hW.2 k hk
  unfold tlx
  by_cases h : hit (C k) (V k)
  · have := nm_hit e1 w3 h; omega
  · rw [nm_miss h]; omega
/-- the way to number j of a search -/
def wn (B : BS) (j : Nat) : Nat := dpt B.2.2.1 j j
def wX (B : BS) (j k : Nat) : Nat := itr B.2.2.1 (wn B j - k) j
def wC (B : BS) (j k : Nat) : Nat := B.2.1 (wX B j k)
def wL (B : BS) (j k : Nat) : Nat := B.2.2.2 (wX B j (k + 1)) / 8
def wV (B : BS) (j k : Nat) : Nat := B.2.2.2 (wX B j (k + 1)) % 8
theorem wX_ok {T U : TM} {B : BS} (g : GB T U B) {j : Nat} (hj : j < B.1) : wX B j 0 = 0 ∧ wX B j (wn B j) = j ∧ wn B j ≤ j ∧ ∀ k, k < wn B j → 0 < wX B j (k + 1) ∧ wX B j (k + 1) < B.1 ∧ B.2.2.1 (wX B j (k + 1)) = wX B j k := by
  obtain ⟨e1, e2, e3⟩ := dpt_ok (f := B.2.2.1) (N := B.1) (fun j h0 hj => (g.2.2.2.2 j h0 hj).1) j j (Nat.le_refl _) hj
  refine ⟨e1, ?_, e2, fun k hk => ?_⟩
  · unfold wX
    rw [Nat.sub_self]
    rfl
  · have h := e3 (wn B j - (k + 1)) (by unfold wn at *; omega)
    refine ⟨h.1, h.2, ?_⟩
    unfold wX
    rw [show wn B j - k = (wn B j - (k + 1)) + 1 by omega]
    rfl
theorem wW {T U : TM} (hT : WFT T) (hU : WFT U) {B : BS} (g : GB T U B) {j : Nat} (hj : j < B.1) : isW T U (wC B j) (wL B j) (wV B j) (wn B j) ∧ ∀ k, k < wn B j → B.2.2.2 (wX B j (k + 1)) = 8 * wL B j k + wV B j k := by
  obtain ⟨x0, xn, xl, xk⟩ := wX_ok g hj
  have key : ∀ k, k < wn B j → (vd T U (wC B j k) ∧ wL B j k < 3 ∧ 1 ≤ wV B j k ∧ wV B j k ≤ top (wC B j k) + 1 ∧ wC B j (k + 1) = chd T U (wC B j k) (wL B j k) (wV B j k)) ∧ B.2.2.2 (wX B j (k + 1)) = 8 * wL B j k + wV B j k := fun k hk => by
    obtain ⟨h1, h2, h3⟩ := xk k hk
    obtain ⟨f1, l, v, g1, g2, g3, g4, g5⟩ := g.2.2.2.2 _ h1 h2
    rw [h3] at f1 g3 g5
    have vc := g.2.2.1 (wX B j k) (by omega)
    have ht : top (B.2.1 (wX B j k)) ≤ 4 := by
      have := (nxP_ok (p := B.2.1 (wX B j k) % 625) (v := 1) (kA := 2) (kB := 2) (by omega) vc.2.1 (by omega) (by omega) (by omega) (by omega)).2.2.2
      rw [top_mod]
      exact this
    have d1 : wL B j k = l := by unfold wL; rw [g4]; omega
    have d2 : wV B j k = v := by unfold wV; rw [g4]; omega
    rw [d1, d2]
    exact ⟨⟨vc, g1, g2, g3, g5⟩, g4⟩
  refine ⟨⟨?_, fun k hk => (key k hk).1⟩, fun k hk => (key k hk).2⟩
  unfold wC
  rw [x0]
  exact g.2.1
