/-! ===== pure: a run's place among the orbits, with its names ===== -/
/-- the label of a name -/
def lbl (c : Nat) (x : Nat → Int32) (y : Int32) : Nat := if lb c 0 ≠ 0 ∧ x 0 = y then lb c 0 else if lb c 1 ≠ 0 ∧ x 1 = y then lb c 1 else top c + 1
def PI (c : Nat) (x : Nat → Int32) : Prop := lb c 0 ≠ 0 → lb c 1 ≠ 0 → (lb c 0 = lb c 1 ↔ x 0 = x 1)
theorem lbl_ok {T : TM} {c : Nat} (vc : vd T T0 c) {x : Nat → Int32} (hp : PI c x) (y : Int32) : 1 ≤ lbl c x y ∧ lbl c x y ≤ top c + 1 ∧ ∀ r, r < 2 → (lb c r = lbl c x y ↔ lb c r ≠ 0 ∧ x r = y) := by
  have t0 := (lb_r vc.2.1 (show 0 < 4 by omega)).2
  have t1 := (lb_r vc.2.1 (show 1 < 4 by omega)).2
  unfold lbl
  by_cases h0 : lb c 0 ≠ 0 ∧ x 0 = y
  · rw [if_pos h0]
    refine ⟨by omega, by omega, fun r hr => ?_⟩
    rcases (show r = 0 ∨ r = 1 by omega) with rfl | rfl
    · exact ⟨fun _ => h0, fun _ => rfl⟩
    · constructor
      · intro e
        have h1 : lb c 1 ≠ 0 := by omega
        exact ⟨h1, ((hp h0.1 h1).mp e.symm) ▸ h0.2⟩
      · intro e
        exact ((hp h0.1 e.1).mpr (h0.2.trans e.2.symm)).symm
  · rw [if_neg h0]
    by_cases h1 : lb c 1 ≠ 0 ∧ x 1 = y
    · rw [if_pos h1]
      refine ⟨by omega, by omega, fun r hr => ?_⟩
      rcases (show r = 0 ∨ r = 1 by omega) with rfl | rfl
      · constructor
        · intro e
          have h2 : lb c 0 ≠ 0 := by omega
          exact ⟨h2, ((hp h2 h1.1).mp e).trans h1.2⟩
        · intro e; exact absurd e h0
      · exact ⟨fun _ => h1, fun _ => rfl⟩
    · rw [if_neg h1]
      refine ⟨by omega, Nat.le_refl _, fun r hr => ?_⟩
      rcases (show r = 0 ∨ r = 1 by omega) with rfl | rfl
      · exact ⟨fun e => by omega, fun e => absurd e h0⟩
      · exact ⟨fun e => by omega, fun e => absurd e h1⟩
/-- orbit, names in the registers, places of their keeping -/
abbrev PO : Type := Nat × ((Nat → Int32) × (Nat → Int32))
def cas (P : PO) (y : Int32) : Nat := cs (lb P.1) 0 (lbl P.1 P.2.1 y)
def kps (T : TM) (P : PO) (l : Nat) (y : Int32) : Nat := T.2.2.1 (9 * (P.1 / 625 / 6) + 3 * l + cas P y)
def psT (T : TM) (P : PO) (l : Nat) (y at_ : Int32) : PO := (chd T T0 P.1 l (lbl P.1 P.2.1 y), ((fun r => if r = kps T P l y then y else P.2.1 r), (fun r => if r = kps T P l y then at_ else P.2.2 r)))
def PG (T : TM) (P : PO) : Prop := (∃ i, i < (bF T T0).1 ∧ (bF T T0).2.1 i = P.1) ∧ PI P.1 P.2.1
theorem PG.vd {T : TM} (hT : WFT T) {P : PO} (g : PG T P) : vd T T0 P.1 := by
  obtain ⟨⟨i, hi, e⟩, _⟩ := g
  rw [← e]
  exact (bF_GB hT T0_wf).2.2.1 i hi
theorem PI_step {T : TM} (hT : WFT T) {c l v : Nat} (vc : vd T T0 c) (hl : l < 3) (hv : 1 ≤ v) (hv2 : v ≤ top c + 1) {x : Nat → Int32} {y : Int32} (hp : PI c x) (hx : ∀ r, r < 2 → (lb c r = v ↔ lb c r ≠ 0 ∧ x r = y)) {k : Nat} (hk : k = T.2.2.1 (9 * (c / 625 / 6) + 3 * l + cs (lb c) 0 v)) : PI (chd T T0 c l v) (fun r => if r = k then y else x r) := by
  obtain ⟨_, _, _, e4⟩ := chd_ok hT T0_wf vc hl hv hv2
  obtain ⟨lA, _⟩ := chd_lb hT T0_wf vc hl hv hv2
  have kA := hT.2.2.2.2 (9 * (c / 625 / 6) + 3 * l + cs (lb c) 0 v)
  have rA := hT.2.2.1
  rw [← hk] at kA lA
  have P := (nxP_pat (p := c % 625) (v := v) (kA := k) (kB := 2) (by omega) vc.2.1 hv (by rw [← top_mod]; exact hv2) (by omega) (by omega) (show 0 < 4 by omega)).2 1 (by omega)
  have e5 : lb (chd T T0 c l v) = lb (nxP (c % 625) v k 2) := by
    rw [lb_mod (chd T T0 c l v), e4, nxP_mod, ← hk]
    rfl
  intro h0 h1
  have l0 := fun e2 e3 => h0 ((lA 0 (by omega)).mpr ⟨e2, e3⟩)
  have l1 := fun e2 e3 => h1 ((lA 1 (by omega)).mpr ⟨e2, e3⟩)
  rw [e5, P, ← lb_mod]
  dsimp only
  unfold asg
  rw [if_pos rfl]
  rcases (show k = 0 ∨ k = 1 ∨ k = 2 by omega) with rfl | rfl | rfl
  · rw [if_neg (by decide), updN_at, updN_ne (by decide), if_pos rfl, if_neg (by decide)]
    have := hx 1 (by omega)
    constructor
    · intro e; exact (this.mp e.symm).2.symm
    · intro e; exact (this.mpr ⟨l1 (by decide), e.symm⟩).symm
  · rw [if_neg (by decide), updN_ne (by decide), updN_at, if_neg (by decide), if_pos rfl]
    have := hx 0 (by omega)
    constructor
    · intro e; exact (this.mp e).2
    · intro e; exact this.mpr ⟨l0 (by decide), e⟩
  · rw [if_pos rfl, if_neg (by decide), if_neg (by decide)]
    exact hp (l0 (by decide)) (l1 (by decide))
theorem PG_step {T : TM} (hT : WFT T) {P : PO} (g : PG T P) {l : Nat} (hl : l < 3) (y at_ : Int32) : PG T (psT T P l y at_) := by
  have vc := g.vd hT
  obtain ⟨v1, v2, v3⟩ := lbl_ok vc g.2 y
  refine ⟨?_, PI_step hT vc hl v1 v2 g.2 v3 rfl⟩
  obtain ⟨⟨i, hi, e⟩, _⟩ := g
  obtain ⟨j, hj, e2⟩ := bF_closed hT T0_wf hi hl v1 (by rw [e]; exact v2)
  rw [e] at e2
  exact ⟨j, hj, e2⟩
def P0 : PO := (0, ((fun _ => 0), (fun _ => NO)))
theorem PG_0 {T : TM} (hT : WFT T) : PG T P0 := ⟨⟨0, (bF_GB hT T0_wf).1, (bF_GB hT T0_wf).2.1⟩, fun h => absurd (lb_0 0) h⟩
/-- along a row -/
def rnT (T : TM) (L : Nat → Nat) (X : Nat → Int32) : Nat → PO
  | 0 => P0
  | n + 1 => psT T (rnT T L X n) (L n) (X n) (nI n)
def lcT (T : TM) (L : Nat → Nat) (X : Nat → Int32) : Nat → Int32
  | 0 => NO
  | n + 1 => nI (cas (rnT T L X n) (X n))
theorem rnT_PG {T : TM} (hT : WFT T) {L : Nat → Nat} {X : Nat → Int32} : ∀ {n : Nat}, (∀ j, j < n → L j < 3) → PG T (rnT T L X n)
  | 0, _ => PG_0 hT
  | n + 1, h => PG_step hT (rnT_PG hT (fun j hj => h j (by omega))) (h n (by omega)) _ _
/-- places of keeping stand just where labels do -/
def PK (P : PO) : Prop := ∀ r, r < 2 → (lb P.1 r = 0 ↔ P.2.2 r = NO)
theorem PK_step {T : TM} (hT : WFT T) {P : PO} (g : PG T P) (pk : PK P) {l : Nat} (hl : l < 3) (y : Int32) {at_ : Int32} (ha : at_ ≠ NO) : PK (psT T P l y at_) := by
  have vc := g.vd hT
  obtain ⟨v1, v2, v3⟩ := lbl_ok vc g.2 y
  obtain ⟨lA, _⟩ := chd_lb hT T0_wf vc hl v1 v2
  intro r hr
  show lb (chd T T0 P.1 l (lbl P.1 P.2.1 y)) r = 0 ↔ (if r = kps T P l y then at_ else P.2.2 r) = NO
  rw [lA r hr]
  show r ≠ kps T P l y ∧ _ ↔ _
  by_cases e : r = kps T P l y
  · rw [if_pos e]
    exact ⟨fun h => absurd e h.1, fun h => absurd h ha⟩
  · rw [if_neg e]
    exact ⟨fun h => (pk r hr).mp h.2, fun h => ⟨e, (pk r hr).mpr h⟩⟩
theorem PK_0 : PK P0 := fun r _ => ⟨fun _ => rfl, fun _ => lb_0 r⟩
theorem rnT_PK {T : TM} (hT : WFT T) {L : Nat → Nat} {X : Nat → Int32} : ∀ {n : Nat}, n < 2 ^ 31 → (∀ j, j < n → L j < 3) → PK (rnT T L X n)
  | 0, _, _ => PK_0
  | n + 1, hn, h => PK_step hT (rnT_PG hT (fun j hj => h j (by omega))) (rnT_PK hT (by omega) (fun j hj => h j (by omega))) (h n (by omega)) _ (fun e => by rw [eq_NO (by omega)] at e; exact e)
/-! the code of an orbit out of a run's registers -/
def ol (p : Nat) : Nat → Nat := q4 (if lb p 0 = 0 then 0 else 1) (if lb p 1 = 0 then 0 else if lb p 0 ≠ 0 ∧ lb p 0 = lb p 1 then 1 else 2) 0 0
set_option maxRecDepth 100000 in
theorem fin6 : (List.range 625).all (fun p => !nor2 p || nrm (ol p) == p) = true := by decide +kernel
theorem olc_ok {T : TM} {c : Nat} (vc : vd T T0 c) : 625 * (6 * (c / 625 / 6) + 0) + nrm (ol c) = c := by
  have hz := T0_vd vc
  have hn2 : nor2 (c % 625) = true := by
    unfold nor2
    rw [vc.2.1, ← lb_mod, hz.2.1, hz.2.2]
    rfl
  have e := all_r fin6 (show c % 625 < 625 by omega)
  rw [hn2] at e
  simp only [Bool.not_true, Bool.false_or] at e
  have e2 := beq_iff_eq.mp e
  have e3 : ol (c % 625) = ol c := by
    unfold ol
    rw [← lb_mod]
  rw [e3] at e2
  rw [e2]
  have := hz.1
  omega
set_option maxRecDepth 100000 in
theorem fin7 : (List.range 625).all (fun p => !nor p || (!decide (lb p 0 = 0) || decide (lb p 1 ≤ 1))) = true := by decide +kernel
/-- the class' pattern of a run -/
theorem patN_fx {T : TM} {c : Nat} (vc : vd T T0 c) {D : D_Run} {x : Nat → Int32} (rd : RD D c 0 x) (hp : PI c x) : 6 * (c / 625 / 6) + patN D = fx c := by
  have h0 := (lb_r vc.2.1 (show 0 < 4 by omega)).1
  have h1 := (lb_r vc.2.1 (show 1 < 4 by omega)).1
  have q0 := rd.2 0 (by omega)
  have q1 := rd.2 1 (by omega)
  rw [Nat.add_zero] at q0
  rw [Nat.zero_add] at q1
  have e := beq_iff_eq.mp vc.2.1
  rw [← lb_mod] at e
  -- which labels may stand
  have hlab : lb c 0 = 0 → lb c 1 ≤ 1 := by
    intro z0
    have f := all_r fin7 (show c % 625 < 625 by omega)
    rw [vc.2.1] at f
    simp only [Bool.not_true, Bool.false_or, Bool.or_eq_true, Bool.not_eq_true', decide_eq_true_eq, decide_eq_false_iff_not] at f
    rw [← lb_mod] at f
    rcases f with f | f
    · exact absurd z0 f
    · exact f
  unfold fx patN
  rw [L_m4]
  by_cases z0 : lb c 0 = 0
  · rw [if_pos (q0.1 z0)]
    by_cases z1 : lb c 1 = 0
    · rw [if_pos (q1.1 z1), z0, z1]
    · rw [if_neg (q1.2 z1).1, z0]
      have := hlab z0
      omega
  · rw [if_neg (q0.2 z0).1]
    by_cases z1 : lb c 1 = 0
    · rw [if_pos (q1.1 z1), z1]
      omega
    · rw [if_neg (q1.2 z1).1, (q0.2 z0).2, (q1.2 z1).2]
      by_cases z2 : lb c 0 = lb c 1
      · rw [if_pos ((hp z0 z1).mp z2)]
        omega
      · rw [if_neg (fun e => z2 ((hp z0 z1).mpr e))]
        omega
