/-! ===== pure: orbits' codes and the search through them ===== -/
theorem all_r {n : Nat} {f : Nat → Bool} (h : (List.range n).all f = true) {p : Nat} (hp : p < n) : f p = true := List.all_eq_true.mp h p (List.mem_range.mpr hp)
theorem lb_mod (c : Nat) : lb c = lb (c % 625) := by
  funext j
  unfold lb
  rcases (show j = 0 ∨ j = 1 ∨ j = 2 ∨ 3 ≤ j by omega) with rfl | rfl | rfl | hj
  · show c / 125 % 5 = c % 625 / 125 % 5
    omega
  · show c / 25 % 5 = c % 625 / 25 % 5
    omega
  · show c / 5 % 5 = c % 625 / 5 % 5
    omega
  · rw [show 3 - j = 0 by omega]
    show c / 1 % 5 = c % 625 / 1 % 5
    omega
def nor (p : Nat) : Bool := nrm (lb p) == p
def top (c : Nat) : Nat := mx4 (lb c)
set_option maxRecDepth 100000 in
theorem fin1 : (List.range 625).all (fun p => !nor p || (decide (top p ≤ 4) && (List.range 6).all (fun v => decide (v = 0) || (decide (top p + 1 < v) || (List.range 3).all (fun kA => (List.range 3).all (fun kB => nor (nxP p v kA kB) && (decide (nxP p v kA kB < 625) && (List.range 4).all (fun r => !decide (lb p r = 0) || ((decide (r = kA) && decide (kA < 2)) || (decide (r = 2 + kB) || decide (lb (nxP p v kA kB) r = 0))))))))))) = true := by decide +kernel
theorem nxP_ok {p v kA kB : Nat} (hp : p < 625) (hn : nor p = true) (hv : 1 ≤ v) (hv2 : v ≤ top p + 1) (hA : kA = 2 ∨ kA < 2) (hB : kB = 2 ∨ kB < 2) : nor (nxP p v kA kB) = true ∧ nxP p v kA kB < 625 ∧ (∀ r, r < 4 → lb p r = 0 → ¬ (r = kA ∧ kA < 2) → r ≠ 2 + kB → lb (nxP p v kA kB) r = 0) ∧ top p ≤ 4 := by
  have e := all_r fin1 hp
  rw [hn] at e
  simp only [Bool.not_true, Bool.false_or, Bool.and_eq_true, decide_eq_true_eq] at e
  have e1 := all_r e.2 (show v < 6 by omega)
  simp only [Bool.or_eq_true, decide_eq_true_eq] at e1
  rcases e1 with e1 | e1 | e1
  · omega
  · omega
  · have e2 := all_r (all_r e1 (show kA < 3 by omega)) (show kB < 3 by omega)
    simp only [Bool.and_eq_true, decide_eq_true_eq] at e2
    refine ⟨e2.1, e2.2.1, fun r hr h0 h1 h2 => ?_, e.1⟩
    have e3 := all_r e2.2.2 hr
    simp only [Bool.or_eq_true, Bool.and_eq_true, Bool.not_eq_true', decide_eq_true_eq, decide_eq_false_iff_not] at e3
    rcases e3 with e3 | e3 | e3 | e3
    · exact absurd h0 e3
    · exact absurd e3 h1
    · exact absurd e3 h2
    · exact e3
/-- a code that may come -/
def vd (T U : TM) (c : Nat) : Prop := c < 22500 ∧ nor (c % 625) = true ∧ c / 625 / 6 < T.1.1 ∧ c / 625 % 6 < U.1.1 ∧ (∀ r, r < 2 → T.1.2 ≤ r → lb c r = 0) ∧ (∀ r, r < 2 → U.1.2 ≤ r → lb c (2 + r) = 0)
theorem top_mod (c : Nat) : top c = top (c % 625) := by unfold top; rw [lb_mod c]
theorem nxP_mod (c v kA kB : Nat) : nxP c v kA kB = nxP (c % 625) v kA kB := by unfold nxP; rw [lb_mod c]
theorem vd_0 {T U : TM} (hT : WFT T) (hU : WFT U) : vd T U 0 := ⟨by decide, by decide, hT.1, hU.1, fun r _ _ => by unfold lb; rw [Nat.zero_div], fun r _ _ => by unfold lb; rw [Nat.zero_div]⟩
theorem cs_lt {T : TM} {l : Nat → Nat} {b v : Nat} (hv : 1 ≤ v) (hl : ∀ r, r < 2 → T.1.2 ≤ r → l (b + r) = 0) : cs l b v = 2 ∨ cs l b v < T.1.2 := by
  unfold cs
  by_cases h0 : l b = v
  · rw [if_pos h0]
    by_cases h1 : T.1.2 ≤ 0
    · have := hl 0 (by omega) h1
      rw [Nat.add_zero] at this
      omega
    · omega
  · rw [if_neg h0]
    by_cases h0 : l (b + 1) = v
    · rw [if_pos h0]
      by_cases h1 : T.1.2 ≤ 1
      · have := hl 1 (by omega) h1
        omega
      · omega
    · rw [if_neg h0]
      exact Or.inl rfl
theorem chd_ok {T U : TM} (hT : WFT T) (hU : WFT U) {c l v : Nat} (hc : vd T U c) (hl : l < 3) (hv : 1 ≤ v) (hv2 : v ≤ top c + 1) : vd T U (chd T U c l v) ∧ chd T U c l v / 625 / 6 = T.2.1 (9 * (c / 625 / 6) + 3 * l + cs (lb c) 0 v) ∧ chd T U c l v / 625 % 6 = U.2.1 (9 * (c / 625 % 6) + 3 * l + cs (lb c) 2 v) ∧ chd T U c l v % 625 = nxP c v (T.2.2.1 (9 * (c / 625 / 6) + 3 * l + cs (lb c) 0 v)) (U.2.2.1 (9 * (c / 625 % 6) + 3 * l + cs (lb c) 2 v)) := by
  obtain ⟨c1, c2, c3, c4, c5, c6⟩ := hc
  have kA := hT.2.2.2.2 (9 * (c / 625 / 6) + 3 * l + cs (lb c) 0 v)
  have kB := hU.2.2.2.2 (9 * (c / 625 % 6) + 3 * l + cs (lb c) 2 v)
  have rA := hT.2.2.1
  have rB := hU.2.2.1
  have wA := cs_le (lb c) 0 v
  have wB := cs_le (lb c) 2 v
  have nA := hT.2.2.2.1 (9 * (c / 625 / 6) + 3 * l + cs (lb c) 0 v) (by omega)
  have nB := hU.2.2.2.1 (9 * (c / 625 % 6) + 3 * l + cs (lb c) 2 v) (by omega)
  have sA := hT.2.1
  have sB := hU.2.1
  unfold chd
  generalize T.2.1 (9 * (c / 625 / 6) + 3 * l + cs (lb c) 0 v) = xA at *
  generalize U.2.1 (9 * (c / 625 % 6) + 3 * l + cs (lb c) 2 v) = xB at *
  generalize T.2.2.1 (9 * (c / 625 / 6) + 3 * l + cs (lb c) 0 v) = yA at *
  generalize U.2.2.1 (9 * (c / 625 % 6) + 3 * l + cs (lb c) 2 v) = yB at *
  rw [nxP_mod]
  obtain ⟨e1, e2, e3, _⟩ := nxP_ok (p := c % 625) (v := v) (kA := yA) (kB := yB) (by omega) c2 hv (by rw [← top_mod]; exact hv2) (by omega) (by omega)
  generalize nxP (c % 625) v yA yB = z at *
  have hm : (625 * (6 * xA + xB) + z) % 625 = z := by omega
  refine ⟨⟨by omega, by rw [hm]; exact e1, by omega, by omega, fun r hr hr2 => ?_, fun r hr hr2 => ?_⟩, by omega, by omega, hm⟩
  · rw [lb_mod, hm]
    exact e3 r (by omega) (by rw [← lb_mod]; exact c5 r hr hr2) (by omega) (by omega)
  · rw [lb_mod, hm]
    exact e3 (2 + r) (by omega) (by rw [← lb_mod]; exact c6 r hr hr2) (by omega) (by omega)
/-! the search: how many, the codes, from where, by which way (8 letters + label) -/
abbrev BS : Type := Nat × ((Nat → Nat) × ((Nat → Nat) × (Nat → Nat)))
def memN (q : Nat → Nat) (c : Nat) : Nat → Bool
  | 0 => false
  | n + 1 => memN q c n || q n == c
theorem memN_iff {q : Nat → Nat} {c : Nat} : ∀ {n : Nat}, memN q c n = true ↔ ∃ j, j < n ∧ q j = c
  | 0 => by simp [memN]
  | n + 1 => by
    unfold memN
    rw [Bool.or_eq_true, memN_iff (n := n), beq_iff_eq]
    constructor
    · rintro (⟨j, h1, h2⟩ | h)
      · exact ⟨j, by omega, h2⟩
      · exact ⟨n, by omega, h⟩
    · rintro ⟨j, h1, h2⟩
      by_cases hj : j = n
      · subst hj; exact Or.inr h2
      · exact Or.inl ⟨j, by omega, h2⟩
def vis (B : BS) (c i w : Nat) : BS := if memN B.2.1 c B.1 = true then B else (B.1 + 1, (updN B.2.1 B.1 c, (updN B.2.2.1 B.1 i, updN B.2.2.2 B.1 w)))
def exV (ch : Nat → Nat) (i l : Nat) : List Nat → BS → BS
  | [], B => B
  | v :: vs, B => exV ch i l vs (vis B (ch v) i (8 * l + v))
def vsN (c : Nat) : List Nat := List.range' 1 (top c + 1)
def exN (T U : TM) (i : Nat) (B : BS) : BS := exV (chd T U (B.2.1 i) 2) i 2 (vsN (B.2.1 i)) (exV (chd T U (B.2.1 i) 1) i 1 (vsN (B.2.1 i)) (exV (chd T U (B.2.1 i) 0) i 0 (vsN (B.2.1 i)) B))
def B0 : BS := (1, (fun _ => 0, (fun _ => 0, fun _ => 0)))
def bf (T U : TM) : Nat → BS
  | 0 => B0
  | i + 1 => if i < (bf T U i).1 then exN T U i (bf T U i) else bf T U i
def GB (T U : TM) (B : BS) : Prop := 1 ≤ B.1 ∧ B.2.1 0 = 0 ∧ (∀ j, j < B.1 → vd T U (B.2.1 j)) ∧ (∀ j k, j < B.1 → k < B.1 → B.2.1 j = B.2.1 k → j = k) ∧ (∀ j, 0 < j → j < B.1 → B.2.2.1 j < j ∧ ∃ l v, l < 3 ∧ 1 ≤ v ∧ v ≤ top (B.2.1 (B.2.2.1 j)) + 1 ∧ B.2.2.2 j = 8 * l + v ∧ B.2.1 j = chd T U (B.2.1 (B.2.2.1 j)) l v)
/-- B' goes on from B -/
def pre (B B' : BS) : Prop := B.1 ≤ B'.1 ∧ ∀ j, j < B.1 → B'.2.1 j = B.2.1 j ∧ B'.2.2.1 j = B.2.2.1 j ∧ B'.2.2.2 j = B.2.2.2 j
theorem pre.rf (B : BS) : pre B B := ⟨Nat.le_refl _, fun _ _ => ⟨rfl, rfl, rfl⟩⟩
theorem pre.tr {B C D : BS} (p : pre B C) (q : pre C D) : pre B D := ⟨Nat.le_trans p.1 q.1, fun j hj => by
  have a := p.2 j hj
  have b := q.2 j (Nat.lt_of_lt_of_le hj p.1)
  exact ⟨b.1.trans a.1, b.2.1.trans a.2.1, b.2.2.trans a.2.2⟩⟩
theorem vis_pre (B : BS) (c i w : Nat) : pre B (vis B c i w) := by
  unfold vis
  split
  · exact pre.rf B
  · exact ⟨Nat.le_succ _, fun j hj => ⟨updN_ne (by omega), updN_ne (by omega), updN_ne (by omega)⟩⟩
theorem vis_mem (B : BS) (c i w : Nat) : ∃ j, j < (vis B c i w).1 ∧ (vis B c i w).2.1 j = c := by
  unfold vis
  by_cases h : memN B.2.1 c B.1 = true
  · rw [if_pos h]
    exact memN_iff.mp h
  · rw [if_neg h]
    exact ⟨B.1, Nat.lt_succ_self _, updN_at _ _ _⟩
theorem vis_GB {T U : TM} (hT : WFT T) (hU : WFT U) {B : BS} (g : GB T U B) {i l v : Nat} (hi : i < B.1) (hl : l < 3) (hv : 1 ≤ v) (hv2 : v ≤ top (B.2.1 i) + 1) : GB T U (vis B (chd T U (B.2.1 i) l v) i (8 * l + v)) := by
  unfold vis
  by_cases h : memN B.2.1 (chd T U (B.2.1 i) l v) B.1 = true
  · rw [if_pos h]
    exact g
  · rw [if_neg h]
    obtain ⟨g1, g2, g3, g4, g5⟩ := g
    have hn : ∀ j, j < B.1 → B.2.1 j ≠ chd T U (B.2.1 i) l v := fun j hj e => h (memN_iff.mpr ⟨j, hj, e⟩)
    refine ⟨by omega, ?_, fun j hj => ?_, fun j k hj hk e => ?_, fun j h0 hj => ?_⟩
    · show updN B.2.1 B.1 _ 0 = 0
      rw [updN_ne (by omega)]
      exact g2
    · show vd T U (updN B.2.1 B.1 _ j)
      by_cases hjn : j = B.1
      · rw [hjn, updN_at]
        exact (chd_ok hT hU (g3 i hi) hl hv hv2).1
      · rw [updN_ne hjn]
        exact g3 j (by dsimp only at hj; omega)
    · dsimp only at hj hk e
      by_cases hjn : j = B.1
      · by_cases hkn : k = B.1
        · omega
        · rw [hjn, updN_at, updN_ne hkn] at e
          exact absurd e.symm (hn k (by omega))
      · by_cases hkn : k = B.1
        · rw [hkn, updN_at, updN_ne hjn] at e
          exact absurd e (hn j (by omega))
        · rw [updN_ne hjn, updN_ne hkn] at e
          exact g4 j k (by omega) (by omega) e
    · dsimp only at hj ⊢
      by_cases hjn : j = B.1
      · subst hjn
        rw [updN_at, updN_at, updN_at, updN_ne (by omega)]
        exact ⟨hi, l, v, hl, hv, hv2, rfl, rfl⟩
      · rw [updN_ne hjn, updN_ne hjn, updN_ne hjn]
        have e := g5 j h0 (by omega)
        rw [updN_ne (by omega)]
        exact e
/-- all labels of one letter -/
theorem exV_ok {T U : TM} (hT : WFT T) (hU : WFT U) {c i l : Nat} (hl : l < 3) : ∀ (vs : List Nat) (B : BS), GB T U B → i < B.1 → B.2.1 i = c → (∀ v ∈ vs, 1 ≤ v ∧ v ≤ top c + 1) → GB T U (exV (chd T U c l) i l vs B) ∧ pre B (exV (chd T U c l) i l vs B) ∧ ∀ v ∈ vs, ∃ j, j < (exV (chd T U c l) i l vs B).1 ∧ (exV (chd T U c l) i l vs B).2.1 j = chd T U c l v
  | [], B, g, _, _, _ => ⟨g, pre.rf B, fun v hv => by cases hv⟩
  | v :: vs, B, g, hi, hc, hvs => by
    subst hc
    have hv := hvs v (List.mem_cons_self ..)
    have p := vis_pre B (chd T U (B.2.1 i) l v) i (8 * l + v)
    obtain ⟨e1, e2, e3⟩ := exV_ok hT hU hl vs (vis B (chd T U (B.2.1 i) l v) i (8 * l + v)) (vis_GB hT hU g hi hl hv.1 hv.2) (Nat.lt_of_lt_of_le hi p.1) (p.2 i hi).1 (fun w hw => hvs w (List.mem_cons_of_mem _ hw))
    refine ⟨e1, p.tr e2, fun w hw => ?_⟩
    rcases List.mem_cons.mp hw with rfl | hw
    · obtain ⟨j, h1, h2⟩ := vis_mem B (chd T U (B.2.1 i) l w) i (8 * l + w)
      exact ⟨j, Nat.lt_of_lt_of_le h1 e2.1, (e2.2 j h1).1.trans h2⟩
    · exact e3 w hw
theorem vsN_mem {c v : Nat} : v ∈ vsN c ↔ 1 ≤ v ∧ v ≤ top c + 1 := by
  unfold vsN
  rw [List.mem_range'_1]
  omega
theorem exN_ok {T U : TM} (hT : WFT T) (hU : WFT U) {B : BS} {i : Nat} (g : GB T U B) (hi : i < B.1) : GB T U (exN T U i B) ∧ pre B (exN T U i B) ∧ ∀ l v, l < 3 → 1 ≤ v → v ≤ top (B.2.1 i) + 1 → ∃ j, j < (exN T U i B).1 ∧ (exN T U i B).2.1 j = chd T U (B.2.1 i) l v := by
  unfold exN
  have hv : ∀ v ∈ vsN (B.2.1 i), 1 ≤ v ∧ v ≤ top (B.2.1 i) + 1 := fun v h => vsN_mem.mp h
  obtain ⟨a1, a2, a3⟩ := exV_ok hT hU (show 0 < 3 by decide) (vsN (B.2.1 i)) B g hi rfl hv
  obtain ⟨b1, b2, b3⟩ := exV_ok hT hU (show 1 < 3 by decide) (vsN (B.2.1 i)) _ a1 (Nat.lt_of_lt_of_le hi a2.1) (a2.2 i hi).1 hv
  have p2 := a2.tr b2
  obtain ⟨c1, c2, c3⟩ := exV_ok hT hU (show 2 < 3 by decide) (vsN (B.2.1 i)) _ b1 (Nat.lt_of_lt_of_le hi p2.1) (p2.2 i hi).1 hv
  refine ⟨c1, p2.tr c2, fun l v h1 h2 h3 => ?_⟩
  have hm := vsN_mem.mpr ⟨h2, h3⟩
  rcases (show l = 0 ∨ l = 1 ∨ l = 2 by omega) with rfl | rfl | rfl
  · obtain ⟨j, j1, j2⟩ := a3 v hm
    have p := b2.tr c2
    exact ⟨j, Nat.lt_of_lt_of_le j1 p.1, (p.2 j j1).1.trans j2⟩
  · obtain ⟨j, j1, j2⟩ := b3 v hm
    exact ⟨j, Nat.lt_of_lt_of_le j1 c2.1, (c2.2 j j1).1.trans j2⟩
  · exact c3 v hm
theorem B0_GB {T U : TM} (hT : WFT T) (hU : WFT U) : GB T U B0 := ⟨Nat.le_refl _, rfl, fun _ _ => vd_0 hT hU, fun j k hj hk _ => by dsimp only [B0] at hj hk; omega, fun j h0 hj => by dsimp only [B0] at hj; omega⟩
theorem bf_GB {T U : TM} (hT : WFT T) (hU : WFT U) : ∀ i, GB T U (bf T U i)
  | 0 => B0_GB hT hU
  | i + 1 => by
    have g := bf_GB hT hU i
    unfold bf
    split
    · rename_i h
      exact (exN_ok hT hU g h).1
    · exact g
theorem bf_pre1 {T U : TM} (hT : WFT T) (hU : WFT U) (i : Nat) : pre (bf T U i) (bf T U (i + 1)) := by
  show pre _ (if i < (bf T U i).1 then exN T U i (bf T U i) else bf T U i)
  by_cases h : i < (bf T U i).1
  · rw [if_pos h]
    exact (exN_ok hT hU (bf_GB hT hU i) h).2.1
  · rw [if_neg h]
    exact pre.rf _
theorem bf_pre {T U : TM} (hT : WFT T) (hU : WFT U) (i : Nat) : ∀ k, pre (bf T U i) (bf T U (i + k))
  | 0 => pre.rf _
  | k + 1 => (bf_pre hT hU i k).tr (bf_pre1 hT hU (i + k))
theorem bf_end {T U : TM} {i : Nat} (h : (bf T U i).1 ≤ i) : ∀ k, bf T U (i + k) = bf T U i
  | 0 => rfl
  | k + 1 => by
    have e := bf_end h k
    show (if i + k < (bf T U (i + k)).1 then exN T U (i + k) (bf T U (i + k)) else bf T U (i + k)) = _
    rw [e, if_neg (by omega)]
/-! how many there are -/
theorem php : ∀ (N n : Nat) (f : Nat → Nat), (∀ j, j < n → f j < N) → (∀ j k, j < n → k < n → f j = f k → j = k) → n ≤ N
  | 0, n, f, h1, _ => by
    by_cases h : 0 < n
    · have := h1 0 h; omega
    · omega
  | N + 1, 0, _, _, _ => Nat.zero_le _
  | N + 1, n + 1, f, h1, h2 => by
    have hi : ∀ j, j < n → f j ≠ f n := fun j hj e => by have := h2 j n (by omega) (by omega) e; omega
    have hn := h1 n (by omega)
    have := php N n (fun j => if f j = N then f n else f j) (fun j hj => by
      have a := h1 j (by omega)
      have b := hi j hj
      split <;> omega) (fun j k hj hk e => by
      have a := hi j hj
      have b := hi k hk
      by_cases e1 : f j = N
      · by_cases e2 : f k = N
        · exact h2 j k (by omega) (by omega) (by omega)
        · rw [if_pos e1, if_neg e2] at e
          exact absurd e.symm b
      · by_cases e2 : f k = N
        · rw [if_neg e1, if_pos e2] at e
          exact absurd e a
        · rw [if_neg e1, if_neg e2] at e
          exact h2 j k (by omega) (by omega) e)
    omega
theorem ctN_mono (p : Nat → Bool) (a : Nat) : ∀ k, ctN p a ≤ ctN p (a + k)
  | 0 => Nat.le_refl _
  | k + 1 => Nat.le_trans (ctN_mono p a k) (by show ctN p (a + k) ≤ ctN p (a + k) + _; omega)
theorem ctN_lt {p : Nat → Bool} {a b : Nat} (h : p a = true) (hb : a < b) : ctN p a < ctN p b := by
  have e := ctN_mono p (a + 1) (b - (a + 1))
  rw [show a + 1 + (b - (a + 1)) = b by omega, ctN_t h] at e
  omega
theorem ctN_inj {p : Nat → Bool} {a b : Nat} (ha : p a = true) (hb : p b = true) (h : ctN p a = ctN p b) : a = b := by
  rcases Nat.lt_trichotomy a b with h1 | h1 | h1
  · have := ctN_lt ha h1; omega
  · exact h1
  · have := ctN_lt hb h1; omega
set_option maxRecDepth 100000 in
theorem nor_52 : ctN nor 625 = 52 := by decide +kernel
def nor2 (p : Nat) : Bool := nor p && (lb p 2 == 0 && lb p 3 == 0)
set_option maxRecDepth 100000 in
theorem nor2_5 : ctN nor2 625 = 5 := by decide +kernel
theorem GB_most {T U : TM} (hT : WFT T) (hU : WFT U) {B : BS} (g : GB T U B) : B.1 ≤ 1872 := by
  obtain ⟨g1, g2, g3, g4, g5⟩ := g
  have sA := hT.2.1
  have sB := hU.2.1
  refine php 1872 B.1 (fun j => 52 * (B.2.1 j / 625) + ctN nor (B.2.1 j % 625)) (fun j hj => ?_) (fun j k hj hk e => ?_)
  · obtain ⟨v1, v2, v3, v4, _⟩ := g3 j hj
    have := ctN_lt v2 (show B.2.1 j % 625 < 625 by omega)
    rw [nor_52] at this
    omega
  · obtain ⟨v1, v2, _⟩ := g3 j hj
    obtain ⟨w1, w2, _⟩ := g3 k hk
    have h1 := ctN_lt v2 (show B.2.1 j % 625 < 625 by omega)
    have h2 := ctN_lt w2 (show B.2.1 k % 625 < 625 by omega)
    rw [nor_52] at h1 h2
    have := ctN_inj v2 w2 (by omega)
    exact g4 j k hj hk (by omega)
theorem GB_alone {T : TM} (hT : WFT T) {B : BS} (g : GB T T0 B) : B.1 ≤ 30 := by
  obtain ⟨g1, g2, g3, g4, g5⟩ := g
  have sA := hT.2.1
  have hn : ∀ j, j < B.1 → nor2 (B.2.1 j % 625) = true ∧ B.2.1 j / 625 % 6 = 0 := fun j hj => by
    obtain ⟨v1, v2, v3, v4, v5, v6⟩ := g3 j hj
    have h2 := v6 0 (by decide) (Nat.zero_le _)
    have h3 := v6 1 (by decide) (Nat.zero_le _)
    rw [lb_mod] at h2 h3
    unfold nor2
    rw [v2, h2, h3]
    exact ⟨rfl, Nat.lt_one_iff.mp v4⟩
  refine php 30 B.1 (fun j => 5 * (B.2.1 j / 625 / 6) + ctN nor2 (B.2.1 j % 625)) (fun j hj => ?_) (fun j k hj hk e => ?_)
  · obtain ⟨v1, v2, v3, v4, _⟩ := g3 j hj
    have := ctN_lt (hn j hj).1 (show B.2.1 j % 625 < 625 by omega)
    rw [nor2_5] at this
    omega
  · have a := hn j hj
    have b := hn k hk
    have h1 := ctN_lt a.1 (show B.2.1 j % 625 < 625 by omega)
    have h2 := ctN_lt b.1 (show B.2.1 k % 625 < 625 by omega)
    rw [nor2_5] at h1 h2
    have := ctN_inj a.1 b.1 (by omega)
    exact g4 j k hj hk (by omega)
/-- the whole search -/
def bF (T U : TM) : BS := bf T U 1872
theorem bF_of {T U : TM} (hT : WFT T) (hU : WFT U) {i : Nat} (h : (bf T U i).1 ≤ i) : bf T U i = bF T U := by
  have h2 := GB_most hT hU (bf_GB hT hU 1872)
  rcases Nat.le_total i 1872 with hi | hi
  · have e := bf_end h (1872 - i)
    rw [show i + (1872 - i) = 1872 by omega] at e
    exact e.symm
  · have e := bf_end h2 (i - 1872)
    rw [show 1872 + (i - 1872) = i by omega] at e
    exact e
/-- every way from what was met leads to what was met -/
theorem bf_closed {T U : TM} (hT : WFT T) (hU : WFT U) {N i l v : Nat} (hm : (bf T U N).1 ≤ N) (hi : i < (bf T U N).1) (hl : l < 3) (hv : 1 ≤ v) (hv2 : v ≤ top ((bf T U N).2.1 i) + 1) : ∃ j, j < (bf T U N).1 ∧ (bf T U N).2.1 j = chd T U ((bf T U N).2.1 i) l v := by
  have p := bf_pre hT hU (i + 1) (N - (i + 1))
  rw [show i + 1 + (N - (i + 1)) = N by omega] at p
  have p0 := bf_pre hT hU i (N - i)
  rw [show i + (N - i) = N by omega] at p0
  by_cases h : i < (bf T U i).1
  · have e : bf T U (i + 1) = exN T U i (bf T U i) := if_pos h
    obtain ⟨_, _, x3⟩ := exN_ok hT hU (bf_GB hT hU i) h
    rw [(p0.2 i h).1] at hv2 ⊢
    obtain ⟨j, j1, j2⟩ := x3 l v hl hv hv2
    rw [e] at p
    exact ⟨j, Nat.lt_of_lt_of_le j1 p.1, (p.2 j j1).1.trans j2⟩
  · have e := bf_end (show (bf T U i).1 ≤ i by omega) (N - i)
    rw [show i + (N - i) = N by omega] at e
    rw [e] at hi
    exact absurd hi h
theorem bF_GB {T U : TM} (hT : WFT T) (hU : WFT U) : GB T U (bF T U) := bf_GB hT hU 1872
theorem bF_closed {T U : TM} (hT : WFT T) (hU : WFT U) {i l v : Nat} (hi : i < (bF T U).1) (hl : l < 3) (hv : 1 ≤ v) (hv2 : v ≤ top ((bF T U).2.1 i) + 1) : ∃ j, j < (bF T U).1 ∧ (bF T U).2.1 j = chd T U ((bF T U).2.1 i) l v := by
  have hm := GB_most hT hU (bF_GB hT hU)
  obtain ⟨N, hN, e⟩ : ∃ N, N = 1872 ∧ bF T U = bf T U N := ⟨1872, rfl, rfl⟩
  rw [e] at hm hi hv2 ⊢
  have hm : (bf T U N).1 ≤ N := Nat.le_trans hm (Nat.le_of_eq hN.symm)
  exact bf_closed hT hU hm hi hl hv hv2
theorem bF_pre {T U : TM} (hT : WFT T) (hU : WFT U) {i : Nat} (hi : i ≤ 1872) : pre (bf T U i) (bF T U) := by
  have p := bf_pre hT hU i (1872 - i)
  rw [show i + (1872 - i) = 1872 by omega] at p
  exact p
