/-! ===== pure: two machines as one ===== -/
abbrev JS : Type := Nat × ((Nat → Nat) × ((Nat → Nat) × (Nat → Nat)))
def vcs (rg w : Nat) : Bool := w == 2 || decide (w < rg)
def jA (T : TM) (w : Nat) : Nat := if 0 < T.1.2 then w else 2
def jrg (T U : TM) : Nat := max T.1.2 U.1.2
def jxA (T : TM) (J : JS) (k i : Nat) : Nat := 9 * (J.2.1 k / 6) + 3 * (i / 3) + jA T (i % 3)
def jxB (U : TM) (J : JS) (k i : Nat) : Nat := 9 * (J.2.1 k % 6) + 3 * (i / 3) + jA U (i % 3)
def jp (T U : TM) (J : JS) (k i : Nat) : Nat := 6 * T.2.1 (jxA T J k i) + U.2.1 (jxB U J k i)
def jk (T U : TM) (J : JS) (k i : Nat) : Nat := if 0 < U.1.2 then U.2.2.1 (jxB U J k i) else T.2.2.1 (jxA T J k i)
def fnd (q : Nat → Nat) (p n : Nat) : Option Nat := fw (fun j => q j == p) n 0
/-- the step's place is written -/
def jw (J : JS) (z j k : Nat) : JS := (J.1, (J.2.1, (updN J.2.2.1 z j, updN J.2.2.2 z k)))
def jst (T U : TM) (k i : Nat) (J : JS) : Option JS := if vcs (jrg T U) (i % 3) = true then (match fnd J.2.1 (jp T U J k i) J.1 with
    | some j => some (jw J (9 * k + i) j (jk T U J k i))
    | none => if J.1 < 6 then some (jw (J.1 + 1, (updN J.2.1 J.1 (jp T U J k i), J.2.2)) (9 * k + i) J.1 (jk T U J k i)) else none) else some J
def jrow (T U : TM) (k : Nat) : Nat → Nat → JS → Option JS
  | 0, _, J => some J
  | m + 1, i, J => (jst T U k i J).bind (jrow T U k m (i + 1))
def jall (T U : TM) : Nat → Nat → JS → Option JS
  | 0, _, J => some J
  | m + 1, k, J => if k < J.1 then (jrow T U k 9 0 J).bind (jall T U m (k + 1)) else some J
def J0 : JS := (1, ((fun _ => 0), ((fun j => j / 9), (fun _ => 2))))
theorem fnd_s {q : Nat → Nat} {p n j : Nat} (h : fnd q p n = some j) : j < n ∧ q j = p := by
  have := fw_lt h
  exact ⟨by omega, beq_iff_eq.mp this.2.2⟩
theorem fnd_n {q : Nat → Nat} {p n : Nat} (h : fnd q p n = none) : ∀ j, j < n → q j ≠ p := fun j hj e => by
  have := (fw_none.mp h) j (Nat.zero_le _) (by omega)
  rw [beq_eq_false_iff_ne] at this
  exact this e
/-- what stands when the places up to z are done -/
def JI (T U : TM) (z : Nat) (J : JS) : Prop := 1 ≤ J.1 ∧ J.1 ≤ 6 ∧ (∀ j, j < J.1 → J.2.1 j / 6 < T.1.1 ∧ J.2.1 j % 6 < U.1.1) ∧ (∀ y, z ≤ y ∨ vcs (jrg T U) (y % 3) = false → J.2.2.1 y = y / 9 ∧ J.2.2.2 y = 2) ∧ (∀ y, y < z → vcs (jrg T U) (y % 3) = true → J.2.2.1 y < J.1) ∧ (∀ y, J.2.2.2 y = 2 ∨ J.2.2.2 y < jrg T U)
theorem J0_JI {T U : TM} (hT : WFT T) (hU : WFT U) : JI T U 0 J0 := ⟨Nat.le_refl _, by decide, fun j hj => ⟨Nat.lt_of_lt_of_le (by show 0 / 6 < 1; decide) hT.1, Nat.lt_of_lt_of_le (by show 0 % 6 < 1; decide) hU.1⟩, fun y _ => ⟨rfl, rfl⟩, fun y hy => by omega, fun y => Or.inl rfl⟩
/-- one of the two has no registers -/
theorem jA_ok {T : TM} (hT : WFT T) {w : Nat} (hw : w < 3) : jA T w ≤ 2 := by
  unfold jA
  split <;> omega
theorem jp_ok {T U : TM} (hT : WFT T) (hU : WFT U) {J : JS} {k i : Nat} (hk : J.2.1 k / 6 < T.1.1 ∧ J.2.1 k % 6 < U.1.1) (hi : i < 9) : jxA T J k i < 54 ∧ jxB U J k i < 54 ∧ jp T U J k i / 6 < T.1.1 ∧ jp T U J k i % 6 < U.1.1 ∧ (jk T U J k i = 2 ∨ jk T U J k i < jrg T U) := by
  have a1 := jA_ok hT (show i % 3 < 3 by omega)
  have a2 := jA_ok hU (show i % 3 < 3 by omega)
  have t6 := hT.2.1
  have u6 := hU.2.1
  have xA : jxA T J k i < 54 ∧ jxA T J k i / 9 < T.1.1 := by unfold jxA; omega
  have xB : jxB U J k i < 54 ∧ jxB U J k i / 9 < U.1.1 := by unfold jxB; omega
  have nA := hT.2.2.2.1 _ xA.2
  have nB := hU.2.2.2.1 _ xB.2
  have kA := hT.2.2.2.2 (jxA T J k i)
  have kB := hU.2.2.2.2 (jxB U J k i)
  refine ⟨xA.1, xB.1, by unfold jp; omega, by unfold jp; omega, ?_⟩
  unfold jk jrg
  split <;> omega
theorem jw_JI {T U : TM} {J : JS} {z j k : Nat} (g : JI T U z J) (hv : vcs (jrg T U) (z % 3) = true) (hj : j < J.1) (hk : k = 2 ∨ k < jrg T U) : JI T U (z + 1) (jw J z j k) := by
  obtain ⟨g1, g2, g3, g4, g5, g6⟩ := g
  refine ⟨g1, g2, g3, fun y hy => ?_, fun y hy hv2 => ?_, fun y => ?_⟩
  · have hne : y ≠ z := by
      rintro rfl
      rcases hy with hy | hy
      · omega
      · rw [hv] at hy; cases hy
    show updN J.2.2.1 z j y = y / 9 ∧ updN J.2.2.2 z k y = 2
    rw [updN_ne hne, updN_ne hne]
    exact g4 y (hy.imp (fun e => by omega) id)
  · show updN J.2.2.1 z j y < J.1
    by_cases e : y = z
    · rw [e, updN_at]; exact hj
    · rw [updN_ne e]; exact g5 y (by omega) hv2
  · show updN J.2.2.2 z k y = 2 ∨ updN J.2.2.2 z k y < jrg T U
    by_cases e : y = z
    · rw [e, updN_at]; exact hk
    · rw [updN_ne e]; exact g6 y
theorem jst_ok {T U : TM} (hT : WFT T) (hU : WFT U) {J K : JS} {k i : Nat} (g : JI T U (9 * k + i) J) (hk : k < J.1) (hi : i < 9) (h : jst T U k i J = some K) : JI T U (9 * k + (i + 1)) K ∧ J.1 ≤ K.1 ∧ ∀ j, j < J.1 → K.2.1 j = J.2.1 j := by
  obtain ⟨p1, p2, p3, p4, p5⟩ := jp_ok (i := i) hT hU (g.2.2.1 k hk) hi
  unfold jst at h
  have ez : (9 * k + i) % 3 = i % 3 := by omega
  cases hv : vcs (jrg T U) (i % 3) with
  | false =>
    rw [hv, if_neg (by decide)] at h
    cases h
    obtain ⟨g1, g2, g3, g4, g5, g6⟩ := g
    refine ⟨⟨g1, g2, g3, fun y hy => g4 y (hy.imp (fun e => by omega) id), fun y hy hv2 => ?_, g6⟩, Nat.le_refl _, fun _ _ => rfl⟩
    by_cases e : y = 9 * k + i
    · rw [e, ez, hv] at hv2; cases hv2
    · exact g5 y (by omega) hv2
  | true =>
    rw [hv, if_pos rfl] at h
    have hv' : vcs (jrg T U) ((9 * k + i) % 3) = true := by rw [ez]; exact hv
    cases hf : fnd J.2.1 (jp T U J k i) J.1 with
    | some j =>
      rw [hf] at h
      cases h
      exact ⟨jw_JI g hv' (fnd_s hf).1 p5, Nat.le_refl _, fun _ _ => rfl⟩
    | none =>
      rw [hf] at h
      dsimp only at h
      by_cases h6 : J.1 < 6
      · rw [if_pos h6] at h
        cases h
        have g' : JI T U (9 * k + i) (J.1 + 1, (updN J.2.1 J.1 (jp T U J k i), J.2.2)) := by
          obtain ⟨g1, g2, g3, g4, g5, g6⟩ := g
          refine ⟨by show 1 ≤ J.1 + 1; omega, h6, fun j hj => ?_, g4, fun y hy hv2 => ?_, g6⟩
          · show updN J.2.1 J.1 _ j / 6 < _ ∧ updN J.2.1 J.1 _ j % 6 < _
            by_cases e : j = J.1
            · rw [e, updN_at]; exact ⟨p3, p4⟩
            · rw [updN_ne e]; exact g3 j (by dsimp only at hj; omega)
          · have := g5 y hy hv2
            show J.2.2.1 y < J.1 + 1
            omega
        exact ⟨jw_JI g' hv' (Nat.lt_succ_self _) p5, Nat.le_succ _, fun j hj => updN_ne (by omega)⟩
      · rw [if_neg h6] at h
        cases h
theorem jrow_ok {T U : TM} (hT : WFT T) (hU : WFT U) {k : Nat} : ∀ (m i : Nat) (J K : JS), i + m = 9 → JI T U (9 * k + i) J → k < J.1 → jrow T U k m i J = some K → JI T U (9 * (k + 1)) K ∧ J.1 ≤ K.1 ∧ ∀ j, j < J.1 → K.2.1 j = J.2.1 j
  | 0, i, J, K, hi, g, hk, h => by
    cases h
    rw [show 9 * (k + 1) = 9 * k + i by omega]
    exact ⟨g, Nat.le_refl _, fun _ _ => rfl⟩
  | m + 1, i, J, K, hi, g, hk, h => by
    unfold jrow at h
    cases hs : jst T U k i J with
    | none => rw [hs] at h; cases h
    | some J1 =>
      rw [hs] at h
      obtain ⟨a1, a2, a3⟩ := jst_ok hT hU g hk (by omega) hs
      obtain ⟨b1, b2, b3⟩ := jrow_ok hT hU m (i + 1) J1 K (by omega) a1 (by omega) h
      exact ⟨b1, by omega, fun j hj => (b3 j (by omega)).trans (a3 j hj)⟩
theorem jall_ok {T U : TM} (hT : WFT T) (hU : WFT U) : ∀ (m k : Nat) (J K : JS), k + m = 7 → JI T U (9 * k) J → k ≤ J.1 → jall T U m k J = some K → JI T U (9 * K.1) K
  | 0, k, J, K, hm, g, hk, h => by
    cases h
    have := g.2.1
    omega
  | m + 1, k, J, K, hm, g, hk, h => by
    unfold jall at h
    by_cases hkn : k < J.1
    · rw [if_pos hkn] at h
      cases hr : jrow T U k 9 0 J with
      | none => rw [hr] at h; cases h
      | some J1 =>
        rw [hr] at h
        obtain ⟨a1, a2, a3⟩ := jrow_ok hT hU 9 0 J J1 rfl g hkn hr
        exact jall_ok hT hU m (k + 1) J1 K (by omega) a1 (by omega) h
    · rw [if_neg hkn] at h
      cases h
      rw [show J.1 = k by omega]
      exact g
def gdw (w : Nat) (x y : Bool) : Bool := if w = 0 then x && y else if w = 1 then x || y else x != y
def jgd (T U : TM) (w : Nat) (J : JS) (k : Nat) : Bool := decide (k < J.1) && gdw w (T.2.2.2 (J.2.1 k / 6)) (U.2.2.2 (J.2.1 k % 6))
/-- the machine that goes along as both -/
def jTM (T U : TM) (w : Nat) (J : JS) : TM := ((J.1, jrg T U), (J.2.2.1, (J.2.2.2, jgd T U w J)))
theorem jTM_wf {T U : TM} (hT : WFT T) (hU : WFT U) {w : Nat} {J : JS} (g : JI T U (9 * J.1) J) : WFT (jTM T U w J) := by
  obtain ⟨g1, g2, g3, g4, g5, g6⟩ := g
  refine ⟨g1, g2, by show max _ _ ≤ 2; have := hT.2.2.1; have := hU.2.2.1; omega, fun j hj => ?_, g6⟩
  show J.2.2.1 j < J.1
  have hj' : j / 9 < J.1 := hj
  cases hv : vcs (jrg T U) (j % 3) with
  | true => exact g5 j (by omega) hv
  | false =>
    rw [(g4 j (Or.inr hv)).1]
    exact hj'
