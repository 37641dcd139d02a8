/-! ===== frames of several blocks ===== -/
def Fs (h h' : AH) (S : List (Nat × Nat)) : Prop := h'.2 = h.2 ∧ ∀ b, (∀ p ∈ S, ¬ (p.1 ≤ b ∧ b < p.1 + p.2)) → h'.1 b = h.1 b
theorem Fs.rf (h : AH) (S : List (Nat × Nat)) : Fs h h S := ⟨rfl, fun _ _ => rfl⟩
theorem Fs.tr {h h1 h2 : AH} {S : List (Nat × Nat)} (p : Fs h h1 S) (q : Fs h1 h2 S) : Fs h h2 S := ⟨q.1.trans p.1, fun b hb => (q.2 b hb).trans (p.2 b hb)⟩
theorem Fs.sub {h h1 : AH} {S R : List (Nat × Nat)} (p : Fs h h1 S) (hs : ∀ x ∈ S, ∃ y ∈ R, y.1 ≤ x.1 ∧ x.1 + x.2 ≤ y.1 + y.2) : Fs h h1 R := ⟨p.1, fun b hb => p.2 b (fun x hx e => by
  obtain ⟨y, hy, h1, h2⟩ := hs x hx
  exact hb y hy ⟨by omega, by omega⟩)⟩
theorem Fr.s {h h1 : AH} {a n : Nat} (p : Fr h h1 a n) : Fs h h1 [(a, n)] := ⟨p.1, fun b hb => p.2 b (fun e => hb (a, n) (List.mem_cons_self ..) e)⟩
theorem Fr.in {h h1 : AH} {a n : Nat} {S : List (Nat × Nat)} (p : Fr h h1 a n) (y : Nat × Nat) (hy : y ∈ S) (h2 : y.1 ≤ a) (h3 : a + n ≤ y.1 + y.2) : Fs h h1 S := p.s.sub (fun x hx => by
  rw [List.mem_singleton] at hx
  subst hx
  exact ⟨y, hy, h2, h3⟩)
theorem Fs.fr {h h1 : AH} {a n : Nat} {S : List (Nat × Nat)} (p : Fs h h1 S) (hs : ∀ x ∈ S, a ≤ x.1 ∧ x.1 + x.2 ≤ a + n) : Fr h h1 a n := ⟨p.1, fun b hb => p.2 b (fun x hx e => by
  have := hs x hx
  omega)⟩
theorem Fs.at {h h1 : AH} {S : List (Nat × Nat)} {b : Nat} {e : AC} (p : Fs h h1 S) (hb : ∀ x ∈ S, ¬ (x.1 ≤ b ∧ b < x.1 + x.2)) (he : h.1 b = some e) : h1.1 b = some e := (p.2 b hb).trans he
/-- a block is free of others -/
def dj (a n : Nat) (S : List (Nat × Nat)) : Prop := ∀ x ∈ S, a + n ≤ x.1 ∨ x.1 + x.2 ≤ a
theorem dj.one {a n b : Nat} {S : List (Nat × Nat)} (h : dj a n S) (h1 : a ≤ b) (h2 : b < a + n) : ∀ x ∈ S, ¬ (x.1 ≤ b ∧ b < x.1 + x.2) := fun x hx e => by
  have := h x hx
  omega
theorem dj.nil (a n : Nat) : dj a n [] := fun x hx => by cases hx
theorem dj.cons {a n b m : Nat} {S : List (Nat × Nat)} (h1 : a + n ≤ b ∨ b + m ≤ a) (h : dj a n S) : dj a n ((b, m) :: S) := fun x hx => by
  rcases List.mem_cons.mp hx with e | e
  · subst e; exact h1
  · exact h x e
theorem dj.mono {a n a' n' : Nat} {S : List (Nat × Nat)} (h : dj a n S) (h1 : a ≤ a') (h2 : a' + n' ≤ a + n) : dj a' n' S := fun x hx => by
  have := h x hx
  omega
theorem isM.fs {h h1 : AH} {a : Nat} {M : MD} {S : List (Nat × Nat)} (q : isM h a M) (p : Fs h h1 S) (hd : dj a 5 S) : isM h1 a M := ⟨p.at (hd.one (by omega) (by omega)) q.1, p.at (hd.one (by omega) (by omega)) q.2.1, p.at (hd.one (by omega) (by omega)) q.2.2.1, p.at (hd.one (by omega) (by omega)) q.2.2.2.1, p.at (hd.one (by omega) (by omega)) q.2.2.2.2⟩
theorem isRow.fs {h h1 : AH} {a : Nat} {D : D_Row} {N : Nat} {S : List (Nat × Nat)} (q : isRow h a D N) (p : Fs h h1 S) (hd : dj a 3 S) : isRow h1 a D N := ⟨p.at (hd.one (by omega) (by omega)) q.1, p.at (hd.one (by omega) (by omega)) q.2.1, p.at (hd.one (by omega) (by omega)) q.2.2⟩
theorem isRun.fs {h h1 : AH} {a : Nat} {D : D_Run} {S : List (Nat × Nat)} (q : isRun h a D) (p : Fs h h1 S) (hd : dj a 3 S) : isRun h1 a D := ⟨p.at (hd.one (by omega) (by omega)) q.1, p.at (hd.one (by omega) (by omega)) q.2.1, p.at (hd.one (by omega) (by omega)) q.2.2⟩
theorem isSheet.fs {h h1 : AH} {a : Nat} {D : D_Sheet} {S : List (Nat × Nat)} (q : isSheet h a D) (p : Fs h h1 S) (hd : dj a 2 S) : isSheet h1 a D := ⟨p.at (hd.one (by omega) (by omega)) q.1, p.at (hd.one (by omega) (by omega)) q.2⟩
theorem isPair.fs {h h1 : AH} {a : Nat} {D : D_Pair} {S : List (Nat × Nat)} (q : isPair h a D) (p : Fs h h1 S) (hd : dj a 2 S) : isPair h1 a D := ⟨p.at (hd.one (by omega) (by omega)) q.1, p.at (hd.one (by omega) (by omega)) q.2⟩
theorem isWlk.fs {h h1 : AH} {a : Nat} {I : Nat → Int32} {A : Nat → Nat → Int32} {S : List (Nat × Nat)} (q : isWlk h a I A) (p : Fs h h1 S) (hd : dj a 13 S) : isWlk h1 a I A := ⟨p.at (hd.one (by omega) (by omega)) q.1, fun k o t n hk => p.at (by have := tbWlk_off hk hk; exact hd.one (by omega) (by omega)) (q.2 k o t n hk)⟩
/-! ===== a run beside an orbit ===== -/
theorem kI_c {k : Nat} (hk : k = 2 ∨ k < 2) : kI k = -4 ∨ ∃ r, r < 2 ∧ kI k = nI r := by
  rcases hk with rfl | hk
  · exact Or.inl rfl
  · exact Or.inr ⟨k, hk, kI_n (by omega)⟩
theorem MTT.wf {M : MD} {T : TM} (t : MTT M T) (hT : WFT T) : WFM M T.1.1 T.1.2 := by
  refine ⟨t.1, t.2.1, hT.1, hT.2.1, hT.2.2.1, fun j hj h2 => ⟨_, hT.2.2.2.1 j h2, t.2.2.1 j hj⟩, fun j hj => ?_, fun j hj => ?_⟩
  · rw [t.2.2.2.1 j hj]
    rcases hT.2.2.2.2 j with e | e
    · rw [e]; exact Or.inl rfl
    · have := hT.2.2.1
      exact Or.inr ⟨_, e, kI_n (by omega)⟩
  · rw [t.2.2.2.2 j hj]
    cases T.2.2.2 j
    · exact Or.inl rfl
    · exact Or.inr rfl
def stc (c b : Nat) : Nat := if b = 0 then c / 625 / 6 else c / 625 % 6
/-- a run stands in the orbit c, at base b; names in registers are x -/
def RD (D : D_Run) (c b : Nat) (x : Nat → Int32) : Prop := D.1 = nI (stc c b) ∧ ∀ r, r < 2 → (lb c (b + r) = 0 → D.2.2.2.2 r = NO) ∧ (lb c (b + r) ≠ 0 → D.2.2.2.2 r ≠ NO ∧ D.2.2.2.1 r = x (b + r))
theorem caseN_cs {D : D_Run} {c b v : Nat} {x : Nat → Int32} {y : Int32} (q : RD D c b x) (hv : 1 ≤ v) (hx : ∀ r, r < 2 → (lb c (b + r) = v ↔ lb c (b + r) ≠ 0 ∧ x (b + r) = y)) : caseN D y = cs (lb c) b v := by
  have q0 := q.2 0 (by omega)
  have q1 := q.2 1 (by omega)
  have x0 := hx 0 (by omega)
  have x1 := hx 1 (by omega)
  rw [Nat.add_zero] at q0 x0
  have k : ∀ r : Nat, r < 2 → ((D.2.2.2.2 r ≠ -4 ∧ D.2.2.2.1 r = y) ↔ lb c (b + r) = v) := fun r hr => by
    have q0 := q.2 r hr
    have x0 := hx r hr
    by_cases h0 : lb c (b + r) = 0
    · have := q0.1 h0
      constructor
      · intro e; exact absurd this e.1
      · intro e; omega
    · have := q0.2 h0
      constructor
      · intro e; exact x0.mpr ⟨h0, by rw [← this.2]; exact e.2⟩
      · intro e; exact ⟨this.1, by rw [this.2]; exact (x0.mp e).2⟩
  have k0 := k 0 (by omega)
  have k1 := k 1 (by omega)
  rw [Nat.add_zero] at k0
  unfold caseN cs
  by_cases h0 : lb c b = v
  · rw [if_pos (k0.mpr h0), if_pos h0]
  · rw [if_neg (fun e => h0 (k0.mp e)), if_neg h0]
    by_cases h1 : lb c (b + 1) = v
    · rw [if_pos (k1.mpr h1), if_pos h1]
    · rw [if_neg (fun e => h1 (k1.mp e)), if_neg h1]
def asgI (x : Nat → Int32) (b k : Nat) (y : Int32) : Nat → Int32 := if k = 2 then x else upd x (b + k) y
theorem kpH_k {k : Nat} (hk : k = 2 ∨ k < 2) (f : Nat → Int32) (y : Int32) : kpH (kI k) f y = if k = 2 then f else upd f k y := by
  rcases (show k = 0 ∨ k = 1 ∨ k = 2 by omega) with rfl | rfl | rfl
  · rfl
  · rfl
  · rfl
/-- one step of a run beside the orbit: c' is the orbit behind -/
theorem RD_step {D : D_Run} {M : MD} {T : TM} {c c' b l v k : Nat} {x x' : Nat → Int32} {y : Int32} (t : MTT M T) (hT : WFT T) (q : RD D c b x) (hb : b = 0 ∨ b = 2) (hs : stc c b < T.1.1) (hl : l < 3) (hv : 1 ≤ v) (hx : ∀ r, r < 2 → (lb c (b + r) = v ↔ lb c (b + r) ≠ 0 ∧ x (b + r) = y)) (hg : D.2.2.1 ≠ NO) (hk : k = T.2.2.1 (9 * stc c b + 3 * l + cs (lb c) b v)) (hs' : stc c' b = T.2.1 (9 * stc c b + 3 * l + cs (lb c) b v)) (hl' : ∀ r, r < 2 → (lb c' (b + r) = 0 ↔ r ≠ k ∧ lb c (b + r) = 0)) (hx' : ∀ r, r < 2 → lb c' (b + r) ≠ 0 → x' (b + r) = if r = k then y else x (b + r)) : RD (goD D M (stc c b) l y) c' b x' := by
  have hc := caseN_cs q hv hx
  have hc2 := cs_le (lb c) b v
  have y1 := hT.2.1
  have k2 := hT.2.2.2.2 (9 * stc c b + 3 * l + cs (lb c) b v)
  have k3 := hT.2.2.1
  rw [← hk] at k2
  unfold goD
  rw [hc, t.2.2.1 _ (by omega), t.2.2.2.1 _ (by omega), ← hk, ← hs', kpH_k (by omega), kpH_k (by omega)]
  refine ⟨rfl, fun r hr => ?_⟩
  dsimp only
  have q0 := q.2 r hr
  constructor
  · intro h0
    obtain ⟨e1, e2⟩ := (hl' r hr).mp h0
    by_cases h2 : k = 2
    · rw [if_pos h2]; exact q0.1 e2
    · rw [if_neg h2, pk_un e1]; exact q0.1 e2
  · intro h0
    have e0 := hx' r hr h0
    have e1 := fun e2 e3 => h0 ((hl' r hr).mpr ⟨e2, e3⟩)
    by_cases h2 : k = 2
    · rw [if_pos h2, if_pos h2]
      have hrk : r ≠ k := by omega
      rw [if_neg hrk] at e0
      have := q0.2 (e1 hrk)
      exact ⟨this.1, by rw [e0]; exact this.2⟩
    · rw [if_neg h2, if_neg h2]
      by_cases hrk : r = k
      · rw [if_pos hrk] at e0
        subst hrk
        rw [pk_us, pk_us]
        exact ⟨hg, e0.symm⟩
      · rw [if_neg hrk] at e0
        rw [pk_un hrk, pk_un hrk]
        have := q0.2 (e1 hrk)
        exact ⟨this.1, by rw [e0]; exact this.2⟩
theorem RD_0 {D : D_Run} {x : Nat → Int32} {b : Nat} (h0 : D.1 = 0) (hk : D.2.2.2.2 0 = -4 ∧ D.2.2.2.2 1 = -4) : RD D 0 b x := by
  refine ⟨?_, fun r hr => ⟨fun _ => ?_, fun e => absurd (lb_0 _) e⟩⟩
  · rw [h0]
    unfold stc
    split <;> rfl
  · rcases (show r = 0 ∨ r = 1 by omega) with rfl | rfl
    · exact hk.1
    · exact hk.2
theorem RD_hk {D : D_Run} {c b : Nat} {x : Nat → Int32} {rg : Nat} (q : RD D c b x) (hz : ∀ r, r < 2 → rg ≤ r → lb c (b + r) = 0) : ∀ r, rg ≤ r → r < 2 → D.2.2.2.2 r = -4 := fun r h1 h2 => (q.2 r h2).1 (hz r h2 h1)
/-- both sides' labels behind a way -/
theorem chd_lb {T U : TM} (hT : WFT T) (hU : WFT U) {c l v : Nat} (hc : vd T U c) (hl : l < 3) (hv : 1 ≤ v) (hv2 : v ≤ top c + 1) : (∀ r, r < 2 → (lb (chd T U c l v) r = 0 ↔ r ≠ T.2.2.1 (9 * (c / 625 / 6) + 3 * l + cs (lb c) 0 v) ∧ lb c r = 0)) ∧ (∀ r, r < 2 → (lb (chd T U c l v) (2 + r) = 0 ↔ r ≠ U.2.2.1 (9 * (c / 625 % 6) + 3 * l + cs (lb c) 2 v) ∧ lb c (2 + r) = 0)) := by
  obtain ⟨_, _, _, e4⟩ := chd_ok hT hU hc hl hv hv2
  have kA := hT.2.2.2.2 (9 * (c / 625 / 6) + 3 * l + cs (lb c) 0 v)
  have kB := hU.2.2.2.2 (9 * (c / 625 % 6) + 3 * l + cs (lb c) 2 v)
  have rA := hT.2.2.1
  have rB := hU.2.2.1
  rw [lb_mod (chd T U c l v), e4, nxP_mod]
  generalize T.2.2.1 (9 * (c / 625 / 6) + 3 * l + cs (lb c) 0 v) = yA at *
  generalize U.2.2.1 (9 * (c / 625 % 6) + 3 * l + cs (lb c) 2 v) = yB at *
  have P := fun r (hr : r < 4) => nxP_pat (p := c % 625) (v := v) (kA := yA) (kB := yB) (by omega) hc.2.1 hv (by rw [← top_mod]; exact hv2) (by omega) (by omega) hr
  rw [← lb_mod] at P
  constructor
  · intro r hr
    rw [(P r (by omega)).1]
    unfold asg
    by_cases hB2 : yB = 2
    · rw [if_pos hB2]
      by_cases hA2 : yA = 2
      · rw [if_pos hA2]
        exact ⟨fun e => ⟨by omega, e⟩, fun e => e.2⟩
      · rw [if_neg hA2]
        by_cases e : r = 0 + yA
        · rw [e, updN_at]
          exact ⟨fun e => by omega, fun e => by omega⟩
        · rw [updN_ne e]
          exact ⟨fun e => ⟨by omega, e⟩, fun e => e.2⟩
    · rw [if_neg hB2, updN_ne (by omega)]
      by_cases hA2 : yA = 2
      · rw [if_pos hA2]
        exact ⟨fun e => ⟨by omega, e⟩, fun e => e.2⟩
      · rw [if_neg hA2]
        by_cases e : r = 0 + yA
        · rw [e, updN_at]
          exact ⟨fun e => by omega, fun e => by omega⟩
        · rw [updN_ne e]
          exact ⟨fun e => ⟨by omega, e⟩, fun e => e.2⟩
  · intro r hr
    rw [(P (2 + r) (by omega)).1]
    have hA : asg (lb c) 0 yA v (2 + r) = lb c (2 + r) := by
      unfold asg
      by_cases hA2 : yA = 2
      · rw [if_pos hA2]
      · rw [if_neg hA2, updN_ne (by omega)]
    unfold asg
    by_cases hB2 : yB = 2
    · rw [if_pos hB2]
      have hA' := hA
      unfold asg at hA'
      rw [hA']
      exact ⟨fun e => ⟨by omega, e⟩, fun e => e.2⟩
    · rw [if_neg hB2]
      by_cases e : 2 + r = 2 + yB
      · rw [e, updN_at]
        exact ⟨fun e => by omega, fun e => by omega⟩
      · rw [updN_ne e]
        have hA' := hA
        unfold asg at hA'
        rw [hA']
        exact ⟨fun e => ⟨by omega, e⟩, fun e => e.2⟩
