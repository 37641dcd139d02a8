/-! ===== scan ===== -/
/-- where pair t of a scan from i lies, among N cells -/
def scP (N : Nat) (i : Int32) (t : Nat) : Option Nat := if 0 ≤ i.toInt + 2 * (t : Int) ∧ i.toInt + 2 * (t : Int) + 2 ≤ (N : Int) then some (i.toInt + 2 * (t : Int)).toNat else none
/-- one pair: what went wrong (0: nothing), the row -/
def scS (f : Nat → Int32) (N : Nat) (i : Int32) (t : Nat) (r : RW) : Int32 × RW := match scP N i t with
  | none => (-12, r)
  | some p => if v_in (f p) 2 = 0 then (-21, r) else if r.1 = 40 then (-23, r) else (0, (r.1 + 1, (updN r.2.1 r.1 (f p).toInt.toNat, upd r.2.2 r.1 (f (p + 1)))))
def scF (f : Nat → Int32) (N : Nat) (i : Int32) : Nat → Nat → RW → Int32 × RW
  | 0, _, r => (0, r)
  | m + 1, t, r => if (scS f N i t r).1 = 0 then scF f N i m (t + 1) (scS f N i t r).2 else ((scS f N i t r).1, r)
theorem scP_some {N p t : Nat} {i : Int32} (h60 : N ≤ 60) (ht : t < 30) (h : scP N i t = some p) : i + 2 * nI t = nI p ∧ p + 1 < N ∧ (i.toInt64 + ((2 : Int32) * nI t).toInt64).toInt = (p : Int) := by
  unfold scP at h
  by_cases hc : 0 ≤ i.toInt + 2 * (t : Int) ∧ i.toInt + 2 * (t : Int) + 2 ≤ (N : Int)
  · rw [if_pos hc] at h
    have hp : (i.toInt + 2 * (t : Int)).toNat = p := Option.some.inj h
    have h2 : (2 : Int32) * nI t = nI (2 * t) := pk_mul 2 t
    have h3 : (nI (2 * t)).toInt = ((2 * t : Nat) : Int) := nI_toInt (by omega)
    refine ⟨?_, by omega, ?_⟩
    · rw [h2]
      refine Int32.toInt_inj.mp ?_
      rw [Int32.toInt_add, h3, nI_toInt (show p < 2 ^ 31 by omega), Int.bmod_def]
      split <;> omega
    · rw [h2, Int64.toInt_add, Int32.toInt_toInt64, Int32.toInt_toInt64, h3, Int.bmod_def]
      split <;> omega
  · rw [if_neg hc] at h
    cases h
theorem scP_none {N t : Nat} {i : Int32} (h60 : N ≤ 60) (ht : t < 30) (h : scP N i t = none) : v_hasPlace (nI N) (i + 2 * nI t) = 0 ∨ v_hasPlace (nI N) (i + 2 * nI t + 1) = 0 := by
  unfold scP at h
  by_cases hc : 0 ≤ i.toInt + 2 * (t : Int) ∧ i.toInt + 2 * (t : Int) + 2 ≤ (N : Int)
  · rw [if_pos hc] at h
    cases h
  · have hb1 := Int32.le_toInt i
    have hb2 := Int32.toInt_lt i
    have h2 : (2 : Int32) * nI t = nI (2 * t) := pk_mul 2 t
    have h3 : (nI (2 * t)).toInt = ((2 * t : Nat) : Int) := nI_toInt (by omega)
    have place : ∀ z : Int32, v_hasPlace (nI N) z ≠ 0 → ∃ p, p < N ∧ z = nI p := fun z hz => by
      unfold v_hasPlace at hz
      by_cases h0 : z < 0
      · rw [if_pos h0] at hz; exact absurd rfl hz
      · obtain ⟨p, hp, rfl⟩ := nI_of h0
        by_cases hpN : p < N
        · exact ⟨p, hpN, rfl⟩
        · rw [if_neg h0, if_pos (nI_le (by omega) hp)] at hz
          exact absurd rfl hz
    by_cases h4 : v_hasPlace (nI N) (i + 2 * nI t) = 0
    · exact Or.inl h4
    · refine Or.inr ?_
      by_cases h5 : v_hasPlace (nI N) (i + 2 * nI t + 1) = 0
      · exact h5
      · obtain ⟨p, p1, p2⟩ := place _ h4
        obtain ⟨p', p3, p4⟩ := place _ h5
        rw [p2, nI_1] at p4
        have p5 := (nI_eq (by omega) (by omega)).mp p4
        have p6 : (i + nI (2 * t)).toInt = (p : Int) := by rw [← h2, p2]; exact nI_toInt (by omega)
        rw [Int32.toInt_add, h3, Int.bmod_def] at p6
        refine absurd ?_ hc
        split at p6 <;> omega
theorem scP_none64 {N t : Nat} {i : Int32} (h60 : N ≤ 60) (ht : t < 30) : (i.toInt64 + ((2 : Int32) * nI t).toInt64).toInt = i.toInt + 2 * (t : Int) := by
  have hb1 := Int32.le_toInt i
  have hb2 := Int32.toInt_lt i
  have h2 : (2 : Int32) * nI t = nI (2 * t) := pk_mul 2 t
  have h3 : (nI (2 * t)).toInt = ((2 * t : Nat) : Int) := nI_toInt (by omega)
  rw [h2, Int64.toInt_add, Int32.toInt_toInt64, Int32.toInt_toInt64, h3, Int.bmod_def]
  split <;> omega
theorem scS_neg (f : Nat → Int32) (N : Nat) (i : Int32) (t : Nat) (r : RW) : (scS f N i t r).1 = 0 ∨ ((scS f N i t r).1 < 0 ∧ (scS f N i t r).1 ≠ 0) := by
  unfold scS
  cases scP N i t with
  | none => exact Or.inr (show ((-12 : Int32) < 0 ∧ (-12 : Int32) ≠ 0) by decide)
  | some p =>
    dsimp only
    by_cases h1 : v_in (f p) 2 = 0
    · rw [if_pos h1]; exact Or.inr (show ((-21 : Int32) < 0 ∧ (-21 : Int32) ≠ 0) by decide)
    · rw [if_neg h1]
      by_cases h2 : r.1 = 40
      · rw [if_pos h2]; exact Or.inr (show ((-23 : Int32) < 0 ∧ (-23 : Int32) ≠ 0) by decide)
      · rw [if_neg h2]; exact Or.inl rfl
theorem scS_ok {f : Nat → Int32} {N : Nat} {i : Int32} {t : Nat} {r : RW} (h : (scS f N i t r).1 = 0) : (scS f N i t r).2.1 = r.1 + 1 := by
  unfold scS at h ⊢
  cases hp : scP N i t with
  | none => rw [hp] at h; exact absurd (show (-12 : Int32) = 0 from h) (by decide)
  | some p =>
    rw [hp] at h
    dsimp only at h ⊢
    by_cases h1 : v_in (f p) 2 = 0
    · rw [if_pos h1] at h; exact absurd (show (-21 : Int32) = 0 from h) (by decide)
    · rw [if_neg h1] at h ⊢
      by_cases h2 : r.1 = 40
      · rw [if_pos h2] at h; exact absurd (show (-23 : Int32) = 0 from h) (by decide)
      · rw [if_neg h2]
/-- a row as both sides hold it -/
def cR (D : D_Row) (r : RW) : Prop := D.1 = nI r.1 ∧ ∀ j, j < r.1 → D.2.1 j = nI (r.2.1 j) ∧ D.2.2 j = r.2.2 j
def RWok (r : RW) : Prop := r.1 ≤ 40 ∧ ∀ j, j < r.1 → r.2.1 j < 3
theorem scS_wf {f : Nat → Int32} {N : Nat} {i : Int32} {t : Nat} {r : RW} (w : RWok r) (h : (scS f N i t r).1 = 0) : RWok (scS f N i t r).2 := by
  unfold scS at h ⊢
  cases hp : scP N i t with
  | none => rw [hp] at h; exact absurd (show (-12 : Int32) = 0 from h) (by decide)
  | some p =>
    rw [hp] at h
    dsimp only at h ⊢
    by_cases h1 : v_in (f p) 2 = 0
    · rw [if_pos h1] at h; exact absurd (show (-21 : Int32) = 0 from h) (by decide)
    · rw [if_neg h1] at h ⊢
      by_cases h2 : r.1 = 40
      · rw [if_pos h2] at h; exact absurd (show (-23 : Int32) = 0 from h) (by decide)
      · rw [if_neg h2]
        have w1 := w.1
        refine ⟨by dsimp only; omega, fun j hj => ?_⟩
        dsimp only at hj ⊢
        by_cases e : j = r.1
        · rw [e, updN_at]
          rcases in2 (f p) with ⟨z, z1, z2, z3⟩ | ⟨z1, _⟩
          · rw [z2, nI_toInt (by omega)]; omega
          · exact absurd z1 h1
        · rw [updN_ne e]; exact w.2 j (by omega)
theorem scF_wf {f : Nat → Int32} {N : Nat} {i : Int32} : ∀ {m t : Nat} {r : RW}, RWok r → (scF f N i m t r).1 = 0 → RWok (scF f N i m t r).2
  | 0, _, _, w, _ => w
  | m + 1, t, r, w, h => by
    unfold scF at h ⊢
    by_cases h1 : (scS f N i t r).1 = 0
    · rw [if_pos h1] at h ⊢
      exact scF_wf (scS_wf w h1) h
    · rw [if_neg h1] at h
      exact absurd h h1
theorem scF_neg {f : Nat → Int32} {N : Nat} {i : Int32} : ∀ {m t : Nat} {r : RW}, (scF f N i m t r).1 = 0 ∨ ((scF f N i m t r).1 < 0 ∧ (scF f N i m t r).1 ≠ 0)
  | 0, _, _ => Or.inl rfl
  | m + 1, t, r => by
    unfold scF
    by_cases h1 : (scS f N i t r).1 = 0
    · rw [if_pos h1]; exact scF_neg
    · rw [if_neg h1]; exact (scS_neg f N i t r)
section SCAN
variable {d x y q K W : Nat} {h : AH} {s : SG} {X : CX0}
/-- the class: one pair -/
theorem C_scan1 {a N t : Nat} {i : Int32} {r : RW} {D : D_Row} {E : D_Sheet} (c : cTop h x K W X) (hr : isRow h (x + 1) D 40) (cr : cR D r) (w : RWok r) (hs : isSheet h a E) (hE : E.2.1 = nI N) (h60 : N ≤ 60) (ht : t < 30) : ((scS E.2.2 N i t r).1 = 0 → ∃ h' D', call (d + 2) 100 [.ref x, .ref a, .int (i + 2 * nI t)] h = some (some (.int (nI (r.1 + 1))), h') ∧ isRow h' (x + 1) D' 40 ∧ cR D' (scS E.2.2 N i t r).2 ∧ (∀ j, j < r.1 → D'.2.1 j = D.2.1 j ∧ D'.2.2 j = D.2.2 j) ∧ Fr h h' (x + 1) 3) ∧ ((scS E.2.2 N i t r).1 ≠ 0 → call (d + 2) 100 [.ref x, .ref a, .int (i + 2 * nI t)] h = some (some (.int (scS E.2.2 N i t r).1), h)) := by
  have cl0 : call (d + 2) 100 [.ref x, .ref a, .int (i + 2 * nI t)] h = run (d + 1) mt_100 0 [some (.ref x), some (.ref a), some (.int (i + 2 * nI t)), none] [] h := call_at mt_100 [some (.ref x), some (.ref a), some (.int (i + 2 * nI t)), none] rfl rfl rfl
  unfold scS
  cases hp : scP N i t with
  | none =>
    dsimp only
    refine ⟨fun e => absurd e (by decide), fun _ => ?_⟩
    rw [cl0, nd_100_0 (St_run (d + 1) mt_100), hs.o, m_hasCell (d := d) hs, hE, bind_some', rI_some, hs.o, m_hasCell (d := d) hs, hE, bind_some', rI_some, nd_100_18 (St_run (d + 1) mt_100)]
    rcases scP_none h60 ht hp with e | e
    · rw [if_pos e]
    · rw [if_pos e, ite_self]
  | some p =>
    obtain ⟨p1, p2, p3⟩ := scP_some h60 ht hp
    have g1 : v_hasPlace (nI N) (nI p) = 1 := by
      unfold v_hasPlace
      rw [if_neg (nI_pos (by omega)), if_neg (nI_ge (by omega) (by omega))]
    have g2 : v_hasPlace (nI N) (nI (p + 1)) = 1 := by
      unfold v_hasPlace
      rw [if_neg (nI_pos (by omega)), if_neg (nI_ge (by omega) (by omega))]
    have cl1 : call (d + 2) 100 [.ref x, .ref a, .int (i + 2 * nI t)] h = (call (d + 1) 24 [.ref (x + 1), .int (E.2.2 p), .int (E.2.2 (p + 1))] h).bind fun q12 => rI q12 fun v14 h13 => if 0 ≤ v14 then some (some (.int v14), h13) else some (some (.int ((-20) + v14)), h13) := by
      rw [cl0, nd_100_0 (St_run (d + 1) mt_100), p1, nI_1, hs.o, m_hasCell (d := d) hs, hE, g1, bind_some', rI_some, if_neg (by decide), hs.o, m_hasCell (d := d) hs, hE, g2, bind_some', rI_some, if_neg (by decide), c.g0, hs.g0, ldI_of hs.a0 rfl (show p < 60 by omega) (by decide), hs.g0, ldI_of hs.a0 rfl (show p + 1 < 60 by omega) (by decide), hr.o]
      simp only [nd_100_55 (St_run (d + 1) mt_100)]
    dsimp only
    have w1 := w.1
    rcases in2 (E.2.2 p) with ⟨z, z1, z2, z3⟩ | ⟨z1, z2, z3⟩
    · rw [if_neg (show ¬ v_in (E.2.2 p) 2 = 0 by rw [z3]; decide)]
      by_cases h4 : r.1 = 40
      · rw [if_pos h4]
        refine ⟨fun e => absurd (show (-23 : Int32) = 0 from e) (by decide), fun _ => ?_⟩
        rw [cl1, z2, m_append_full (d := d) hr (nI z) _ (nI_pos (by omega)) (nI_lt (a := z) (b := 3) z1 (by decide)) r.1 cr.1 (by omega) (by omega), bind_some', rI_some, if_neg (by decide)]
        rfl
      · rw [if_neg h4]
        refine ⟨fun _ => ?_, fun e => absurd rfl e⟩
        obtain ⟨h1, e1, e2, e3⟩ := m_append (d := d) hr (nI z) (E.2.2 (p + 1)) (nI_pos (by omega)) (nI_lt (a := z) (b := 3) z1 (by decide)) r.1 cr.1 (by omega) (by decide)
        refine ⟨h1, _, ?_, e2, ⟨rfl, fun j hj => ?_⟩, fun j hj => ?_, e3⟩
        · rw [cl1, z2, e1, bind_some', rI_some, if_pos (show (0 : Int32) ≤ nI (r.1 + 1) from nI_le (a := 0) (by omega) (by omega))]
        · dsimp only at hj ⊢
          by_cases e : j = r.1
          · rw [e, pk_us, pk_us, updN_at, pk_us, z2, nI_toInt (by omega)]
            exact ⟨rfl, rfl⟩
          · rw [pk_un e, pk_un e, updN_ne e, pk_un e]
            exact cr.2 j (by omega)
        · dsimp only
          rw [pk_un (by omega), pk_un (by omega)]
          exact ⟨rfl, rfl⟩
    · rw [if_pos z1]
      refine ⟨fun e => absurd (show (-21 : Int32) = 0 from e) (by decide), fun _ => ?_⟩
      rw [cl1, m_append_bad (d := d) (D := D) (N := 40) _ _ (z3.imp id Int32.not_lt.mpr), bind_some', rI_some, if_neg (by decide)]
      rfl
theorem l_scan {a N n len : Nat} {i : Int32} {E : D_Sheet} (hE : E.2.1 = nI N) (h60 : N ≤ 60) (hn : n ≤ 30) (ha : a + 2 ≤ x ∨ x + 4 ≤ a) : ∀ (m t : Nat) (h : AH) (D : D_Row) (r : RW), t + m = n → cTop h x K W X → isRow h (x + 1) D 40 → cR D r → RWok r → isSheet h a E → len ≤ r.1 → ∃ h' D', run (d + 2) mt_99 70 [some (.ref x), none, none, some (.int i), some (.int (nI n)), some (.ref a), some (.int (nI len)), some (.int (nI t)), none] [] h = some (some (.int (if (scF E.2.2 N i m t r).1 = 0 then nI (scF E.2.2 N i m t r).2.1 else (scF E.2.2 N i m t r).1)), h') ∧ isRow h' (x + 1) D' 40 ∧ ((scF E.2.2 N i m t r).1 = 0 → cR D' (scF E.2.2 N i m t r).2) ∧ ((scF E.2.2 N i m t r).1 ≠ 0 → D'.1 = nI len ∧ ∀ j, j < r.1 → D'.2.1 j = D.2.1 j ∧ D'.2.2 j = D.2.2 j) ∧ Fr h h' (x + 1) 3 := by
  intro m
  induction m with
  | zero =>
    intro t h D r ht c hr cr w hs hl
    have : t = n := by omega
    subst this
    refine ⟨h, D, ?_, hr, fun _ => cr, fun e => absurd rfl e, Fr.rf _ _ _⟩
    rw [nd_99_70 (St_run (d + 2) mt_99), if_pos (nI_le (Nat.le_refl _) (by omega)), c.g0, hr.g2, cr.1]
    rfl
  | succ m ih =>
    intro t h D r ht c hr cr w hs hl
    obtain ⟨g1, g2⟩ := C_scan1 (d := d) (i := i) (t := t) c hr cr w hs hE h60 (by omega)
    have w1 := w.1
    unfold scF
    by_cases h1 : (scS E.2.2 N i t r).1 = 0
    · obtain ⟨h1', D1, e1, e2, e3, e4, e5⟩ := g1 h1
      have hok := scS_ok h1
      obtain ⟨h2, D2, f1, f2, f3, f4, f5⟩ := ih (t + 1) h1' D1 (scS E.2.2 N i t r).2 (by omega) (c.fs e5.s (dj.cons (by omega) (dj.nil _ _))) e2 e3 (scS_wf w h1) (hs.fr e5 (by omega)) (by omega)
      rw [if_pos h1]
      refine ⟨h2, D2, ?_, f2, f3, fun e => ⟨(f4 e).1, fun j hj => ?_⟩, e5.tr f5⟩
      · rw [nd_99_70 (St_run (d + 2) mt_99), if_neg (nI_ge (by omega) (by omega)), c.o, e1, bind_some', rI_some, if_pos (show (0 : Int32) ≤ nI (r.1 + 1) from nI_le (a := 0) (by omega) (by omega)), nI_1]
        exact f1
      · have k1 := (f4 e).2 j (by omega)
        have k2 := e4 j hj
        exact ⟨k1.1.trans k2.1, k1.2.trans k2.2⟩
    · have hneg := (scS_neg E.2.2 N i t r).resolve_left h1
      rw [if_neg h1]
      have hne : (scS E.2.2 N i t r).1 ≠ 0 := h1
      refine ⟨_, (nI len, (D.2.1, D.2.2)), ?_, hr.u2 (nI len), fun e => absurd e hne, fun _ => ⟨rfl, fun _ _ => ⟨rfl, rfl⟩⟩, Fr.set ⟨by omega, by omega⟩⟩
      rw [nd_99_70 (St_run (d + 2) mt_99), if_neg (nI_ge (by omega) (by omega)), c.o, g2 h1, bind_some', rI_some, if_neg (fun e => absurd hneg.1 (Int32.not_lt.mpr e)), c.g0, hr.p2, if_neg hne]
/-- the reference: one pair, and the rest -/
theorem l_rscan {k N n len : Nat} {i : Int32} {f : Nat → Int32} (hk : k < 4) (h60 : N ≤ 60) (hn : n ≤ 30) : ∀ (m t : Nat) (I : Nat → Int32) (A : Nat → Nat → Int32) (r : RW), t + m = n → rsRow I A r → RWok r → A 40 k = nI N → (∀ j, j < 60 → A 41 (60 * k + j) = f j) → ∃ I' A', run (d + 2) mt_167 64 [some (.ref y), some (.int (nI k)), none, some (.int i), some (.int (nI n)), some (.int (nI len)), some (.int 0), some (.int (nI t)), none, none, none] [] (mkR h y I A) = some (some (.int (if (scF f N i m t r).1 = 0 then nI (scF f N i m t r).2.1 else (scF f N i m t r).1)), mkR h y I' A') ∧ ((scF f N i m t r).1 = 0 → rsRow I' A' (scF f N i m t r).2) ∧ ((scF f N i m t r).1 ≠ 0 → I' 0 = nI len ∧ ∀ j, j < r.1 → A' 1 j = A 1 j ∧ A' 2 j = A 2 j) ∧ fra I I' A A' [0] [1, 2] := by
  have z6 : (60 : Int32) * nI k = nI (60 * k) := pk_mul 60 k
  intro m
  induction m with
  | zero =>
    intro t I A r ht rr w a40 a41
    have : t = n := by omega
    subst this
    refine ⟨upd I 0 (I 0), A, ?_, fun _ => ⟨pk_us.trans rr.1, rr.2⟩, fun e => absurd rfl e, (fra.rf _ _ _ _).u _ (by decide)⟩
    rw [nd_167_64 (St_run (d + 2) mt_167), if_pos (nI_le (Nat.le_refl _) (by omega)), nd_167_173 (St_run (d + 2) mt_167), if_pos (by decide), mkR_g0, nd_167_188 (St_run (d + 2) mt_167), mkR_p0, if_pos (by decide), mkR_g0, nd_167_205 (St_run (d + 2) mt_167), pk_us, rr.1]
    rfl
  | succ m ih =>
    intro t I A r ht rr w a40 a41
    have w1 := w.1
    have fail : ∀ e : Int32, (scS f N i t r).1 = e → e < 0 → e ≠ 0 → run (d + 2) mt_167 64 [some (.ref y), some (.int (nI k)), none, some (.int i), some (.int (nI n)), some (.int (nI len)), some (.int 0), some (.int (nI t)), none, none, none] [] (mkR h y I A) = run (d + 2) mt_167 167 [some (.ref y), some (.int (nI k)), none, some (.int i), some (.int (nI n)), some (.int (nI len)), some (.int e), some (.int (nI t)), none, none, none] [] (mkR h y I A) → ∃ I' A', run (d + 2) mt_167 64 [some (.ref y), some (.int (nI k)), none, some (.int i), some (.int (nI n)), some (.int (nI len)), some (.int 0), some (.int (nI t)), none, none, none] [] (mkR h y I A) = some (some (.int (if (scF f N i (m + 1) t r).1 = 0 then nI (scF f N i (m + 1) t r).2.1 else (scF f N i (m + 1) t r).1)), mkR h y I' A') ∧ ((scF f N i (m + 1) t r).1 = 0 → rsRow I' A' (scF f N i (m + 1) t r).2) ∧ ((scF f N i (m + 1) t r).1 ≠ 0 → I' 0 = nI len ∧ ∀ j, j < r.1 → A' 1 j = A 1 j ∧ A' 2 j = A 2 j) ∧ fra I I' A A' [0] [1, 2] := by
      intro e he hlt hne hrun
      have hs : scF f N i (m + 1) t r = (e, r) := by
        unfold scF
        rw [he, if_neg hne]
      have hle : ¬ (0 : Int32) ≤ e := fun h0 => absurd hlt (Int32.not_lt.mpr h0)
      rw [hs]
      dsimp only
      refine ⟨upd I 0 (nI len), A, ?_, fun e0 => absurd e0 hne, fun _ => ⟨pk_us, fun _ _ => ⟨rfl, rfl⟩⟩, (fra.rf _ _ _ _).u _ (by decide)⟩
      rw [hrun, nd_167_167 (St_run (d + 2) mt_167), nd_167_64 (St_run (d + 2) mt_167), if_neg (show ¬ e = 0 from hne), ite_self, nd_167_173 (St_run (d + 2) mt_167), if_neg hle, nd_167_188 (St_run (d + 2) mt_167), mkR_p0, if_neg hle, nd_167_205 (St_run (d + 2) mt_167), if_neg hne]
    have hx := scP_none64 (N := N) (i := i) h60 (show t < 30 by omega)
    have lt0 : (lg_cmp (i.toInt64 + ((2 : Int32) * nI t).toInt64) 0 < 0) = (i.toInt + 2 * (t : Int) < 0) := propext (by
      rw [lgc_lt, Int64.lt_iff_toInt_lt, hx]
      exact Iff.rfl)
    have leN : (lg_cmp (i.toInt64 + ((2 : Int32) * nI t).toInt64 + 2) (nI N).toInt64 ≤ 0) = (i.toInt + 2 * (t : Int) + 2 ≤ (N : Int)) := propext (by
      have hb1 := Int32.le_toInt i
      have hb2 := Int32.toInt_lt i
      have e1 : (i.toInt64 + ((2 : Int32) * nI t).toInt64 + 2).toInt = i.toInt + 2 * (t : Int) + 2 := by
        rw [Int64.toInt_add, hx, show (2 : Int64).toInt = 2 from by decide, Int.bmod_def]
        split <;> omega
      rw [← Int32.not_lt, lgc_gt, Int64.lt_iff_toInt_lt, e1, Int32.toInt_toInt64, nI_toInt (by omega)]
      omega)
    cases hp : scP N i t with
    | none =>
      refine fail (-12) (by unfold scS; rw [hp]) (by decide) (by decide) ?_
      rw [nd_167_64 (St_run (d + 2) mt_167), if_neg (nI_ge (by omega) (by omega)), if_pos (show (0 : Int32) = 0 from rfl), mkR_g40, mkR_l40 _ _ _ _ hk, a40, nd_167_110 (St_run (d + 2) mt_167)]
      simp only [lt0, leN]
      by_cases h0 : i.toInt + 2 * (t : Int) < 0
      · rw [if_pos h0]
      · rw [if_neg h0, if_neg (fun h2 => by
          unfold scP at hp
          rw [if_pos ⟨by omega, h2⟩] at hp
          cases hp)]
    | some p =>
      obtain ⟨p1, p2, p3⟩ := scP_some h60 (show t < 30 by omega) hp
      have hc : ¬ i.toInt + 2 * (t : Int) < 0 ∧ i.toInt + 2 * (t : Int) + 2 ≤ (N : Int) := by omega
      have t32 : (i.toInt64 + ((2 : Int32) * nI t).toInt64).toInt32 = nI p := by
        refine Int32.toInt_inj.mp ?_
        rw [Int64.toInt_toInt32, p3, nI_toInt (by omega), Int.bmod_def]
        split <;> omega
      have go : run (d + 2) mt_167 64 [some (.ref y), some (.int (nI k)), none, some (.int i), some (.int (nI n)), some (.int (nI len)), some (.int 0), some (.int (nI t)), none, none, none] [] (mkR h y I A) = (call (d + 2) 108 [.ref y, .int (f p), .int (f (p + 1))] (mkR h y I A)).bind fun q7 => rI q7 fun v9 h8 => if 0 ≤ v9 then run (d + 2) mt_167 167 [some (.ref y), some (.int (nI k)), none, some (.int i), some (.int (nI n)), some (.int (nI len)), some (.int 0), some (.int (nI t)), none, none, none] [] h8 else run (d + 2) mt_167 167 [some (.ref y), some (.int (nI k)), none, some (.int i), some (.int (nI n)), some (.int (nI len)), some (.int ((-20) + v9)), some (.int (nI t)), none, none, none] [] h8 := by
        rw [nd_167_64 (St_run (d + 2) mt_167), if_neg (nI_ge (by omega) (by omega)), if_pos (show (0 : Int32) = 0 from rfl), mkR_g40, mkR_l40 _ _ _ _ hk, a40, t32, z6, nI_add, nI_1, mkR_g41, mkR_l41 _ _ _ _ (show 60 * k + p < 240 by omega), mkR_g41, mkR_l41 _ _ _ _ (show 60 * k + p + 1 < 240 by omega), a41 p (by omega), show A 41 (60 * k + p + 1) = f (p + 1) from a41 (p + 1) (by omega), mkR_o]
        simp only [lt0, leN, nd_167_165 (St_run (d + 2) mt_167)]
        rw [if_neg hc.1, if_pos hc.2]
      rcases in2 (f p) with ⟨z, z1, z2, z3⟩ | ⟨z1, z2, z3⟩
      · by_cases h4 : r.1 = 40
        · refine fail (-23) (by unfold scS; rw [hp]; dsimp only; rw [if_neg (by rw [z3]; decide), if_pos h4]) (by decide) (by decide) ?_
          rw [go, r_place_full (mkR_is h y I A) _ _ z3 (by rw [rr.1, h4]; rfl), bind_some', rI_some, if_neg (by decide)]
          rfl
        · have hs : scS f N i t r = (0, (r.1 + 1, (updN r.2.1 r.1 (f p).toInt.toNat, upd r.2.2 r.1 (f (p + 1))))) := by
            unfold scS
            rw [hp]
            dsimp only
            rw [if_neg (by rw [z3]; decide), if_neg h4]
          have hs1 : (scS f N i t r).1 = 0 := by rw [hs]
          have w' := scS_wf w hs1
          rw [hs] at w'
          obtain ⟨h2, g1, g2, g3⟩ := r_place (d := d) (mkR_is h y I A) (f p) (f (p + 1)) z3 r.1 rr.1 (by omega)
          rw [mkR_fr g2 g3] at g1
          have pf : fra I (upd I 0 (nI (r.1 + 1))) A (updA (updA A 1 (upd (A 1) r.1 (f p))) 2 (upd (A 2) r.1 (f (p + 1)))) [0] [1, 2] := (((fra.rf _ _ _ _).u _ (by decide)).w _ (by decide)).w _ (by decide)
          obtain ⟨I3, A3, k1, k2, k3, k4⟩ := ih (t + 1) _ _ _ (by omega) (show rsRow (upd I 0 (nI (r.1 + 1))) (updA (updA A 1 (upd (A 1) r.1 (f p))) 2 (upd (A 2) r.1 (f (p + 1)))) (r.1 + 1, (updN r.2.1 r.1 (f p).toInt.toNat, upd r.2.2 r.1 (f (p + 1)))) from ⟨pk_us, fun j hj => by
            show upd (A 1) r.1 (f p) j = nI (updN r.2.1 r.1 (f p).toInt.toNat j) ∧ upd (A 2) r.1 (f (p + 1)) j = upd r.2.2 r.1 (f (p + 1)) j
            by_cases e : j = r.1
            · rw [e, pk_us, pk_us, pk_us, updN_at, z2, nI_toInt (by omega)]
              exact ⟨rfl, rfl⟩
            · rw [pk_un e, pk_un e, pk_un e, updN_ne e]
              exact rr.2 j (by dsimp only at hj; omega)⟩) w' (by rw [pf.2 40 (by decide)]; exact a40) (by rw [pf.2 41 (by decide)]; exact a41)
          have hF : scF f N i (m + 1) t r = scF f N i m (t + 1) (r.1 + 1, (updN r.2.1 r.1 (f p).toInt.toNat, upd r.2.2 r.1 (f (p + 1)))) := by
            show (if (scS f N i t r).1 = 0 then scF f N i m (t + 1) (scS f N i t r).2 else ((scS f N i t r).1, r)) = _
            rw [hs, if_pos rfl]
          rw [hF]
          refine ⟨I3, A3, ?_, k2, fun e => ⟨(k3 e).1, fun j hj => ?_⟩, pf.tr k4⟩
          · rw [go, g1, bind_some', rI_some, if_pos (show (0 : Int32) ≤ nI (r.1 + 1) from nI_le (a := 0) (by omega) (by omega)), nd_167_167 (St_run (d + 2) mt_167), nI_1]
            exact k1
          · obtain ⟨u1, u2⟩ := (k3 e).2 j (show j < r.1 + 1 by omega)
            refine ⟨u1.trans ?_, u2.trans ?_⟩
            · rw [updA_ne (by decide), updA_at, pk_un (by omega)]
            · rw [updA_at, pk_un (by omega)]
      · refine fail (-21) (by unfold scS; rw [hp]; dsimp only; rw [if_pos z1]) (by decide) (by decide) ?_
        rw [go, r_place_bad _ _ z1, bind_some', rI_some, if_neg (by decide)]
        rfl
theorem op_scan (S : SS h x y s q) (k l i n : Int32) : OP d x y h q 99 167 [.int k, .int l, .int i, .int n] := by
  obtain ⟨w, c, _, _⟩ := id S
  obtain ⟨X, c1, c2, ⟨R, r1, r2, r3⟩, _, _, _, _, _, _, _, _, c12, _⟩ := id c
  have cl0 : call (d + 8) 99 [.ref x, .int k, .int l, .int i, .int n] h = run (d + 7) mt_99 0 [some (.ref x), some (.int k), some (.int l), some (.int i), some (.int n), none, none, none, none] [] h := call_at mt_99 [some (.ref x), some (.int k), some (.int l), some (.int i), some (.int n), none, none, none, none] rfl rfl rfl
  have rl0 : ∀ (h : AH) I A, call (d + 8) 167 [.ref y, .int k, .int l, .int i, .int n] (mkR h y I A) = run (d + 7) mt_167 0 [some (.ref y), some (.int k), some (.int l), some (.int i), some (.int n), none, none, none, none, none, none] [] (mkR h y I A) := fun h I A => call_at mt_167 [some (.ref y), some (.int k), some (.int l), some (.int i), some (.int n), none, none, none, none, none, none] rfl rfl rfl
  rcases in3 k with ⟨z, i1, rfl, i3⟩ | ⟨i1, i2, i3⟩
  · have sa := C_sAt (d := d + 6) c1 c2 z i1
    obtain ⟨D, a1, a2, a3, a4⟩ := c12 z i1
    obtain ⟨w1, w2⟩ := w.2.2.2 z i1
    rcases in2 l with ⟨j, j1, rfl, j3⟩ | ⟨j1, j2, j3⟩
    · have l0 : ¬ nI j < 0 := nI_pos (by omega)
      have l3 : ¬ (3 : Int32) ≤ nI j := nI_ge (b := 3) j1 (by omega)
      have sh : ∀ h : AH, call (d + 7) 164 [.int (nI z), .int (nI j)] h = some (some (.int 1), h) := fun h => by
        rw [R_isSheet (d := d + 5), i3, j3, if_neg (show ¬ (1 : Int32) = 0 by decide), if_neg (show ¬ (1 : Int32) = 0 by decide)]
      rcases inC n 31 (by decide) with ⟨n', n1, rfl, n3⟩ | ⟨n1, n2, n3⟩
      · have n3' : v_in (nI n') 30 = 1 := n3
        have cl1 : call (d + 8) 99 [.ref x, .int (nI z), .int (nI j), .int i, .int (nI n')] h = if (s.2.2.2 z).1 = -4 then some (some (.int (-11)), h) else if (s.2.2.2 z).1 = nI j then run (d + 7) mt_99 70 [some (.ref x), none, none, some (.int i), some (.int (nI n')), some (.ref (so x z)), some (.int (nI s.1.1)), some (.int (nI 0)), none] [] h else some (some (.int (-13)), h) := by
          rw [cl0, nd_99_0 (St_run (d + 7) mt_99), c1.o, sa, bind_some', rQ_some, if_neg l0, if_neg l3, if_neg (nI_pos (by omega)), if_pos (show nI n' ≤ (30 : Int32) from nI_le (b := 30) (by omega) (by decide)), a1.o, m_isNothing (d := d + 6) a1, a2, bind_some', rI_some, a1.g1, a2, c1.g0, r1.g2, r2]
          by_cases hN : (s.2.2.2 z).1 = -4
          · rw [if_pos hN, if_neg (show ¬ (1 : Int32) = 0 by decide), if_pos hN]
          · rw [if_neg hN, if_pos (show (0 : Int32) = 0 from rfl), if_neg hN]
            rfl
        have rl1 : ∀ (h : AH) I A, RS I A s → call (d + 8) 167 [.ref y, .int (nI z), .int (nI j), .int i, .int (nI n')] (mkR h y I A) = if (s.2.2.2 z).1 = nI j then run (d + 7) mt_167 64 [some (.ref y), some (.int (nI z)), none, some (.int i), some (.int (nI n')), some (.int (nI s.1.1)), some (.int 0), some (.int (nI 0)), none, none, none] [] (mkR h y I A) else if (s.2.2.2 z).1 = -4 then some (some (.int (-11)), mkR h y I A) else some (some (.int (-13)), mkR h y I A) := fun h I A rs => by
          obtain ⟨b1, b2, b3⟩ := rs.2.2.2 z i1
          rw [rl0, nd_167_0 (St_run (d + 7) mt_167), sh, bind_some', rI_some, if_neg (show ¬ (1 : Int32) = 0 by decide), show (30 : Int64) = (30 : Int32).toInt64 from by decide, m_in0, n3', bind_some', rI_some, if_neg (show ¬ (1 : Int32) = 0 by decide), mkR_g39, mkR_l39 _ _ _ _ i1, b1, mkR_g0, rs.1.1, mkR_g39, mkR_l39 _ _ _ _ i1, b1, nd_167_51 (St_run (d + 7) mt_167), nd_167_51 (St_run (d + 7) mt_167)]
          rfl
        by_cases hl : (s.2.2.2 z).1 = nI j
        · have hN : ¬ (s.2.2.2 z).1 = -4 := fun e => by
            rw [hl] at e
            exact absurd (show nI j < 0 by rw [e]; decide) l0
          rw [if_neg hN, if_pos hl] at cl1
          obtain ⟨h1, D1, e1, e2, e3, e4, e5⟩ := l_scan (d := d + 5) (x := x) (i := i) (len := s.1.1) (E := D) a3 w1 (show n' ≤ 30 by omega) (by unfold so; omega) n' 0 h R s.1 (by omega) c1 r1 ⟨r2, r3⟩ w.1 a1 (Nat.le_refl _)
          have hcell : ∀ m t r, scF D.2.2 (s.2.2.2 z).2.1 i m t r = scF (s.2.2.2 z).2.2 (s.2.2.2 z).2.1 i m t r := by
            have hS : ∀ t r, scS D.2.2 (s.2.2.2 z).2.1 i t r = scS (s.2.2.2 z).2.2 (s.2.2.2 z).2.1 i t r := fun t r => by
              unfold scS
              cases hp : scP (s.2.2.2 z).2.1 i t with
              | none => rfl
              | some p =>
                have hpN : p + 1 < (s.2.2.2 z).2.1 := by
                  unfold scP at hp
                  by_cases hc : 0 ≤ i.toInt + 2 * (t : Int) ∧ i.toInt + 2 * (t : Int) + 2 ≤ ((s.2.2.2 z).2.1 : Int)
                  · rw [if_pos hc] at hp
                    have := Option.some.inj hp
                    omega
                  · rw [if_neg hc] at hp; cases hp
                dsimp only
                rw [a4 p (by omega), a4 (p + 1) (by omega)]
            intro m
            induction m with
            | zero => intro t r; rfl
            | succ m ih =>
              intro t r
              show (if (scS D.2.2 _ i t r).1 = 0 then scF D.2.2 _ i m (t + 1) (scS D.2.2 _ i t r).2 else ((scS D.2.2 _ i t r).1, r)) = (if (scS _ _ i t r).1 = 0 then scF _ _ i m (t + 1) (scS _ _ i t r).2 else ((scS _ _ i t r).1, r))
              rw [hS, ih]
          rw [hcell] at e1 e3 e4
          obtain ⟨F, hF⟩ : ∃ F, F = scF (s.2.2.2 z).2.2 (s.2.2.2 z).2.1 i n' 0 s.1 := ⟨_, rfl⟩
          rw [← hF] at e1 e3 e4
          have rsc : ∀ (h : AH) I A, RS I A s → ∃ I' A', call (d + 8) 167 [.ref y, .int (nI z), .int (nI j), .int i, .int (nI n')] (mkR h y I A) = some (some (.int (if F.1 = 0 then nI F.2.1 else F.1)), mkR h y I' A') ∧ (F.1 = 0 → rsRow I' A' F.2) ∧ (F.1 ≠ 0 → I' 0 = nI s.1.1 ∧ ∀ j, j < s.1.1 → A' 1 j = A 1 j ∧ A' 2 j = A 2 j) ∧ fra I I' A A' [0] [1, 2] := fun h I A rs => by
            obtain ⟨b1, b2, b3⟩ := rs.2.2.2 z i1
            obtain ⟨I1, A1, g1, g2, g3, g4⟩ := l_rscan (d := d + 5) (y := y) (h := h) (i := i) (len := s.1.1) (f := (s.2.2.2 z).2.2) i1 w1 (show n' ≤ 30 by omega) n' 0 I A s.1 (by omega) rs.1 w.1 b2 b3
            rw [← hF] at g1 g2 g3
            refine ⟨I1, A1, ?_, g2, g3, g4⟩
            rw [rl1 h I A rs, if_pos hl]
            exact g1
          by_cases hz : F.1 = 0
          · have wF : RWok F.2 := by
              rw [hF]
              exact scF_wf w.1 (by rw [← hF]; exact hz)
            rw [if_pos hz] at e1
            refine comb (s' := (F.2, s.2)) (r := nI F.2.1) S ⟨h1, cl1.trans e1, c.row w ⟨D1, e2, (e3 hz).1, (e3 hz).2⟩ e5, e5.sub (by omega) (by omega)⟩ (fun h I A rs => ?_) ⟨wF, (w.mono (Nat.le_succ q)).2⟩
            obtain ⟨I1, A1, g1, g2, g3, g4⟩ := rsc h I A rs
            rw [if_pos hz] at g1
            exact ⟨I1, A1, g1, g2 hz, rs.2.1.fa g4 (by decide) (by decide), rs.2.2.1.fa g4 (by decide) (by decide), rs.2.2.2.fa g4 (by decide)⟩
          · rw [if_neg hz] at e1
            obtain ⟨k1, k2⟩ := e4 hz
            refine comb (s' := s) (r := F.1) S ⟨h1, cl1.trans e1, c.row w (r := s.1) ⟨D1, e2, k1, fun j hj => ?_⟩ e5, e5.sub (by omega) (by omega)⟩ (fun h I A rs => ?_) (w.mono (Nat.le_succ q))
            · obtain ⟨u1, u2⟩ := k2 j hj
              obtain ⟨u3, u4⟩ := r3 j hj
              exact ⟨u1.trans u3, u2.trans u4⟩
            · obtain ⟨I1, A1, g1, g2, g3, g4⟩ := rsc h I A rs
              rw [if_neg hz] at g1
              obtain ⟨k3, k4⟩ := g3 hz
              refine ⟨I1, A1, g1, ⟨k3, fun j hj => ?_⟩, rs.2.1.fa g4 (by decide) (by decide), rs.2.2.1.fa g4 (by decide) (by decide), rs.2.2.2.fa g4 (by decide)⟩
              obtain ⟨u1, u2⟩ := k4 j hj
              obtain ⟨u3, u4⟩ := rs.1.2 j hj
              exact ⟨u1.trans u3, u2.trans u4⟩
        · by_cases hN : (s.2.2.2 z).1 = -4
          · refine comb (s' := s) (r := -11) S (CO_same c ?_) (RO_same (fun h I A rs => ?_)) (w.mono (by omega))
            · rw [cl1, if_pos hN]
            · rw [rl1 h I A rs, if_neg hl, if_pos hN]
          · refine comb (s' := s) (r := -13) S (CO_same c ?_) (RO_same (fun h I A rs => ?_)) (w.mono (by omega))
            · rw [cl1, if_neg hN, if_neg hl]
            · rw [rl1 h I A rs, if_neg hl, if_neg hN]
      · have n1' : v_in n 30 = 0 := n1
        refine comb (s' := s) (r := -1) S (CO_same c ?_) (RO_same (fun h I A rs => ?_)) (w.mono (by omega))
        · rw [cl0, nd_99_0 (St_run (d + 7) mt_99), c1.o, sa, bind_some', rQ_some, if_neg l0, if_neg l3, nd_99_33 (St_run (d + 7) mt_99)]
          by_cases h0 : n < 0
          · rw [if_pos h0]
          · rw [if_neg h0, if_neg (fun e => by
              have h5 := Int32.le_trans (n3.resolve_left h0) e
              exact absurd h5 (by decide))]
        · rw [rl0, nd_167_0 (St_run (d + 7) mt_167), sh, bind_some', rI_some, if_neg (show ¬ (1 : Int32) = 0 by decide), show (30 : Int64) = (30 : Int32).toInt64 from by decide, m_in0, n1', bind_some', rI_some, if_pos (show (0 : Int32) = 0 from rfl), nd_167_21 (St_run (d + 7) mt_167)]
    · refine comb (s' := s) (r := -1) S (CO_same c ?_) (RO_same (fun h I A rs => ?_)) (w.mono (by omega))
      · rw [cl0, nd_99_0 (St_run (d + 7) mt_99), c1.o, sa, bind_some', rQ_some, nd_99_33 (St_run (d + 7) mt_99)]
        by_cases h0 : l < 0
        · rw [if_pos h0]
        · rw [if_neg h0, if_pos (j3.resolve_left h0)]
      · rw [rl0, nd_167_0 (St_run (d + 7) mt_167), R_isSheet (d := d + 5), i3, j1, if_neg (show ¬ (1 : Int32) = 0 by decide), if_pos (show (0 : Int32) = 0 from rfl), bind_some', rI_some, if_pos (show (0 : Int32) = 0 from rfl), nd_167_21 (St_run (d + 7) mt_167)]
  · refine comb (s' := s) (r := -1) S (CO_same c ?_) (RO_same (fun h I A rs => ?_)) (w.mono (by omega))
    · rw [cl0, nd_99_0 (St_run (d + 7) mt_99), c1.o, C_sNo (d := d + 6) c1 c2 k i2, bind_some', rQ_null, nd_99_33 (St_run (d + 7) mt_99)]
    · rw [rl0, nd_167_0 (St_run (d + 7) mt_167), R_isSheet (d := d + 5), i1, if_pos (show (0 : Int32) = 0 from rfl), bind_some', rI_some, if_pos (show (0 : Int32) = 0 from rfl), nd_167_21 (St_run (d + 7) mt_167)]
end SCAN
