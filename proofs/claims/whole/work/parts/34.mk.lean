/-! ===== numbers for the rewriting, and the reference as a heap of its numbers ===== -/
def NO : Int32 := -4
def MO : Int32 := -1
theorem L_m4 : (-4 : Int32) = NO := rfl
theorem L_m1 : (-1 : Int32) = MO := rfl
theorem L_0 : (0 : Int32) = nI 0 := rfl
theorem L_1 : (1 : Int32) = nI 1 := rfl
theorem L_2 : (2 : Int32) = nI 2 := rfl
theorem L_3 : (3 : Int32) = nI 3 := rfl
theorem L_4 : (4 : Int32) = nI 4 := rfl
theorem L_5 : (5 : Int32) = nI 5 := rfl
theorem L_6 : (6 : Int32) = nI 6 := rfl
theorem L_8 : (8 : Int32) = nI 8 := rfl
theorem L_9 : (9 : Int32) = nI 9 := rfl
theorem L_15 : (15 : Int32) = nI 15 := rfl
theorem L_20 : (20 : Int32) = nI 20 := rfl
theorem L_30 : (30 : Int32) = nI 30 := rfl
theorem L_40 : (40 : Int32) = nI 40 := rfl
theorem L_54 : (54 : Int32) = nI 54 := rfl
theorem L_60 : (60 : Int32) = nI 60 := rfl
theorem L_120 : (120 : Int32) = nI 120 := rfl
theorem L_1872 : (1872 : Int32) = nI 1872 := rfl
theorem L_4320 : (4320 : Int32) = nI 4320 := rfl
theorem L_22500 : (22500 : Int32) = nI 22500 := rfl
theorem le_t {a b : Nat} (h : a ≤ b) (hb : b < 2 ^ 31) : (nI a ≤ nI b) = True := eq_true (nI_le h hb)
theorem le_f {a b : Nat} (h : b < a) (ha : a < 2 ^ 31) : (nI a ≤ nI b) = False := eq_false (nI_ge h ha)
theorem lt_t {a b : Nat} (h : a < b) (hb : b < 2 ^ 31) : (nI a < nI b) = True := eq_true (nI_lt h hb)
theorem lt_f {a b : Nat} (h : b ≤ a) (ha : a < 2 ^ 31) : (nI a < nI b) = False := eq_false (nI_nlt h ha)
theorem eq_t {a b : Nat} (h : a = b) : (nI a = nI b) = True := eq_true (congrArg nI h)
theorem eq_f {a b : Nat} (h : a ≠ b) (ha : a < 2 ^ 31) (hb : b < 2 ^ 31) : (nI a = nI b) = False := eq_false (fun e => h ((nI_eq ha hb).mp e))
theorem NO_lt (a : Nat) (ha : a < 2 ^ 31) : (NO < nI a) = True := eq_true (by rw [Int32.lt_iff_toInt_lt, nI_toInt ha, show NO.toInt = -4 from by decide]; omega)
theorem eq_NO {a : Nat} (ha : a < 2 ^ 31) : (nI a = NO) = False := eq_false (fun e => by have := congrArg Int32.toInt e; rw [nI_toInt ha, show NO.toInt = -4 from by decide] at this; omega)
theorem NO_eq {a : Nat} (ha : a < 2 ^ 31) : (NO = nI a) = False := eq_false (fun e => by have := congrArg Int32.toInt e; rw [nI_toInt ha, show NO.toInt = -4 from by decide] at this; omega)
theorem NO_neg : (NO < nI 0) = True := eq_true (by decide)
theorem MO_neg : (MO < nI 0) = True := eq_true (by decide)
theorem nI_MO {a : Nat} (h : 0 < a) : nI a + MO = nI (a - 1) := by
  obtain ⟨b, rfl⟩ : ∃ b, a = b + 1 := ⟨a - 1, by omega⟩
  exact pk_m1 b
theorem nI_0MO : nI 0 + MO = MO := by decide
theorem isZn0 {f : Option RV} : isZ (nI 0) f = f := isZ0
theorem isZn1 {f : Option RV} : isZ (nI 1) f = f := isZ1
theorem bI_and (b : Bool) : bI b &&& 1 = bI b := by cases b <;> decide
theorem bI_0 (b : Bool) : (bI b = nI 0) = (b = false) := by cases b <;> simp [bI, nI_0]
theorem ifb {p : Prop} [Decidable p] {h : AH} : (if p then (some (some (.int (nI 1)), h) : Option RV) else some (some (.int (nI 0)), h)) = some (some (.int (bI (decide p))), h) := by
  by_cases hp : p
  · simp [hp, bI]; rfl
  · simp [hp, bI]; rfl
theorem ifb' {p : Prop} [Decidable p] {h : AH} : (if p then (some (some (.int (nI 0)), h) : Option RV) else some (some (.int (nI 1)), h)) = some (some (.int (bI (!decide p))), h) := by
  by_cases hp : p
  · simp [hp, bI]; rfl
  · simp [hp, bI]; rfl
theorem pk_ds {a b : Nat} (h : b < 2 ^ 31) (h0 : 0 < b) (ha : a < 2 ^ 31) : nI a / nI b = nI (a / b) := pk_div ha h0 h
def ofMod : List (Option (Nat × (Nat × Nat))) := [none, some (1, (0, 40)), some (2, (0, 40)), some (4, (0, 6)), some (5, (0, 6)), some (6, (1, 36)), some (7, (0, 324)), some (8, (0, 324)), some (9, (0, 7)), some (10, (0, 54)), some (11, (0, 54)), some (13, (1, 2)), some (14, (0, 2)), some (15, (0, 2)), some (17, (1, 22500)), some (18, (1, 22500)), some (19, (0, 22500)), some (20, (0, 22500)), some (21, (0, 22500)), some (25, (0, 4)), some (26, (0, 4)), some (27, (0, 22500)), some (30, (0, 4)), some (32, (0, 4)), some (33, (0, 4)), some (34, (1, 8)), some (35, (0, 8)), some (36, (0, 4)), some (37, (0, 4)), some (38, (0, 4)), some (39, (0, 4)), some (40, (0, 4)), some (41, (0, 240))]
def mkR (h : AH) (a : Nat) (I : Nat → Int32) (A : Nat → Nat → Int32) : AH := (fun b => if b = a then some (oB 8 (flMod a I)) else if a < b ∧ b < a + 33 then (match ofMod[b - a]? with
  | some (some e) => some (aI e.2.1 e.2.2 (A e.1))
  | _ => h.1 b) else h.1 b, h.2)
set_option maxRecDepth 20000 in
theorem ofMod_in : ∀ x ∈ tbMod.zipIdx, (match x.1 with | some e => decide (ofMod[e.1]? = some (some (x.2, (e.2.1, e.2.2)))) | none => true) = true := by decide +kernel
set_option maxRecDepth 20000 in
theorem ofMod_on : ∀ x ∈ ofMod.zipIdx, (match x.1 with | some e => decide (tbMod[e.1]? = some (some (x.2, (e.2.1, e.2.2)))) | none => true) = true := by decide +kernel
theorem ofMod_of {k o t n : Nat} (hk : tbMod[k]? = some (some (o, (t, n)))) : ofMod[o]? = some (some (k, (t, n))) := by
  have e := ofMod_in (some (o, (t, n)), k) (List.mem_zipIdx_iff_getElem?.mpr hk)
  exact of_decide_eq_true e
theorem ofMod_to {k o t n : Nat} (hk : ofMod[o]? = some (some (k, (t, n)))) : tbMod[k]? = some (some (o, (t, n))) := by
  have e := ofMod_on (some (k, (t, n)), o) (List.mem_zipIdx_iff_getElem?.mpr hk)
  exact of_decide_eq_true e
theorem mkR_is (h : AH) (a : Nat) (I : Nat → Int32) (A : Nat → Nat → Int32) : isMod (mkR h a I A) a I A := by
  refine ⟨if_pos rfl, fun k o t n hk => ?_⟩
  have hb := tbMod_off hk hk
  show (if a + o = a then _ else _) = _
  rw [if_neg (by omega), if_pos (by omega), Nat.add_sub_cancel_left, ofMod_of hk]
theorem mkR_Fr (h : AH) (a : Nat) (I : Nat → Int32) (A : Nat → Nat → Int32) : Fr h (mkR h a I A) a 33 := by
  refine ⟨rfl, fun b hb => ?_⟩
  show (if b = a then _ else _) = _
  rw [if_neg (by omega), if_neg (by omega)]
theorem mkR_of {h h1 : AH} {a : Nat} {I : Nat → Int32} {A : Nat → Nat → Int32} (q : isMod h1 a I A) (p : h1.2 = h.2 ∧ ∀ b, ¬ (b = a ∨ ∃ k o t n : Nat, tbMod[k]? = some (some (o, (t, n))) ∧ b = a + o) → h1.1 b = h.1 b) : h1 = mkR h a I A := by
  obtain ⟨f1, f2⟩ := h1
  obtain ⟨p1, p2⟩ := p
  unfold mkR
  show (f1, f2) = (_, h.2)
  rw [← p1]
  congr 1
  funext b
  by_cases h1 : b = a
  · rw [if_pos h1, h1]
    exact q.1
  · rw [if_neg h1]
    by_cases h2 : a < b ∧ b < a + 33
    · rw [if_pos h2]
      obtain ⟨o, rfl⟩ : ∃ o, b = a + o := ⟨b - a, by omega⟩
      rw [Nat.add_sub_cancel_left]
      cases ho : ofMod[o]? with
      | none => exact p2 _ (by rintro (e | ⟨k, o2, t, n, e, e2⟩); exact h1 e; have : o = o2 := by omega
                               subst this; rw [ofMod_of e] at ho; cases ho)
      | some x =>
        cases x with
        | none => exact p2 _ (by rintro (e | ⟨k, o2, t, n, e, e2⟩); exact h1 e; have : o = o2 := by omega
                                 subst this; rw [ofMod_of e] at ho; cases ho)
        | some e => exact q.2 _ _ _ _ (ofMod_to ho)
    · rw [if_neg h2]
      exact p2 _ (by rintro (e | ⟨k, o2, t, n, e, e2⟩); exact h1 e; have := tbMod_off e e; omega)
theorem mkR_self {h : AH} {a : Nat} {I : Nat → Int32} {A : Nat → Nat → Int32} (q : isMod h a I A) : h = mkR h a I A := mkR_of q ⟨rfl, fun _ _ => rfl⟩
theorem mkR_out (h : AH) (a : Nat) (I : Nat → Int32) (A : Nat → Nat → Int32) (b : Nat) (hb : ¬ (b = a ∨ ∃ k o t n : Nat, tbMod[k]? = some (some (o, (t, n))) ∧ b = a + o)) : (mkR h a I A).1 b = h.1 b := by
  show (if b = a then _ else _) = _
  rw [if_neg (fun e => hb (Or.inl e))]
  by_cases h2 : a < b ∧ b < a + 33
  · rw [if_pos h2]
    obtain ⟨o, rfl⟩ : ∃ o, b = a + o := ⟨b - a, by omega⟩
    rw [Nat.add_sub_cancel_left]
    cases ho : ofMod[o]? with
    | none => rfl
    | some x =>
      cases x with
      | none => rfl
      | some e => exact absurd (Or.inr ⟨_, _, _, _, ofMod_to ho, rfl⟩) hb
  · rw [if_neg h2]
theorem mkR_w (h : AH) (a : Nat) (I : Nat → Int32) (A : Nat → Nat → Int32) (k : Nat) {o t n : Nat} (hk : tbMod[k]? = some (some (o, (t, n)))) (f : Nat → Int32) : hS (mkR h a I A) (a + o) (aI t n f) = mkR h a I (updA A k f) := by
  refine mkR_of ((mkR_is h a I A).w k hk f) ⟨rfl, fun b hb => ?_⟩
  rw [hS_ne (fun e => hb (Or.inr ⟨k, o, t, n, hk, e⟩))]
  exact mkR_out h a I A b hb
theorem mkR_u (h : AH) (a : Nat) (I J : Nat → Int32) (A : Nat → Nat → Int32) : hS (mkR h a I A) a (oB 8 (flMod a J)) = mkR h a J A := by
  refine mkR_of ((mkR_is h a I A).u J) ⟨rfl, fun b hb => ?_⟩
  rw [hS_ne (fun e => hb (Or.inl e))]
  exact mkR_out h a I A b hb
theorem mkR_mk (h : AH) (a : Nat) (I J : Nat → Int32) (A B : Nat → Nat → Int32) : mkR (mkR h a I A) a J B = mkR h a J B := by
  refine mkR_of (mkR_is _ a J B) ⟨rfl, fun b hb => ?_⟩
  rw [mkR_out _ a J B b hb, mkR_out h a I A b hb]
theorem mkR_o (h : AH) (a : Nat) (I : Nat → Int32) (A : Nat → Nat → Int32) (f : Option RV) : isO (mkR h a I A) a 8 f = f := (mkR_is h a I A).o f
theorem mkR_g0 (h : AH) (a : Nat) (I : Nat → Int32) (A : Nat → Nat → Int32) (f : Int32 → Option RV) : gfI (mkR h a I A) a 8 0 f = f (I 0) := (mkR_is h a I A).g0 f
theorem mkR_p0 (h : AH) (a : Nat) (I : Nat → Int32) (A : Nat → Nat → Int32) (x : Int32) (f : AH → Option RV) : pfV (mkR h a I A) a 8 0 (.int x) f = f (mkR h a (upd I 0 x) A) := ((mkR_is h a I A).p0 x f).trans (congrArg f (mkR_u h a I _ A))
theorem mkR_g1 (h : AH) (a : Nat) (I : Nat → Int32) (A : Nat → Nat → Int32) (n0 : Option RV) (f : Nat → Option RV) : gfQ (mkR h a I A) a 8 1 n0 f = f (a + 1) := (mkR_is h a I A).g1 n0 f
theorem mkR_l1 (h : AH) (a : Nat) (I : Nat → Int32) (A : Nat → Nat → Int32) {j : Nat} (hj : j < 40) (f : Int32 → Option RV) : ldI (mkR h a I A) (a + 1) (nI j) f = f (A 1 j) := ldI_of (mkR_is h a I A).a1 rfl hj (by decide) f
theorem mkR_n1 (h : AH) (a : Nat) (I : Nat → Int32) (A : Nat → Nat → Int32) (f : Int32 → Option RV) : lnA (mkR h a I A) (a + 1) f = f (nI 40) := lnI_of (mkR_is h a I A).a1 f
theorem mkR_s1 (h : AH) (a : Nat) (I : Nat → Int32) (A : Nat → Nat → Int32) {j : Nat} (hj : j < 40) (x : Int32) (f : AH → Option RV) : stI (mkR h a I A) (a + 1) (nI j) x f = f (mkR h a I (updA A 1 (upd (A 1) j x))) := (stI_of (mkR_is h a I A).a1 rfl hj (by decide) f).trans (congrArg f (mkR_w h a I A 1 rfl _))
theorem mkR_g2 (h : AH) (a : Nat) (I : Nat → Int32) (A : Nat → Nat → Int32) (n0 : Option RV) (f : Nat → Option RV) : gfQ (mkR h a I A) a 8 2 n0 f = f (a + 2) := (mkR_is h a I A).g2 n0 f
theorem mkR_l2 (h : AH) (a : Nat) (I : Nat → Int32) (A : Nat → Nat → Int32) {j : Nat} (hj : j < 40) (f : Int32 → Option RV) : ldI (mkR h a I A) (a + 2) (nI j) f = f (A 2 j) := ldI_of (mkR_is h a I A).a2 rfl hj (by decide) f
theorem mkR_n2 (h : AH) (a : Nat) (I : Nat → Int32) (A : Nat → Nat → Int32) (f : Int32 → Option RV) : lnA (mkR h a I A) (a + 2) f = f (nI 40) := lnI_of (mkR_is h a I A).a2 f
theorem mkR_s2 (h : AH) (a : Nat) (I : Nat → Int32) (A : Nat → Nat → Int32) {j : Nat} (hj : j < 40) (x : Int32) (f : AH → Option RV) : stI (mkR h a I A) (a + 2) (nI j) x f = f (mkR h a I (updA A 2 (upd (A 2) j x))) := (stI_of (mkR_is h a I A).a2 rfl hj (by decide) f).trans (congrArg f (mkR_w h a I A 2 rfl _))
theorem mkR_g3 (h : AH) (a : Nat) (I : Nat → Int32) (A : Nat → Nat → Int32) (f : Int32 → Option RV) : gfI (mkR h a I A) a 8 3 f = f (I 3) := (mkR_is h a I A).g3 f
theorem mkR_p3 (h : AH) (a : Nat) (I : Nat → Int32) (A : Nat → Nat → Int32) (x : Int32) (f : AH → Option RV) : pfV (mkR h a I A) a 8 3 (.int x) f = f (mkR h a (upd I 3 x) A) := ((mkR_is h a I A).p3 x f).trans (congrArg f (mkR_u h a I _ A))
theorem mkR_g4 (h : AH) (a : Nat) (I : Nat → Int32) (A : Nat → Nat → Int32) (n0 : Option RV) (f : Nat → Option RV) : gfQ (mkR h a I A) a 8 4 n0 f = f (a + 3) := (mkR_is h a I A).g4 n0 f
theorem mkR_l4 (h : AH) (a : Nat) (I : Nat → Int32) (A : Nat → Nat → Int32) {j : Nat} (hj : j < 6) (f : Int32 → Option RV) : ldI (mkR h a I A) (a + 3) (nI j) f = f (A 4 j) := ldI_of (mkR_is h a I A).a4 rfl hj (by decide) f
theorem mkR_n4 (h : AH) (a : Nat) (I : Nat → Int32) (A : Nat → Nat → Int32) (f : Int32 → Option RV) : lnA (mkR h a I A) (a + 3) f = f (nI 6) := lnI_of (mkR_is h a I A).a4 f
theorem mkR_s4 (h : AH) (a : Nat) (I : Nat → Int32) (A : Nat → Nat → Int32) {j : Nat} (hj : j < 6) (x : Int32) (f : AH → Option RV) : stI (mkR h a I A) (a + 3) (nI j) x f = f (mkR h a I (updA A 4 (upd (A 4) j x))) := (stI_of (mkR_is h a I A).a4 rfl hj (by decide) f).trans (congrArg f (mkR_w h a I A 4 rfl _))
theorem mkR_g5 (h : AH) (a : Nat) (I : Nat → Int32) (A : Nat → Nat → Int32) (n0 : Option RV) (f : Nat → Option RV) : gfQ (mkR h a I A) a 8 5 n0 f = f (a + 4) := (mkR_is h a I A).g5 n0 f
theorem mkR_l5 (h : AH) (a : Nat) (I : Nat → Int32) (A : Nat → Nat → Int32) {j : Nat} (hj : j < 6) (f : Int32 → Option RV) : ldI (mkR h a I A) (a + 4) (nI j) f = f (A 5 j) := ldI_of (mkR_is h a I A).a5 rfl hj (by decide) f
theorem mkR_n5 (h : AH) (a : Nat) (I : Nat → Int32) (A : Nat → Nat → Int32) (f : Int32 → Option RV) : lnA (mkR h a I A) (a + 4) f = f (nI 6) := lnI_of (mkR_is h a I A).a5 f
theorem mkR_s5 (h : AH) (a : Nat) (I : Nat → Int32) (A : Nat → Nat → Int32) {j : Nat} (hj : j < 6) (x : Int32) (f : AH → Option RV) : stI (mkR h a I A) (a + 4) (nI j) x f = f (mkR h a I (updA A 5 (upd (A 5) j x))) := (stI_of (mkR_is h a I A).a5 rfl hj (by decide) f).trans (congrArg f (mkR_w h a I A 5 rfl _))
theorem mkR_g6 (h : AH) (a : Nat) (I : Nat → Int32) (A : Nat → Nat → Int32) (n0 : Option RV) (f : Nat → Option RV) : gfQ (mkR h a I A) a 8 6 n0 f = f (a + 5) := (mkR_is h a I A).g6 n0 f
theorem mkR_l6 (h : AH) (a : Nat) (I : Nat → Int32) (A : Nat → Nat → Int32) {j : Nat} (hj : j < 36) (f : Int32 → Option RV) : ldZ (mkR h a I A) (a + 5) (nI j) f = f (A 6 j) := ldZ_of (mkR_is h a I A).a6 rfl hj (by decide) f
theorem mkR_n6 (h : AH) (a : Nat) (I : Nat → Int32) (A : Nat → Nat → Int32) (f : Int32 → Option RV) : lnA (mkR h a I A) (a + 5) f = f (nI 36) := lnI_of (mkR_is h a I A).a6 f
theorem mkR_s6 (h : AH) (a : Nat) (I : Nat → Int32) (A : Nat → Nat → Int32) {j : Nat} (hj : j < 36) (b : Bool) (f : AH → Option RV) : stZ (mkR h a I A) (a + 5) (nI j) (bI b) f = f (mkR h a I (updA A 6 (upd (A 6) j (bI b)))) := by
  rw [stZ_of (mkR_is h a I A).a6 rfl hj (by decide), bI_and]
  exact congrArg f (mkR_w h a I A 6 rfl _)
theorem mkR_t6 (h : AH) (a : Nat) (I : Nat → Int32) (A : Nat → Nat → Int32) {j : Nat} (hj : j < 36) (f : AH → Option RV) : stZ (mkR h a I A) (a + 5) (nI j) (nI 1) f = f (mkR h a I (updA A 6 (upd (A 6) j (bI true)))) := mkR_s6 h a I A hj true f
theorem mkR_f6 (h : AH) (a : Nat) (I : Nat → Int32) (A : Nat → Nat → Int32) {j : Nat} (hj : j < 36) (f : AH → Option RV) : stZ (mkR h a I A) (a + 5) (nI j) (nI 0) f = f (mkR h a I (updA A 6 (upd (A 6) j (bI false)))) := mkR_s6 h a I A hj false f
theorem mkR_g7 (h : AH) (a : Nat) (I : Nat → Int32) (A : Nat → Nat → Int32) (n0 : Option RV) (f : Nat → Option RV) : gfQ (mkR h a I A) a 8 7 n0 f = f (a + 6) := (mkR_is h a I A).g7 n0 f
theorem mkR_l7 (h : AH) (a : Nat) (I : Nat → Int32) (A : Nat → Nat → Int32) {j : Nat} (hj : j < 324) (f : Int32 → Option RV) : ldI (mkR h a I A) (a + 6) (nI j) f = f (A 7 j) := ldI_of (mkR_is h a I A).a7 rfl hj (by decide) f
theorem mkR_n7 (h : AH) (a : Nat) (I : Nat → Int32) (A : Nat → Nat → Int32) (f : Int32 → Option RV) : lnA (mkR h a I A) (a + 6) f = f (nI 324) := lnI_of (mkR_is h a I A).a7 f
theorem mkR_s7 (h : AH) (a : Nat) (I : Nat → Int32) (A : Nat → Nat → Int32) {j : Nat} (hj : j < 324) (x : Int32) (f : AH → Option RV) : stI (mkR h a I A) (a + 6) (nI j) x f = f (mkR h a I (updA A 7 (upd (A 7) j x))) := (stI_of (mkR_is h a I A).a7 rfl hj (by decide) f).trans (congrArg f (mkR_w h a I A 7 rfl _))
theorem mkR_g8 (h : AH) (a : Nat) (I : Nat → Int32) (A : Nat → Nat → Int32) (n0 : Option RV) (f : Nat → Option RV) : gfQ (mkR h a I A) a 8 8 n0 f = f (a + 7) := (mkR_is h a I A).g8 n0 f
theorem mkR_l8 (h : AH) (a : Nat) (I : Nat → Int32) (A : Nat → Nat → Int32) {j : Nat} (hj : j < 324) (f : Int32 → Option RV) : ldI (mkR h a I A) (a + 7) (nI j) f = f (A 8 j) := ldI_of (mkR_is h a I A).a8 rfl hj (by decide) f
theorem mkR_n8 (h : AH) (a : Nat) (I : Nat → Int32) (A : Nat → Nat → Int32) (f : Int32 → Option RV) : lnA (mkR h a I A) (a + 7) f = f (nI 324) := lnI_of (mkR_is h a I A).a8 f
theorem mkR_s8 (h : AH) (a : Nat) (I : Nat → Int32) (A : Nat → Nat → Int32) {j : Nat} (hj : j < 324) (x : Int32) (f : AH → Option RV) : stI (mkR h a I A) (a + 7) (nI j) x f = f (mkR h a I (updA A 8 (upd (A 8) j x))) := (stI_of (mkR_is h a I A).a8 rfl hj (by decide) f).trans (congrArg f (mkR_w h a I A 8 rfl _))
theorem mkR_g9 (h : AH) (a : Nat) (I : Nat → Int32) (A : Nat → Nat → Int32) (n0 : Option RV) (f : Nat → Option RV) : gfQ (mkR h a I A) a 8 9 n0 f = f (a + 8) := (mkR_is h a I A).g9 n0 f
theorem mkR_l9 (h : AH) (a : Nat) (I : Nat → Int32) (A : Nat → Nat → Int32) {j : Nat} (hj : j < 7) (f : Int32 → Option RV) : ldI (mkR h a I A) (a + 8) (nI j) f = f (A 9 j) := ldI_of (mkR_is h a I A).a9 rfl hj (by decide) f
theorem mkR_n9 (h : AH) (a : Nat) (I : Nat → Int32) (A : Nat → Nat → Int32) (f : Int32 → Option RV) : lnA (mkR h a I A) (a + 8) f = f (nI 7) := lnI_of (mkR_is h a I A).a9 f
theorem mkR_s9 (h : AH) (a : Nat) (I : Nat → Int32) (A : Nat → Nat → Int32) {j : Nat} (hj : j < 7) (x : Int32) (f : AH → Option RV) : stI (mkR h a I A) (a + 8) (nI j) x f = f (mkR h a I (updA A 9 (upd (A 9) j x))) := (stI_of (mkR_is h a I A).a9 rfl hj (by decide) f).trans (congrArg f (mkR_w h a I A 9 rfl _))
theorem mkR_g10 (h : AH) (a : Nat) (I : Nat → Int32) (A : Nat → Nat → Int32) (n0 : Option RV) (f : Nat → Option RV) : gfQ (mkR h a I A) a 8 10 n0 f = f (a + 9) := (mkR_is h a I A).g10 n0 f
theorem mkR_l10 (h : AH) (a : Nat) (I : Nat → Int32) (A : Nat → Nat → Int32) {j : Nat} (hj : j < 54) (f : Int32 → Option RV) : ldI (mkR h a I A) (a + 9) (nI j) f = f (A 10 j) := ldI_of (mkR_is h a I A).a10 rfl hj (by decide) f
theorem mkR_n10 (h : AH) (a : Nat) (I : Nat → Int32) (A : Nat → Nat → Int32) (f : Int32 → Option RV) : lnA (mkR h a I A) (a + 9) f = f (nI 54) := lnI_of (mkR_is h a I A).a10 f
theorem mkR_s10 (h : AH) (a : Nat) (I : Nat → Int32) (A : Nat → Nat → Int32) {j : Nat} (hj : j < 54) (x : Int32) (f : AH → Option RV) : stI (mkR h a I A) (a + 9) (nI j) x f = f (mkR h a I (updA A 10 (upd (A 10) j x))) := (stI_of (mkR_is h a I A).a10 rfl hj (by decide) f).trans (congrArg f (mkR_w h a I A 10 rfl _))
theorem mkR_g11 (h : AH) (a : Nat) (I : Nat → Int32) (A : Nat → Nat → Int32) (n0 : Option RV) (f : Nat → Option RV) : gfQ (mkR h a I A) a 8 11 n0 f = f (a + 10) := (mkR_is h a I A).g11 n0 f
theorem mkR_l11 (h : AH) (a : Nat) (I : Nat → Int32) (A : Nat → Nat → Int32) {j : Nat} (hj : j < 54) (f : Int32 → Option RV) : ldI (mkR h a I A) (a + 10) (nI j) f = f (A 11 j) := ldI_of (mkR_is h a I A).a11 rfl hj (by decide) f
theorem mkR_n11 (h : AH) (a : Nat) (I : Nat → Int32) (A : Nat → Nat → Int32) (f : Int32 → Option RV) : lnA (mkR h a I A) (a + 10) f = f (nI 54) := lnI_of (mkR_is h a I A).a11 f
theorem mkR_s11 (h : AH) (a : Nat) (I : Nat → Int32) (A : Nat → Nat → Int32) {j : Nat} (hj : j < 54) (x : Int32) (f : AH → Option RV) : stI (mkR h a I A) (a + 10) (nI j) x f = f (mkR h a I (updA A 11 (upd (A 11) j x))) := (stI_of (mkR_is h a I A).a11 rfl hj (by decide) f).trans (congrArg f (mkR_w h a I A 11 rfl _))
theorem mkR_g12 (h : AH) (a : Nat) (I : Nat → Int32) (A : Nat → Nat → Int32) (f : Int32 → Option RV) : gfI (mkR h a I A) a 8 12 f = f (I 12) := (mkR_is h a I A).g12 f
theorem mkR_p12 (h : AH) (a : Nat) (I : Nat → Int32) (A : Nat → Nat → Int32) (x : Int32) (f : AH → Option RV) : pfV (mkR h a I A) a 8 12 (.int x) f = f (mkR h a (upd I 12 x) A) := ((mkR_is h a I A).p12 x f).trans (congrArg f (mkR_u h a I _ A))
theorem mkR_g13 (h : AH) (a : Nat) (I : Nat → Int32) (A : Nat → Nat → Int32) (n0 : Option RV) (f : Nat → Option RV) : gfQ (mkR h a I A) a 8 13 n0 f = f (a + 11) := (mkR_is h a I A).g13 n0 f
theorem mkR_l13 (h : AH) (a : Nat) (I : Nat → Int32) (A : Nat → Nat → Int32) {j : Nat} (hj : j < 2) (f : Int32 → Option RV) : ldZ (mkR h a I A) (a + 11) (nI j) f = f (A 13 j) := ldZ_of (mkR_is h a I A).a13 rfl hj (by decide) f
theorem mkR_n13 (h : AH) (a : Nat) (I : Nat → Int32) (A : Nat → Nat → Int32) (f : Int32 → Option RV) : lnA (mkR h a I A) (a + 11) f = f (nI 2) := lnI_of (mkR_is h a I A).a13 f
theorem mkR_s13 (h : AH) (a : Nat) (I : Nat → Int32) (A : Nat → Nat → Int32) {j : Nat} (hj : j < 2) (b : Bool) (f : AH → Option RV) : stZ (mkR h a I A) (a + 11) (nI j) (bI b) f = f (mkR h a I (updA A 13 (upd (A 13) j (bI b)))) := by
  rw [stZ_of (mkR_is h a I A).a13 rfl hj (by decide), bI_and]
  exact congrArg f (mkR_w h a I A 13 rfl _)
theorem mkR_t13 (h : AH) (a : Nat) (I : Nat → Int32) (A : Nat → Nat → Int32) {j : Nat} (hj : j < 2) (f : AH → Option RV) : stZ (mkR h a I A) (a + 11) (nI j) (nI 1) f = f (mkR h a I (updA A 13 (upd (A 13) j (bI true)))) := mkR_s13 h a I A hj true f
theorem mkR_f13 (h : AH) (a : Nat) (I : Nat → Int32) (A : Nat → Nat → Int32) {j : Nat} (hj : j < 2) (f : AH → Option RV) : stZ (mkR h a I A) (a + 11) (nI j) (nI 0) f = f (mkR h a I (updA A 13 (upd (A 13) j (bI false)))) := mkR_s13 h a I A hj false f
theorem mkR_g14 (h : AH) (a : Nat) (I : Nat → Int32) (A : Nat → Nat → Int32) (n0 : Option RV) (f : Nat → Option RV) : gfQ (mkR h a I A) a 8 14 n0 f = f (a + 12) := (mkR_is h a I A).g14 n0 f
theorem mkR_l14 (h : AH) (a : Nat) (I : Nat → Int32) (A : Nat → Nat → Int32) {j : Nat} (hj : j < 2) (f : Int32 → Option RV) : ldI (mkR h a I A) (a + 12) (nI j) f = f (A 14 j) := ldI_of (mkR_is h a I A).a14 rfl hj (by decide) f
theorem mkR_n14 (h : AH) (a : Nat) (I : Nat → Int32) (A : Nat → Nat → Int32) (f : Int32 → Option RV) : lnA (mkR h a I A) (a + 12) f = f (nI 2) := lnI_of (mkR_is h a I A).a14 f
theorem mkR_s14 (h : AH) (a : Nat) (I : Nat → Int32) (A : Nat → Nat → Int32) {j : Nat} (hj : j < 2) (x : Int32) (f : AH → Option RV) : stI (mkR h a I A) (a + 12) (nI j) x f = f (mkR h a I (updA A 14 (upd (A 14) j x))) := (stI_of (mkR_is h a I A).a14 rfl hj (by decide) f).trans (congrArg f (mkR_w h a I A 14 rfl _))
theorem mkR_g15 (h : AH) (a : Nat) (I : Nat → Int32) (A : Nat → Nat → Int32) (n0 : Option RV) (f : Nat → Option RV) : gfQ (mkR h a I A) a 8 15 n0 f = f (a + 13) := (mkR_is h a I A).g15 n0 f
theorem mkR_l15 (h : AH) (a : Nat) (I : Nat → Int32) (A : Nat → Nat → Int32) {j : Nat} (hj : j < 2) (f : Int32 → Option RV) : ldI (mkR h a I A) (a + 13) (nI j) f = f (A 15 j) := ldI_of (mkR_is h a I A).a15 rfl hj (by decide) f
theorem mkR_n15 (h : AH) (a : Nat) (I : Nat → Int32) (A : Nat → Nat → Int32) (f : Int32 → Option RV) : lnA (mkR h a I A) (a + 13) f = f (nI 2) := lnI_of (mkR_is h a I A).a15 f
theorem mkR_s15 (h : AH) (a : Nat) (I : Nat → Int32) (A : Nat → Nat → Int32) {j : Nat} (hj : j < 2) (x : Int32) (f : AH → Option RV) : stI (mkR h a I A) (a + 13) (nI j) x f = f (mkR h a I (updA A 15 (upd (A 15) j x))) := (stI_of (mkR_is h a I A).a15 rfl hj (by decide) f).trans (congrArg f (mkR_w h a I A 15 rfl _))
theorem mkR_g16 (h : AH) (a : Nat) (I : Nat → Int32) (A : Nat → Nat → Int32) (f : Int32 → Option RV) : gfI (mkR h a I A) a 8 16 f = f (I 16) := (mkR_is h a I A).g16 f
theorem mkR_p16 (h : AH) (a : Nat) (I : Nat → Int32) (A : Nat → Nat → Int32) (x : Int32) (f : AH → Option RV) : pfV (mkR h a I A) a 8 16 (.int x) f = f (mkR h a (upd I 16 x) A) := ((mkR_is h a I A).p16 x f).trans (congrArg f (mkR_u h a I _ A))
theorem mkR_g17 (h : AH) (a : Nat) (I : Nat → Int32) (A : Nat → Nat → Int32) (n0 : Option RV) (f : Nat → Option RV) : gfQ (mkR h a I A) a 8 17 n0 f = f (a + 14) := (mkR_is h a I A).g17 n0 f
theorem mkR_l17 (h : AH) (a : Nat) (I : Nat → Int32) (A : Nat → Nat → Int32) {j : Nat} (hj : j < 22500) (f : Int32 → Option RV) : ldZ (mkR h a I A) (a + 14) (nI j) f = f (A 17 j) := ldZ_of (mkR_is h a I A).a17 rfl hj (by decide) f
theorem mkR_n17 (h : AH) (a : Nat) (I : Nat → Int32) (A : Nat → Nat → Int32) (f : Int32 → Option RV) : lnA (mkR h a I A) (a + 14) f = f (nI 22500) := lnI_of (mkR_is h a I A).a17 f
theorem mkR_s17 (h : AH) (a : Nat) (I : Nat → Int32) (A : Nat → Nat → Int32) {j : Nat} (hj : j < 22500) (b : Bool) (f : AH → Option RV) : stZ (mkR h a I A) (a + 14) (nI j) (bI b) f = f (mkR h a I (updA A 17 (upd (A 17) j (bI b)))) := by
  rw [stZ_of (mkR_is h a I A).a17 rfl hj (by decide), bI_and]
  exact congrArg f (mkR_w h a I A 17 rfl _)
theorem mkR_t17 (h : AH) (a : Nat) (I : Nat → Int32) (A : Nat → Nat → Int32) {j : Nat} (hj : j < 22500) (f : AH → Option RV) : stZ (mkR h a I A) (a + 14) (nI j) (nI 1) f = f (mkR h a I (updA A 17 (upd (A 17) j (bI true)))) := mkR_s17 h a I A hj true f
theorem mkR_f17 (h : AH) (a : Nat) (I : Nat → Int32) (A : Nat → Nat → Int32) {j : Nat} (hj : j < 22500) (f : AH → Option RV) : stZ (mkR h a I A) (a + 14) (nI j) (nI 0) f = f (mkR h a I (updA A 17 (upd (A 17) j (bI false)))) := mkR_s17 h a I A hj false f
theorem mkR_g18 (h : AH) (a : Nat) (I : Nat → Int32) (A : Nat → Nat → Int32) (n0 : Option RV) (f : Nat → Option RV) : gfQ (mkR h a I A) a 8 18 n0 f = f (a + 15) := (mkR_is h a I A).g18 n0 f
theorem mkR_l18 (h : AH) (a : Nat) (I : Nat → Int32) (A : Nat → Nat → Int32) {j : Nat} (hj : j < 22500) (f : Int32 → Option RV) : ldZ (mkR h a I A) (a + 15) (nI j) f = f (A 18 j) := ldZ_of (mkR_is h a I A).a18 rfl hj (by decide) f
theorem mkR_n18 (h : AH) (a : Nat) (I : Nat → Int32) (A : Nat → Nat → Int32) (f : Int32 → Option RV) : lnA (mkR h a I A) (a + 15) f = f (nI 22500) := lnI_of (mkR_is h a I A).a18 f
theorem mkR_s18 (h : AH) (a : Nat) (I : Nat → Int32) (A : Nat → Nat → Int32) {j : Nat} (hj : j < 22500) (b : Bool) (f : AH → Option RV) : stZ (mkR h a I A) (a + 15) (nI j) (bI b) f = f (mkR h a I (updA A 18 (upd (A 18) j (bI b)))) := by
  rw [stZ_of (mkR_is h a I A).a18 rfl hj (by decide), bI_and]
  exact congrArg f (mkR_w h a I A 18 rfl _)
theorem mkR_t18 (h : AH) (a : Nat) (I : Nat → Int32) (A : Nat → Nat → Int32) {j : Nat} (hj : j < 22500) (f : AH → Option RV) : stZ (mkR h a I A) (a + 15) (nI j) (nI 1) f = f (mkR h a I (updA A 18 (upd (A 18) j (bI true)))) := mkR_s18 h a I A hj true f
theorem mkR_f18 (h : AH) (a : Nat) (I : Nat → Int32) (A : Nat → Nat → Int32) {j : Nat} (hj : j < 22500) (f : AH → Option RV) : stZ (mkR h a I A) (a + 15) (nI j) (nI 0) f = f (mkR h a I (updA A 18 (upd (A 18) j (bI false)))) := mkR_s18 h a I A hj false f
theorem mkR_g19 (h : AH) (a : Nat) (I : Nat → Int32) (A : Nat → Nat → Int32) (n0 : Option RV) (f : Nat → Option RV) : gfQ (mkR h a I A) a 8 19 n0 f = f (a + 16) := (mkR_is h a I A).g19 n0 f
theorem mkR_l19 (h : AH) (a : Nat) (I : Nat → Int32) (A : Nat → Nat → Int32) {j : Nat} (hj : j < 22500) (f : Int32 → Option RV) : ldI (mkR h a I A) (a + 16) (nI j) f = f (A 19 j) := ldI_of (mkR_is h a I A).a19 rfl hj (by decide) f
theorem mkR_n19 (h : AH) (a : Nat) (I : Nat → Int32) (A : Nat → Nat → Int32) (f : Int32 → Option RV) : lnA (mkR h a I A) (a + 16) f = f (nI 22500) := lnI_of (mkR_is h a I A).a19 f
theorem mkR_s19 (h : AH) (a : Nat) (I : Nat → Int32) (A : Nat → Nat → Int32) {j : Nat} (hj : j < 22500) (x : Int32) (f : AH → Option RV) : stI (mkR h a I A) (a + 16) (nI j) x f = f (mkR h a I (updA A 19 (upd (A 19) j x))) := (stI_of (mkR_is h a I A).a19 rfl hj (by decide) f).trans (congrArg f (mkR_w h a I A 19 rfl _))
theorem mkR_g20 (h : AH) (a : Nat) (I : Nat → Int32) (A : Nat → Nat → Int32) (n0 : Option RV) (f : Nat → Option RV) : gfQ (mkR h a I A) a 8 20 n0 f = f (a + 17) := (mkR_is h a I A).g20 n0 f
theorem mkR_l20 (h : AH) (a : Nat) (I : Nat → Int32) (A : Nat → Nat → Int32) {j : Nat} (hj : j < 22500) (f : Int32 → Option RV) : ldI (mkR h a I A) (a + 17) (nI j) f = f (A 20 j) := ldI_of (mkR_is h a I A).a20 rfl hj (by decide) f
theorem mkR_n20 (h : AH) (a : Nat) (I : Nat → Int32) (A : Nat → Nat → Int32) (f : Int32 → Option RV) : lnA (mkR h a I A) (a + 17) f = f (nI 22500) := lnI_of (mkR_is h a I A).a20 f
theorem mkR_s20 (h : AH) (a : Nat) (I : Nat → Int32) (A : Nat → Nat → Int32) {j : Nat} (hj : j < 22500) (x : Int32) (f : AH → Option RV) : stI (mkR h a I A) (a + 17) (nI j) x f = f (mkR h a I (updA A 20 (upd (A 20) j x))) := (stI_of (mkR_is h a I A).a20 rfl hj (by decide) f).trans (congrArg f (mkR_w h a I A 20 rfl _))
theorem mkR_g21 (h : AH) (a : Nat) (I : Nat → Int32) (A : Nat → Nat → Int32) (n0 : Option RV) (f : Nat → Option RV) : gfQ (mkR h a I A) a 8 21 n0 f = f (a + 18) := (mkR_is h a I A).g21 n0 f
theorem mkR_l21 (h : AH) (a : Nat) (I : Nat → Int32) (A : Nat → Nat → Int32) {j : Nat} (hj : j < 22500) (f : Int32 → Option RV) : ldI (mkR h a I A) (a + 18) (nI j) f = f (A 21 j) := ldI_of (mkR_is h a I A).a21 rfl hj (by decide) f
theorem mkR_n21 (h : AH) (a : Nat) (I : Nat → Int32) (A : Nat → Nat → Int32) (f : Int32 → Option RV) : lnA (mkR h a I A) (a + 18) f = f (nI 22500) := lnI_of (mkR_is h a I A).a21 f
theorem mkR_s21 (h : AH) (a : Nat) (I : Nat → Int32) (A : Nat → Nat → Int32) {j : Nat} (hj : j < 22500) (x : Int32) (f : AH → Option RV) : stI (mkR h a I A) (a + 18) (nI j) x f = f (mkR h a I (updA A 21 (upd (A 21) j x))) := (stI_of (mkR_is h a I A).a21 rfl hj (by decide) f).trans (congrArg f (mkR_w h a I A 21 rfl _))
theorem mkR_g22 (h : AH) (a : Nat) (I : Nat → Int32) (A : Nat → Nat → Int32) (f : Int32 → Option RV) : gfI (mkR h a I A) a 8 22 f = f (I 22) := (mkR_is h a I A).g22 f
theorem mkR_p22 (h : AH) (a : Nat) (I : Nat → Int32) (A : Nat → Nat → Int32) (x : Int32) (f : AH → Option RV) : pfV (mkR h a I A) a 8 22 (.int x) f = f (mkR h a (upd I 22 x) A) := ((mkR_is h a I A).p22 x f).trans (congrArg f (mkR_u h a I _ A))
theorem mkR_g23 (h : AH) (a : Nat) (I : Nat → Int32) (A : Nat → Nat → Int32) (f : Int32 → Option RV) : gfI (mkR h a I A) a 8 23 f = f (I 23) := (mkR_is h a I A).g23 f
theorem mkR_p23 (h : AH) (a : Nat) (I : Nat → Int32) (A : Nat → Nat → Int32) (x : Int32) (f : AH → Option RV) : pfV (mkR h a I A) a 8 23 (.int x) f = f (mkR h a (upd I 23 x) A) := ((mkR_is h a I A).p23 x f).trans (congrArg f (mkR_u h a I _ A))
theorem mkR_g24 (h : AH) (a : Nat) (I : Nat → Int32) (A : Nat → Nat → Int32) (f : Int32 → Option RV) : gfI (mkR h a I A) a 8 24 f = f (I 24) := (mkR_is h a I A).g24 f
theorem mkR_p24 (h : AH) (a : Nat) (I : Nat → Int32) (A : Nat → Nat → Int32) (x : Int32) (f : AH → Option RV) : pfV (mkR h a I A) a 8 24 (.int x) f = f (mkR h a (upd I 24 x) A) := ((mkR_is h a I A).p24 x f).trans (congrArg f (mkR_u h a I _ A))
theorem mkR_g25 (h : AH) (a : Nat) (I : Nat → Int32) (A : Nat → Nat → Int32) (n0 : Option RV) (f : Nat → Option RV) : gfQ (mkR h a I A) a 8 25 n0 f = f (a + 19) := (mkR_is h a I A).g25 n0 f
theorem mkR_l25 (h : AH) (a : Nat) (I : Nat → Int32) (A : Nat → Nat → Int32) {j : Nat} (hj : j < 4) (f : Int32 → Option RV) : ldI (mkR h a I A) (a + 19) (nI j) f = f (A 25 j) := ldI_of (mkR_is h a I A).a25 rfl hj (by decide) f
theorem mkR_n25 (h : AH) (a : Nat) (I : Nat → Int32) (A : Nat → Nat → Int32) (f : Int32 → Option RV) : lnA (mkR h a I A) (a + 19) f = f (nI 4) := lnI_of (mkR_is h a I A).a25 f
theorem mkR_s25 (h : AH) (a : Nat) (I : Nat → Int32) (A : Nat → Nat → Int32) {j : Nat} (hj : j < 4) (x : Int32) (f : AH → Option RV) : stI (mkR h a I A) (a + 19) (nI j) x f = f (mkR h a I (updA A 25 (upd (A 25) j x))) := (stI_of (mkR_is h a I A).a25 rfl hj (by decide) f).trans (congrArg f (mkR_w h a I A 25 rfl _))
theorem mkR_g26 (h : AH) (a : Nat) (I : Nat → Int32) (A : Nat → Nat → Int32) (n0 : Option RV) (f : Nat → Option RV) : gfQ (mkR h a I A) a 8 26 n0 f = f (a + 20) := (mkR_is h a I A).g26 n0 f
theorem mkR_l26 (h : AH) (a : Nat) (I : Nat → Int32) (A : Nat → Nat → Int32) {j : Nat} (hj : j < 4) (f : Int32 → Option RV) : ldI (mkR h a I A) (a + 20) (nI j) f = f (A 26 j) := ldI_of (mkR_is h a I A).a26 rfl hj (by decide) f
theorem mkR_n26 (h : AH) (a : Nat) (I : Nat → Int32) (A : Nat → Nat → Int32) (f : Int32 → Option RV) : lnA (mkR h a I A) (a + 20) f = f (nI 4) := lnI_of (mkR_is h a I A).a26 f
theorem mkR_s26 (h : AH) (a : Nat) (I : Nat → Int32) (A : Nat → Nat → Int32) {j : Nat} (hj : j < 4) (x : Int32) (f : AH → Option RV) : stI (mkR h a I A) (a + 20) (nI j) x f = f (mkR h a I (updA A 26 (upd (A 26) j x))) := (stI_of (mkR_is h a I A).a26 rfl hj (by decide) f).trans (congrArg f (mkR_w h a I A 26 rfl _))
theorem mkR_g27 (h : AH) (a : Nat) (I : Nat → Int32) (A : Nat → Nat → Int32) (n0 : Option RV) (f : Nat → Option RV) : gfQ (mkR h a I A) a 8 27 n0 f = f (a + 21) := (mkR_is h a I A).g27 n0 f
theorem mkR_l27 (h : AH) (a : Nat) (I : Nat → Int32) (A : Nat → Nat → Int32) {j : Nat} (hj : j < 22500) (f : Int32 → Option RV) : ldI (mkR h a I A) (a + 21) (nI j) f = f (A 27 j) := ldI_of (mkR_is h a I A).a27 rfl hj (by decide) f
theorem mkR_n27 (h : AH) (a : Nat) (I : Nat → Int32) (A : Nat → Nat → Int32) (f : Int32 → Option RV) : lnA (mkR h a I A) (a + 21) f = f (nI 22500) := lnI_of (mkR_is h a I A).a27 f
theorem mkR_s27 (h : AH) (a : Nat) (I : Nat → Int32) (A : Nat → Nat → Int32) {j : Nat} (hj : j < 22500) (x : Int32) (f : AH → Option RV) : stI (mkR h a I A) (a + 21) (nI j) x f = f (mkR h a I (updA A 27 (upd (A 27) j x))) := (stI_of (mkR_is h a I A).a27 rfl hj (by decide) f).trans (congrArg f (mkR_w h a I A 27 rfl _))
theorem mkR_g28 (h : AH) (a : Nat) (I : Nat → Int32) (A : Nat → Nat → Int32) (f : Int32 → Option RV) : gfI (mkR h a I A) a 8 28 f = f (I 28) := (mkR_is h a I A).g28 f
theorem mkR_p28 (h : AH) (a : Nat) (I : Nat → Int32) (A : Nat → Nat → Int32) (x : Int32) (f : AH → Option RV) : pfV (mkR h a I A) a 8 28 (.int x) f = f (mkR h a (upd I 28 x) A) := ((mkR_is h a I A).p28 x f).trans (congrArg f (mkR_u h a I _ A))
theorem mkR_g29 (h : AH) (a : Nat) (I : Nat → Int32) (A : Nat → Nat → Int32) (f : Int32 → Option RV) : gfI (mkR h a I A) a 8 29 f = f (I 29) := (mkR_is h a I A).g29 f
theorem mkR_p29 (h : AH) (a : Nat) (I : Nat → Int32) (A : Nat → Nat → Int32) (x : Int32) (f : AH → Option RV) : pfV (mkR h a I A) a 8 29 (.int x) f = f (mkR h a (upd I 29 x) A) := ((mkR_is h a I A).p29 x f).trans (congrArg f (mkR_u h a I _ A))
theorem mkR_g30 (h : AH) (a : Nat) (I : Nat → Int32) (A : Nat → Nat → Int32) (n0 : Option RV) (f : Nat → Option RV) : gfQ (mkR h a I A) a 8 30 n0 f = f (a + 22) := (mkR_is h a I A).g30 n0 f
theorem mkR_l30 (h : AH) (a : Nat) (I : Nat → Int32) (A : Nat → Nat → Int32) {j : Nat} (hj : j < 4) (f : Int32 → Option RV) : ldI (mkR h a I A) (a + 22) (nI j) f = f (A 30 j) := ldI_of (mkR_is h a I A).a30 rfl hj (by decide) f
theorem mkR_n30 (h : AH) (a : Nat) (I : Nat → Int32) (A : Nat → Nat → Int32) (f : Int32 → Option RV) : lnA (mkR h a I A) (a + 22) f = f (nI 4) := lnI_of (mkR_is h a I A).a30 f
theorem mkR_s30 (h : AH) (a : Nat) (I : Nat → Int32) (A : Nat → Nat → Int32) {j : Nat} (hj : j < 4) (x : Int32) (f : AH → Option RV) : stI (mkR h a I A) (a + 22) (nI j) x f = f (mkR h a I (updA A 30 (upd (A 30) j x))) := (stI_of (mkR_is h a I A).a30 rfl hj (by decide) f).trans (congrArg f (mkR_w h a I A 30 rfl _))
theorem mkR_g31 (h : AH) (a : Nat) (I : Nat → Int32) (A : Nat → Nat → Int32) (f : Int32 → Option RV) : gfI (mkR h a I A) a 8 31 f = f (I 31) := (mkR_is h a I A).g31 f
theorem mkR_p31 (h : AH) (a : Nat) (I : Nat → Int32) (A : Nat → Nat → Int32) (x : Int32) (f : AH → Option RV) : pfV (mkR h a I A) a 8 31 (.int x) f = f (mkR h a (upd I 31 x) A) := ((mkR_is h a I A).p31 x f).trans (congrArg f (mkR_u h a I _ A))
theorem mkR_g32 (h : AH) (a : Nat) (I : Nat → Int32) (A : Nat → Nat → Int32) (n0 : Option RV) (f : Nat → Option RV) : gfQ (mkR h a I A) a 8 32 n0 f = f (a + 23) := (mkR_is h a I A).g32 n0 f
theorem mkR_l32 (h : AH) (a : Nat) (I : Nat → Int32) (A : Nat → Nat → Int32) {j : Nat} (hj : j < 4) (f : Int32 → Option RV) : ldI (mkR h a I A) (a + 23) (nI j) f = f (A 32 j) := ldI_of (mkR_is h a I A).a32 rfl hj (by decide) f
theorem mkR_n32 (h : AH) (a : Nat) (I : Nat → Int32) (A : Nat → Nat → Int32) (f : Int32 → Option RV) : lnA (mkR h a I A) (a + 23) f = f (nI 4) := lnI_of (mkR_is h a I A).a32 f
theorem mkR_s32 (h : AH) (a : Nat) (I : Nat → Int32) (A : Nat → Nat → Int32) {j : Nat} (hj : j < 4) (x : Int32) (f : AH → Option RV) : stI (mkR h a I A) (a + 23) (nI j) x f = f (mkR h a I (updA A 32 (upd (A 32) j x))) := (stI_of (mkR_is h a I A).a32 rfl hj (by decide) f).trans (congrArg f (mkR_w h a I A 32 rfl _))
theorem mkR_g33 (h : AH) (a : Nat) (I : Nat → Int32) (A : Nat → Nat → Int32) (n0 : Option RV) (f : Nat → Option RV) : gfQ (mkR h a I A) a 8 33 n0 f = f (a + 24) := (mkR_is h a I A).g33 n0 f
theorem mkR_l33 (h : AH) (a : Nat) (I : Nat → Int32) (A : Nat → Nat → Int32) {j : Nat} (hj : j < 4) (f : Int32 → Option RV) : ldI (mkR h a I A) (a + 24) (nI j) f = f (A 33 j) := ldI_of (mkR_is h a I A).a33 rfl hj (by decide) f
theorem mkR_n33 (h : AH) (a : Nat) (I : Nat → Int32) (A : Nat → Nat → Int32) (f : Int32 → Option RV) : lnA (mkR h a I A) (a + 24) f = f (nI 4) := lnI_of (mkR_is h a I A).a33 f
theorem mkR_s33 (h : AH) (a : Nat) (I : Nat → Int32) (A : Nat → Nat → Int32) {j : Nat} (hj : j < 4) (x : Int32) (f : AH → Option RV) : stI (mkR h a I A) (a + 24) (nI j) x f = f (mkR h a I (updA A 33 (upd (A 33) j x))) := (stI_of (mkR_is h a I A).a33 rfl hj (by decide) f).trans (congrArg f (mkR_w h a I A 33 rfl _))
theorem mkR_g34 (h : AH) (a : Nat) (I : Nat → Int32) (A : Nat → Nat → Int32) (n0 : Option RV) (f : Nat → Option RV) : gfQ (mkR h a I A) a 8 34 n0 f = f (a + 25) := (mkR_is h a I A).g34 n0 f
theorem mkR_l34 (h : AH) (a : Nat) (I : Nat → Int32) (A : Nat → Nat → Int32) {j : Nat} (hj : j < 8) (f : Int32 → Option RV) : ldZ (mkR h a I A) (a + 25) (nI j) f = f (A 34 j) := ldZ_of (mkR_is h a I A).a34 rfl hj (by decide) f
theorem mkR_n34 (h : AH) (a : Nat) (I : Nat → Int32) (A : Nat → Nat → Int32) (f : Int32 → Option RV) : lnA (mkR h a I A) (a + 25) f = f (nI 8) := lnI_of (mkR_is h a I A).a34 f
theorem mkR_s34 (h : AH) (a : Nat) (I : Nat → Int32) (A : Nat → Nat → Int32) {j : Nat} (hj : j < 8) (b : Bool) (f : AH → Option RV) : stZ (mkR h a I A) (a + 25) (nI j) (bI b) f = f (mkR h a I (updA A 34 (upd (A 34) j (bI b)))) := by
  rw [stZ_of (mkR_is h a I A).a34 rfl hj (by decide), bI_and]
  exact congrArg f (mkR_w h a I A 34 rfl _)
theorem mkR_t34 (h : AH) (a : Nat) (I : Nat → Int32) (A : Nat → Nat → Int32) {j : Nat} (hj : j < 8) (f : AH → Option RV) : stZ (mkR h a I A) (a + 25) (nI j) (nI 1) f = f (mkR h a I (updA A 34 (upd (A 34) j (bI true)))) := mkR_s34 h a I A hj true f
theorem mkR_f34 (h : AH) (a : Nat) (I : Nat → Int32) (A : Nat → Nat → Int32) {j : Nat} (hj : j < 8) (f : AH → Option RV) : stZ (mkR h a I A) (a + 25) (nI j) (nI 0) f = f (mkR h a I (updA A 34 (upd (A 34) j (bI false)))) := mkR_s34 h a I A hj false f
theorem mkR_g35 (h : AH) (a : Nat) (I : Nat → Int32) (A : Nat → Nat → Int32) (n0 : Option RV) (f : Nat → Option RV) : gfQ (mkR h a I A) a 8 35 n0 f = f (a + 26) := (mkR_is h a I A).g35 n0 f
theorem mkR_l35 (h : AH) (a : Nat) (I : Nat → Int32) (A : Nat → Nat → Int32) {j : Nat} (hj : j < 8) (f : Int32 → Option RV) : ldI (mkR h a I A) (a + 26) (nI j) f = f (A 35 j) := ldI_of (mkR_is h a I A).a35 rfl hj (by decide) f
theorem mkR_n35 (h : AH) (a : Nat) (I : Nat → Int32) (A : Nat → Nat → Int32) (f : Int32 → Option RV) : lnA (mkR h a I A) (a + 26) f = f (nI 8) := lnI_of (mkR_is h a I A).a35 f
theorem mkR_s35 (h : AH) (a : Nat) (I : Nat → Int32) (A : Nat → Nat → Int32) {j : Nat} (hj : j < 8) (x : Int32) (f : AH → Option RV) : stI (mkR h a I A) (a + 26) (nI j) x f = f (mkR h a I (updA A 35 (upd (A 35) j x))) := (stI_of (mkR_is h a I A).a35 rfl hj (by decide) f).trans (congrArg f (mkR_w h a I A 35 rfl _))
theorem mkR_g36 (h : AH) (a : Nat) (I : Nat → Int32) (A : Nat → Nat → Int32) (n0 : Option RV) (f : Nat → Option RV) : gfQ (mkR h a I A) a 8 36 n0 f = f (a + 27) := (mkR_is h a I A).g36 n0 f
theorem mkR_l36 (h : AH) (a : Nat) (I : Nat → Int32) (A : Nat → Nat → Int32) {j : Nat} (hj : j < 4) (f : Int32 → Option RV) : ldI (mkR h a I A) (a + 27) (nI j) f = f (A 36 j) := ldI_of (mkR_is h a I A).a36 rfl hj (by decide) f
theorem mkR_n36 (h : AH) (a : Nat) (I : Nat → Int32) (A : Nat → Nat → Int32) (f : Int32 → Option RV) : lnA (mkR h a I A) (a + 27) f = f (nI 4) := lnI_of (mkR_is h a I A).a36 f
theorem mkR_s36 (h : AH) (a : Nat) (I : Nat → Int32) (A : Nat → Nat → Int32) {j : Nat} (hj : j < 4) (x : Int32) (f : AH → Option RV) : stI (mkR h a I A) (a + 27) (nI j) x f = f (mkR h a I (updA A 36 (upd (A 36) j x))) := (stI_of (mkR_is h a I A).a36 rfl hj (by decide) f).trans (congrArg f (mkR_w h a I A 36 rfl _))
theorem mkR_g37 (h : AH) (a : Nat) (I : Nat → Int32) (A : Nat → Nat → Int32) (n0 : Option RV) (f : Nat → Option RV) : gfQ (mkR h a I A) a 8 37 n0 f = f (a + 28) := (mkR_is h a I A).g37 n0 f
theorem mkR_l37 (h : AH) (a : Nat) (I : Nat → Int32) (A : Nat → Nat → Int32) {j : Nat} (hj : j < 4) (f : Int32 → Option RV) : ldI (mkR h a I A) (a + 28) (nI j) f = f (A 37 j) := ldI_of (mkR_is h a I A).a37 rfl hj (by decide) f
theorem mkR_n37 (h : AH) (a : Nat) (I : Nat → Int32) (A : Nat → Nat → Int32) (f : Int32 → Option RV) : lnA (mkR h a I A) (a + 28) f = f (nI 4) := lnI_of (mkR_is h a I A).a37 f
theorem mkR_s37 (h : AH) (a : Nat) (I : Nat → Int32) (A : Nat → Nat → Int32) {j : Nat} (hj : j < 4) (x : Int32) (f : AH → Option RV) : stI (mkR h a I A) (a + 28) (nI j) x f = f (mkR h a I (updA A 37 (upd (A 37) j x))) := (stI_of (mkR_is h a I A).a37 rfl hj (by decide) f).trans (congrArg f (mkR_w h a I A 37 rfl _))
theorem mkR_g38 (h : AH) (a : Nat) (I : Nat → Int32) (A : Nat → Nat → Int32) (n0 : Option RV) (f : Nat → Option RV) : gfQ (mkR h a I A) a 8 38 n0 f = f (a + 29) := (mkR_is h a I A).g38 n0 f
theorem mkR_l38 (h : AH) (a : Nat) (I : Nat → Int32) (A : Nat → Nat → Int32) {j : Nat} (hj : j < 4) (f : Int32 → Option RV) : ldI (mkR h a I A) (a + 29) (nI j) f = f (A 38 j) := ldI_of (mkR_is h a I A).a38 rfl hj (by decide) f
theorem mkR_n38 (h : AH) (a : Nat) (I : Nat → Int32) (A : Nat → Nat → Int32) (f : Int32 → Option RV) : lnA (mkR h a I A) (a + 29) f = f (nI 4) := lnI_of (mkR_is h a I A).a38 f
theorem mkR_s38 (h : AH) (a : Nat) (I : Nat → Int32) (A : Nat → Nat → Int32) {j : Nat} (hj : j < 4) (x : Int32) (f : AH → Option RV) : stI (mkR h a I A) (a + 29) (nI j) x f = f (mkR h a I (updA A 38 (upd (A 38) j x))) := (stI_of (mkR_is h a I A).a38 rfl hj (by decide) f).trans (congrArg f (mkR_w h a I A 38 rfl _))
theorem mkR_g39 (h : AH) (a : Nat) (I : Nat → Int32) (A : Nat → Nat → Int32) (n0 : Option RV) (f : Nat → Option RV) : gfQ (mkR h a I A) a 8 39 n0 f = f (a + 30) := (mkR_is h a I A).g39 n0 f
theorem mkR_l39 (h : AH) (a : Nat) (I : Nat → Int32) (A : Nat → Nat → Int32) {j : Nat} (hj : j < 4) (f : Int32 → Option RV) : ldI (mkR h a I A) (a + 30) (nI j) f = f (A 39 j) := ldI_of (mkR_is h a I A).a39 rfl hj (by decide) f
theorem mkR_n39 (h : AH) (a : Nat) (I : Nat → Int32) (A : Nat → Nat → Int32) (f : Int32 → Option RV) : lnA (mkR h a I A) (a + 30) f = f (nI 4) := lnI_of (mkR_is h a I A).a39 f
theorem mkR_s39 (h : AH) (a : Nat) (I : Nat → Int32) (A : Nat → Nat → Int32) {j : Nat} (hj : j < 4) (x : Int32) (f : AH → Option RV) : stI (mkR h a I A) (a + 30) (nI j) x f = f (mkR h a I (updA A 39 (upd (A 39) j x))) := (stI_of (mkR_is h a I A).a39 rfl hj (by decide) f).trans (congrArg f (mkR_w h a I A 39 rfl _))
theorem mkR_g40 (h : AH) (a : Nat) (I : Nat → Int32) (A : Nat → Nat → Int32) (n0 : Option RV) (f : Nat → Option RV) : gfQ (mkR h a I A) a 8 40 n0 f = f (a + 31) := (mkR_is h a I A).g40 n0 f
theorem mkR_l40 (h : AH) (a : Nat) (I : Nat → Int32) (A : Nat → Nat → Int32) {j : Nat} (hj : j < 4) (f : Int32 → Option RV) : ldI (mkR h a I A) (a + 31) (nI j) f = f (A 40 j) := ldI_of (mkR_is h a I A).a40 rfl hj (by decide) f
theorem mkR_n40 (h : AH) (a : Nat) (I : Nat → Int32) (A : Nat → Nat → Int32) (f : Int32 → Option RV) : lnA (mkR h a I A) (a + 31) f = f (nI 4) := lnI_of (mkR_is h a I A).a40 f
theorem mkR_s40 (h : AH) (a : Nat) (I : Nat → Int32) (A : Nat → Nat → Int32) {j : Nat} (hj : j < 4) (x : Int32) (f : AH → Option RV) : stI (mkR h a I A) (a + 31) (nI j) x f = f (mkR h a I (updA A 40 (upd (A 40) j x))) := (stI_of (mkR_is h a I A).a40 rfl hj (by decide) f).trans (congrArg f (mkR_w h a I A 40 rfl _))
theorem mkR_g41 (h : AH) (a : Nat) (I : Nat → Int32) (A : Nat → Nat → Int32) (n0 : Option RV) (f : Nat → Option RV) : gfQ (mkR h a I A) a 8 41 n0 f = f (a + 32) := (mkR_is h a I A).g41 n0 f
theorem mkR_l41 (h : AH) (a : Nat) (I : Nat → Int32) (A : Nat → Nat → Int32) {j : Nat} (hj : j < 240) (f : Int32 → Option RV) : ldI (mkR h a I A) (a + 32) (nI j) f = f (A 41 j) := ldI_of (mkR_is h a I A).a41 rfl hj (by decide) f
theorem mkR_n41 (h : AH) (a : Nat) (I : Nat → Int32) (A : Nat → Nat → Int32) (f : Int32 → Option RV) : lnA (mkR h a I A) (a + 32) f = f (nI 240) := lnI_of (mkR_is h a I A).a41 f
theorem mkR_s41 (h : AH) (a : Nat) (I : Nat → Int32) (A : Nat → Nat → Int32) {j : Nat} (hj : j < 240) (x : Int32) (f : AH → Option RV) : stI (mkR h a I A) (a + 32) (nI j) x f = f (mkR h a I (updA A 41 (upd (A 41) j x))) := (stI_of (mkR_is h a I A).a41 rfl hj (by decide) f).trans (congrArg f (mkR_w h a I A 41 rfl _))
