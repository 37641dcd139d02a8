/-! ===== the picture of Walk (class 5): run1 at 13, run2 at 16 ===== -/
/-- slots of Wlk: 0 numberOf, 1 codes, 2 cameFrom, 3 cameBy, 4 met, 5 state1, 6 state2, 7 heldCode, 8 labels, 9 wayLabels, 10 cases1, 11 cases2, 12 newLabels, 13 digits, 14 lives, 15 next, 16 run1, 17 run2 -/
def tbWlk : List (Option (Nat × (Nat × Nat))) := [some (1, (0, 4320)), some (2, (0, 1872)), some (3, (0, 1872)), some (4, (0, 1872)), none, none, none, none, some (5, (0, 4)), some (6, (0, 5)), some (7, (0, 5)), some (8, (0, 5)), some (9, (0, 4)), some (10, (0, 4)), some (11, (1, 30)), some (12, (0, 450)), none, none]
def flWlk (a : Nat) (I : Nat → Int32) : List Value := [.ref (a + 1), .ref (a + 2), .ref (a + 3), .ref (a + 4), .int (I 4), .int (I 5), .int (I 6), .int (I 7), .ref (a + 5), .ref (a + 6), .ref (a + 7), .ref (a + 8), .ref (a + 9), .ref (a + 10), .ref (a + 11), .ref (a + 12), .ref (a + 13), .ref (a + 16)]
def isWlk (h : AH) (a : Nat) (I : Nat → Int32) (A : Nat → Nat → Int32) : Prop := h.1 a = some (oB 5 (flWlk a I)) ∧ ∀ k o t n, tbWlk[k]? = some (some (o, (t, n))) → h.1 (a + o) = some (aI t n (A k))
set_option maxRecDepth 20000 in
theorem tbWlk_in : ∀ x ∈ tbWlk.zipIdx, ∀ y ∈ tbWlk.zipIdx, (match x.1, y.1 with | some e, some e2 => decide (1 ≤ e.1) && (decide (e.1 < 13) && (decide (e.1 = e2.1 → x.2 = y.2))) | _, _ => true) = true := by decide +kernel
theorem tbWlk_off {k o t n k2 o2 t2 n2 : Nat} (h1 : tbWlk[k]? = some (some (o, (t, n)))) (h2 : tbWlk[k2]? = some (some (o2, (t2, n2)))) : 1 ≤ o ∧ o < 13 ∧ (o = o2 → k = k2) := by
  have e := tbWlk_in (some (o, (t, n)), k) (List.mem_zipIdx_iff_getElem?.mpr h1) (some (o2, (t2, n2)), k2) (List.mem_zipIdx_iff_getElem?.mpr h2)
  have e2 : 1 ≤ o ∧ o < 13 ∧ (¬ o = o2 ∨ k = k2) := by simpa [Bool.and_eq_true] using e
  exact ⟨e2.1, e2.2.1, fun h => e2.2.2.resolve_left (fun n => n h)⟩
theorem isWlk.fr {h : AH} {a : Nat} {I : Nat → Int32} {A : Nat → Nat → Int32} (q : isWlk h a I A) {h1 : AH} {b n : Nat} (p : Fr h h1 b n) (hd : a + 13 ≤ b ∨ b + n ≤ a) : isWlk h1 a I A := ⟨p.at (by omega) q.1, fun k o t n hk => p.at (by have := tbWlk_off hk hk; omega) (q.2 k o t n hk)⟩
theorem isWlk.o {h : AH} {a : Nat} {I : Nat → Int32} {A : Nat → Nat → Int32} (q : isWlk h a I A) (f : Option RV) : isO h a 5 f = f := isO_of q.1 f

theorem isWlk.w {h : AH} {a : Nat} {I : Nat → Int32} {A : Nat → Nat → Int32} (q : isWlk h a I A) (k : Nat) {o t n : Nat} (hk : tbWlk[k]? = some (some (o, (t, n)))) (f : Nat → Int32) : isWlk (hS h (a + o) (aI t n f)) a I (updA A k f) := by
  have hb := tbWlk_off hk hk
  refine ⟨(hS_ne (by omega)).trans q.1, fun k2 o2 t2 n2 hk2 => ?_⟩
  have hb2 := tbWlk_off hk hk2
  unfold updA
  by_cases hkk : k2 = k
  · subst hkk
    cases hk.symm.trans hk2
    rw [if_pos rfl]
    exact hS_at _ _ _
  · rw [if_neg hkk, hS_ne (fun e => hkk (hb2.2.2 (by omega)).symm)]
    exact q.2 k2 o2 t2 n2 hk2
theorem isWlk.g0 {h : AH} {a : Nat} {I : Nat → Int32} {A : Nat → Nat → Int32} (q : isWlk h a I A) (n0 : Option RV) (f : Nat → Option RV) : gfQ h a 5 0 n0 f = f (a + 1) := gfQ_of q.1 rfl n0 f
theorem isWlk.a0 {h : AH} {a : Nat} {I : Nat → Int32} {A : Nat → Nat → Int32} (q : isWlk h a I A) : h.1 (a + 1) = some (aI 0 4320 (A 0)) := q.2 0 _ _ _ rfl
theorem isWlk.g1 {h : AH} {a : Nat} {I : Nat → Int32} {A : Nat → Nat → Int32} (q : isWlk h a I A) (n0 : Option RV) (f : Nat → Option RV) : gfQ h a 5 1 n0 f = f (a + 2) := gfQ_of q.1 rfl n0 f
theorem isWlk.a1 {h : AH} {a : Nat} {I : Nat → Int32} {A : Nat → Nat → Int32} (q : isWlk h a I A) : h.1 (a + 2) = some (aI 0 1872 (A 1)) := q.2 1 _ _ _ rfl
theorem isWlk.g2 {h : AH} {a : Nat} {I : Nat → Int32} {A : Nat → Nat → Int32} (q : isWlk h a I A) (n0 : Option RV) (f : Nat → Option RV) : gfQ h a 5 2 n0 f = f (a + 3) := gfQ_of q.1 rfl n0 f
theorem isWlk.a2 {h : AH} {a : Nat} {I : Nat → Int32} {A : Nat → Nat → Int32} (q : isWlk h a I A) : h.1 (a + 3) = some (aI 0 1872 (A 2)) := q.2 2 _ _ _ rfl
theorem isWlk.g3 {h : AH} {a : Nat} {I : Nat → Int32} {A : Nat → Nat → Int32} (q : isWlk h a I A) (n0 : Option RV) (f : Nat → Option RV) : gfQ h a 5 3 n0 f = f (a + 4) := gfQ_of q.1 rfl n0 f
theorem isWlk.a3 {h : AH} {a : Nat} {I : Nat → Int32} {A : Nat → Nat → Int32} (q : isWlk h a I A) : h.1 (a + 4) = some (aI 0 1872 (A 3)) := q.2 3 _ _ _ rfl
theorem isWlk.g4 {h : AH} {a : Nat} {I : Nat → Int32} {A : Nat → Nat → Int32} (q : isWlk h a I A) (f : Int32 → Option RV) : gfI h a 5 4 f = f (I 4) := gfI_of q.1 rfl f
theorem isWlk.p4 {h : AH} {a : Nat} {I : Nat → Int32} {A : Nat → Nat → Int32} (q : isWlk h a I A) (x : Int32) (f : AH → Option RV) : pfV h a 5 4 (.int x) f = f (hS h a (oB 5 (flWlk a (upd I 4 x)))) := pfV_of q.1 (Nat.le_of_ble_eq_true rfl) _ f
theorem isWlk.g5 {h : AH} {a : Nat} {I : Nat → Int32} {A : Nat → Nat → Int32} (q : isWlk h a I A) (f : Int32 → Option RV) : gfI h a 5 5 f = f (I 5) := gfI_of q.1 rfl f
theorem isWlk.p5 {h : AH} {a : Nat} {I : Nat → Int32} {A : Nat → Nat → Int32} (q : isWlk h a I A) (x : Int32) (f : AH → Option RV) : pfV h a 5 5 (.int x) f = f (hS h a (oB 5 (flWlk a (upd I 5 x)))) := pfV_of q.1 (Nat.le_of_ble_eq_true rfl) _ f
theorem isWlk.g6 {h : AH} {a : Nat} {I : Nat → Int32} {A : Nat → Nat → Int32} (q : isWlk h a I A) (f : Int32 → Option RV) : gfI h a 5 6 f = f (I 6) := gfI_of q.1 rfl f
theorem isWlk.p6 {h : AH} {a : Nat} {I : Nat → Int32} {A : Nat → Nat → Int32} (q : isWlk h a I A) (x : Int32) (f : AH → Option RV) : pfV h a 5 6 (.int x) f = f (hS h a (oB 5 (flWlk a (upd I 6 x)))) := pfV_of q.1 (Nat.le_of_ble_eq_true rfl) _ f
theorem isWlk.g7 {h : AH} {a : Nat} {I : Nat → Int32} {A : Nat → Nat → Int32} (q : isWlk h a I A) (f : Int32 → Option RV) : gfI h a 5 7 f = f (I 7) := gfI_of q.1 rfl f
theorem isWlk.p7 {h : AH} {a : Nat} {I : Nat → Int32} {A : Nat → Nat → Int32} (q : isWlk h a I A) (x : Int32) (f : AH → Option RV) : pfV h a 5 7 (.int x) f = f (hS h a (oB 5 (flWlk a (upd I 7 x)))) := pfV_of q.1 (Nat.le_of_ble_eq_true rfl) _ f
theorem isWlk.g8 {h : AH} {a : Nat} {I : Nat → Int32} {A : Nat → Nat → Int32} (q : isWlk h a I A) (n0 : Option RV) (f : Nat → Option RV) : gfQ h a 5 8 n0 f = f (a + 5) := gfQ_of q.1 rfl n0 f
theorem isWlk.a8 {h : AH} {a : Nat} {I : Nat → Int32} {A : Nat → Nat → Int32} (q : isWlk h a I A) : h.1 (a + 5) = some (aI 0 4 (A 8)) := q.2 8 _ _ _ rfl
theorem isWlk.g9 {h : AH} {a : Nat} {I : Nat → Int32} {A : Nat → Nat → Int32} (q : isWlk h a I A) (n0 : Option RV) (f : Nat → Option RV) : gfQ h a 5 9 n0 f = f (a + 6) := gfQ_of q.1 rfl n0 f
theorem isWlk.a9 {h : AH} {a : Nat} {I : Nat → Int32} {A : Nat → Nat → Int32} (q : isWlk h a I A) : h.1 (a + 6) = some (aI 0 5 (A 9)) := q.2 9 _ _ _ rfl
theorem isWlk.g10 {h : AH} {a : Nat} {I : Nat → Int32} {A : Nat → Nat → Int32} (q : isWlk h a I A) (n0 : Option RV) (f : Nat → Option RV) : gfQ h a 5 10 n0 f = f (a + 7) := gfQ_of q.1 rfl n0 f
theorem isWlk.a10 {h : AH} {a : Nat} {I : Nat → Int32} {A : Nat → Nat → Int32} (q : isWlk h a I A) : h.1 (a + 7) = some (aI 0 5 (A 10)) := q.2 10 _ _ _ rfl
theorem isWlk.g11 {h : AH} {a : Nat} {I : Nat → Int32} {A : Nat → Nat → Int32} (q : isWlk h a I A) (n0 : Option RV) (f : Nat → Option RV) : gfQ h a 5 11 n0 f = f (a + 8) := gfQ_of q.1 rfl n0 f
theorem isWlk.a11 {h : AH} {a : Nat} {I : Nat → Int32} {A : Nat → Nat → Int32} (q : isWlk h a I A) : h.1 (a + 8) = some (aI 0 5 (A 11)) := q.2 11 _ _ _ rfl
theorem isWlk.g12 {h : AH} {a : Nat} {I : Nat → Int32} {A : Nat → Nat → Int32} (q : isWlk h a I A) (n0 : Option RV) (f : Nat → Option RV) : gfQ h a 5 12 n0 f = f (a + 9) := gfQ_of q.1 rfl n0 f
theorem isWlk.a12 {h : AH} {a : Nat} {I : Nat → Int32} {A : Nat → Nat → Int32} (q : isWlk h a I A) : h.1 (a + 9) = some (aI 0 4 (A 12)) := q.2 12 _ _ _ rfl
theorem isWlk.g13 {h : AH} {a : Nat} {I : Nat → Int32} {A : Nat → Nat → Int32} (q : isWlk h a I A) (n0 : Option RV) (f : Nat → Option RV) : gfQ h a 5 13 n0 f = f (a + 10) := gfQ_of q.1 rfl n0 f
theorem isWlk.a13 {h : AH} {a : Nat} {I : Nat → Int32} {A : Nat → Nat → Int32} (q : isWlk h a I A) : h.1 (a + 10) = some (aI 0 4 (A 13)) := q.2 13 _ _ _ rfl
theorem isWlk.g14 {h : AH} {a : Nat} {I : Nat → Int32} {A : Nat → Nat → Int32} (q : isWlk h a I A) (n0 : Option RV) (f : Nat → Option RV) : gfQ h a 5 14 n0 f = f (a + 11) := gfQ_of q.1 rfl n0 f
theorem isWlk.a14 {h : AH} {a : Nat} {I : Nat → Int32} {A : Nat → Nat → Int32} (q : isWlk h a I A) : h.1 (a + 11) = some (aI 1 30 (A 14)) := q.2 14 _ _ _ rfl
theorem isWlk.g15 {h : AH} {a : Nat} {I : Nat → Int32} {A : Nat → Nat → Int32} (q : isWlk h a I A) (n0 : Option RV) (f : Nat → Option RV) : gfQ h a 5 15 n0 f = f (a + 12) := gfQ_of q.1 rfl n0 f
theorem isWlk.a15 {h : AH} {a : Nat} {I : Nat → Int32} {A : Nat → Nat → Int32} (q : isWlk h a I A) : h.1 (a + 12) = some (aI 0 450 (A 15)) := q.2 15 _ _ _ rfl
theorem isWlk.g16 {h : AH} {a : Nat} {I : Nat → Int32} {A : Nat → Nat → Int32} (q : isWlk h a I A) (n0 : Option RV) (f : Nat → Option RV) : gfQ h a 5 16 n0 f = f (a + 13) := gfQ_of q.1 rfl n0 f
theorem isWlk.g17 {h : AH} {a : Nat} {I : Nat → Int32} {A : Nat → Nat → Int32} (q : isWlk h a I A) (n0 : Option RV) (f : Nat → Option RV) : gfQ h a 5 17 n0 f = f (a + 16) := gfQ_of q.1 rfl n0 f
theorem isWlk.u {h : AH} {a : Nat} {I : Nat → Int32} {A : Nat → Nat → Int32} (q : isWlk h a I A) (J : Nat → Int32) : isWlk (hS h a (oB 5 (flWlk a J))) a J A := ⟨hS_at _ _ _, fun k o t n hk => (hS_ne (by have := tbWlk_off hk hk; omega)).trans (q.2 k o t n hk)⟩
def ofWlk : List (Option (Nat × (Nat × Nat))) := [none, some (0, (0, 4320)), some (1, (0, 1872)), some (2, (0, 1872)), some (3, (0, 1872)), some (8, (0, 4)), some (9, (0, 5)), some (10, (0, 5)), some (11, (0, 5)), some (12, (0, 4)), some (13, (0, 4)), some (14, (1, 30)), some (15, (0, 450))]
def mkW (h : AH) (a : Nat) (I : Nat → Int32) (A : Nat → Nat → Int32) : AH := (fun b => if b = a then some (oB 5 (flWlk a I)) else if a < b ∧ b < a + 13 then (match ofWlk[b - a]? with
  | some (some e) => some (aI e.2.1 e.2.2 (A e.1))
  | _ => h.1 b) else h.1 b, h.2)
set_option maxRecDepth 20000 in
theorem ofWlk_in : ∀ x ∈ tbWlk.zipIdx, (match x.1 with | some e => decide (ofWlk[e.1]? = some (some (x.2, (e.2.1, e.2.2)))) | none => true) = true := by decide +kernel
set_option maxRecDepth 20000 in
theorem ofWlk_on : ∀ x ∈ ofWlk.zipIdx, (match x.1 with | some e => decide (tbWlk[e.1]? = some (some (x.2, (e.2.1, e.2.2)))) | none => true) = true := by decide +kernel
theorem ofWlk_of {k o t n : Nat} (hk : tbWlk[k]? = some (some (o, (t, n)))) : ofWlk[o]? = some (some (k, (t, n))) := by
  have e := ofWlk_in (some (o, (t, n)), k) (List.mem_zipIdx_iff_getElem?.mpr hk)
  exact of_decide_eq_true e
theorem ofWlk_to {k o t n : Nat} (hk : ofWlk[o]? = some (some (k, (t, n)))) : tbWlk[k]? = some (some (o, (t, n))) := by
  have e := ofWlk_on (some (k, (t, n)), o) (List.mem_zipIdx_iff_getElem?.mpr hk)
  exact of_decide_eq_true e
theorem mkW_is (h : AH) (a : Nat) (I : Nat → Int32) (A : Nat → Nat → Int32) : isWlk (mkW h a I A) a I A := by
  refine ⟨if_pos rfl, fun k o t n hk => ?_⟩
  have hb := tbWlk_off hk hk
  show (if a + o = a then _ else _) = _
  rw [if_neg (by omega), if_pos (by omega), Nat.add_sub_cancel_left, ofWlk_of hk]
theorem mkW_Fr (h : AH) (a : Nat) (I : Nat → Int32) (A : Nat → Nat → Int32) : Fr h (mkW h a I A) a 13 := by
  refine ⟨rfl, fun b hb => ?_⟩
  show (if b = a then _ else _) = _
  rw [if_neg (by omega), if_neg (by omega)]
theorem mkW_of {h h1 : AH} {a : Nat} {I : Nat → Int32} {A : Nat → Nat → Int32} (q : isWlk h1 a I A) (p : h1.2 = h.2 ∧ ∀ b, ¬ (b = a ∨ ∃ k o t n : Nat, tbWlk[k]? = some (some (o, (t, n))) ∧ b = a + o) → h1.1 b = h.1 b) : h1 = mkW h a I A := by
  obtain ⟨f1, f2⟩ := h1
  obtain ⟨p1, p2⟩ := p
  unfold mkW
  show (f1, f2) = (_, h.2)
  rw [← p1]
  congr 1
  funext b
  by_cases h1 : b = a
  · rw [if_pos h1, h1]
    exact q.1
  · rw [if_neg h1]
    by_cases h2 : a < b ∧ b < a + 13
    · rw [if_pos h2]
      obtain ⟨o, rfl⟩ : ∃ o, b = a + o := ⟨b - a, by omega⟩
      rw [Nat.add_sub_cancel_left]
      cases ho : ofWlk[o]? with
      | none => exact p2 _ (by rintro (e | ⟨k, o2, t, n, e, e2⟩); exact h1 e; have : o = o2 := by omega
                               subst this; rw [ofWlk_of e] at ho; cases ho)
      | some x =>
        cases x with
        | none => exact p2 _ (by rintro (e | ⟨k, o2, t, n, e, e2⟩); exact h1 e; have : o = o2 := by omega
                                 subst this; rw [ofWlk_of e] at ho; cases ho)
        | some e => exact q.2 _ _ _ _ (ofWlk_to ho)
    · rw [if_neg h2]
      exact p2 _ (by rintro (e | ⟨k, o2, t, n, e, e2⟩); exact h1 e; have := tbWlk_off e e; omega)
theorem mkW_self {h : AH} {a : Nat} {I : Nat → Int32} {A : Nat → Nat → Int32} (q : isWlk h a I A) : h = mkW h a I A := mkW_of q ⟨rfl, fun _ _ => rfl⟩
theorem mkW_out (h : AH) (a : Nat) (I : Nat → Int32) (A : Nat → Nat → Int32) (b : Nat) (hb : ¬ (b = a ∨ ∃ k o t n : Nat, tbWlk[k]? = some (some (o, (t, n))) ∧ b = a + o)) : (mkW h a I A).1 b = h.1 b := by
  show (if b = a then _ else _) = _
  rw [if_neg (fun e => hb (Or.inl e))]
  by_cases h2 : a < b ∧ b < a + 13
  · rw [if_pos h2]
    obtain ⟨o, rfl⟩ : ∃ o, b = a + o := ⟨b - a, by omega⟩
    rw [Nat.add_sub_cancel_left]
    cases ho : ofWlk[o]? with
    | none => rfl
    | some x =>
      cases x with
      | none => rfl
      | some e => exact absurd (Or.inr ⟨_, _, _, _, ofWlk_to ho, rfl⟩) hb
  · rw [if_neg h2]
theorem mkW_w (h : AH) (a : Nat) (I : Nat → Int32) (A : Nat → Nat → Int32) (k : Nat) {o t n : Nat} (hk : tbWlk[k]? = some (some (o, (t, n)))) (f : Nat → Int32) : hS (mkW h a I A) (a + o) (aI t n f) = mkW h a I (updA A k f) := by
  refine mkW_of ((mkW_is h a I A).w k hk f) ⟨rfl, fun b hb => ?_⟩
  rw [hS_ne (fun e => hb (Or.inr ⟨k, o, t, n, hk, e⟩))]
  exact mkW_out h a I A b hb
theorem mkW_u (h : AH) (a : Nat) (I J : Nat → Int32) (A : Nat → Nat → Int32) : hS (mkW h a I A) a (oB 5 (flWlk a J)) = mkW h a J A := by
  refine mkW_of ((mkW_is h a I A).u J) ⟨rfl, fun b hb => ?_⟩
  rw [hS_ne (fun e => hb (Or.inl e))]
  exact mkW_out h a I A b hb
theorem mkW_mk (h : AH) (a : Nat) (I J : Nat → Int32) (A B : Nat → Nat → Int32) : mkW (mkW h a I A) a J B = mkW h a J B := by
  refine mkW_of (mkW_is _ a J B) ⟨rfl, fun b hb => ?_⟩
  rw [mkW_out _ a J B b hb, mkW_out h a I A b hb]
theorem mkW_o (h : AH) (a : Nat) (I : Nat → Int32) (A : Nat → Nat → Int32) (f : Option RV) : isO (mkW h a I A) a 5 f = f := (mkW_is h a I A).o f
theorem mkW_g0 (h : AH) (a : Nat) (I : Nat → Int32) (A : Nat → Nat → Int32) (n0 : Option RV) (f : Nat → Option RV) : gfQ (mkW h a I A) a 5 0 n0 f = f (a + 1) := (mkW_is h a I A).g0 n0 f
theorem mkW_l0 (h : AH) (a : Nat) (I : Nat → Int32) (A : Nat → Nat → Int32) {j : Nat} (hj : j < 4320) (f : Int32 → Option RV) : ldI (mkW h a I A) (a + 1) (nI j) f = f (A 0 j) := ldI_of (mkW_is h a I A).a0 rfl hj (by decide) f
theorem mkW_n0 (h : AH) (a : Nat) (I : Nat → Int32) (A : Nat → Nat → Int32) (f : Int32 → Option RV) : lnA (mkW h a I A) (a + 1) f = f (nI 4320) := lnI_of (mkW_is h a I A).a0 f
theorem mkW_s0 (h : AH) (a : Nat) (I : Nat → Int32) (A : Nat → Nat → Int32) {j : Nat} (hj : j < 4320) (x : Int32) (f : AH → Option RV) : stI (mkW h a I A) (a + 1) (nI j) x f = f (mkW h a I (updA A 0 (upd (A 0) j x))) := (stI_of (mkW_is h a I A).a0 rfl hj (by decide) f).trans (congrArg f (mkW_w h a I A 0 rfl _))
theorem mkW_g1 (h : AH) (a : Nat) (I : Nat → Int32) (A : Nat → Nat → Int32) (n0 : Option RV) (f : Nat → Option RV) : gfQ (mkW h a I A) a 5 1 n0 f = f (a + 2) := (mkW_is h a I A).g1 n0 f
theorem mkW_l1 (h : AH) (a : Nat) (I : Nat → Int32) (A : Nat → Nat → Int32) {j : Nat} (hj : j < 1872) (f : Int32 → Option RV) : ldI (mkW h a I A) (a + 2) (nI j) f = f (A 1 j) := ldI_of (mkW_is h a I A).a1 rfl hj (by decide) f
theorem mkW_n1 (h : AH) (a : Nat) (I : Nat → Int32) (A : Nat → Nat → Int32) (f : Int32 → Option RV) : lnA (mkW h a I A) (a + 2) f = f (nI 1872) := lnI_of (mkW_is h a I A).a1 f
theorem mkW_s1 (h : AH) (a : Nat) (I : Nat → Int32) (A : Nat → Nat → Int32) {j : Nat} (hj : j < 1872) (x : Int32) (f : AH → Option RV) : stI (mkW h a I A) (a + 2) (nI j) x f = f (mkW h a I (updA A 1 (upd (A 1) j x))) := (stI_of (mkW_is h a I A).a1 rfl hj (by decide) f).trans (congrArg f (mkW_w h a I A 1 rfl _))
theorem mkW_g2 (h : AH) (a : Nat) (I : Nat → Int32) (A : Nat → Nat → Int32) (n0 : Option RV) (f : Nat → Option RV) : gfQ (mkW h a I A) a 5 2 n0 f = f (a + 3) := (mkW_is h a I A).g2 n0 f
theorem mkW_l2 (h : AH) (a : Nat) (I : Nat → Int32) (A : Nat → Nat → Int32) {j : Nat} (hj : j < 1872) (f : Int32 → Option RV) : ldI (mkW h a I A) (a + 3) (nI j) f = f (A 2 j) := ldI_of (mkW_is h a I A).a2 rfl hj (by decide) f
theorem mkW_n2 (h : AH) (a : Nat) (I : Nat → Int32) (A : Nat → Nat → Int32) (f : Int32 → Option RV) : lnA (mkW h a I A) (a + 3) f = f (nI 1872) := lnI_of (mkW_is h a I A).a2 f
theorem mkW_s2 (h : AH) (a : Nat) (I : Nat → Int32) (A : Nat → Nat → Int32) {j : Nat} (hj : j < 1872) (x : Int32) (f : AH → Option RV) : stI (mkW h a I A) (a + 3) (nI j) x f = f (mkW h a I (updA A 2 (upd (A 2) j x))) := (stI_of (mkW_is h a I A).a2 rfl hj (by decide) f).trans (congrArg f (mkW_w h a I A 2 rfl _))
theorem mkW_g3 (h : AH) (a : Nat) (I : Nat → Int32) (A : Nat → Nat → Int32) (n0 : Option RV) (f : Nat → Option RV) : gfQ (mkW h a I A) a 5 3 n0 f = f (a + 4) := (mkW_is h a I A).g3 n0 f
theorem mkW_l3 (h : AH) (a : Nat) (I : Nat → Int32) (A : Nat → Nat → Int32) {j : Nat} (hj : j < 1872) (f : Int32 → Option RV) : ldI (mkW h a I A) (a + 4) (nI j) f = f (A 3 j) := ldI_of (mkW_is h a I A).a3 rfl hj (by decide) f
theorem mkW_n3 (h : AH) (a : Nat) (I : Nat → Int32) (A : Nat → Nat → Int32) (f : Int32 → Option RV) : lnA (mkW h a I A) (a + 4) f = f (nI 1872) := lnI_of (mkW_is h a I A).a3 f
theorem mkW_s3 (h : AH) (a : Nat) (I : Nat → Int32) (A : Nat → Nat → Int32) {j : Nat} (hj : j < 1872) (x : Int32) (f : AH → Option RV) : stI (mkW h a I A) (a + 4) (nI j) x f = f (mkW h a I (updA A 3 (upd (A 3) j x))) := (stI_of (mkW_is h a I A).a3 rfl hj (by decide) f).trans (congrArg f (mkW_w h a I A 3 rfl _))
theorem mkW_g4 (h : AH) (a : Nat) (I : Nat → Int32) (A : Nat → Nat → Int32) (f : Int32 → Option RV) : gfI (mkW h a I A) a 5 4 f = f (I 4) := (mkW_is h a I A).g4 f
theorem mkW_p4 (h : AH) (a : Nat) (I : Nat → Int32) (A : Nat → Nat → Int32) (x : Int32) (f : AH → Option RV) : pfV (mkW h a I A) a 5 4 (.int x) f = f (mkW h a (upd I 4 x) A) := ((mkW_is h a I A).p4 x f).trans (congrArg f (mkW_u h a I _ A))
theorem mkW_g5 (h : AH) (a : Nat) (I : Nat → Int32) (A : Nat → Nat → Int32) (f : Int32 → Option RV) : gfI (mkW h a I A) a 5 5 f = f (I 5) := (mkW_is h a I A).g5 f
theorem mkW_p5 (h : AH) (a : Nat) (I : Nat → Int32) (A : Nat → Nat → Int32) (x : Int32) (f : AH → Option RV) : pfV (mkW h a I A) a 5 5 (.int x) f = f (mkW h a (upd I 5 x) A) := ((mkW_is h a I A).p5 x f).trans (congrArg f (mkW_u h a I _ A))
theorem mkW_g6 (h : AH) (a : Nat) (I : Nat → Int32) (A : Nat → Nat → Int32) (f : Int32 → Option RV) : gfI (mkW h a I A) a 5 6 f = f (I 6) := (mkW_is h a I A).g6 f
theorem mkW_p6 (h : AH) (a : Nat) (I : Nat → Int32) (A : Nat → Nat → Int32) (x : Int32) (f : AH → Option RV) : pfV (mkW h a I A) a 5 6 (.int x) f = f (mkW h a (upd I 6 x) A) := ((mkW_is h a I A).p6 x f).trans (congrArg f (mkW_u h a I _ A))
theorem mkW_g7 (h : AH) (a : Nat) (I : Nat → Int32) (A : Nat → Nat → Int32) (f : Int32 → Option RV) : gfI (mkW h a I A) a 5 7 f = f (I 7) := (mkW_is h a I A).g7 f
theorem mkW_p7 (h : AH) (a : Nat) (I : Nat → Int32) (A : Nat → Nat → Int32) (x : Int32) (f : AH → Option RV) : pfV (mkW h a I A) a 5 7 (.int x) f = f (mkW h a (upd I 7 x) A) := ((mkW_is h a I A).p7 x f).trans (congrArg f (mkW_u h a I _ A))
theorem mkW_g8 (h : AH) (a : Nat) (I : Nat → Int32) (A : Nat → Nat → Int32) (n0 : Option RV) (f : Nat → Option RV) : gfQ (mkW h a I A) a 5 8 n0 f = f (a + 5) := (mkW_is h a I A).g8 n0 f
theorem mkW_l8 (h : AH) (a : Nat) (I : Nat → Int32) (A : Nat → Nat → Int32) {j : Nat} (hj : j < 4) (f : Int32 → Option RV) : ldI (mkW h a I A) (a + 5) (nI j) f = f (A 8 j) := ldI_of (mkW_is h a I A).a8 rfl hj (by decide) f
theorem mkW_n8 (h : AH) (a : Nat) (I : Nat → Int32) (A : Nat → Nat → Int32) (f : Int32 → Option RV) : lnA (mkW h a I A) (a + 5) f = f (nI 4) := lnI_of (mkW_is h a I A).a8 f
theorem mkW_s8 (h : AH) (a : Nat) (I : Nat → Int32) (A : Nat → Nat → Int32) {j : Nat} (hj : j < 4) (x : Int32) (f : AH → Option RV) : stI (mkW h a I A) (a + 5) (nI j) x f = f (mkW h a I (updA A 8 (upd (A 8) j x))) := (stI_of (mkW_is h a I A).a8 rfl hj (by decide) f).trans (congrArg f (mkW_w h a I A 8 rfl _))
theorem mkW_g9 (h : AH) (a : Nat) (I : Nat → Int32) (A : Nat → Nat → Int32) (n0 : Option RV) (f : Nat → Option RV) : gfQ (mkW h a I A) a 5 9 n0 f = f (a + 6) := (mkW_is h a I A).g9 n0 f
theorem mkW_l9 (h : AH) (a : Nat) (I : Nat → Int32) (A : Nat → Nat → Int32) {j : Nat} (hj : j < 5) (f : Int32 → Option RV) : ldI (mkW h a I A) (a + 6) (nI j) f = f (A 9 j) := ldI_of (mkW_is h a I A).a9 rfl hj (by decide) f
theorem mkW_n9 (h : AH) (a : Nat) (I : Nat → Int32) (A : Nat → Nat → Int32) (f : Int32 → Option RV) : lnA (mkW h a I A) (a + 6) f = f (nI 5) := lnI_of (mkW_is h a I A).a9 f
theorem mkW_s9 (h : AH) (a : Nat) (I : Nat → Int32) (A : Nat → Nat → Int32) {j : Nat} (hj : j < 5) (x : Int32) (f : AH → Option RV) : stI (mkW h a I A) (a + 6) (nI j) x f = f (mkW h a I (updA A 9 (upd (A 9) j x))) := (stI_of (mkW_is h a I A).a9 rfl hj (by decide) f).trans (congrArg f (mkW_w h a I A 9 rfl _))
theorem mkW_g10 (h : AH) (a : Nat) (I : Nat → Int32) (A : Nat → Nat → Int32) (n0 : Option RV) (f : Nat → Option RV) : gfQ (mkW h a I A) a 5 10 n0 f = f (a + 7) := (mkW_is h a I A).g10 n0 f
theorem mkW_l10 (h : AH) (a : Nat) (I : Nat → Int32) (A : Nat → Nat → Int32) {j : Nat} (hj : j < 5) (f : Int32 → Option RV) : ldI (mkW h a I A) (a + 7) (nI j) f = f (A 10 j) := ldI_of (mkW_is h a I A).a10 rfl hj (by decide) f
theorem mkW_n10 (h : AH) (a : Nat) (I : Nat → Int32) (A : Nat → Nat → Int32) (f : Int32 → Option RV) : lnA (mkW h a I A) (a + 7) f = f (nI 5) := lnI_of (mkW_is h a I A).a10 f
theorem mkW_s10 (h : AH) (a : Nat) (I : Nat → Int32) (A : Nat → Nat → Int32) {j : Nat} (hj : j < 5) (x : Int32) (f : AH → Option RV) : stI (mkW h a I A) (a + 7) (nI j) x f = f (mkW h a I (updA A 10 (upd (A 10) j x))) := (stI_of (mkW_is h a I A).a10 rfl hj (by decide) f).trans (congrArg f (mkW_w h a I A 10 rfl _))
theorem mkW_g11 (h : AH) (a : Nat) (I : Nat → Int32) (A : Nat → Nat → Int32) (n0 : Option RV) (f : Nat → Option RV) : gfQ (mkW h a I A) a 5 11 n0 f = f (a + 8) := (mkW_is h a I A).g11 n0 f
theorem mkW_l11 (h : AH) (a : Nat) (I : Nat → Int32) (A : Nat → Nat → Int32) {j : Nat} (hj : j < 5) (f : Int32 → Option RV) : ldI (mkW h a I A) (a + 8) (nI j) f = f (A 11 j) := ldI_of (mkW_is h a I A).a11 rfl hj (by decide) f
theorem mkW_n11 (h : AH) (a : Nat) (I : Nat → Int32) (A : Nat → Nat → Int32) (f : Int32 → Option RV) : lnA (mkW h a I A) (a + 8) f = f (nI 5) := lnI_of (mkW_is h a I A).a11 f
theorem mkW_s11 (h : AH) (a : Nat) (I : Nat → Int32) (A : Nat → Nat → Int32) {j : Nat} (hj : j < 5) (x : Int32) (f : AH → Option RV) : stI (mkW h a I A) (a + 8) (nI j) x f = f (mkW h a I (updA A 11 (upd (A 11) j x))) := (stI_of (mkW_is h a I A).a11 rfl hj (by decide) f).trans (congrArg f (mkW_w h a I A 11 rfl _))
theorem mkW_g12 (h : AH) (a : Nat) (I : Nat → Int32) (A : Nat → Nat → Int32) (n0 : Option RV) (f : Nat → Option RV) : gfQ (mkW h a I A) a 5 12 n0 f = f (a + 9) := (mkW_is h a I A).g12 n0 f
theorem mkW_l12 (h : AH) (a : Nat) (I : Nat → Int32) (A : Nat → Nat → Int32) {j : Nat} (hj : j < 4) (f : Int32 → Option RV) : ldI (mkW h a I A) (a + 9) (nI j) f = f (A 12 j) := ldI_of (mkW_is h a I A).a12 rfl hj (by decide) f
theorem mkW_n12 (h : AH) (a : Nat) (I : Nat → Int32) (A : Nat → Nat → Int32) (f : Int32 → Option RV) : lnA (mkW h a I A) (a + 9) f = f (nI 4) := lnI_of (mkW_is h a I A).a12 f
theorem mkW_s12 (h : AH) (a : Nat) (I : Nat → Int32) (A : Nat → Nat → Int32) {j : Nat} (hj : j < 4) (x : Int32) (f : AH → Option RV) : stI (mkW h a I A) (a + 9) (nI j) x f = f (mkW h a I (updA A 12 (upd (A 12) j x))) := (stI_of (mkW_is h a I A).a12 rfl hj (by decide) f).trans (congrArg f (mkW_w h a I A 12 rfl _))
theorem mkW_g13 (h : AH) (a : Nat) (I : Nat → Int32) (A : Nat → Nat → Int32) (n0 : Option RV) (f : Nat → Option RV) : gfQ (mkW h a I A) a 5 13 n0 f = f (a + 10) := (mkW_is h a I A).g13 n0 f
theorem mkW_l13 (h : AH) (a : Nat) (I : Nat → Int32) (A : Nat → Nat → Int32) {j : Nat} (hj : j < 4) (f : Int32 → Option RV) : ldI (mkW h a I A) (a + 10) (nI j) f = f (A 13 j) := ldI_of (mkW_is h a I A).a13 rfl hj (by decide) f
theorem mkW_n13 (h : AH) (a : Nat) (I : Nat → Int32) (A : Nat → Nat → Int32) (f : Int32 → Option RV) : lnA (mkW h a I A) (a + 10) f = f (nI 4) := lnI_of (mkW_is h a I A).a13 f
theorem mkW_s13 (h : AH) (a : Nat) (I : Nat → Int32) (A : Nat → Nat → Int32) {j : Nat} (hj : j < 4) (x : Int32) (f : AH → Option RV) : stI (mkW h a I A) (a + 10) (nI j) x f = f (mkW h a I (updA A 13 (upd (A 13) j x))) := (stI_of (mkW_is h a I A).a13 rfl hj (by decide) f).trans (congrArg f (mkW_w h a I A 13 rfl _))
theorem mkW_g14 (h : AH) (a : Nat) (I : Nat → Int32) (A : Nat → Nat → Int32) (n0 : Option RV) (f : Nat → Option RV) : gfQ (mkW h a I A) a 5 14 n0 f = f (a + 11) := (mkW_is h a I A).g14 n0 f
theorem mkW_l14 (h : AH) (a : Nat) (I : Nat → Int32) (A : Nat → Nat → Int32) {j : Nat} (hj : j < 30) (f : Int32 → Option RV) : ldZ (mkW h a I A) (a + 11) (nI j) f = f (A 14 j) := ldZ_of (mkW_is h a I A).a14 rfl hj (by decide) f
theorem mkW_n14 (h : AH) (a : Nat) (I : Nat → Int32) (A : Nat → Nat → Int32) (f : Int32 → Option RV) : lnA (mkW h a I A) (a + 11) f = f (nI 30) := lnI_of (mkW_is h a I A).a14 f
theorem mkW_s14 (h : AH) (a : Nat) (I : Nat → Int32) (A : Nat → Nat → Int32) {j : Nat} (hj : j < 30) (b : Bool) (f : AH → Option RV) : stZ (mkW h a I A) (a + 11) (nI j) (bI b) f = f (mkW h a I (updA A 14 (upd (A 14) j (bI b)))) := by
  rw [stZ_of (mkW_is h a I A).a14 rfl hj (by decide), bI_and]
  exact congrArg f (mkW_w h a I A 14 rfl _)
theorem mkW_t14 (h : AH) (a : Nat) (I : Nat → Int32) (A : Nat → Nat → Int32) {j : Nat} (hj : j < 30) (f : AH → Option RV) : stZ (mkW h a I A) (a + 11) (nI j) (nI 1) f = f (mkW h a I (updA A 14 (upd (A 14) j (bI true)))) := mkW_s14 h a I A hj true f
theorem mkW_f14 (h : AH) (a : Nat) (I : Nat → Int32) (A : Nat → Nat → Int32) {j : Nat} (hj : j < 30) (f : AH → Option RV) : stZ (mkW h a I A) (a + 11) (nI j) (nI 0) f = f (mkW h a I (updA A 14 (upd (A 14) j (bI false)))) := mkW_s14 h a I A hj false f
theorem mkW_g15 (h : AH) (a : Nat) (I : Nat → Int32) (A : Nat → Nat → Int32) (n0 : Option RV) (f : Nat → Option RV) : gfQ (mkW h a I A) a 5 15 n0 f = f (a + 12) := (mkW_is h a I A).g15 n0 f
theorem mkW_l15 (h : AH) (a : Nat) (I : Nat → Int32) (A : Nat → Nat → Int32) {j : Nat} (hj : j < 450) (f : Int32 → Option RV) : ldI (mkW h a I A) (a + 12) (nI j) f = f (A 15 j) := ldI_of (mkW_is h a I A).a15 rfl hj (by decide) f
theorem mkW_n15 (h : AH) (a : Nat) (I : Nat → Int32) (A : Nat → Nat → Int32) (f : Int32 → Option RV) : lnA (mkW h a I A) (a + 12) f = f (nI 450) := lnI_of (mkW_is h a I A).a15 f
theorem mkW_s15 (h : AH) (a : Nat) (I : Nat → Int32) (A : Nat → Nat → Int32) {j : Nat} (hj : j < 450) (x : Int32) (f : AH → Option RV) : stI (mkW h a I A) (a + 12) (nI j) x f = f (mkW h a I (updA A 15 (upd (A 15) j x))) := (stI_of (mkW_is h a I A).a15 rfl hj (by decide) f).trans (congrArg f (mkW_w h a I A 15 rfl _))
theorem mkW_g16 (h : AH) (a : Nat) (I : Nat → Int32) (A : Nat → Nat → Int32) (n0 : Option RV) (f : Nat → Option RV) : gfQ (mkW h a I A) a 5 16 n0 f = f (a + 13) := (mkW_is h a I A).g16 n0 f
theorem mkW_g17 (h : AH) (a : Nat) (I : Nat → Int32) (A : Nat → Nat → Int32) (n0 : Option RV) (f : Nat → Option RV) : gfQ (mkW h a I A) a 5 17 n0 f = f (a + 16) := (mkW_is h a I A).g17 n0 f
