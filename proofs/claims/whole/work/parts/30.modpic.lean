/-! ===== the picture of the reference, NameRowsModel (class 8) ===== -/
/-- slots of Mod: 0 places, 1 letters, 2 names, 3 machines, 4 many, 5 regs, 6 isGood, 7 nexts, 8 keeps, 9 pairs, 10 bothNext, 11 bothKeep, 12 state, 13 has, 14 held, 15 keptAt, 16 lastCase, 17 seen, 18 alive, 19 queue, 20 cameFrom, 21 cameBy, 22 found, 23 stateA, 24 stateB, 25 labels, 26 fresh, 27 line, 28 rowLetter, 29 rowName, 30 realNames, 31 watches, 32 watchOf, 33 wState, 34 wHas, 35 wHeld, 36 wCame, 37 wGood, 38 wDone, 39 lanes, 40 sizes, 41 cells -/
def tbMod : List (Option (Nat × (Nat × Nat))) := [none, some (1, (0, 40)), some (2, (0, 40)), none, some (3, (0, 6)), some (4, (0, 6)), some (5, (1, 36)), some (6, (0, 324)), some (7, (0, 324)), some (8, (0, 7)), some (9, (0, 54)), some (10, (0, 54)), none, some (11, (1, 2)), some (12, (0, 2)), some (13, (0, 2)), none, some (14, (1, 22500)), some (15, (1, 22500)), some (16, (0, 22500)), some (17, (0, 22500)), some (18, (0, 22500)), none, none, none, some (19, (0, 4)), some (20, (0, 4)), some (21, (0, 22500)), none, none, some (22, (0, 4)), none, some (23, (0, 4)), some (24, (0, 4)), some (25, (1, 8)), some (26, (0, 8)), some (27, (0, 4)), some (28, (0, 4)), some (29, (0, 4)), some (30, (0, 4)), some (31, (0, 4)), some (32, (0, 240))]
def flMod (a : Nat) (I : Nat → Int32) : List Value := [.int (I 0), .ref (a + 1), .ref (a + 2), .int (I 3), .ref (a + 3), .ref (a + 4), .ref (a + 5), .ref (a + 6), .ref (a + 7), .ref (a + 8), .ref (a + 9), .ref (a + 10), .int (I 12), .ref (a + 11), .ref (a + 12), .ref (a + 13), .int (I 16), .ref (a + 14), .ref (a + 15), .ref (a + 16), .ref (a + 17), .ref (a + 18), .int (I 22), .int (I 23), .int (I 24), .ref (a + 19), .ref (a + 20), .ref (a + 21), .int (I 28), .int (I 29), .ref (a + 22), .int (I 31), .ref (a + 23), .ref (a + 24), .ref (a + 25), .ref (a + 26), .ref (a + 27), .ref (a + 28), .ref (a + 29), .ref (a + 30), .ref (a + 31), .ref (a + 32)]
def isMod (h : AH) (a : Nat) (I : Nat → Int32) (A : Nat → Nat → Int32) : Prop := h.1 a = some (oB 8 (flMod a I)) ∧ ∀ k o t n, tbMod[k]? = some (some (o, (t, n))) → h.1 (a + o) = some (aI t n (A k))
set_option maxRecDepth 20000 in
theorem tbMod_in : ∀ x ∈ tbMod.zipIdx, ∀ y ∈ tbMod.zipIdx, (match x.1, y.1 with | some e, some e2 => decide (1 ≤ e.1) && (decide (e.1 < 33) && (decide (e.1 = e2.1 → x.2 = y.2))) | _, _ => true) = true := by decide +kernel
theorem tbMod_off {k o t n k2 o2 t2 n2 : Nat} (h1 : tbMod[k]? = some (some (o, (t, n)))) (h2 : tbMod[k2]? = some (some (o2, (t2, n2)))) : 1 ≤ o ∧ o < 33 ∧ (o = o2 → k = k2) := by
  have e := tbMod_in (some (o, (t, n)), k) (List.mem_zipIdx_iff_getElem?.mpr h1) (some (o2, (t2, n2)), k2) (List.mem_zipIdx_iff_getElem?.mpr h2)
  have e2 : 1 ≤ o ∧ o < 33 ∧ (¬ o = o2 ∨ k = k2) := by simpa [Bool.and_eq_true] using e
  exact ⟨e2.1, e2.2.1, fun h => e2.2.2.resolve_left (fun n => n h)⟩
theorem isMod.fr {h : AH} {a : Nat} {I : Nat → Int32} {A : Nat → Nat → Int32} (q : isMod h a I A) {h1 : AH} {b n : Nat} (p : Fr h h1 b n) (hd : a + 33 ≤ b ∨ b + n ≤ a) : isMod h1 a I A := ⟨p.at (by omega) q.1, fun k o t n hk => p.at (by have := tbMod_off hk hk; omega) (q.2 k o t n hk)⟩
theorem isMod.o {h : AH} {a : Nat} {I : Nat → Int32} {A : Nat → Nat → Int32} (q : isMod h a I A) (f : Option RV) : isO h a 8 f = f := isO_of q.1 f
def updA (A : Nat → Nat → Int32) (k : Nat) (f : Nat → Int32) : Nat → Nat → Int32 := fun j => if j = k then f else A j
theorem isMod.w {h : AH} {a : Nat} {I : Nat → Int32} {A : Nat → Nat → Int32} (q : isMod h a I A) (k : Nat) {o t n : Nat} (hk : tbMod[k]? = some (some (o, (t, n)))) (f : Nat → Int32) : isMod (hS h (a + o) (aI t n f)) a I (updA A k f) := by
  have hb := tbMod_off hk hk
  refine ⟨(hS_ne (by omega)).trans q.1, fun k2 o2 t2 n2 hk2 => ?_⟩
  have hb2 := tbMod_off hk hk2
  unfold updA
  by_cases hkk : k2 = k
  · subst hkk
    cases hk.symm.trans hk2
    rw [if_pos rfl]
    exact hS_at _ _ _
  · rw [if_neg hkk, hS_ne (fun e => hkk (hb2.2.2 (by omega)).symm)]
    exact q.2 k2 o2 t2 n2 hk2
theorem isMod.g0 {h : AH} {a : Nat} {I : Nat → Int32} {A : Nat → Nat → Int32} (q : isMod h a I A) (f : Int32 → Option RV) : gfI h a 8 0 f = f (I 0) := gfI_of q.1 rfl f
theorem isMod.p0 {h : AH} {a : Nat} {I : Nat → Int32} {A : Nat → Nat → Int32} (q : isMod h a I A) (x : Int32) (f : AH → Option RV) : pfV h a 8 0 (.int x) f = f (hS h a (oB 8 (flMod a (upd I 0 x)))) := pfV_of q.1 (Nat.le_of_ble_eq_true rfl) _ f
theorem isMod.g1 {h : AH} {a : Nat} {I : Nat → Int32} {A : Nat → Nat → Int32} (q : isMod h a I A) (n0 : Option RV) (f : Nat → Option RV) : gfQ h a 8 1 n0 f = f (a + 1) := gfQ_of q.1 rfl n0 f
theorem isMod.a1 {h : AH} {a : Nat} {I : Nat → Int32} {A : Nat → Nat → Int32} (q : isMod h a I A) : h.1 (a + 1) = some (aI 0 40 (A 1)) := q.2 1 _ _ _ rfl
theorem isMod.g2 {h : AH} {a : Nat} {I : Nat → Int32} {A : Nat → Nat → Int32} (q : isMod h a I A) (n0 : Option RV) (f : Nat → Option RV) : gfQ h a 8 2 n0 f = f (a + 2) := gfQ_of q.1 rfl n0 f
theorem isMod.a2 {h : AH} {a : Nat} {I : Nat → Int32} {A : Nat → Nat → Int32} (q : isMod h a I A) : h.1 (a + 2) = some (aI 0 40 (A 2)) := q.2 2 _ _ _ rfl
theorem isMod.g3 {h : AH} {a : Nat} {I : Nat → Int32} {A : Nat → Nat → Int32} (q : isMod h a I A) (f : Int32 → Option RV) : gfI h a 8 3 f = f (I 3) := gfI_of q.1 rfl f
theorem isMod.p3 {h : AH} {a : Nat} {I : Nat → Int32} {A : Nat → Nat → Int32} (q : isMod h a I A) (x : Int32) (f : AH → Option RV) : pfV h a 8 3 (.int x) f = f (hS h a (oB 8 (flMod a (upd I 3 x)))) := pfV_of q.1 (Nat.le_of_ble_eq_true rfl) _ f
theorem isMod.g4 {h : AH} {a : Nat} {I : Nat → Int32} {A : Nat → Nat → Int32} (q : isMod h a I A) (n0 : Option RV) (f : Nat → Option RV) : gfQ h a 8 4 n0 f = f (a + 3) := gfQ_of q.1 rfl n0 f
theorem isMod.a4 {h : AH} {a : Nat} {I : Nat → Int32} {A : Nat → Nat → Int32} (q : isMod h a I A) : h.1 (a + 3) = some (aI 0 6 (A 4)) := q.2 4 _ _ _ rfl
theorem isMod.g5 {h : AH} {a : Nat} {I : Nat → Int32} {A : Nat → Nat → Int32} (q : isMod h a I A) (n0 : Option RV) (f : Nat → Option RV) : gfQ h a 8 5 n0 f = f (a + 4) := gfQ_of q.1 rfl n0 f
theorem isMod.a5 {h : AH} {a : Nat} {I : Nat → Int32} {A : Nat → Nat → Int32} (q : isMod h a I A) : h.1 (a + 4) = some (aI 0 6 (A 5)) := q.2 5 _ _ _ rfl
theorem isMod.g6 {h : AH} {a : Nat} {I : Nat → Int32} {A : Nat → Nat → Int32} (q : isMod h a I A) (n0 : Option RV) (f : Nat → Option RV) : gfQ h a 8 6 n0 f = f (a + 5) := gfQ_of q.1 rfl n0 f
theorem isMod.a6 {h : AH} {a : Nat} {I : Nat → Int32} {A : Nat → Nat → Int32} (q : isMod h a I A) : h.1 (a + 5) = some (aI 1 36 (A 6)) := q.2 6 _ _ _ rfl
theorem isMod.g7 {h : AH} {a : Nat} {I : Nat → Int32} {A : Nat → Nat → Int32} (q : isMod h a I A) (n0 : Option RV) (f : Nat → Option RV) : gfQ h a 8 7 n0 f = f (a + 6) := gfQ_of q.1 rfl n0 f
theorem isMod.a7 {h : AH} {a : Nat} {I : Nat → Int32} {A : Nat → Nat → Int32} (q : isMod h a I A) : h.1 (a + 6) = some (aI 0 324 (A 7)) := q.2 7 _ _ _ rfl
theorem isMod.g8 {h : AH} {a : Nat} {I : Nat → Int32} {A : Nat → Nat → Int32} (q : isMod h a I A) (n0 : Option RV) (f : Nat → Option RV) : gfQ h a 8 8 n0 f = f (a + 7) := gfQ_of q.1 rfl n0 f
theorem isMod.a8 {h : AH} {a : Nat} {I : Nat → Int32} {A : Nat → Nat → Int32} (q : isMod h a I A) : h.1 (a + 7) = some (aI 0 324 (A 8)) := q.2 8 _ _ _ rfl
theorem isMod.g9 {h : AH} {a : Nat} {I : Nat → Int32} {A : Nat → Nat → Int32} (q : isMod h a I A) (n0 : Option RV) (f : Nat → Option RV) : gfQ h a 8 9 n0 f = f (a + 8) := gfQ_of q.1 rfl n0 f
theorem isMod.a9 {h : AH} {a : Nat} {I : Nat → Int32} {A : Nat → Nat → Int32} (q : isMod h a I A) : h.1 (a + 8) = some (aI 0 7 (A 9)) := q.2 9 _ _ _ rfl
theorem isMod.g10 {h : AH} {a : Nat} {I : Nat → Int32} {A : Nat → Nat → Int32} (q : isMod h a I A) (n0 : Option RV) (f : Nat → Option RV) : gfQ h a 8 10 n0 f = f (a + 9) := gfQ_of q.1 rfl n0 f
theorem isMod.a10 {h : AH} {a : Nat} {I : Nat → Int32} {A : Nat → Nat → Int32} (q : isMod h a I A) : h.1 (a + 9) = some (aI 0 54 (A 10)) := q.2 10 _ _ _ rfl
theorem isMod.g11 {h : AH} {a : Nat} {I : Nat → Int32} {A : Nat → Nat → Int32} (q : isMod h a I A) (n0 : Option RV) (f : Nat → Option RV) : gfQ h a 8 11 n0 f = f (a + 10) := gfQ_of q.1 rfl n0 f
theorem isMod.a11 {h : AH} {a : Nat} {I : Nat → Int32} {A : Nat → Nat → Int32} (q : isMod h a I A) : h.1 (a + 10) = some (aI 0 54 (A 11)) := q.2 11 _ _ _ rfl
theorem isMod.g12 {h : AH} {a : Nat} {I : Nat → Int32} {A : Nat → Nat → Int32} (q : isMod h a I A) (f : Int32 → Option RV) : gfI h a 8 12 f = f (I 12) := gfI_of q.1 rfl f
theorem isMod.p12 {h : AH} {a : Nat} {I : Nat → Int32} {A : Nat → Nat → Int32} (q : isMod h a I A) (x : Int32) (f : AH → Option RV) : pfV h a 8 12 (.int x) f = f (hS h a (oB 8 (flMod a (upd I 12 x)))) := pfV_of q.1 (Nat.le_of_ble_eq_true rfl) _ f
theorem isMod.g13 {h : AH} {a : Nat} {I : Nat → Int32} {A : Nat → Nat → Int32} (q : isMod h a I A) (n0 : Option RV) (f : Nat → Option RV) : gfQ h a 8 13 n0 f = f (a + 11) := gfQ_of q.1 rfl n0 f
theorem isMod.a13 {h : AH} {a : Nat} {I : Nat → Int32} {A : Nat → Nat → Int32} (q : isMod h a I A) : h.1 (a + 11) = some (aI 1 2 (A 13)) := q.2 13 _ _ _ rfl
theorem isMod.g14 {h : AH} {a : Nat} {I : Nat → Int32} {A : Nat → Nat → Int32} (q : isMod h a I A) (n0 : Option RV) (f : Nat → Option RV) : gfQ h a 8 14 n0 f = f (a + 12) := gfQ_of q.1 rfl n0 f
theorem isMod.a14 {h : AH} {a : Nat} {I : Nat → Int32} {A : Nat → Nat → Int32} (q : isMod h a I A) : h.1 (a + 12) = some (aI 0 2 (A 14)) := q.2 14 _ _ _ rfl
theorem isMod.g15 {h : AH} {a : Nat} {I : Nat → Int32} {A : Nat → Nat → Int32} (q : isMod h a I A) (n0 : Option RV) (f : Nat → Option RV) : gfQ h a 8 15 n0 f = f (a + 13) := gfQ_of q.1 rfl n0 f
theorem isMod.a15 {h : AH} {a : Nat} {I : Nat → Int32} {A : Nat → Nat → Int32} (q : isMod h a I A) : h.1 (a + 13) = some (aI 0 2 (A 15)) := q.2 15 _ _ _ rfl
theorem isMod.g16 {h : AH} {a : Nat} {I : Nat → Int32} {A : Nat → Nat → Int32} (q : isMod h a I A) (f : Int32 → Option RV) : gfI h a 8 16 f = f (I 16) := gfI_of q.1 rfl f
theorem isMod.p16 {h : AH} {a : Nat} {I : Nat → Int32} {A : Nat → Nat → Int32} (q : isMod h a I A) (x : Int32) (f : AH → Option RV) : pfV h a 8 16 (.int x) f = f (hS h a (oB 8 (flMod a (upd I 16 x)))) := pfV_of q.1 (Nat.le_of_ble_eq_true rfl) _ f
theorem isMod.g17 {h : AH} {a : Nat} {I : Nat → Int32} {A : Nat → Nat → Int32} (q : isMod h a I A) (n0 : Option RV) (f : Nat → Option RV) : gfQ h a 8 17 n0 f = f (a + 14) := gfQ_of q.1 rfl n0 f
theorem isMod.a17 {h : AH} {a : Nat} {I : Nat → Int32} {A : Nat → Nat → Int32} (q : isMod h a I A) : h.1 (a + 14) = some (aI 1 22500 (A 17)) := q.2 17 _ _ _ rfl
theorem isMod.g18 {h : AH} {a : Nat} {I : Nat → Int32} {A : Nat → Nat → Int32} (q : isMod h a I A) (n0 : Option RV) (f : Nat → Option RV) : gfQ h a 8 18 n0 f = f (a + 15) := gfQ_of q.1 rfl n0 f
theorem isMod.a18 {h : AH} {a : Nat} {I : Nat → Int32} {A : Nat → Nat → Int32} (q : isMod h a I A) : h.1 (a + 15) = some (aI 1 22500 (A 18)) := q.2 18 _ _ _ rfl
theorem isMod.g19 {h : AH} {a : Nat} {I : Nat → Int32} {A : Nat → Nat → Int32} (q : isMod h a I A) (n0 : Option RV) (f : Nat → Option RV) : gfQ h a 8 19 n0 f = f (a + 16) := gfQ_of q.1 rfl n0 f
theorem isMod.a19 {h : AH} {a : Nat} {I : Nat → Int32} {A : Nat → Nat → Int32} (q : isMod h a I A) : h.1 (a + 16) = some (aI 0 22500 (A 19)) := q.2 19 _ _ _ rfl
theorem isMod.g20 {h : AH} {a : Nat} {I : Nat → Int32} {A : Nat → Nat → Int32} (q : isMod h a I A) (n0 : Option RV) (f : Nat → Option RV) : gfQ h a 8 20 n0 f = f (a + 17) := gfQ_of q.1 rfl n0 f
theorem isMod.a20 {h : AH} {a : Nat} {I : Nat → Int32} {A : Nat → Nat → Int32} (q : isMod h a I A) : h.1 (a + 17) = some (aI 0 22500 (A 20)) := q.2 20 _ _ _ rfl
theorem isMod.g21 {h : AH} {a : Nat} {I : Nat → Int32} {A : Nat → Nat → Int32} (q : isMod h a I A) (n0 : Option RV) (f : Nat → Option RV) : gfQ h a 8 21 n0 f = f (a + 18) := gfQ_of q.1 rfl n0 f
theorem isMod.a21 {h : AH} {a : Nat} {I : Nat → Int32} {A : Nat → Nat → Int32} (q : isMod h a I A) : h.1 (a + 18) = some (aI 0 22500 (A 21)) := q.2 21 _ _ _ rfl
theorem isMod.g22 {h : AH} {a : Nat} {I : Nat → Int32} {A : Nat → Nat → Int32} (q : isMod h a I A) (f : Int32 → Option RV) : gfI h a 8 22 f = f (I 22) := gfI_of q.1 rfl f
theorem isMod.p22 {h : AH} {a : Nat} {I : Nat → Int32} {A : Nat → Nat → Int32} (q : isMod h a I A) (x : Int32) (f : AH → Option RV) : pfV h a 8 22 (.int x) f = f (hS h a (oB 8 (flMod a (upd I 22 x)))) := pfV_of q.1 (Nat.le_of_ble_eq_true rfl) _ f
theorem isMod.g23 {h : AH} {a : Nat} {I : Nat → Int32} {A : Nat → Nat → Int32} (q : isMod h a I A) (f : Int32 → Option RV) : gfI h a 8 23 f = f (I 23) := gfI_of q.1 rfl f
theorem isMod.p23 {h : AH} {a : Nat} {I : Nat → Int32} {A : Nat → Nat → Int32} (q : isMod h a I A) (x : Int32) (f : AH → Option RV) : pfV h a 8 23 (.int x) f = f (hS h a (oB 8 (flMod a (upd I 23 x)))) := pfV_of q.1 (Nat.le_of_ble_eq_true rfl) _ f
theorem isMod.g24 {h : AH} {a : Nat} {I : Nat → Int32} {A : Nat → Nat → Int32} (q : isMod h a I A) (f : Int32 → Option RV) : gfI h a 8 24 f = f (I 24) := gfI_of q.1 rfl f
theorem isMod.p24 {h : AH} {a : Nat} {I : Nat → Int32} {A : Nat → Nat → Int32} (q : isMod h a I A) (x : Int32) (f : AH → Option RV) : pfV h a 8 24 (.int x) f = f (hS h a (oB 8 (flMod a (upd I 24 x)))) := pfV_of q.1 (Nat.le_of_ble_eq_true rfl) _ f
theorem isMod.g25 {h : AH} {a : Nat} {I : Nat → Int32} {A : Nat → Nat → Int32} (q : isMod h a I A) (n0 : Option RV) (f : Nat → Option RV) : gfQ h a 8 25 n0 f = f (a + 19) := gfQ_of q.1 rfl n0 f
theorem isMod.a25 {h : AH} {a : Nat} {I : Nat → Int32} {A : Nat → Nat → Int32} (q : isMod h a I A) : h.1 (a + 19) = some (aI 0 4 (A 25)) := q.2 25 _ _ _ rfl
theorem isMod.g26 {h : AH} {a : Nat} {I : Nat → Int32} {A : Nat → Nat → Int32} (q : isMod h a I A) (n0 : Option RV) (f : Nat → Option RV) : gfQ h a 8 26 n0 f = f (a + 20) := gfQ_of q.1 rfl n0 f
theorem isMod.a26 {h : AH} {a : Nat} {I : Nat → Int32} {A : Nat → Nat → Int32} (q : isMod h a I A) : h.1 (a + 20) = some (aI 0 4 (A 26)) := q.2 26 _ _ _ rfl
theorem isMod.g27 {h : AH} {a : Nat} {I : Nat → Int32} {A : Nat → Nat → Int32} (q : isMod h a I A) (n0 : Option RV) (f : Nat → Option RV) : gfQ h a 8 27 n0 f = f (a + 21) := gfQ_of q.1 rfl n0 f
theorem isMod.a27 {h : AH} {a : Nat} {I : Nat → Int32} {A : Nat → Nat → Int32} (q : isMod h a I A) : h.1 (a + 21) = some (aI 0 22500 (A 27)) := q.2 27 _ _ _ rfl
theorem isMod.g28 {h : AH} {a : Nat} {I : Nat → Int32} {A : Nat → Nat → Int32} (q : isMod h a I A) (f : Int32 → Option RV) : gfI h a 8 28 f = f (I 28) := gfI_of q.1 rfl f
theorem isMod.p28 {h : AH} {a : Nat} {I : Nat → Int32} {A : Nat → Nat → Int32} (q : isMod h a I A) (x : Int32) (f : AH → Option RV) : pfV h a 8 28 (.int x) f = f (hS h a (oB 8 (flMod a (upd I 28 x)))) := pfV_of q.1 (Nat.le_of_ble_eq_true rfl) _ f
theorem isMod.g29 {h : AH} {a : Nat} {I : Nat → Int32} {A : Nat → Nat → Int32} (q : isMod h a I A) (f : Int32 → Option RV) : gfI h a 8 29 f = f (I 29) := gfI_of q.1 rfl f
theorem isMod.p29 {h : AH} {a : Nat} {I : Nat → Int32} {A : Nat → Nat → Int32} (q : isMod h a I A) (x : Int32) (f : AH → Option RV) : pfV h a 8 29 (.int x) f = f (hS h a (oB 8 (flMod a (upd I 29 x)))) := pfV_of q.1 (Nat.le_of_ble_eq_true rfl) _ f
theorem isMod.g30 {h : AH} {a : Nat} {I : Nat → Int32} {A : Nat → Nat → Int32} (q : isMod h a I A) (n0 : Option RV) (f : Nat → Option RV) : gfQ h a 8 30 n0 f = f (a + 22) := gfQ_of q.1 rfl n0 f
theorem isMod.a30 {h : AH} {a : Nat} {I : Nat → Int32} {A : Nat → Nat → Int32} (q : isMod h a I A) : h.1 (a + 22) = some (aI 0 4 (A 30)) := q.2 30 _ _ _ rfl
theorem isMod.g31 {h : AH} {a : Nat} {I : Nat → Int32} {A : Nat → Nat → Int32} (q : isMod h a I A) (f : Int32 → Option RV) : gfI h a 8 31 f = f (I 31) := gfI_of q.1 rfl f
theorem isMod.p31 {h : AH} {a : Nat} {I : Nat → Int32} {A : Nat → Nat → Int32} (q : isMod h a I A) (x : Int32) (f : AH → Option RV) : pfV h a 8 31 (.int x) f = f (hS h a (oB 8 (flMod a (upd I 31 x)))) := pfV_of q.1 (Nat.le_of_ble_eq_true rfl) _ f
theorem isMod.g32 {h : AH} {a : Nat} {I : Nat → Int32} {A : Nat → Nat → Int32} (q : isMod h a I A) (n0 : Option RV) (f : Nat → Option RV) : gfQ h a 8 32 n0 f = f (a + 23) := gfQ_of q.1 rfl n0 f
theorem isMod.a32 {h : AH} {a : Nat} {I : Nat → Int32} {A : Nat → Nat → Int32} (q : isMod h a I A) : h.1 (a + 23) = some (aI 0 4 (A 32)) := q.2 32 _ _ _ rfl
theorem isMod.g33 {h : AH} {a : Nat} {I : Nat → Int32} {A : Nat → Nat → Int32} (q : isMod h a I A) (n0 : Option RV) (f : Nat → Option RV) : gfQ h a 8 33 n0 f = f (a + 24) := gfQ_of q.1 rfl n0 f
theorem isMod.a33 {h : AH} {a : Nat} {I : Nat → Int32} {A : Nat → Nat → Int32} (q : isMod h a I A) : h.1 (a + 24) = some (aI 0 4 (A 33)) := q.2 33 _ _ _ rfl
theorem isMod.g34 {h : AH} {a : Nat} {I : Nat → Int32} {A : Nat → Nat → Int32} (q : isMod h a I A) (n0 : Option RV) (f : Nat → Option RV) : gfQ h a 8 34 n0 f = f (a + 25) := gfQ_of q.1 rfl n0 f
theorem isMod.a34 {h : AH} {a : Nat} {I : Nat → Int32} {A : Nat → Nat → Int32} (q : isMod h a I A) : h.1 (a + 25) = some (aI 1 8 (A 34)) := q.2 34 _ _ _ rfl
theorem isMod.g35 {h : AH} {a : Nat} {I : Nat → Int32} {A : Nat → Nat → Int32} (q : isMod h a I A) (n0 : Option RV) (f : Nat → Option RV) : gfQ h a 8 35 n0 f = f (a + 26) := gfQ_of q.1 rfl n0 f
theorem isMod.a35 {h : AH} {a : Nat} {I : Nat → Int32} {A : Nat → Nat → Int32} (q : isMod h a I A) : h.1 (a + 26) = some (aI 0 8 (A 35)) := q.2 35 _ _ _ rfl
theorem isMod.g36 {h : AH} {a : Nat} {I : Nat → Int32} {A : Nat → Nat → Int32} (q : isMod h a I A) (n0 : Option RV) (f : Nat → Option RV) : gfQ h a 8 36 n0 f = f (a + 27) := gfQ_of q.1 rfl n0 f
theorem isMod.a36 {h : AH} {a : Nat} {I : Nat → Int32} {A : Nat → Nat → Int32} (q : isMod h a I A) : h.1 (a + 27) = some (aI 0 4 (A 36)) := q.2 36 _ _ _ rfl
theorem isMod.g37 {h : AH} {a : Nat} {I : Nat → Int32} {A : Nat → Nat → Int32} (q : isMod h a I A) (n0 : Option RV) (f : Nat → Option RV) : gfQ h a 8 37 n0 f = f (a + 28) := gfQ_of q.1 rfl n0 f
theorem isMod.a37 {h : AH} {a : Nat} {I : Nat → Int32} {A : Nat → Nat → Int32} (q : isMod h a I A) : h.1 (a + 28) = some (aI 0 4 (A 37)) := q.2 37 _ _ _ rfl
theorem isMod.g38 {h : AH} {a : Nat} {I : Nat → Int32} {A : Nat → Nat → Int32} (q : isMod h a I A) (n0 : Option RV) (f : Nat → Option RV) : gfQ h a 8 38 n0 f = f (a + 29) := gfQ_of q.1 rfl n0 f
theorem isMod.a38 {h : AH} {a : Nat} {I : Nat → Int32} {A : Nat → Nat → Int32} (q : isMod h a I A) : h.1 (a + 29) = some (aI 0 4 (A 38)) := q.2 38 _ _ _ rfl
theorem isMod.g39 {h : AH} {a : Nat} {I : Nat → Int32} {A : Nat → Nat → Int32} (q : isMod h a I A) (n0 : Option RV) (f : Nat → Option RV) : gfQ h a 8 39 n0 f = f (a + 30) := gfQ_of q.1 rfl n0 f
theorem isMod.a39 {h : AH} {a : Nat} {I : Nat → Int32} {A : Nat → Nat → Int32} (q : isMod h a I A) : h.1 (a + 30) = some (aI 0 4 (A 39)) := q.2 39 _ _ _ rfl
theorem isMod.g40 {h : AH} {a : Nat} {I : Nat → Int32} {A : Nat → Nat → Int32} (q : isMod h a I A) (n0 : Option RV) (f : Nat → Option RV) : gfQ h a 8 40 n0 f = f (a + 31) := gfQ_of q.1 rfl n0 f
theorem isMod.a40 {h : AH} {a : Nat} {I : Nat → Int32} {A : Nat → Nat → Int32} (q : isMod h a I A) : h.1 (a + 31) = some (aI 0 4 (A 40)) := q.2 40 _ _ _ rfl
theorem isMod.g41 {h : AH} {a : Nat} {I : Nat → Int32} {A : Nat → Nat → Int32} (q : isMod h a I A) (n0 : Option RV) (f : Nat → Option RV) : gfQ h a 8 41 n0 f = f (a + 32) := gfQ_of q.1 rfl n0 f
theorem isMod.a41 {h : AH} {a : Nat} {I : Nat → Int32} {A : Nat → Nat → Int32} (q : isMod h a I A) : h.1 (a + 32) = some (aI 0 240 (A 41)) := q.2 41 _ _ _ rfl
theorem isMod.u {h : AH} {a : Nat} {I : Nat → Int32} {A : Nat → Nat → Int32} (q : isMod h a I A) (J : Nat → Int32) : isMod (hS h a (oB 8 (flMod a J))) a J A := ⟨hS_at _ _ _, fun k o t n hk => (hS_ne (by have := tbMod_off hk hk; omega)).trans (q.2 k o t n hk)⟩
