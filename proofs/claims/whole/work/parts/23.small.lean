/-! ===== pictures of the small classes ===== -/
/-- the numbers of Row: len, let, cal -/
abbrev D_Row : Type := (Int32) × ((Nat → Int32) × ((Nat → Int32)))
def isRow (h : AH) (a : Nat) (D : D_Row) (N : Nat) : Prop := h.1 a = some (oB 2 [.ref (a + 1), .ref (a + 2), .int D.1]) ∧ h.1 (a + 1) = some (aI 0 N (D.2.1)) ∧ h.1 (a + 2) = some (aI 0 N (D.2.2))
theorem isRow.fr {h : AH} {a : Nat} {D : D_Row} {N : Nat} (q : isRow h a D N) {h1 : AH} {b n : Nat} (p : Fr h h1 b n) (hd : a + 3 ≤ b ∨ b + n ≤ a) : isRow h1 a D N := ⟨p.at (by omega) q.1, p.at (by omega) q.2.1, p.at (by omega) q.2.2⟩
theorem isRow.o {h : AH} {a : Nat} {D : D_Row} {N : Nat} (q : isRow h a D N) (f : Option RV) : isO h a 2 f = f := isO_of q.1 f
theorem isRow.g0 {h : AH} {a : Nat} {D : D_Row} {N : Nat} (q : isRow h a D N) (n0 : Option RV) (f : Nat → Option RV) : gfQ h a 2 0 n0 f = f (a + 1) := gfQ_of q.1 rfl n0 f
theorem isRow.g1 {h : AH} {a : Nat} {D : D_Row} {N : Nat} (q : isRow h a D N) (n0 : Option RV) (f : Nat → Option RV) : gfQ h a 2 1 n0 f = f (a + 2) := gfQ_of q.1 rfl n0 f
theorem isRow.g2 {h : AH} {a : Nat} {D : D_Row} {N : Nat} (q : isRow h a D N) (f : Int32 → Option RV) : gfI h a 2 2 f = f D.1 := gfI_of q.1 rfl f
theorem isRow.p2 {h : AH} {a : Nat} {D : D_Row} {N : Nat} (q : isRow h a D N) (x : Int32) (f : AH → Option RV) : pfV h a 2 2 (.int x) f = f (hS h a (oB 2 [.ref (a + 1), .ref (a + 2), .int x])) := pfV_of q.1 (Nat.le_of_ble_eq_true rfl) _ f
theorem isRow.u2 {h : AH} {a : Nat} {D : D_Row} {N : Nat} (q : isRow h a D N) (x : Int32) : isRow (hS h a (oB 2 [.ref (a + 1), .ref (a + 2), .int x])) a (x, (D.2.1, D.2.2)) N := ⟨hS_at _ _ _, (hS_ne (by omega)).trans q.2.1, (hS_ne (by omega)).trans q.2.2⟩
theorem isRow.a0 {h : AH} {a : Nat} {D : D_Row} {N : Nat} (q : isRow h a D N) : h.1 (a + 1) = some (aI 0 N (D.2.1)) := q.2.1
theorem isRow.w0 {h : AH} {a : Nat} {D : D_Row} {N : Nat} (q : isRow h a D N) (f : Nat → Int32) : isRow (hS h (a + 1) (aI 0 N f)) a (D.1, (f, D.2.2)) N := ⟨(hS_ne (by omega)).trans q.1, hS_at _ _ _, (hS_ne (by omega)).trans q.2.2⟩
theorem isRow.a1 {h : AH} {a : Nat} {D : D_Row} {N : Nat} (q : isRow h a D N) : h.1 (a + 2) = some (aI 0 N (D.2.2)) := q.2.2
theorem isRow.w1 {h : AH} {a : Nat} {D : D_Row} {N : Nat} (q : isRow h a D N) (f : Nat → Int32) : isRow (hS h (a + 2) (aI 0 N f)) a (D.1, (D.2.1, f)) N := ⟨(hS_ne (by omega)).trans q.1, (hS_ne (by omega)).trans q.2.1, hS_at _ _ _⟩
/-- the numbers of Run: state, last, gone, held, kept -/
abbrev D_Run : Type := (Int32) × ((Int32) × ((Int32) × ((Nat → Int32) × ((Nat → Int32)))))
def isRun (h : AH) (a : Nat) (D : D_Run) : Prop := h.1 a = some (oB 3 [.int D.1, .ref (a + 1), .ref (a + 2), .int D.2.1, .int D.2.2.1]) ∧ h.1 (a + 1) = some (aI 0 2 (D.2.2.2.1)) ∧ h.1 (a + 2) = some (aI 0 2 (D.2.2.2.2))
theorem isRun.fr {h : AH} {a : Nat} {D : D_Run} (q : isRun h a D) {h1 : AH} {b n : Nat} (p : Fr h h1 b n) (hd : a + 3 ≤ b ∨ b + n ≤ a) : isRun h1 a D := ⟨p.at (by omega) q.1, p.at (by omega) q.2.1, p.at (by omega) q.2.2⟩
theorem isRun.o {h : AH} {a : Nat} {D : D_Run} (q : isRun h a D) (f : Option RV) : isO h a 3 f = f := isO_of q.1 f
theorem isRun.g0 {h : AH} {a : Nat} {D : D_Run} (q : isRun h a D) (f : Int32 → Option RV) : gfI h a 3 0 f = f D.1 := gfI_of q.1 rfl f
theorem isRun.p0 {h : AH} {a : Nat} {D : D_Run} (q : isRun h a D) (x : Int32) (f : AH → Option RV) : pfV h a 3 0 (.int x) f = f (hS h a (oB 3 [.int x, .ref (a + 1), .ref (a + 2), .int D.2.1, .int D.2.2.1])) := pfV_of q.1 (Nat.le_of_ble_eq_true rfl) _ f
theorem isRun.u0 {h : AH} {a : Nat} {D : D_Run} (q : isRun h a D) (x : Int32) : isRun (hS h a (oB 3 [.int x, .ref (a + 1), .ref (a + 2), .int D.2.1, .int D.2.2.1])) a (x, (D.2.1, (D.2.2.1, (D.2.2.2.1, D.2.2.2.2)))) := ⟨hS_at _ _ _, (hS_ne (by omega)).trans q.2.1, (hS_ne (by omega)).trans q.2.2⟩
theorem isRun.g1 {h : AH} {a : Nat} {D : D_Run} (q : isRun h a D) (n0 : Option RV) (f : Nat → Option RV) : gfQ h a 3 1 n0 f = f (a + 1) := gfQ_of q.1 rfl n0 f
theorem isRun.g2 {h : AH} {a : Nat} {D : D_Run} (q : isRun h a D) (n0 : Option RV) (f : Nat → Option RV) : gfQ h a 3 2 n0 f = f (a + 2) := gfQ_of q.1 rfl n0 f
theorem isRun.g3 {h : AH} {a : Nat} {D : D_Run} (q : isRun h a D) (f : Int32 → Option RV) : gfI h a 3 3 f = f D.2.1 := gfI_of q.1 rfl f
theorem isRun.p3 {h : AH} {a : Nat} {D : D_Run} (q : isRun h a D) (x : Int32) (f : AH → Option RV) : pfV h a 3 3 (.int x) f = f (hS h a (oB 3 [.int D.1, .ref (a + 1), .ref (a + 2), .int x, .int D.2.2.1])) := pfV_of q.1 (Nat.le_of_ble_eq_true rfl) _ f
theorem isRun.u3 {h : AH} {a : Nat} {D : D_Run} (q : isRun h a D) (x : Int32) : isRun (hS h a (oB 3 [.int D.1, .ref (a + 1), .ref (a + 2), .int x, .int D.2.2.1])) a (D.1, (x, (D.2.2.1, (D.2.2.2.1, D.2.2.2.2)))) := ⟨hS_at _ _ _, (hS_ne (by omega)).trans q.2.1, (hS_ne (by omega)).trans q.2.2⟩
theorem isRun.g4 {h : AH} {a : Nat} {D : D_Run} (q : isRun h a D) (f : Int32 → Option RV) : gfI h a 3 4 f = f D.2.2.1 := gfI_of q.1 rfl f
theorem isRun.p4 {h : AH} {a : Nat} {D : D_Run} (q : isRun h a D) (x : Int32) (f : AH → Option RV) : pfV h a 3 4 (.int x) f = f (hS h a (oB 3 [.int D.1, .ref (a + 1), .ref (a + 2), .int D.2.1, .int x])) := pfV_of q.1 (Nat.le_of_ble_eq_true rfl) _ f
theorem isRun.u4 {h : AH} {a : Nat} {D : D_Run} (q : isRun h a D) (x : Int32) : isRun (hS h a (oB 3 [.int D.1, .ref (a + 1), .ref (a + 2), .int D.2.1, .int x])) a (D.1, (D.2.1, (x, (D.2.2.2.1, D.2.2.2.2)))) := ⟨hS_at _ _ _, (hS_ne (by omega)).trans q.2.1, (hS_ne (by omega)).trans q.2.2⟩
theorem isRun.a0 {h : AH} {a : Nat} {D : D_Run} (q : isRun h a D) : h.1 (a + 1) = some (aI 0 2 (D.2.2.2.1)) := q.2.1
theorem isRun.w0 {h : AH} {a : Nat} {D : D_Run} (q : isRun h a D) (f : Nat → Int32) : isRun (hS h (a + 1) (aI 0 2 f)) a (D.1, (D.2.1, (D.2.2.1, (f, D.2.2.2.2)))) := ⟨(hS_ne (by omega)).trans q.1, hS_at _ _ _, (hS_ne (by omega)).trans q.2.2⟩
theorem isRun.a1 {h : AH} {a : Nat} {D : D_Run} (q : isRun h a D) : h.1 (a + 2) = some (aI 0 2 (D.2.2.2.2)) := q.2.2
theorem isRun.w1 {h : AH} {a : Nat} {D : D_Run} (q : isRun h a D) (f : Nat → Int32) : isRun (hS h (a + 2) (aI 0 2 f)) a (D.1, (D.2.1, (D.2.2.1, (D.2.2.2.1, f)))) := ⟨(hS_ne (by omega)).trans q.1, (hS_ne (by omega)).trans q.2.1, hS_at _ _ _⟩
/-- the numbers of Sheet: lane, size, cells -/
abbrev D_Sheet : Type := (Int32) × ((Int32) × ((Nat → Int32)))
def isSheet (h : AH) (a : Nat) (D : D_Sheet) : Prop := h.1 a = some (oB 4 [.ref (a + 1), .int D.1, .int D.2.1]) ∧ h.1 (a + 1) = some (aI 0 60 (D.2.2))
theorem isSheet.fr {h : AH} {a : Nat} {D : D_Sheet} (q : isSheet h a D) {h1 : AH} {b n : Nat} (p : Fr h h1 b n) (hd : a + 2 ≤ b ∨ b + n ≤ a) : isSheet h1 a D := ⟨p.at (by omega) q.1, p.at (by omega) q.2⟩
theorem isSheet.o {h : AH} {a : Nat} {D : D_Sheet} (q : isSheet h a D) (f : Option RV) : isO h a 4 f = f := isO_of q.1 f
theorem isSheet.g0 {h : AH} {a : Nat} {D : D_Sheet} (q : isSheet h a D) (n0 : Option RV) (f : Nat → Option RV) : gfQ h a 4 0 n0 f = f (a + 1) := gfQ_of q.1 rfl n0 f
theorem isSheet.g1 {h : AH} {a : Nat} {D : D_Sheet} (q : isSheet h a D) (f : Int32 → Option RV) : gfI h a 4 1 f = f D.1 := gfI_of q.1 rfl f
theorem isSheet.p1 {h : AH} {a : Nat} {D : D_Sheet} (q : isSheet h a D) (x : Int32) (f : AH → Option RV) : pfV h a 4 1 (.int x) f = f (hS h a (oB 4 [.ref (a + 1), .int x, .int D.2.1])) := pfV_of q.1 (Nat.le_of_ble_eq_true rfl) _ f
theorem isSheet.u1 {h : AH} {a : Nat} {D : D_Sheet} (q : isSheet h a D) (x : Int32) : isSheet (hS h a (oB 4 [.ref (a + 1), .int x, .int D.2.1])) a (x, (D.2.1, D.2.2)) := ⟨hS_at _ _ _, (hS_ne (by omega)).trans q.2⟩
theorem isSheet.g2 {h : AH} {a : Nat} {D : D_Sheet} (q : isSheet h a D) (f : Int32 → Option RV) : gfI h a 4 2 f = f D.2.1 := gfI_of q.1 rfl f
theorem isSheet.p2 {h : AH} {a : Nat} {D : D_Sheet} (q : isSheet h a D) (x : Int32) (f : AH → Option RV) : pfV h a 4 2 (.int x) f = f (hS h a (oB 4 [.ref (a + 1), .int D.1, .int x])) := pfV_of q.1 (Nat.le_of_ble_eq_true rfl) _ f
theorem isSheet.u2 {h : AH} {a : Nat} {D : D_Sheet} (q : isSheet h a D) (x : Int32) : isSheet (hS h a (oB 4 [.ref (a + 1), .int D.1, .int x])) a (D.1, (x, D.2.2)) := ⟨hS_at _ _ _, (hS_ne (by omega)).trans q.2⟩
theorem isSheet.a0 {h : AH} {a : Nat} {D : D_Sheet} (q : isSheet h a D) : h.1 (a + 1) = some (aI 0 60 (D.2.2)) := q.2
theorem isSheet.w0 {h : AH} {a : Nat} {D : D_Sheet} (q : isSheet h a D) (f : Nat → Int32) : isSheet (hS h (a + 1) (aI 0 60 f)) a (D.1, (D.2.1, f)) := ⟨(hS_ne (by omega)).trans q.1, hS_at _ _ _⟩
/-- the numbers of Pair: met, pairs -/
abbrev D_Pair : Type := (Int32) × ((Nat → Int32))
def isPair (h : AH) (a : Nat) (D : D_Pair) : Prop := h.1 a = some (oB 1 [.ref (a + 1), .int D.1]) ∧ h.1 (a + 1) = some (aI 0 6 (D.2))
theorem isPair.fr {h : AH} {a : Nat} {D : D_Pair} (q : isPair h a D) {h1 : AH} {b n : Nat} (p : Fr h h1 b n) (hd : a + 2 ≤ b ∨ b + n ≤ a) : isPair h1 a D := ⟨p.at (by omega) q.1, p.at (by omega) q.2⟩
theorem isPair.o {h : AH} {a : Nat} {D : D_Pair} (q : isPair h a D) (f : Option RV) : isO h a 1 f = f := isO_of q.1 f
theorem isPair.g0 {h : AH} {a : Nat} {D : D_Pair} (q : isPair h a D) (n0 : Option RV) (f : Nat → Option RV) : gfQ h a 1 0 n0 f = f (a + 1) := gfQ_of q.1 rfl n0 f
theorem isPair.g1 {h : AH} {a : Nat} {D : D_Pair} (q : isPair h a D) (f : Int32 → Option RV) : gfI h a 1 1 f = f D.1 := gfI_of q.1 rfl f
theorem isPair.p1 {h : AH} {a : Nat} {D : D_Pair} (q : isPair h a D) (x : Int32) (f : AH → Option RV) : pfV h a 1 1 (.int x) f = f (hS h a (oB 1 [.ref (a + 1), .int x])) := pfV_of q.1 (Nat.le_of_ble_eq_true rfl) _ f
theorem isPair.u1 {h : AH} {a : Nat} {D : D_Pair} (q : isPair h a D) (x : Int32) : isPair (hS h a (oB 1 [.ref (a + 1), .int x])) a (x, D.2) := ⟨hS_at _ _ _, (hS_ne (by omega)).trans q.2⟩
theorem isPair.a0 {h : AH} {a : Nat} {D : D_Pair} (q : isPair h a D) : h.1 (a + 1) = some (aI 0 6 (D.2)) := q.2
theorem isPair.w0 {h : AH} {a : Nat} {D : D_Pair} (q : isPair h a D) (f : Nat → Int32) : isPair (hS h (a + 1) (aI 0 6 f)) a (D.1, f) := ⟨(hS_ne (by omega)).trans q.1, hS_at _ _ _⟩
