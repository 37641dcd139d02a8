/-! ===== the state, and how both sides hold it ===== -/
/-- a watch: machine, place among the orbits, how many came, how often good, where done for -/
abbrev WS : Type := Nat × (PO × (Nat × (Nat × Option Nat)))
/-- a sheet: lane, size, cells -/
abbrev SH : Type := Int32 × (Nat × (Nat → Int32))
/-- the row; machines; watches; sheets -/
abbrev SG : Type := (Nat × ((Nat → Nat) × (Nat → Int32))) × ((Nat × (Nat → TM)) × ((Nat × (Nat → WS)) × (Nat → SH)))
/-- a watch is of machine m -/
def wdB (w : Nat × (Nat → WS)) (m : Nat) : Bool := memN (fun i => (w.2 i).1) m w.1
def WFS (s : SG) (q : Nat) : Prop := (s.1.1 ≤ 40 ∧ ∀ j, j < s.1.1 → s.1.2.1 j < 3) ∧ (s.2.1.1 ≤ 6 ∧ ∀ m, m < s.2.1.1 → WFT (s.2.1.2 m)) ∧ (s.2.2.1.1 ≤ 4 ∧ ∀ w, w < s.2.2.1.1 → (s.2.2.1.2 w).1 < s.2.1.1 ∧ PG (s.2.1.2 (s.2.2.1.2 w).1) (s.2.2.1.2 w).2.1 ∧ (s.2.2.1.2 w).2.2.1 ≤ q ∧ (s.2.2.1.2 w).2.2.2.1 ≤ q ∧ ∀ e, (s.2.2.1.2 w).2.2.2.2 = some e → e ≤ q) ∧ (∀ k, k < 4 → (s.2.2.2 k).2.1 ≤ 60 ∧ ((s.2.2.2 k).1 = NO ∨ ∃ l, l < 3 ∧ (s.2.2.2 k).1 = nI l))
theorem WFS.mono {s : SG} {q r : Nat} (w : WFS s q) (h : q ≤ r) : WFS s r := ⟨w.1, w.2.1, ⟨w.2.2.1.1, fun k hk => by
  obtain ⟨a1, a2, a3, a4, a5⟩ := w.2.2.1.2 k hk
  exact ⟨a1, a2, by omega, by omega, fun e he => by have := a5 e he; omega⟩⟩, w.2.2.2⟩
/-! the reference -/
def rsRow (I : Nat → Int32) (A : Nat → Nat → Int32) (r : Nat × ((Nat → Nat) × (Nat → Int32))) : Prop := I 0 = nI r.1 ∧ ∀ j, j < r.1 → A 1 j = nI (r.2.1 j) ∧ A 2 j = r.2.2 j
def rsMac (I : Nat → Int32) (A : Nat → Nat → Int32) (m : Nat × (Nat → TM)) : Prop := I 3 = nI m.1 ∧ ∀ j, j < m.1 → isT A j (m.2 j)
def rsW1 (A : Nat → Nat → Int32) (w : Nat) (v : WS) : Prop := A 32 w = nI v.1 ∧ A 33 w = nI (v.2.1.1 / 625 / 6) ∧ (∀ r, r < 2 → A 34 (2 * w + r) = bI (decide (lb v.2.1.1 r ≠ 0))) ∧ (∀ r, r < 2 → lb v.2.1.1 r ≠ 0 → A 35 (2 * w + r) = v.2.1.2.1 r) ∧ A 36 w = nI v.2.2.1 ∧ A 37 w = nI v.2.2.2.1 ∧ A 38 w = oI v.2.2.2.2
def rsWat (I : Nat → Int32) (A : Nat → Nat → Int32) (w : Nat × (Nat → WS)) : Prop := I 31 = nI w.1 ∧ ∀ j, j < w.1 → rsW1 A j (w.2 j)
def rsSh (A : Nat → Nat → Int32) (c : Nat → SH) : Prop := ∀ k, k < 4 → A 39 k = (c k).1 ∧ A 40 k = nI (c k).2.1 ∧ ∀ i, i < 60 → A 41 (60 * k + i) = (c k).2.2 i
def RS (I : Nat → Int32) (A : Nat → Nat → Int32) (s : SG) : Prop := rsRow I A s.1 ∧ rsMac I A s.2.1 ∧ rsWat I A s.2.2.1 ∧ rsSh A s.2.2.2
theorem rsRow.fa {I I1 : Nat → Int32} {A A1 : Nat → Nat → Int32} {js ks : List Nat} {r : Nat × ((Nat → Nat) × (Nat → Int32))} (q : rsRow I A r) (p : fra I I1 A A1 js ks) (hj : 0 ∉ js) (hk : 1 ∉ ks ∧ 2 ∉ ks) : rsRow I1 A1 r := by
  unfold rsRow
  rw [p.1 0 hj, p.2 1 hk.1, p.2 2 hk.2]
  exact q
theorem rsMac.fa {I I1 : Nat → Int32} {A A1 : Nat → Nat → Int32} {js ks : List Nat} {m : Nat × (Nat → TM)} (q : rsMac I A m) (p : fra I I1 A A1 js ks) (hj : 3 ∉ js) (hk : 4 ∉ ks ∧ 5 ∉ ks ∧ 6 ∉ ks ∧ 7 ∉ ks ∧ 8 ∉ ks) : rsMac I1 A1 m := ⟨(p.1 3 hj).trans q.1, fun j hj2 => (q.2 j hj2).fa p hk⟩
theorem rsWat.fa {I I1 : Nat → Int32} {A A1 : Nat → Nat → Int32} {js ks : List Nat} {w : Nat × (Nat → WS)} (q : rsWat I A w) (p : fra I I1 A A1 js ks) (hj : 31 ∉ js) (hk : 32 ∉ ks ∧ 33 ∉ ks ∧ 34 ∉ ks ∧ 35 ∉ ks ∧ 36 ∉ ks ∧ 37 ∉ ks ∧ 38 ∉ ks) : rsWat I1 A1 w := by
  unfold rsWat rsW1
  rw [p.1 31 hj, p.2 32 hk.1, p.2 33 hk.2.1, p.2 34 hk.2.2.1, p.2 35 hk.2.2.2.1, p.2 36 hk.2.2.2.2.1, p.2 37 hk.2.2.2.2.2.1, p.2 38 hk.2.2.2.2.2.2]
  exact q
theorem rsSh.fa {I I1 : Nat → Int32} {A A1 : Nat → Nat → Int32} {js ks : List Nat} {c : Nat → SH} (q : rsSh A c) (p : fra I I1 A A1 js ks) (hk : 39 ∉ ks ∧ 40 ∉ ks ∧ 41 ∉ ks) : rsSh A1 c := by
  unfold rsSh
  rw [p.2 39 hk.1, p.2 40 hk.2.1, p.2 41 hk.2.2]
  exact q
theorem RS.fa {I I1 : Nat → Int32} {A A1 : Nat → Nat → Int32} {js ks : List Nat} {s : SG} (q : RS I A s) (p : fra I I1 A A1 js ks) (hj : 0 ∉ js ∧ 3 ∉ js ∧ 31 ∉ js) (hk : (1 ∉ ks ∧ 2 ∉ ks) ∧ (4 ∉ ks ∧ 5 ∉ ks ∧ 6 ∉ ks ∧ 7 ∉ ks ∧ 8 ∉ ks) ∧ (32 ∉ ks ∧ 33 ∉ ks ∧ 34 ∉ ks ∧ 35 ∉ ks ∧ 36 ∉ ks ∧ 37 ∉ ks ∧ 38 ∉ ks) ∧ (39 ∉ ks ∧ 40 ∉ ks ∧ 41 ∉ ks)) : RS I1 A1 s := ⟨q.1.fa p hj.1 hk.1, q.2.1.fa p hj.2.1 hk.2.1, q.2.2.1.fa p hj.2.2 hk.2.2.1, q.2.2.2.fa p hk.2.2.2⟩
/-! the class -/
/-- leastKnown, leastOne, leastOther, leastAnswer, unlikeMachines -/
abbrev CX0 : Type := Int32 × (Int32 × (Int32 × (Int32 × Int32)))
def cTop (h : AH) (x K W : Nat) (X : CX0) : Prop := h.1 x = some (oB 7 [.ref (x + 1), .ref (x + 4), .int (nI K), .ref (x + 5), .int (nI W), .ref (x + 6), .ref (x + 7), .ref (x + 12), .ref (x + 14), .ref (x + 17), .ref (x + 36), .int X.1, .int X.2.1, .int X.2.2.1, .int X.2.2.2.1, .int X.2.2.2.2])
def mo (x m : Nat) : Nat := x + 39 + 5 * m
def wo (x w : Nat) : Nat := x + 74 + 4 * w
def so (x k : Nat) : Nat := x + 90 + 2 * k
def cArr (h : AH) (x : Nat) : Prop := (∃ g, h.1 (x + 4) = some (aQ 2 7 g) ∧ ∀ j, j < 7 → g j = some (mo x j)) ∧ (∃ g, h.1 (x + 5) = some (aQ 3 4 g) ∧ ∀ j, j < 4 → g j = some (wo x j)) ∧ (∃ g, h.1 (x + 6) = some (aQ 4 4 g) ∧ ∀ j, j < 4 → g j = some (so x j))
def cRow (h : AH) (x : Nat) (r : Nat × ((Nat → Nat) × (Nat → Int32))) : Prop := ∃ D, isRow h (x + 1) D 40 ∧ D.1 = nI r.1 ∧ ∀ j, j < r.1 → D.2.1 j = nI (r.2.1 j) ∧ D.2.2 j = r.2.2 j
def cSil (h : AH) (x : Nat) : Prop := ∃ M, isM h (x + 7) M ∧ MTT M T0
def cPair (h : AH) (x : Nat) : Prop := ∃ D, isPair h (x + 12) D
def cRun (h : AH) (x : Nat) : Prop := ∃ D, isRun h (x + 14) D
def cWalk (h : AH) (x : Nat) : Prop := ∃ I A, isWlk h (x + 17) I A ∧ WV I A
def cWr (h : AH) (x : Nat) : Prop := ∃ D1 D2, isRun h (x + 30) D1 ∧ isRun h (x + 33) D2
/-- the least row that is known is the one of two machines -/
def lsOK (m : Nat × (Nat → TM)) (X : CX0) (D : D_Row) : Prop := X.1 = 0 ∨ (X.1 = 1 ∧ ∃ i U, i < m.1 ∧ X.2.1 = nI i ∧ ((X.2.2.1 = NO ∧ U = T0) ∨ ∃ j, j < m.1 ∧ X.2.2.1 = nI j ∧ U = m.2 j) ∧ X.2.2.2.1 = oI (lenF (m.2 i) U) ∧ ∀ n, lenF (m.2 i) U = some n → D.1 = nI n ∧ ∀ j, j < n → D.2.1 j = nI (LLf (m.2 i) U j) ∧ D.2.2 j = nI (NNf (m.2 i) U j))
def cLeast (h : AH) (x : Nat) (m : Nat × (Nat → TM)) (X : CX0) : Prop := ∃ D, isRow h (x + 36) D 1872 ∧ lsOK m X D
/-- a machine of the class -/
def cM1 (h : AH) (a : Nat) (T : TM) (wt : Bool) : Prop := ∃ M, isM h a M ∧ MTT M T ∧ M.1.2.2.1 = bI wt ∧ ((M.1.2.2.2 = 0 ∧ wt = false) ∨ (M.1.2.2.2 = 1 ∧ FT T M.2.2.2.2))
def cMach (h : AH) (x : Nat) (m : Nat × (Nat → TM)) (w : Nat × (Nat → WS)) : Prop := (∀ j, j < m.1 → cM1 h (mo x j) (m.2 j) (wdB w j)) ∧ (∀ j, m.1 ≤ j → j < 7 → ∃ M, isM h (mo x j) M)
def cW1 (h : AH) (x a : Nat) (v : WS) : Prop := ∃ D, h.1 a = some (oB 6 [.ref (a + 1), .ref (mo x v.1), .int (nI v.2.2.2.1), .int (oI v.2.2.2.2)]) ∧ isRun h (a + 1) D ∧ CPo D v.2.1 v.2.2.1
def cWat (h : AH) (x : Nat) (w : Nat × (Nat → WS)) : Prop := (∀ j, j < w.1 → cW1 h x (wo x j) (w.2 j)) ∧ (∀ j, w.1 ≤ j → j < 4 → ∃ v g e D, h.1 (wo x j) = some (oB 6 [.ref (wo x j + 1), v, .int g, .int e]) ∧ isRun h (wo x j + 1) D)
def cSh (h : AH) (x : Nat) (c : Nat → SH) : Prop := ∀ k, k < 4 → ∃ D, isSheet h (so x k) D ∧ D.1 = (c k).1 ∧ D.2.1 = nI (c k).2.1 ∧ ∀ i, i < 60 → D.2.2 i = (c k).2.2 i
/-- machine m is like an earlier one -/
def lkB (m : Nat → TM) (k : Nat) : Bool := memN (fun i => match wF (m i) (m k) with | none => 1 | some _ => 0) 1 k
def unF (m : Nat × (Nat → TM)) : Nat := ctN (fun k => !lkB m.2 k) m.1
def cUn (m : Nat × (Nat → TM)) (X : CX0) : Prop := X.2.2.2.2 = NO ∨ X.2.2.2.2 = nI (unF m)
def isC (h : AH) (x : Nat) (s : SG) : Prop := ∃ X, cTop h x s.2.1.1 s.2.2.1.1 X ∧ cArr h x ∧ cRow h x s.1 ∧ cSil h x ∧ cPair h x ∧ cRun h x ∧ cWalk h x ∧ cWr h x ∧ cLeast h x s.2.1 X ∧ cMach h x s.2.1 s.2.2.1 ∧ cWat h x s.2.2.1 ∧ cSh h x s.2.2.2 ∧ cUn s.2.1 X
section FRA
variable {h h1 : AH} {x : Nat} {S : List (Nat × Nat)}
theorem cTop.fs {K W : Nat} {X : CX0} (q : cTop h x K W X) (p : Fs h h1 S) (hd : dj x 1 S) : cTop h1 x K W X := p.at (hd.one (by omega) (by omega)) q
theorem cArr.fs (q : cArr h x) (p : Fs h h1 S) (hd : dj (x + 4) 3 S) : cArr h1 x := by
  obtain ⟨⟨g1, a1, b1⟩, ⟨g2, a2, b2⟩, ⟨g3, a3, b3⟩⟩ := q
  exact ⟨⟨g1, p.at (hd.one (by omega) (by omega)) a1, b1⟩, ⟨g2, p.at (hd.one (by omega) (by omega)) a2, b2⟩, ⟨g3, p.at (hd.one (by omega) (by omega)) a3, b3⟩⟩
theorem cRow.fs {r : Nat × ((Nat → Nat) × (Nat → Int32))} (q : cRow h x r) (p : Fs h h1 S) (hd : dj (x + 1) 3 S) : cRow h1 x r := by
  obtain ⟨D, a, b⟩ := q
  exact ⟨D, a.fs p hd, b⟩
theorem cSil.fs (q : cSil h x) (p : Fs h h1 S) (hd : dj (x + 7) 5 S) : cSil h1 x := by
  obtain ⟨D, a, b⟩ := q
  exact ⟨D, a.fs p hd, b⟩
theorem cPair.fs (q : cPair h x) (p : Fs h h1 S) (hd : dj (x + 12) 2 S) : cPair h1 x := by
  obtain ⟨D, a⟩ := q
  exact ⟨D, a.fs p hd⟩
theorem cRun.fs (q : cRun h x) (p : Fs h h1 S) (hd : dj (x + 14) 3 S) : cRun h1 x := by
  obtain ⟨D, a⟩ := q
  exact ⟨D, a.fs p hd⟩
theorem cWalk.fs (q : cWalk h x) (p : Fs h h1 S) (hd : dj (x + 17) 13 S) : cWalk h1 x := by
  obtain ⟨I, A, a, b⟩ := q
  exact ⟨I, A, a.fs p hd, b⟩
theorem cWr.fs (q : cWr h x) (p : Fs h h1 S) (hd : dj (x + 30) 6 S) : cWr h1 x := by
  obtain ⟨D1, D2, a, b⟩ := q
  exact ⟨D1, D2, a.fs p (hd.mono (by omega) (by omega)), b.fs p (hd.mono (by omega) (by omega))⟩
theorem cLeast.fs {m : Nat × (Nat → TM)} {X : CX0} (q : cLeast h x m X) (p : Fs h h1 S) (hd : dj (x + 36) 3 S) : cLeast h1 x m X := by
  obtain ⟨D, a, b⟩ := q
  exact ⟨D, a.fs p hd, b⟩
theorem cM1.fs {a : Nat} {T : TM} {wt : Bool} (q : cM1 h a T wt) (p : Fs h h1 S) (hd : dj a 5 S) : cM1 h1 a T wt := by
  obtain ⟨M, a1, b⟩ := q
  exact ⟨M, a1.fs p hd, b⟩
theorem cMach.fs {m : Nat × (Nat → TM)} {w : Nat × (Nat → WS)} (q : cMach h x m w) (p : Fs h h1 S) (hd : dj (x + 39) 35 S) (h6 : m.1 ≤ 7) : cMach h1 x m w := ⟨fun j hj => (q.1 j hj).fs p (hd.mono (by unfold mo; omega) (by unfold mo; omega)), fun j h1 h2 => by
  obtain ⟨M, a⟩ := q.2 j h1 h2
  exact ⟨M, a.fs p (hd.mono (by unfold mo; omega) (by unfold mo; omega))⟩⟩
theorem cW1.fs {a : Nat} {v : WS} (q : cW1 h x a v) (p : Fs h h1 S) (hd : dj a 4 S) : cW1 h1 x a v := by
  obtain ⟨D, a1, a2, a3⟩ := q
  exact ⟨D, p.at (hd.one (by omega) (by omega)) a1, a2.fs p (hd.mono (by omega) (by omega)), a3⟩
theorem cWat.fs {w : Nat × (Nat → WS)} (q : cWat h x w) (p : Fs h h1 S) (hd : dj (x + 74) 16 S) (h4 : w.1 ≤ 4) : cWat h1 x w := ⟨fun j hj => (q.1 j hj).fs p (hd.mono (by unfold wo; omega) (by unfold wo; omega)), fun j h1 h2 => by
  obtain ⟨v, g, e, D, a1, a2⟩ := q.2 j h1 h2
  exact ⟨v, g, e, D, p.at (hd.one (by unfold wo; omega) (by unfold wo; omega)) a1, a2.fs p (hd.mono (by unfold wo; omega) (by unfold wo; omega))⟩⟩
theorem cSh.fs {c : Nat → SH} (q : cSh h x c) (p : Fs h h1 S) (hd : dj (x + 90) 8 S) : cSh h1 x c := fun k hk => by
  obtain ⟨D, a, b⟩ := q k hk
  exact ⟨D, a.fs p (hd.mono (by unfold so; omega) (by unfold so; omega)), b⟩
theorem isC.fr {s : SG} {q b n : Nat} (c : isC h x s) (w : WFS s q) (p : Fr h h1 b n) (hd : x + 98 ≤ b ∨ b + n ≤ x) : isC h1 x s := by
  obtain ⟨X, c1, c2, c3, c4, c5, c6, c7, c8, c9, c10, c11, c12, c13⟩ := c
  have D : ∀ o k, o + k ≤ 98 → dj (x + o) k [(b, n)] := fun o k hk => dj.cons (by omega) (dj.nil _ _)
  have w1 := w.2.1.1
  have w2 := w.2.2.1.1
  exact ⟨X, c1.fs p.s (D 0 1 (by omega)), c2.fs p.s (D 4 3 (by omega)), c3.fs p.s (D 1 3 (by omega)), c4.fs p.s (D 7 5 (by omega)), c5.fs p.s (D 12 2 (by omega)), c6.fs p.s (D 14 3 (by omega)), c7.fs p.s (D 17 13 (by omega)), c8.fs p.s (D 30 6 (by omega)), c9.fs p.s (D 36 3 (by omega)), c10.fs p.s (D 39 35 (by omega)) (by omega), c11.fs p.s (D 74 16 (by omega)) w2, c12.fs p.s (D 90 8 (by omega)), c13⟩
end FRA
/-! both together -/
def SS (h : AH) (x y : Nat) (s : SG) (q : Nat) : Prop := WFS s q ∧ isC h x s ∧ (∃ I A, isMod h y I A ∧ RS I A s) ∧ x + 98 ≤ y
def CO (d x : Nat) (h : AH) (s' : SG) (yc : Nat) (as : List Value) (r : Int32) : Prop := ∃ h1, call (d + 8) yc (.ref x :: as) h = some (some (.int r), h1) ∧ isC h1 x s' ∧ Fr h h1 x 98
def RO (d y : Nat) (s s' : SG) (yr : Nat) (as : List Value) (r : Int32) : Prop := ∀ h I A, RS I A s → ∃ I' A', call (d + 8) yr (.ref y :: as) (mkR h y I A) = some (some (.int r), mkR h y I' A') ∧ RS I' A' s'
/-- one call of both sides -/
def OP (d x y : Nat) (h : AH) (q yc yr : Nat) (as : List Value) : Prop := ∃ h1 h2 r s', call (d + 8) yc (.ref x :: as) h = some (some (.int r), h1) ∧ call (d + 8) yr (.ref y :: as) h1 = some (some (.int r), h2) ∧ SS h2 x y s' (q + 1) ∧ h2.2 = h.2 ∧ (∀ b, b < x → h1.1 b = h.1 b ∧ h2.1 b = h.1 b) ∧ ∃ I A, isMod h1 y I A
theorem comb {d x y : Nat} {h : AH} {s s' : SG} {q yc yr : Nat} {as : List Value} {r : Int32} (S : SS h x y s q) (c : CO d x h s' yc as r) (k : RO d y s s' yr as r) (w : WFS s' (q + 1)) : OP d x y h q yc yr as := by
  obtain ⟨s1, s2, ⟨I, A, s3, s4⟩, s5⟩ := S
  obtain ⟨h1, e1, e2, e3⟩ := c
  have m1 := s3.fr e3 (by omega)
  obtain ⟨I', A', f1, f2⟩ := k h1 I A s4
  rw [← mkR_self m1] at f1
  have fr := mkR_Fr h1 y I' A'
  exact ⟨h1, _, r, s', e1, f1, ⟨w, e2.fr w fr (by omega), ⟨I', A', mkR_is _ _ _ _, f2⟩, s5⟩, fr.1.trans e3.1, fun b hb => ⟨e3.2 b (by omega), (fr.2 b (by omega)).trans (e3.2 b (by omega))⟩, I, A, m1⟩
/-- a call that changes nothing on the class' side -/
theorem CO_same {d x : Nat} {h : AH} {s : SG} {yc : Nat} {as : List Value} {r : Int32} (c : isC h x s) (e : call (d + 8) yc (.ref x :: as) h = some (some (.int r), h)) : CO d x h s yc as r := ⟨h, e, c, Fr.rf _ _ _⟩
theorem RO_same {d y : Nat} {s : SG} {yr : Nat} {as : List Value} {r : Int32} (e : ∀ h I A, RS I A s → call (d + 8) yr (.ref y :: as) (mkR h y I A) = some (some (.int r), mkR h y I A)) : RO d y s s yr as r := fun h I A q => ⟨I, A, e h I A q, q⟩
/-- .. or only the reference's scratch -/
theorem RO_scr {d y : Nat} {s : SG} {yr : Nat} {as : List Value} {r : Int32} (e : ∀ h I A, RS I A s → ∃ I' A', call (d + 8) yr (.ref y :: as) (mkR h y I A) = some (some (.int r), mkR h y I' A') ∧ fra I I' A A' [12, 16, 22, 23, 24, 28, 29] [9, 10, 11, 13, 14, 15, 17, 18, 19, 20, 21, 25, 26, 27, 30]) : RO d y s s yr as r := fun h I A q => by
  obtain ⟨I', A', e1, e2⟩ := e h I A q
  exact ⟨I', A', e1, q.fa e2 (by decide) (by decide)⟩
