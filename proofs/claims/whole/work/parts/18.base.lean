/-! ===== the pure side: base ===== -/
theorem call_at {d y : Nat} (q : MT) (L : List (Option Value)) {as : List Value} {h : AH} (hq : mtab[y]? = some q) (hL : entL q.1.2.2.1 as = L) (hle : Nat.ble L.length q.1.2.2.1 = true) : call (d + 1) y as h = run d q 0 L [] h := by
  subst hL
  show (match mtab[y]? with
    | some q => bif Nat.ble (entL q.1.2.2.1 as).length q.1.2.2.1 then rn (call d) (Nat.blt 0 d) q 0 (entL q.1.2.2.1 as) [] h else none
    | none => none) = _
  rw [hq]
  show (bif Nat.ble (entL q.1.2.2.1 as).length q.1.2.2.1 then _ else none) = _
  rw [hle]
  rfl
theorem ifR {p : Prop} [Decidable p] {a b : Int32} {h : AH} : (if p then (some (some (.int a), h) : Option RV) else some (some (.int b), h)) = some (some (.int (if p then a else b)), h) := by
  by_cases hp : p
  · rw [if_pos hp, if_pos hp]
  · rw [if_neg hp, if_neg hp]
theorem isZ0 {f : Option RV} : isZ 0 f = f := if_pos (Or.inl rfl)
theorem isZ1 {f : Option RV} : isZ 1 f = f := if_pos (Or.inr rfl)
theorem isZi {p : Prop} [Decidable p] {f : Option RV} : isZ (if p then 1 else 0) f = f := by
  by_cases hp : p
  · rw [if_pos hp]; exact isZ1
  · rw [if_neg hp]; exact isZ0
theorem gfI_of {h : AH} {a ci k : Nat} {fs : List Value} {x : Int32} (ha : h.1 a = some (oB ci fs)) (hk : fs[k]? = some (.int x)) (f : Int32 → Option RV) : gfI h a ci k f = f x := by
  unfold gfI
  rw [ha]
  show (if ci = ci then _ else _) = _
  rw [if_pos rfl, hk]
theorem gfQ_of {h : AH} {a ci k : Nat} {fs : List Value} {x : Nat} (ha : h.1 a = some (oB ci fs)) (hk : fs[k]? = some (.ref x)) (n : Option RV) (f : Nat → Option RV) : gfQ h a ci k n f = f x := by
  unfold gfQ
  rw [ha]
  show (if ci = ci then _ else _) = _
  rw [if_pos rfl, hk]
theorem pfV_of {h : AH} {a ci k : Nat} {fs : List Value} (ha : h.1 a = some (oB ci fs)) (hk : k < fs.length) (v : Value) (f : AH → Option RV) : pfV h a ci k v f = f (hS h a (oB ci (fs.set k v))) := by
  unfold pfV
  rw [ha]
  show (if ci = ci ∧ k < fs.length then _ else _) = _
  rw [if_pos ⟨rfl, hk⟩]
theorem isO_of {h : AH} {a ci : Nat} {fs : List Value} (ha : h.1 a = some (oB ci fs)) (f : Option RV) : isO h a ci f = f := by
  unfold isO
  rw [ha]
  show (if ci = ci then _ else _) = _
  rw [if_pos rfl]
theorem ldI_of {h : AH} {a n : Nat} {g : Nat → Int32} {i : Int32} {j : Nat} (ha : h.1 a = some (aI 0 n g)) (hi : i = nI j) (hj : j < n) (hn : n < 2 ^ 31) (f : Int32 → Option RV) : ldI h a i f = f (g j) := by
  unfold ldI
  rw [ha]
  subst hi
  have h1 : (nI j).toNatClampNeg = j := nI_clamp (Nat.lt_trans hj hn)
  show (if _ then none else f (g _)) = _
  rw [h1, if_neg (by rintro (q | q | q); cases q; exact nI_pos (Nat.lt_trans hj hn) q; omega)]
theorem ldX_of {h : AH} {a n : Nat} {g : Nat → Int32} {i : Int32} {j : Nat} (ha : h.1 a = some (aI 2 n g)) (hi : i = nI j) (hj : j < n) (hn : n < 2 ^ 31) (f : Int32 → Option RV) : ldI h a i f = f (g j) := by
  unfold ldI
  rw [ha]
  subst hi
  have h1 : (nI j).toNatClampNeg = j := nI_clamp (Nat.lt_trans hj hn)
  show (if _ then none else f (g _)) = _
  rw [h1, if_neg (by rintro (q | q | q); cases q; exact nI_pos (Nat.lt_trans hj hn) q; omega)]
theorem ldZ_of {h : AH} {a n : Nat} {g : Nat → Int32} {i : Int32} {j : Nat} (ha : h.1 a = some (aI 1 n g)) (hi : i = nI j) (hj : j < n) (hn : n < 2 ^ 31) (f : Int32 → Option RV) : ldZ h a i f = f (g j) := by
  unfold ldZ
  rw [ha]
  subst hi
  have h1 : (nI j).toNatClampNeg = j := nI_clamp (Nat.lt_trans hj hn)
  show (if _ then none else f (g _)) = _
  rw [h1, if_neg (by rintro (q | q | q); exact q rfl; exact nI_pos (Nat.lt_trans hj hn) q; omega)]
theorem ldQ_of {h : AH} {a t n : Nat} {g : Nat → Option Nat} {i : Int32} {j b : Nat} (ha : h.1 a = some (aQ t n g)) (hi : i = nI j) (hj : j < n) (hn : n < 2 ^ 31) (hb : g j = some b) (m : Option RV) (f : Nat → Option RV) : ldQ h a i m f = f b := by
  unfold ldQ
  rw [ha]
  subst hi
  have h1 : (nI j).toNatClampNeg = j := nI_clamp (Nat.lt_trans hj hn)
  show (if _ then none else _) = _
  rw [h1, if_neg (by rintro (q | q); exact nI_pos (Nat.lt_trans hj hn) q; omega), hb]
theorem stI_of {h : AH} {a n : Nat} {g : Nat → Int32} {i x : Int32} {j : Nat} (ha : h.1 a = some (aI 0 n g)) (hi : i = nI j) (hj : j < n) (hn : n < 2 ^ 31) (f : AH → Option RV) : stI h a i x f = f (hS h a (aI 0 n (upd g j x))) := by
  unfold stI
  rw [ha]
  subst hi
  have h1 : (nI j).toNatClampNeg = j := nI_clamp (Nat.lt_trans hj hn)
  show (if _ then none else f _) = _
  rw [h1, if_neg (by rintro (q | q | q); exact q rfl; exact nI_pos (Nat.lt_trans hj hn) q; omega)]
theorem stZ_of {h : AH} {a n : Nat} {g : Nat → Int32} {i x : Int32} {j : Nat} (ha : h.1 a = some (aI 1 n g)) (hi : i = nI j) (hj : j < n) (hn : n < 2 ^ 31) (f : AH → Option RV) : stZ h a i x f = f (hS h a (aI 1 n (upd g j (x &&& 1)))) := by
  unfold stZ
  rw [ha]
  subst hi
  have h1 : (nI j).toNatClampNeg = j := nI_clamp (Nat.lt_trans hj hn)
  show (if _ then none else f _) = _
  rw [h1, if_neg (by rintro (q | q | q); exact q rfl; exact nI_pos (Nat.lt_trans hj hn) q; omega)]
  rfl
theorem lnI_of {h : AH} {a t n : Nat} {g : Nat → Int32} (ha : h.1 a = some (aI t n g)) (f : Int32 → Option RV) : lnA h a f = f (nI n) := by
  unfold lnA
  rw [ha]
  rfl
theorem lnQ_of {h : AH} {a t n : Nat} {g : Nat → Option Nat} (ha : h.1 a = some (aQ t n g)) (f : Int32 → Option RV) : lnA h a f = f (nI n) := by
  unfold lnA
  rw [ha]
  rfl
/-! the heap after a write -/
theorem hS_at (h : AH) (a : Nat) (e : AC) : (hS h a e).1 a = some e := if_pos rfl
theorem hS_ne {h : AH} {a b : Nat} {e : AC} (hb : b ≠ a) : (hS h a e).1 b = h.1 b := if_neg hb
theorem hS_2 (h : AH) (a : Nat) (e : AC) : (hS h a e).2 = h.2 := rfl
theorem hS_hS (h : AH) (a : Nat) (e e' : AC) : hS (hS h a e) a e' = hS h a e' := by
  unfold hS
  congr 1
  funext q
  by_cases hq : q = a
  · simp [hq]
  · simp [hq]
/-- nothing outside a block changed -/
def Fr (h h' : AH) (a n : Nat) : Prop := h'.2 = h.2 ∧ ∀ b, ¬ (a ≤ b ∧ b < a + n) → h'.1 b = h.1 b
theorem Fr.rf (h : AH) (a n : Nat) : Fr h h a n := ⟨rfl, fun _ _ => rfl⟩
theorem Fr.tr {h h1 h2 : AH} {a n : Nat} (p : Fr h h1 a n) (q : Fr h1 h2 a n) : Fr h h2 a n := ⟨q.1.trans p.1, fun b hb => (q.2 b hb).trans (p.2 b hb)⟩
theorem Fr.sub {h h1 : AH} {a n a' n' : Nat} (p : Fr h h1 a n) (h2 : a' ≤ a) (h3 : a + n ≤ a' + n') : Fr h h1 a' n' := ⟨p.1, fun b hb => p.2 b (by omega)⟩
theorem Fr.set {h : AH} {a n b : Nat} {e : AC} (hb : a ≤ b ∧ b < a + n) : Fr h (hS h b e) a n := ⟨rfl, fun q hq => hS_ne (fun e => hq (e ▸ hb))⟩
theorem Fr.at {h h1 : AH} {a n b : Nat} {e : AC} (p : Fr h h1 a n) (hb : ¬ (a ≤ b ∧ b < a + n)) (he : h.1 b = some e) : h1.1 b = some e := (p.2 b hb).trans he
theorem rI_some {x : Int32} {h : AH} (f : Int32 → AH → Option RV) : rI (some (.int x), h) f = f x h := rfl
theorem rV_some {h : AH} (f : AH → Option RV) : rV (none, h) f = f h := rfl
theorem rQ_some {x : Nat} {h : AH} (g : AH → Option RV) (f : Nat → AH → Option RV) : rQ (some (.ref x), h) g f = f x h := rfl
theorem rQ_null {h : AH} (g : AH → Option RV) (f : Nat → AH → Option RV) : rQ (some .null, h) g f = g h := rfl
theorem bind_some' {q : RV} {f : RV → Option RV} : (some q).bind f = f q := rfl
