/-! ===== new objects ===== -/
/-- over h0: an object at its top, and what was made behind it -/
def mkN (h0 : AH) (ci : Nat) (fs : List Value) (L : List AC) (k : Nat) : AH := (fun q => if q = h0.2.1 then some (oB ci fs) else if h0.2.1 < q ∧ q < h0.2.1 + 1 + L.length then L[q - h0.2.1 - 1]? else h0.1 q, (h0.2.1 + 1 + L.length, h0.2.2 + k))
section NEW
variable {h0 h : AH} {ci : Nat} {fs : List Value} {L : List AC} {k : Nat}
theorem nk_a (h0 : AH) (ci : Nat) (fs : List Value) (L : List AC) (k : Nat) : (mkN h0 ci fs L k).1 h0.2.1 = some (oB ci fs) := if_pos rfl
theorem nk_at (h0 : AH) (ci : Nat) (fs : List Value) (L : List AC) (k : Nat) {i : Nat} (hi : i < L.length) : (mkN h0 ci fs L k).1 (h0.2.1 + 1 + i) = L[i]? := by
  show (if _ then _ else if _ then _ else _) = _
  rw [if_neg (by omega), if_pos (by omega), show h0.2.1 + 1 + i - h0.2.1 - 1 = i by omega]
theorem nk_lo (h0 : AH) (ci : Nat) (fs : List Value) (L : List AC) (k : Nat) {q : Nat} (hq : q < h0.2.1) : (mkN h0 ci fs L k).1 q = h0.1 q := by
  show (if _ then _ else if _ then _ else _) = _
  rw [if_neg (by omega), if_neg (by omega)]
theorem nk_hi (h0 : AH) (ci : Nat) (fs : List Value) (L : List AC) (k : Nat) {q : Nat} (hq : h0.2.1 + 1 + L.length ≤ q) : (mkN h0 ci fs L k).1 q = h0.1 q := by
  show (if _ then _ else if _ then _ else _) = _
  rw [if_neg (by omega), if_neg (by omega)]
theorem nk_eq {h1 : AH} (ha : h1.1 h0.2.1 = some (oB ci fs)) (hL : ∀ i, i < L.length → h1.1 (h0.2.1 + 1 + i) = L[i]?) (ho : ∀ q, q < h0.2.1 ∨ h0.2.1 + 1 + L.length ≤ q → h1.1 q = h0.1 q) (h2 : h1.2 = (h0.2.1 + 1 + L.length, h0.2.2 + k)) : h1 = mkN h0 ci fs L k := by
  refine Prod.ext (funext fun q => ?_) h2
  by_cases e : q < h0.2.1
  · rw [ho q (Or.inl e), nk_lo _ _ _ _ _ e]
  · by_cases e2 : q = h0.2.1
    · rw [e2, ha, nk_a]
    · by_cases e3 : h0.2.1 + 1 + L.length ≤ q
      · rw [ho q (Or.inr e3), nk_hi _ _ _ _ _ e3]
      · obtain ⟨i, rfl⟩ : ∃ i, q = h0.2.1 + 1 + i := ⟨q - h0.2.1 - 1, by omega⟩
        rw [hL i (by omega), nk_at _ _ _ _ _ (by omega)]
theorem nk_0 (h : AH) (ci : Nat) (fs : List Value) (n : Nat) : hN h (oB ci fs) n = mkN h ci fs [] n := nk_eq (if_pos rfl) (fun i hi => absurd hi (Nat.not_lt_zero _)) (fun q hq => if_neg (by simp only [List.length_nil] at hq; omega)) rfl
theorem nk_new (e : AC) (n : Nat) : hN (mkN h0 ci fs L k) e n = mkN h0 ci fs (L ++ [e]) (k + n) := by
  have e0 : (mkN h0 ci fs L k).2.1 = h0.2.1 + 1 + L.length := rfl
  refine nk_eq ?_ (fun i hi => ?_) (fun q hq => ?_) ?_
  · show (if _ then _ else _) = _
    rw [e0, if_neg (by omega), nk_a]
  · show (if _ then _ else _) = _
    rw [List.length_append, List.length_singleton] at hi
    rw [e0]
    by_cases e : i = L.length
    · rw [if_pos (by omega), e, List.getElem?_append_right (Nat.le_refl _), Nat.sub_self]
      rfl
    · rw [if_neg (by omega), nk_at _ _ _ _ _ (by omega), List.getElem?_append_left (by omega)]
  · show (if _ then _ else _) = _
    rw [List.length_append, List.length_singleton] at hq
    rw [e0, if_neg (by omega)]
    rcases hq with hq | hq
    · exact nk_lo _ _ _ _ _ hq
    · exact nk_hi _ _ _ _ _ (by omega)
  · show (h0.2.1 + 1 + L.length + 1, h0.2.2 + k + n) = _
    rw [List.length_append, List.length_singleton, Nat.add_assoc h0.2.2]
    rfl
theorem nk_set {j : Nat} (hj : j < fs.length) (v : Value) (f : AH → Option RV) : pfV (mkN h0 ci fs L k) h0.2.1 ci j v f = f (mkN h0 ci (fs.set j v) L k) := by
  rw [pfV_of (nk_a h0 ci fs L k) hj v f]
  refine congrArg f (nk_eq (hS_at _ _ _) (fun i hi => ?_) (fun q hq => ?_) rfl)
  · rw [hS_ne (by omega), nk_at _ _ _ _ _ hi]
  · rw [hS_ne (by omega)]
    rcases hq with hq | hq
    · exact nk_lo _ _ _ _ _ hq
    · exact nk_hi _ _ _ _ _ hq
theorem nk_arr {j : Nat} (hj : j < fs.length) (e : AC) (n : Nat) (f : AH → Option RV) : pfV (hN (mkN h0 ci fs L k) e n) h0.2.1 ci j (.ref (mkN h0 ci fs L k).2.1) f = f (mkN h0 ci (fs.set j (.ref (h0.2.1 + 1 + L.length))) (L ++ [e]) (k + n)) := by
  rw [nk_new, nk_set hj]
  rfl
theorem nk_nk {cj : Nat} {fs' : List Value} {L' : List AC} {k' : Nat} : mkN (mkN h0 ci fs L k) cj fs' L' k' = mkN h0 ci fs (L ++ (oB cj fs' :: L')) (k + k') := by
  have e0 : (mkN h0 ci fs L k).2.1 = h0.2.1 + 1 + L.length := rfl
  refine nk_eq ?_ (fun i hi => ?_) (fun q hq => ?_) ?_
  · rw [nk_lo _ _ _ _ _ (by rw [e0]; omega), nk_a]
  · rw [List.length_append, List.length_cons] at hi
    by_cases e : i < L.length
    · rw [nk_lo _ _ _ _ _ (by rw [e0]; omega), nk_at _ _ _ _ _ e, List.getElem?_append_left e]
    · rw [List.getElem?_append_right (by omega)]
      by_cases e2 : i = L.length
      · rw [e2, ← e0, nk_a, Nat.sub_self]
        rfl
      · obtain ⟨z, rfl⟩ : ∃ z, i = L.length + 1 + z := ⟨i - L.length - 1, by omega⟩
        rw [show h0.2.1 + 1 + (L.length + 1 + z) = (mkN h0 ci fs L k).2.1 + 1 + z by rw [e0]; omega, nk_at _ _ _ _ _ (by omega), show L.length + 1 + z - L.length = z + 1 by omega, List.getElem?_cons_succ]
  · rw [List.length_append, List.length_cons] at hq
    rcases hq with hq | hq
    · rw [nk_lo _ _ _ _ _ (by rw [e0]; omega), nk_lo _ _ _ _ _ hq]
    · rw [nk_hi _ _ _ _ _ (by rw [e0]; omega), nk_hi _ _ _ _ _ (by omega)]
  · show (h0.2.1 + 1 + L.length + 1 + L'.length, h0.2.2 + k + k') = _
    rw [List.length_append, List.length_cons, Nat.add_assoc (h0.2.2)]
    refine Prod.ext ?_ rfl
    dsimp only
    omega
end NEW
theorem hj' {a b : Nat} (h : Nat.ble (a + 1) b = true) : a < b := Nat.le_of_ble_eq_true h
section KON
variable {d : Nat} (h : AH)
theorem K_27 : call (d + 2) 27 [.ref h.2.1] (hN h (oB 3 (dfl 3)) (dfl 3).length) = some (none, mkN h 3 [.int 0, .ref (h.2.1 + 1), .ref (h.2.1 + 2), .int (-4), .int 0] [aI 0 2 fun _ => 0, aI 0 2 fun _ => 0] 9) := by
  rw [nk_0, call_at mt_27 [some (.ref h.2.1)] rfl rfl rfl, nd_27_0 (St_run (d + 1) mt_27) rfl, nk_set (hj' rfl), nk_arr (hj' rfl), nk_arr (hj' rfl), nk_set (hj' rfl), nk_set (hj' rfl)]
  rfl
theorem K_16 : call (d + 2) 16 [.ref h.2.1] (hN h (oB 1 (dfl 1)) (dfl 1).length) = some (none, mkN h 1 [.ref (h.2.1 + 1), .int 0] [aI 0 6 fun _ => 0] 8) := by
  rw [nk_0, call_at mt_16 [some (.ref h.2.1)] rfl rfl rfl, nd_16_0 (St_run (d + 1) mt_16) rfl, nk_arr (hj' rfl), nk_set (hj' rfl)]
  rfl
theorem K_34 : call (d + 2) 34 [.ref h.2.1] (hN h (oB 4 (dfl 4)) (dfl 4).length) = some (none, mkN h 4 [.ref (h.2.1 + 1), .int (-4), .int 0] [aI 0 60 fun _ => 0] 63) := by
  rw [nk_0, call_at mt_34 [some (.ref h.2.1)] rfl rfl rfl, nd_34_0 (St_run (d + 1) mt_34) rfl, nk_arr (hj' rfl), nk_set (hj' rfl), nk_set (hj' rfl)]
  rfl
theorem K_21a : call (d + 2) 21 [.ref h.2.1, .int 40] (hN h (oB 2 (dfl 2)) (dfl 2).length) = some (none, mkN h 2 [.ref (h.2.1 + 1), .ref (h.2.1 + 2), .int 0] [aI 0 40 fun _ => 0, aI 0 40 fun _ => 0] 83) := by
  rw [nk_0, call_at mt_21 [some (.ref h.2.1), some (.int 40), none] rfl rfl rfl, nd_21_0 (St_run (d + 1) mt_21) rfl _ _ _ (by decide), show (if (40 : Int32) < 0 then (0 : Int32) else 40).toNatClampNeg = 40 from by decide, nk_set (hj' rfl), nk_arr (hj' rfl), nk_arr (hj' rfl)]
  rfl
theorem K_21b : call (d + 2) 21 [.ref h.2.1, .int 1872] (hN h (oB 2 (dfl 2)) (dfl 2).length) = some (none, mkN h 2 [.ref (h.2.1 + 1), .ref (h.2.1 + 2), .int 0] [aI 0 1872 fun _ => 0, aI 0 1872 fun _ => 0] 3747) := by
  rw [nk_0, call_at mt_21 [some (.ref h.2.1), some (.int 1872), none] rfl rfl rfl, nd_21_0 (St_run (d + 1) mt_21) rfl _ _ _ (by decide), show (if (1872 : Int32) < 0 then (0 : Int32) else 1872).toNatClampNeg = 1872 from by decide, nk_set (hj' rfl), nk_arr (hj' rfl), nk_arr (hj' rfl)]
  rfl
theorem K_58 : call (d + 3) 58 [.ref h.2.1] (hN h (oB 6 (dfl 6)) (dfl 6).length) = some (none, mkN h 6 [.ref (h.2.1 + 1), .null, .int 0, .int (-4)] [oB 3 [.int 0, .ref (h.2.1 + 1 + 1), .ref (h.2.1 + 1 + 2), .int (-4), .int 0], aI 0 2 fun _ => 0, aI 0 2 fun _ => 0] 13) := by
  rw [nk_0, call_at mt_58 [some (.ref h.2.1)] rfl rfl rfl, nd_58_0 (St_run (d + 2) mt_58) rfl, K_27, bind_some', rV_some, nk_nk, nk_set (hj' rfl), nk_set (hj' rfl), nk_set (hj' rfl), nk_set (hj' rfl)]
  rfl
def flM (a : Nat) (M : MD) : List Value := [.ref (a + 1), .ref (a + 2), .ref (a + 3), .int M.1.1, .int M.1.2.1, .int M.1.2.2.1, .ref (a + 4), .int M.1.2.2.2]
def clM (M : MD) : List AC := [aI 0 54 M.2.1, aI 0 54 M.2.2.1, aI 1 6 M.2.2.2.1, aI 0 36 M.2.2.2.2]
theorem nk_M (h : AH) (M : MD) (k : Nat) : isM (mkN h 0 (flM h.2.1 M) (clM M) k) h.2.1 M := ⟨nk_a _ _ _ _ _, nk_at _ _ _ _ _ (i := 0) (hj' rfl), nk_at _ _ _ _ _ (i := 1) (hj' rfl), nk_at _ _ _ _ _ (i := 2) (hj' rfl), nk_at _ _ _ _ _ (i := 3) (hj' rfl)⟩
theorem nk_Me {h h1 : AH} {M M' : MD} {k : Nat} (q : isM h1 h.2.1 M') (p : Fr (mkN h 0 (flM h.2.1 M) (clM M) k) h1 h.2.1 5) : h1 = mkN h 0 (flM h.2.1 M') (clM M') k := by
  refine nk_eq q.1 (fun i hi => ?_) (fun z hz => ?_) p.1
  · have hi' : i < 4 := hi
    rcases (show i = 0 ∨ i = 1 ∨ i = 2 ∨ i = 3 by omega) with rfl | rfl | rfl | rfl
    · exact q.2.1
    · exact q.2.2.1
    · exact q.2.2.2.1
    · exact q.2.2.2.2
  · have hz' : z < h.2.1 ∨ h.2.1 + 1 + 4 ≤ z := hz
    rw [p.2 z (by omega)]
    rcases hz with hz | hz
    · exact nk_lo _ _ _ _ _ hz
    · exact nk_hi _ _ _ _ _ hz
theorem K_0 : ∃ M : MD, call (d + 2) 0 [.ref h.2.1] (hN h (oB 0 (dfl 0)) (dfl 0).length) = some (none, mkN h 0 (flM h.2.1 M) (clM M) 158) ∧ MTT M T0 ∧ M.1.2.2.1 = 0 ∧ M.1.2.2.2 = 0 := by
  obtain ⟨h1, M, e1, e2, e3, e4⟩ := m_begin (d := d) (nk_M h ((1, (0, (0, 0))), (fun _ => 0, (fun _ => 0, (fun _ => 0, fun _ => 0)))) 158) 1 0
  refine ⟨M, ?_, ⟨by rw [e3.1]; rfl, by rw [e3.1]; rfl, e3.2.1, e3.2.2.1, fun j hj => by rw [e3.2.2.2.1 j hj]; rfl⟩, by rw [e3.1], by rw [e3.1]⟩
  rw [nk_Me e2 e4] at e1
  rw [nk_0, call_at mt_0 [some (.ref h.2.1)] rfl rfl rfl, nd_0_0 (St_run (d + 1) mt_0) rfl, nk_arr (hj' rfl), nk_arr (hj' rfl), nk_arr (hj' rfl), nk_set (hj' rfl), nk_set (hj' rfl), isZ0, nk_set (hj' rfl), nk_arr (hj' rfl), isZ0, nk_set (hj' rfl), isO_of (nk_a _ _ _ _ _)]
  refine Eq.trans (congrArg (fun q => Option.bind q fun q9 => rV q9 fun h10 => some (none, h10)) (show _ = some (none, mkN h 0 (flM h.2.1 M) (clM M) 158) from e1)) ?_
  rw [bind_some', rV_some]
def wlI : Nat → Int32 := fun _ => 0
def wlA : Nat → Nat → Int32 := fun _ _ => 0
def clW (a : Nat) : List AC := [aI 0 4320 (wlA 0), aI 0 1872 (wlA 1), aI 0 1872 (wlA 2), aI 0 1872 (wlA 3), aI 0 4 (wlA 8), aI 0 5 (wlA 9), aI 0 5 (wlA 10), aI 0 5 (wlA 11), aI 0 4 (wlA 12), aI 0 4 (wlA 13), aI 1 30 (wlA 14), aI 0 450 (wlA 15), oB 3 [.int 0, .ref (a + 13 + 1), .ref (a + 13 + 2), .int (-4), .int 0], aI 0 2 fun _ => 0, aI 0 2 fun _ => 0, oB 3 [.int 0, .ref (a + 16 + 1), .ref (a + 16 + 2), .int (-4), .int 0], aI 0 2 fun _ => 0, aI 0 2 fun _ => 0]
theorem K_39 : call (d + 3) 39 [.ref h.2.1] (hN h (oB 5 (dfl 5)) (dfl 5).length) = some (none, mkN h 5 (flWlk h.2.1 wlI) (clW h.2.1) 10479) := by
  rw [nk_0, call_at mt_39 [some (.ref h.2.1)] rfl rfl rfl, nd_39_0 (St_run (d + 2) mt_39) rfl, nk_arr (hj' rfl), nk_arr (hj' rfl), nk_arr (hj' rfl), nk_arr (hj' rfl), nk_set (hj' rfl), nk_set (hj' rfl), nk_set (hj' rfl), nk_set (hj' rfl), nk_arr (hj' rfl), nk_arr (hj' rfl), nk_arr (hj' rfl), nk_arr (hj' rfl), nk_arr (hj' rfl), nk_arr (hj' rfl), nk_arr (hj' rfl), nk_arr (hj' rfl), K_27, bind_some', rV_some, nk_nk, nk_set (hj' rfl), K_27, bind_some', rV_some, nk_nk, nk_set (hj' rfl)]
  rfl
end KON
