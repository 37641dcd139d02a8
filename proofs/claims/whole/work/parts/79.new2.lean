/-! ===== the class, new ===== -/
theorem stQ_at {h : AH} {a t n : Nat} {g : Nat → Option Nat} {i : Int32} {j v : Nat} {fs : List Value} (ha : h.1 a = some (aQ t n g)) (hi : i = nI j) (hj : j < n) (hn : n < 2 ^ 31) (hv : h.1 v = some (oB (qcl t) fs)) (f : AH → Option RV) : stQ h a i v f = f (hS h a (aQ t n (va_up g j (some v)))) := by
  unfold stQ
  rw [ha]
  subst hi
  have h1 : (nI j).toNatClampNeg = j := nI_clamp (Nat.lt_trans hj hn)
  show (if _ then none else _) = _
  rw [h1, if_neg (by rintro (q | q); exact nI_pos (Nat.lt_trans hj hn) q; omega), isO_of hv]
def XN : CX0 := (0, (-4, (-4, (-4, -4))))
def clC (a : Nat) (M : MD) : List AC := [oB 2 [.ref (a + 1 + 1), .ref (a + 1 + 2), .int 0], aI 0 40 fun _ => 0, aI 0 40 fun _ => 0, aQ 2 7 fun _ => none, aQ 3 4 fun _ => none, aQ 4 4 fun _ => none] ++ (oB 0 (flM (a + 7) M) :: clM M) ++ [oB 1 [.ref (a + 12 + 1), .int 0], aI 0 6 fun _ => 0, oB 3 [.int 0, .ref (a + 14 + 1), .ref (a + 14 + 2), .int (-4), .int 0], aI 0 2 fun _ => 0, aI 0 2 fun _ => 0] ++ (oB 5 (flWlk (a + 17) wlI) :: clW (a + 17)) ++ [oB 2 [.ref (a + 36 + 1), .ref (a + 36 + 2), .int 0], aI 0 1872 fun _ => 0, aI 0 1872 fun _ => 0]
def flC (a : Nat) : List Value := [.ref (a + 1), .ref (a + 4), .int 0, .ref (a + 5), .int 0, .ref (a + 6), .ref (a + 7), .ref (a + 12), .ref (a + 14), .ref (a + 17), .ref (a + 36), .int 0, .int (-4), .int (-4), .int (-4), .int (-4)]
set_option maxRecDepth 10000 in
theorem K_62a {d : Nat} (h : AH) : ∃ M : MD, call (d + 4) 62 [.ref h.2.1] (hN h (oB 7 (dfl 7)) (dfl 7).length) = run (d + 3) mt_62 141 [some (.ref h.2.1), some (.int (nI 0))] [] (mkN h 7 (flC h.2.1) (clC h.2.1 M) 14515) ∧ MTT M T0 := by
  have e0 : ∃ h1 : AH, (mkN h 7 ((((((dfl 7).set 0 (.ref (h.2.1 + 1))).set 1 (.ref (h.2.1 + 4))).set 2 (.int 0)).set 3 (.ref (h.2.1 + 5))).set 4 (.int 0) |>.set 5 (.ref (h.2.1 + 6))) [oB 2 [.ref (h.2.1 + 1 + 1), .ref (h.2.1 + 1 + 2), .int 0], aI 0 40 fun _ => 0, aI 0 40 fun _ => 0, aQ 2 7 fun _ => none, aQ 3 4 fun _ => none, aQ 4 4 fun _ => none] 114) = h1 := ⟨_, rfl⟩
  obtain ⟨h1, hh1⟩ := e0
  obtain ⟨M, m1, m2, m3, m4⟩ := K_0 (d := d + 1) h1
  refine ⟨M, ?_, m2⟩
  rw [nk_0, call_at mt_62 [some (.ref h.2.1), none] rfl rfl rfl, nd_62_0 (St_run (d + 3) mt_62) rfl, K_21a, bind_some', rV_some, nk_nk, nk_set (hj' rfl), nk_arr (hj' rfl), nk_set (hj' rfl), nk_arr (hj' rfl), nk_set (hj' rfl), nk_arr (hj' rfl)]
  rw [← hh1] at m1
  refine Eq.trans (congrArg (fun q => Option.bind q _) (show _ = some (none, _) from m1)) ?_
  rw [bind_some', rV_some, nk_nk, nk_set (hj' rfl), K_16, bind_some', rV_some, nk_nk, nk_set (hj' rfl), K_27, bind_some', rV_some, nk_nk, nk_set (hj' rfl), K_39, bind_some', rV_some, nk_nk, nk_set (hj' rfl), K_21b, bind_some', rV_some, nk_nk, nk_set (hj' rfl), isZ0, nk_set (hj' rfl), nk_set (hj' rfl), nk_set (hj' rfl), nk_set (hj' rfl), nk_set (hj' rfl)]
  rfl
section KQ
variable {x : Nat}
theorem l_kq {D pc fld arr t N n ci cc sl base : Nat} {E : AH → Option RV} {Q : AH → Nat → Prop} (hQ : ∀ h h' a, Q h a → (∀ b, a ≤ b → b < a + n → h'.1 b = h.1 b) → Q h' a) (hci : qcl t = ci) (hN1 : N < 100) (hg : ∀ h, cTop h x 0 0 XN → ∀ nn f, gfQ h x 7 fld nn f = f (x + arr)) (hstep : ∀ i h, run D mt_62 pc [some (.ref x), some (.int (nI i))] [] h = gfQ h x 7 fld none fun b1 => lnA h b1 fun v2 => if v2 ≤ nI i then E h else gfQ h x 7 fld none fun b3 => (call D cc [.ref h.2.1] (hN h (oB ci (dfl ci)) (dfl ci).length)).bind fun q4 => rV q4 fun h5 => stQ h5 b3 (nI i) h.2.1 fun h6 => run D mt_62 pc [some (.ref x), some (.int (nI i + 1))] [] h6) (hK : ∀ h, ∃ fs L, call D cc [.ref h.2.1] (hN h (oB ci (dfl ci)) (dfl ci).length) = some (none, mkN h ci fs L sl) ∧ L.length + 1 = n ∧ Q (mkN h ci fs L sl) h.2.1) (h1 : 0 < arr) (harr : arr < base) : ∀ (m i : Nat) (h : AH) (g : Nat → Option Nat), i + m = N → cTop h x 0 0 XN → h.1 (x + arr) = some (aQ t N g) → (∀ j, j < i → g j = some (x + base + n * j)) → h.2.1 = x + base + n * i → (∀ j, j < i → Q h (x + base + n * j)) → ∃ h' g', run D mt_62 pc [some (.ref x), some (.int (nI i))] [] h = E h' ∧ h'.1 (x + arr) = some (aQ t N g') ∧ (∀ j, j < N → g' j = some (x + base + n * j)) ∧ h'.2.1 = x + base + n * N ∧ h'.2.2 = h.2.2 + sl * m ∧ (∀ j, j < N → Q h' (x + base + n * j)) ∧ (∀ b, b < x + base → b ≠ x + arr → h'.1 b = h.1 b) := by
  intro m
  induction m with
  | zero =>
    intro i h g hi c ha hgj ht hq
    have hi' : i = N := by omega
    subst hi'
    refine ⟨h, g, ?_, ha, hgj, ht, by omega, hq, fun _ _ _ => rfl⟩
    rw [hstep, hg h c, lnQ_of ha, if_pos (nI_le (Nat.le_refl _) (by omega))]
  | succ m ih =>
    intro i h g hi c ha hgj ht hq
    obtain ⟨fs, L, k1, k2, k3⟩ := hK h
    have ha' : (mkN h ci fs L sl).1 (x + arr) = some (aQ t N g) := (nk_lo h ci fs L sl (by omega)).trans ha
    have hv : (mkN h ci fs L sl).1 h.2.1 = some (oB (qcl t) fs) := by rw [hci]; exact nk_a h ci fs L sl
    have c2 : cTop (hS (mkN h ci fs L sl) (x + arr) (aQ t N (va_up g i (some h.2.1)))) x 0 0 XN := (hS_ne (by omega)).trans ((nk_lo h ci fs L sl (by omega)).trans c)
    have low : ∀ b, b < h.2.1 → b ≠ x + arr → (hS (mkN h ci fs L sl) (x + arr) (aQ t N (va_up g i (some h.2.1)))).1 b = h.1 b := fun b hb hne => (hS_ne hne).trans (nk_lo h ci fs L sl hb)
    have mono : ∀ j, j < i → n * j + n ≤ n * i := fun j hj => by
      have := Nat.mul_le_mul_left n (show j + 1 ≤ i by omega)
      rw [Nat.mul_succ] at this
      exact this
    obtain ⟨h', g', e1, e2, e3, e4, e5, e6, e7⟩ := ih (i + 1) _ (va_up g i (some h.2.1)) (by omega) c2 (hS_at _ _ _) (fun j hj => by
      show (if j = i then some h.2.1 else g j) = _
      by_cases e : j = i
      · rw [if_pos e, ht, e]
      · rw [if_neg e]; exact hgj j (by omega)) (by
      show h.2.1 + 1 + L.length = _
      rw [ht, Nat.mul_succ]
      omega) (fun j hj => by
      by_cases e : j = i
      · rw [e, ← ht]
        exact hQ _ _ _ k3 (fun b hb1 hb2 => hS_ne (by omega))
      · have hm := mono j (by omega)
        exact hQ _ _ _ (hq j (by omega)) (fun b hb1 hb2 => low b (by omega) (by omega)))
    refine ⟨h', g', ?_, e2, e3, e4, ?_, e6, fun b hb hne => (e7 b hb hne).trans (low b (by omega) hne)⟩
    · rw [hstep, hg h c, lnQ_of ha, if_neg (nI_ge (by omega) (by omega)), hg h c, k1, bind_some', rV_some, stQ_at ha' rfl (by omega) (by omega) hv, nI_1]
      exact e1
    · rw [e5]
      show h.2.2 + sl + sl * m = _
      rw [Nat.mul_succ]
      omega
end KQ
