/-! ===== Walk: tellWays, giveNames ===== -/
theorem wy_lt (c v : Nat) : wy c v < 5 := by
  unfold wy
  repeat' split
  all_goals omega
section TW
variable {d a ro : Nat} {I : Nat → Int32} {A : Nat → Nat → Int32}
theorem l_tw1 {h : AH} {T U : TM} (hT : WFT T) (hU : WFT U) {B : BS} (g : GB T U B) (qw : isWlk h a I A) (r : WB I A B) {D : D_Row} (qr : isRow h ro D 1872) (e : Nat) (he : e < B.1) : ∀ (k x : Nat), x + k = wn B e → run d mt_52 5 [some (.ref a), some (.int (nI e)), some (.ref ro), some (.int (nI x)), some (.int (nI (wX B e k))), none] [] h = run d mt_52 43 [some (.ref a), some (.int (nI e)), some (.ref ro), some (.int (nI (wn B e))), none, none] [] h := by
  have hn := GB_most hT hU g
  obtain ⟨x0, xn, xl, xk⟩ := wX_ok g he
  intro k
  induction k with
  | zero =>
    intro x hx
    have : x = wn B e := by omega
    subst this
    rw [nd_52_5 (St_run d mt_52), x0]
    simp (disch := omega) only [↓L_m4, ↓L_m1, L_0, L_1, L_2, L_3, L_4, L_5, L_6, L_8, L_9, L_15, L_20, L_30, L_40, L_54, L_60, L_120, L_1872, L_4320, L_22500, le_t, le_f, lt_t, lt_f, eq_t, eq_f, eq_NO, NO_eq, NO_neg, MO_neg, bI_0, nI_add, pk_mul, pk_ds, rem_, nI_MO, nI_0MO, ↓reduceIte, eq_self, reduceCtorEq, Bool.true_eq_false, Bool.false_eq_true, isZn0, isZn1, isZb, bind_some', rI_some, rV_some, rQ_some, rQ_null, updA_at, updA_ne, pk_us, pk_un, ne_eq, not_false_eq_true, Nat.reduceEqDiff, updA_updA, Nat.reduceSub, Nat.reduceAdd, Nat.reduceMul, Nat.reduceDiv, Nat.zero_add, Nat.add_zero]
  | succ k ih =>
    intro x hx
    obtain ⟨k1, k2, k3⟩ := xk k (by omega)
    have r1 := r.1
    have r2 := (r.2.2.1 _ k1 k2).1
    rw [k3] at r2
    have ld : ∀ f, ldI h (a + 3) (nI (wX B e (k + 1))) f = f (nI (wX B e k)) := fun f => by rw [ldI_of qw.a2 rfl (show wX B e (k + 1) < 1872 by omega) (by decide), r2]
    rw [nd_52_5 (St_run d mt_52)]
    simp (disch := omega) only [↓L_m4, ↓L_m1, L_0, L_1, L_2, L_3, L_4, L_5, L_6, L_8, L_9, L_15, L_20, L_30, L_40, L_54, L_60, L_120, L_1872, L_4320, L_22500, le_t, le_f, lt_t, lt_f, eq_t, eq_f, eq_NO, NO_eq, NO_neg, MO_neg, bI_0, nI_add, pk_mul, pk_ds, rem_, nI_MO, nI_0MO, ↓reduceIte, eq_self, reduceCtorEq, Bool.true_eq_false, Bool.false_eq_true, isZn0, isZn1, isZb, bind_some', rI_some, rV_some, rQ_some, rQ_null, updA_at, updA_ne, pk_us, pk_un, ne_eq, not_false_eq_true, Nat.reduceEqDiff, updA_updA, Nat.reduceSub, Nat.reduceAdd, Nat.reduceMul, Nat.reduceDiv, Nat.zero_add, Nat.add_zero, qw.g4, r1, qr.g0, lnI_of qr.a0, qw.g2, ld]
    exact ih (x + 1) (by omega)
theorem nI_m1 (k : Nat) : nI k + MO = nI k - 1 := by rw [Int32.sub_eq_add_neg]; rfl
theorem nI_p1 (k : Nat) : nI (k + 1) - 1 = nI k := nI_pred k
theorem l_tw2 {T U : TM} (hT : WFT T) (hU : WFT U) {B : BS} (g : GB T U B) (r : WB I A B) (e : Nat) (he : e < B.1) (hd : ro + 3 ≤ a ∨ a + 13 ≤ ro) : ∀ (k : Nat) (h : AH) (D : D_Row), isWlk h a I A → isRow h ro D 1872 → k ≤ wn B e → ∃ h' f g', run d mt_52 56 [some (.ref a), none, some (.ref ro), none, some (.int (nI (wX B e k))), some (.int (nI k - 1))] [] h = some (none, h') ∧ isRow h' ro (D.1, (f, g')) 1872 ∧ (∀ j, j < k → f j = nI (wL B e j) ∧ g' j = nI (wy (wC B e j) (wV B e j))) ∧ (∀ j, k ≤ j → f j = D.2.1 j ∧ g' j = D.2.2 j) ∧ Fr h h' ro 3 := by
  have hn := GB_most hT hU g
  obtain ⟨x0, xn, xl, xk⟩ := wX_ok g he
  intro k
  induction k with
  | zero =>
    intro h D qw qr hk
    refine ⟨h, D.2.1, D.2.2, ?_, qr, fun j hj => by omega, fun j _ => ⟨rfl, rfl⟩, Fr.rf _ _ _⟩
    rw [nd_52_56 (St_run d mt_52), if_pos (by decide), nd_52_122 (St_run d mt_52)]
  | succ k ih =>
    intro h D qw qr hk
    obtain ⟨k1, k2, k3⟩ := xk k (by omega)
    have r1 := r.1
    obtain ⟨r2, r3⟩ := r.2.2.1 _ k1 k2
    rw [k3] at r2 r3
    have hw := wy_lt (wC B e k) (wV B e k)
    have r4 : A 3 (wX B e (k + 1)) = nI (5 * wL B e k + wy (wC B e k) (wV B e k)) := r3
    have hL := (wW hT hU g he).1.2 k (by omega)
    have hL3 := hL.2.1
    have qr1 := qr.w0 (upd D.2.1 k (nI (wL B e k)))
    have f1 : Fr h (hS h (ro + 1) (aI 0 1872 (upd D.2.1 k (nI (wL B e k))))) ro 3 := Fr.set ⟨by omega, by omega⟩
    have qw1 := qw.fr f1 (by omega)
    have qr2 := qr1.w1 (upd D.2.2 k (nI (wy (wC B e k) (wV B e k))))
    have f2 : Fr (hS h (ro + 1) (aI 0 1872 (upd D.2.1 k (nI (wL B e k))))) (hS (hS h (ro + 1) (aI 0 1872 (upd D.2.1 k (nI (wL B e k))))) (ro + 2) (aI 0 1872 (upd D.2.2 k (nI (wy (wC B e k) (wV B e k)))))) ro 3 := Fr.set ⟨by omega, by omega⟩
    have qw2 := qw1.fr f2 (by omega)
    obtain ⟨h', f, g', e1, e2, e3, e4, e5⟩ := ih _ _ qw2 qr2 (by omega)
    dsimp only at e2 e4
    have l3 : ∀ f, ldI h (a + 4) (nI (wX B e (k + 1))) f = f (nI (5 * wL B e k + wy (wC B e k) (wV B e k))) := fun f => by rw [ldI_of qw.a3 rfl (show wX B e (k + 1) < 1872 by omega) (by decide), r4]
    have l3' : ∀ f, ldI (hS h (ro + 1) (aI 0 1872 (upd D.2.1 k (nI (wL B e k))))) (a + 4) (nI (wX B e (k + 1))) f = f (nI (5 * wL B e k + wy (wC B e k) (wV B e k))) := fun f => by rw [ldI_of qw1.a3 rfl (show wX B e (k + 1) < 1872 by omega) (by decide), r4]
    have l2 : ∀ f, ldI (hS (hS h (ro + 1) (aI 0 1872 (upd D.2.1 k (nI (wL B e k))))) (ro + 2) (aI 0 1872 (upd D.2.2 k (nI (wy (wC B e k) (wV B e k)))))) (a + 3) (nI (wX B e (k + 1))) f = f (nI (wX B e k)) := fun f => by rw [ldI_of qw2.a2 rfl (show wX B e (k + 1) < 1872 by omega) (by decide), r2]
    have s1 : ∀ x f, stI h (ro + 1) (nI k) x f = f (hS h (ro + 1) (aI 0 1872 (upd D.2.1 k x))) := fun x f => stI_of qr.a0 rfl (show k < 1872 by omega) (by decide) f
    have s2 : ∀ x f, stI (hS h (ro + 1) (aI 0 1872 (upd D.2.1 k (nI (wL B e k))))) (ro + 2) (nI k) x f = f (hS (hS h (ro + 1) (aI 0 1872 (upd D.2.1 k (nI (wL B e k))))) (ro + 2) (aI 0 1872 (upd D.2.2 k x))) := fun x f => stI_of qr1.a1 rfl (show k < 1872 by omega) (by decide) f
    have d1 : (5 * wL B e k + wy (wC B e k) (wV B e k)) / 5 = wL B e k := by omega
    have d2 : nI (5 * wL B e k + wy (wC B e k) (wV B e k)) - nI (wL B e k * 5) = nI (wy (wC B e k) (wV B e k)) := by
      rw [pk_sub (by omega)]
      congr 1
      omega
    have d3 : (5 * wL B e k + wy (wC B e k) (wV B e k)) % 5 = wy (wC B e k) (wV B e k) := by omega
    refine ⟨h', f, g', ?_, e2, fun j hj => ?_, fun j hj => ?_, Fr.tr (Fr.tr f1 f2) e5⟩
    · rw [nd_52_56 (St_run d mt_52), nI_p1]
      have e1' := e1
      rw [← nI_m1] at e1'
      simp (disch := omega) only [↓L_m4, ↓L_m1, L_0, L_1, L_2, L_3, L_4, L_5, L_6, L_8, L_9, L_15, L_20, L_30, L_40, L_54, L_60, L_120, L_1872, L_4320, L_22500, le_t, le_f, lt_t, lt_f, eq_t, eq_f, eq_NO, NO_eq, NO_neg, MO_neg, bI_0, nI_add, pk_mul, pk_ds, rem_, nI_MO, nI_0MO, ↓reduceIte, eq_self, reduceCtorEq, Bool.true_eq_false, Bool.false_eq_true, isZn0, isZn1, isZb, bind_some', rI_some, rV_some, rQ_some, rQ_null, updA_at, updA_ne, pk_us, pk_un, ne_eq, not_false_eq_true, Nat.reduceEqDiff, updA_updA, Nat.reduceSub, Nat.reduceAdd, Nat.reduceMul, Nat.reduceDiv, Nat.zero_add, Nat.add_zero, qw.g4, r1, qr.g0, qr1.g1, qw.g3, qw1.g3, qw2.g2, l3, l3', l2, s1, s2, d1, d2, d3]
      exact e1'
    · by_cases hjk : j < k
      · exact e3 j hjk
      · have : j = k := by omega
        subst this
        have := e4 j (Nat.le_refl _)
        rw [pk_us, pk_us] at this
        exact this
    · have := e4 j (by omega)
      rw [pk_un (by omega), pk_un (by omega)] at this
      exact this
theorem W_tellWays {h : AH} {T U : TM} (hT : WFT T) (hU : WFT U) {B : BS} (g : GB T U B) (qw : isWlk h a I A) (r : WB I A B) {D : D_Row} (qr : isRow h ro D 1872) (hd : ro + 3 ≤ a ∨ a + 13 ≤ ro) (e : Nat) (he : e < B.1) : ∃ h' f g', call (d + 1) 52 [.ref a, .int (nI e), .ref ro] h = some (none, h') ∧ isRow h' ro (nI (wn B e), (f, g')) 1872 ∧ (∀ j, j < wn B e → f j = nI (wL B e j) ∧ g' j = nI (wy (wC B e j) (wV B e j))) ∧ Fr h h' ro 3 := by
  obtain ⟨x0, xn, xl, xk⟩ := wX_ok g he
  have l1 := l_tw1 (d := d) hT hU g qw r qr e he (wn B e) 0 (by omega)
  rw [xn] at l1
  have qr1 := qr.u2 (nI (wn B e))
  have f1 : Fr h (hS h ro (oB 2 [.ref (ro + 1), .ref (ro + 2), .int (nI (wn B e))])) ro 3 := Fr.set ⟨by omega, by omega⟩
  have qw1 := qw.fr f1 (by omega)
  obtain ⟨h', f, g', e1, e2, e3, e4, e5⟩ := l_tw2 (d := d) hT hU g r e he hd (wn B e) _ _ qw1 qr1 (Nat.le_refl _)
  refine ⟨h', f, g', ?_, e2, e3, Fr.tr f1 e5⟩
  rw [call_at mt_52 [some (.ref a), some (.int (nI e)), some (.ref ro), none, none, none] rfl rfl rfl, nd_52_0 (St_run d mt_52)]
  refine l1.trans ?_
  rw [nd_52_43 (St_run d mt_52), qr.p2]
  rw [xn] at e1
  exact e1
end TW
theorem asg_lo (rn : Nat → Nat) {kA kB y r : Nat} (hA : kA = 2 ∨ kA < 2) (hr : r < 2) : asg (asg rn 0 kA y) 2 kB y r = if r = kA then y else rn r := by
  have : asg (asg rn 0 kA y) 2 kB y r = asg rn 0 kA y r := by
    unfold asg
    by_cases h : kB = 2
    · rw [if_pos h]
    · rw [if_neg h, updN_ne (by omega)]
  rw [this]
  unfold asg
  by_cases h : kA = 2
  · rw [if_pos h, if_neg (by omega)]
  · rw [if_neg h]
    by_cases e : r = kA
    · rw [if_pos e, e, Nat.zero_add, updN_at]
    · rw [if_neg e, updN_ne (by omega)]
theorem asg_hi (rn : Nat → Nat) {kA kB y r : Nat} (hA : kA = 2 ∨ kA < 2) (hB : kB = 2 ∨ kB < 2) (hr : r < 2) : asg (asg rn 0 kA y) 2 kB y (2 + r) = if r = kB then y else rn (2 + r) := by
  have hA' : asg rn 0 kA y (2 + r) = rn (2 + r) := by
    unfold asg
    by_cases h : kA = 2
    · rw [if_pos h]
    · rw [if_neg h, updN_ne (by omega)]
  by_cases h : kB = 2
  · rw [if_neg (by omega), ← hA']
    unfold asg
    rw [if_pos h]
  · by_cases e : r = kB
    · rw [if_pos e, e]
      unfold asg
      rw [if_neg h, updN_at]
    · rw [if_neg e, ← hA']
      unfold asg
      rw [if_neg h, updN_ne (by omega)]
