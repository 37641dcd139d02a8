/-! ===== watches ===== -/
def setW (f : Nat → WS) (i : Nat) (v : WS) (j : Nat) : WS := if j = i then v else f j
theorem setW_at (f : Nat → WS) (i : Nat) (v : WS) : setW f i v i = v := if_pos rfl
theorem setW_ne {f : Nat → WS} {i : Nat} {v : WS} {j : Nat} (h : j ≠ i) : setW f i v j = f j := if_neg h
theorem wdB_new (W : Nat) (f : Nat → WS) (v : WS) (m : Nat) : wdB (W + 1, setW f W v) m = (wdB (W, f) m || v.1 == m) := by
  show memN (fun i => (setW f W v i).1) m (W + 1) = (memN (fun i => (f i).1) m W || v.1 == m)
  rw [memN_s, setW_at]
  rw [memN_cg (q := fun i => (setW f W v i).1) (q' := fun i => (f i).1) (fun j hj => by rw [setW_ne (show j ≠ W by omega)])]
theorem wdB_same {W i : Nat} {f : Nat → WS} {v : WS} (m : Nat) (hv : v.1 = (f i).1) : wdB (W, setW f i v) m = wdB (W, f) m := by
  unfold wdB
  refine memN_cg (fun j hj => ?_)
  show (setW f i v j).1 = (f j).1
  by_cases e : j = i
  · rw [e, setW_at, hv]
  · rw [setW_ne e]
def isWo (h : AH) (a : Nat) (v : Value) (g e : Int32) : Prop := h.1 a = some (oB 6 [.ref (a + 1), v, .int g, .int e])
section WO
variable {h : AH} {a b : Nat} {v : Value} {g e : Int32}
theorem isWo.o (q : isWo h a v g e) (f : Option RV) : isO h a 6 f = f := isO_of q f
theorem isWo.g0 (q : isWo h a v g e) (n : Option RV) (f : Nat → Option RV) : gfQ h a 6 0 n f = f (a + 1) := gfQ_of q rfl n f
theorem isWo.g1 (q : isWo h a (.ref b) g e) (n : Option RV) (f : Nat → Option RV) : gfQ h a 6 1 n f = f b := gfQ_of q rfl n f
theorem isWo.g2 (q : isWo h a v g e) (f : Int32 → Option RV) : gfI h a 6 2 f = f g := gfI_of q rfl f
theorem isWo.g3 (q : isWo h a v g e) (f : Int32 → Option RV) : gfI h a 6 3 f = f e := gfI_of q rfl f
def oWo (a : Nat) (v : Value) (g e : Int32) : AC := oB 6 [.ref (a + 1), v, .int g, .int e]
theorem isWo.mk (h : AH) (a : Nat) (v : Value) (g e : Int32) : isWo (hS h a (oWo a v g e)) a v g e := hS_at _ _ _
theorem isWo.p1 (q : isWo h a v g e) (b : Nat) (f : AH → Option RV) : pfV h a 6 1 (.ref b) f = f (hS h a (oWo a (.ref b) g e)) := pfV_of q (Nat.le_of_ble_eq_true rfl) _ f
theorem isWo.p2 (q : isWo h a v g e) (x : Int32) (f : AH → Option RV) : pfV h a 6 2 (.int x) f = f (hS h a (oWo a v x e)) := pfV_of q (Nat.le_of_ble_eq_true rfl) _ f
theorem isWo.p3 (q : isWo h a v g e) (x : Int32) (f : AH → Option RV) : pfV h a 6 3 (.int x) f = f (hS h a (oWo a v g x)) := pfV_of q (Nat.le_of_ble_eq_true rfl) _ f
theorem isWo.fr1 (h : AH) (a : Nat) (v : Value) (g e : Int32) : Fr h (hS h a (oWo a v g e)) a 4 := Fr.set ⟨by omega, by omega⟩
theorem isWo.fr0 (h : AH) (a : Nat) (v : Value) (g e : Int32) : Fr h (hS h a (oWo a v g e)) a 1 := Fr.set ⟨by omega, by omega⟩
theorem isWo.fr (q : isWo h a v g e) {h1 : AH} {b n : Nat} (p : Fr h h1 b n) (hd : a + 1 ≤ b ∨ b + n ≤ a) : isWo h1 a v g e := p.at (by omega) q
end WO
/-- where a watch is done for, from its orbit -/
noncomputable def dnO (T : TM) (c n : Nat) : Option Nat := if alB T c = true then none else some n
section WATCH
variable {d x y q K W : Nat} {h : AH} {s : SG} {X : CX0}
theorem C_wAt (q : cTop h x K W X) (a : cArr h x) (hW : W ≤ 4) (j : Nat) (hj : j < W) : call (d + 1) 96 [.ref x, .int (nI j)] h = some (some (.ref (wo x j)), h) := by
  obtain ⟨_, ⟨g, a1, a2⟩, _⟩ := a
  rw [call_at mt_96 [some (.ref x), some (.int (nI j))] rfl rfl rfl, nd_96_0 (St_run d mt_96), if_neg (nI_pos (by omega)), q.g4, if_neg (nI_ge hj (by omega)), q.g3, ldQ_of a1 rfl (show j < 4 by omega) (by decide) (a2 j (by omega)), nd_96_22 (St_run d mt_96)]
theorem C_wNo (q : cTop h x K W X) (hW : W ≤ 4) (m : Int32) (hm : ∀ j, j < W → m ≠ nI j) : call (d + 1) 96 [.ref x, .int m] h = some (some .null, h) := by
  rw [call_at mt_96 [some (.ref x), some (.int m)] rfl rfl rfl, nd_96_0 (St_run d mt_96), q.g4, nd_96_21 (St_run d mt_96), nd_96_22_2 (St_run d mt_96)]
  by_cases h0 : m < 0
  · rw [if_pos h0]
  · obtain ⟨j, hj, rfl⟩ := nI_of h0
    rw [if_neg h0, if_pos (nI_le (by have := hm j; by_cases e : j < W; exact absurd rfl (this e); omega) hj)]
theorem C_wbegin {a b : Nat} {v : Value} {g e : Int32} {D : D_Run} {M : MD} {T : TM} (q : isWo h a v g e) (r : isRun h (a + 1) D) (m : isM h b M) (t : MTT M T) (hT : WFT T) (ft : FT T M.2.2.2.2) (hd : a + 4 ≤ b ∨ b + 5 ≤ a) : ∃ h' D', call (d + 4) 59 [.ref a, .ref b] h = some (none, h') ∧ isWo h' a (.ref b) 0 (oI (dnO T 0 0)) ∧ isRun h' (a + 1) D' ∧ CPo D' P0 0 ∧ Fr h h' a 4 := by
  have q1 := isWo.mk h a (.ref b) g e
  have f1 := isWo.fr0 h a (.ref b) g e
  obtain ⟨h2, D2, e1, e2, e3, e4, e5, e6⟩ := C_runBegin (d := d + 2) (r.fr f1 (by omega))
  have q2 := q1.fr e6 (by omega)
  have q3 := isWo.mk h2 a (.ref b) 0 e
  have f3 := isWo.fr0 h2 a (.ref b) 0 e
  have m3 := ((m.fr f1 (by omega)).fr e6 (by omega)).fr f3 (by omega)
  have dm := C_isDoomed (d := d) (e2.fr f3 (by omega)) m3 t hT ft (PG_0 hT) e3
  have q4 := isWo.mk (hS h2 a (oWo a (.ref b) 0 e)) a (.ref b) 0 (oI (dnO T 0 0))
  have f4 := isWo.fr0 (hS h2 a (oWo a (.ref b) 0 e)) a (.ref b) 0 (oI (dnO T 0 0))
  refine ⟨_, D2, ?_, q4, (e2.fr f3 (by omega)).fr f4 (by omega), e3, (((f1.sub (by omega) (by omega)).tr (e6.sub (by omega) (by omega))).tr (f3.sub (by omega) (by omega))).tr (f4.sub (by omega) (by omega))⟩
  rw [call_at mt_59 [some (.ref a), some (.ref b)] rfl rfl rfl, nd_59_0 (St_run (d + 3) mt_59), q.p1, q1.g0, (r.fr f1 (by omega)).o, e1, bind_some', rV_some, q2.p2, q3.g0, (e2.fr f3 (by omega)).o, dm, bind_some', rI_some, nd_59_35 (St_run (d + 3) mt_59), nd_59_35 (St_run (d + 3) mt_59), q3.p3, q3.p3]
  unfold dnO
  rw [show P0.1 = 0 from rfl]
  cases alB T 0 with
  | true => rw [if_pos (by rfl), if_pos rfl]; rfl
  | false => rw [if_neg (by decide), if_neg (by decide)]; rfl
theorem dn_NO {o : Option Nat} (h : ∀ e, o = some e → e < 2 ^ 31) : (oI o = -4) ↔ o = none := by
  cases o with
  | none => exact ⟨fun _ => rfl, fun _ => rfl⟩
  | some e =>
    refine ⟨fun e' => ?_, fun e' => by cases e'⟩
    have h1 : NO = nI e := (L_m4.symm.trans e'.symm)
    rw [NO_eq (h e rfl)] at h1
    exact absurd h1 (fun f => f)
theorem C_isDone {a : Nat} {v : Value} {g : Int32} {o : Option Nat} (q : isWo h a v g (oI o)) (ho : ∀ e, o = some e → e < 2 ^ 31) : call (d + 1) 60 [.ref a] h = some (some (.int (bI o.isSome)), h) := by
  rw [call_at mt_60 [some (.ref a)] rfl rfl rfl, nd_60_0 (St_run d mt_60), q.g3, nd_60_14 (St_run d mt_60), nd_60_14 (St_run d mt_60), isZ0, isZ1]
  cases o with
  | none => rw [if_pos ((dn_NO ho).mpr rfl)]; rfl
  | some e => rw [if_neg (fun e' => by have := (dn_NO ho).mp e'; cases this)]; rfl
/-- a place comes to a watch that goes on -/
theorem C_wtake {a b gd n : Nat} {D : D_Run} {M : MD} {T : TM} {P : PO} (q : isWo h a (.ref b) (nI gd) (oI none)) (r : isRun h (a + 1) D) (m : isM h b M) (t : MTT M T) (hT : WFT T) (ft : FT T M.2.2.2.2) (hd : a + 4 ≤ b ∨ b + 5 ≤ a) (g : PG T P) (c : CPo D P n) (hn : n < 2 ^ 31) (l : Nat) (hl : l < 3) (yy : Int32) : ∃ h' D', call (d + 4) 61 [.ref a, .int (nI l), .int yy] h = some (some (.int (if alB T (psT T P l yy (nI n)).1 = true then bI (T.2.2.2 ((psT T P l yy (nI n)).1 / 625 / 6)) else -5)), h') ∧ isWo h' a (.ref b) (nI (gd + if T.2.2.2 ((psT T P l yy (nI n)).1 / 625 / 6) = true then 1 else 0)) (oI (dnO T (psT T P l yy (nI n)).1 (n + 1))) ∧ isRun h' (a + 1) D' ∧ CPo D' (psT T P l yy (nI n)) (n + 1) ∧ Fr h h' a 4 := by
  obtain ⟨h1, D1, e1, e2, e3, e4, e5, e6⟩ := C_go (d := d + 1) r m (by omega) t hT g c hn l hl yy
  have g1 := PG_step hT g hl yy (nI n)
  have vc := g1.vd hT
  have q1 := q.fr e6 (by omega)
  have m1 := m.fr e6 (by omega)
  have dm := C_isDoomed (d := d) e2 m1 t hT ft g1 e3
  have go := W_good (d := d + 1) m1 t hT _ vc.2.2.1
  have dn := C_isDone (d := d + 2) (o := none) q (fun e h => by cases h)
  have st : D1.1 = nI ((psT T P l yy (nI n)).1 / 625 / 6) := e3.1.1
  have pre : call (d + 4) 61 [.ref a, .int (nI l), .int yy] h = if bI (!alB T (psT T P l yy (nI n)).1) = 0 then (if bI (T.2.2.2 ((psT T P l yy (nI n)).1 / 625 / 6)) = 0 then some (some (.int 0), h1) else some (some (.int 1), hS h1 a (oWo a (.ref b) (nI gd + 1) (oI none)))) else some (some (.int (-5)), hS h1 a (oWo a (.ref b) (nI gd) (nI (n + 1)))) := by
    rw [call_at mt_61 [some (.ref a), some (.int (nI l)), some (.int yy)] rfl rfl rfl, nd_61_0 (St_run (d + 3) mt_61), q.o, dn, bind_some', rI_some, if_pos (show bI (Option.isSome (none : Option Nat)) = 0 from rfl), q.g1, q.g0, q.g1, r.o, e1, bind_some', rV_some, q1.g0, q1.g1, e2.o, dm, bind_some', rI_some, q1.g1, q1.g0, e2.g0, st, m1.o, go, bind_some', rI_some, q1.g2, q1.p2, q1.g0, e2.g4, e3.2, q1.p3]
  unfold dnO
  cases ha : alB T (psT T P l yy (nI n)).1 with
  | false =>
    have hg : T.2.2.2 ((psT T P l yy (nI n)).1 / 625 / 6) = false := by
      cases hg : T.2.2.2 ((psT T P l yy (nI n)).1 / 625 / 6) with
      | false => rfl
      | true =>
        have := alB_iff.mpr (alv_good hg)
        rw [ha] at this
        cases this
    have q4 := isWo.mk h1 a (.ref b) (nI gd) (nI (n + 1))
    have f4 := isWo.fr0 h1 a (.ref b) (nI gd) (nI (n + 1))
    refine ⟨_, D1, ?_, ?_, e2.fr f4 (by omega), e3, (e6.sub (by omega) (by omega)).tr (f4.sub (by omega) (by omega))⟩
    · rw [pre, ha, if_neg (show ¬ bI (!false) = 0 by decide), if_neg (by decide)]
    · rw [hg, if_neg (by decide), if_neg (by decide)]
      exact q4
  | true =>
    rw [ha, if_pos (show bI (!true) = 0 from rfl)] at pre
    cases hg : T.2.2.2 ((psT T P l yy (nI n)).1 / 625 / 6) with
    | false =>
      refine ⟨h1, D1, ?_, ?_, e2, e3, e6.sub (by omega) (by omega)⟩
      · rw [pre, hg, if_pos (show bI false = 0 from rfl), if_pos rfl]
        rfl
      · rw [if_neg (by decide), if_pos rfl]
        exact q1
    | true =>
      have q4 := isWo.mk h1 a (.ref b) (nI gd + 1) (oI none)
      have f4 := isWo.fr0 h1 a (.ref b) (nI gd + 1) (oI none)
      refine ⟨_, D1, ?_, ?_, e2.fr f4 (by omega), e3, (e6.sub (by omega) (by omega)).tr (f4.sub (by omega) (by omega))⟩
      · rw [pre, hg, if_neg (show ¬ bI true = 0 by decide), if_pos rfl]
        rfl
      · rw [if_pos rfl, if_pos rfl, ← nI_1]
        exact q4
/-- the reference's isDead -/
theorem R_isDead {I : Nat → Int32} {A : Nat → Nat → Int32} {w i : Nat} {T : TM} {P : PO} (hw : w < 4) (hi : i < 6) (hT : WFT T) (iT : isT A i T) (g : PG T P) (a32 : A 32 w = nI i) (a33 : A 33 w = nI (P.1 / 625 / 6)) (a34 : ∀ r, r < 2 → A 34 (2 * w + r) = bI (decide (lb P.1 r ≠ 0))) (a35 : ∀ r, r < 2 → lb P.1 r ≠ 0 → A 35 (2 * w + r) = P.2.1 r) : ∃ I' A', call (d + 6) 160 [.ref y, .int (nI w)] (mkR h y I A) = some (some (.int (bI (!alB T P.1))), mkR h y I' A') ∧ fra I I' A A' [22, 23, 24] [17, 18, 19, 20, 21, 25, 26] := by
  obtain ⟨I1, A1, k1, k2, k3, k4⟩ := R_findAlive (d := d) (a := y) (h := h) (I := I) hT hi iT
  obtain ⟨l1, l2⟩ := k3.at hT g
  have b33 : A1 33 w = nI (P.1 / 625 / 6) := by rw [k4.2 33 (by decide)]; exact a33
  have b34 : ∀ r, r < 2 → A1 34 (2 * w + r) = bI (decide (lb P.1 r ≠ 0)) := fun r hr => by rw [k4.2 34 (by decide)]; exact a34 r hr
  obtain ⟨I2, A2, j1, j2⟩ := R_orbitOf (d := d + 3) (a := y) (h := h) (I := I1) (A := A1) hT g (A1 35 (2 * w)) (A1 35 (2 * w + 1)) (fun e => by rw [k4.2 35 (by decide)]; exact a35 0 (by omega) e) (fun e => by rw [k4.2 35 (by decide)]; exact a35 1 (by omega) e)
  have l3 : A2 18 P.1 = bI (alB T P.1) := by rw [j2.2 18 (by decide)]; exact l2
  refine ⟨I2, A2, ?_, (k4.sub (by decide) (by decide)).tr (j2.sub (by decide) (by decide))⟩
  have z2 : (2 : Int32) * nI w = nI (2 * w) := pk_mul 2 w
  rw [call_at mt_160 [some (.ref y), some (.int (nI w))] rfl rfl rfl, nd_160_0 (St_run (d + 5) mt_160), mkR_g32, mkR_l32 _ _ _ _ hw, a32, mkR_o, k1, bind_some', rV_some, mkR_g18, mkR_g33, mkR_l33 _ _ _ _ hw, b33, mkR_g34, z2, mkR_l34 _ _ _ _ (show 2 * w < 8 by omega), show A1 34 (2 * w) = _ from b34 0 (by omega), mkR_g35, mkR_l35 _ _ _ _ (show 2 * w < 8 by omega), nI_1, mkR_g34, mkR_l34 _ _ _ _ (show 2 * w + 1 < 8 by omega), b34 1 (by omega), mkR_g35, mkR_l35 _ _ _ _ (show 2 * w + 1 < 8 by omega), mkR_o, j1, bind_some', rI_some, mkR_l18 _ _ _ _ l1, l3, nd_160_69 (St_run (d + 5) mt_160), nd_160_69 (St_run (d + 5) mt_160), isZ0, isZ1]
  cases alB T P.1 with
  | true => rw [if_neg (by decide)]; rfl
  | false => rw [if_pos (by rfl)]; rfl
end WATCH
