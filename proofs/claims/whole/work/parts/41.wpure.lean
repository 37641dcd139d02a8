/-! ===== pure: the class' own codes ===== -/
def mx (l : Nat → Nat) : Nat := ((l 0 * 3 + l 1) * 4 + l 2) * 5 + l 3
/-- the class' code of an orbit -/
def hc (c : Nat) : Nat := 120 * (c / 625) + mx (lb c)
/-- the label of way w, 0: no such way -/
def wlf (l : Nat → Nat) (w : Nat) : Nat := match w with
  | 0 => l 0
  | 1 => if l 0 = l 1 then 0 else l 1
  | 2 => if l 0 = l 2 then 0 else if l 1 = l 2 then 0 else l 2
  | 3 => if l 0 = l 3 then 0 else if l 1 = l 3 then 0 else if l 2 = l 3 then 0 else l 3
  | _ => 5
/-- the reference's label of way w -/
def vv (c w : Nat) : Nat := if w = 4 then top c + 1 else wlf (lb c) w
/-- the way of a label -/
def wy (c v : Nat) : Nat := if lb c 0 = v then 0 else if lb c 1 = v then 1 else if lb c 2 = v then 2 else if lb c 3 = v then 3 else 4
def q4 (x0 x1 x2 x3 : Nat) : Nat → Nat := fun j => match j with
  | 0 => x0
  | 1 => x1
  | 2 => x2
  | _ => x3
def fq (l : Nat → Nat) (r : Nat) : Nat → Nat → Option Nat
  | 0, _ => none
  | m + 1, j => if l j = l r then some j else fq l r m (j + 1)
/-- heldBehind's loop -/
def hO (l : Nat → Nat) : Nat → Nat → Nat → Nat → (Nat → Nat) → Nat
  | 0, _, _, c, _ => c
  | m + 1, r, u, c, f => if l r = 0 then hO l m (r + 1) u (c * (r + 2) + 0) (updN f r 0) else match fq l r r 0 with
    | some q => hO l m (r + 1) u (c * (r + 2) + f q) (updN f r (f q))
    | none => hO l m (r + 1) (u + 1) (c * (r + 2) + (u + 1)) (updN f r (u + 1))
set_option maxRecDepth 100000 in
theorem fin4 : (List.range 6).all (fun x0 => (List.range 6).all (fun x1 => (List.range 6).all (fun x2 => (List.range 6).all (fun x3 => hO (q4 x0 x1 x2 x3) 4 0 0 0 (fun _ => 0) == mx (lb (nrm (q4 x0 x1 x2 x3))))))) = true := by decide +kernel
theorem nrm_q4 (l : Nat → Nat) : nrm l = nrm (q4 (l 0) (l 1) (l 2) (l 3)) := rfl
theorem hO_q4 (l : Nat → Nat) : hO l 4 0 0 0 (fun _ => 0) = hO (q4 (l 0) (l 1) (l 2) (l 3)) 4 0 0 0 (fun _ => 0) := rfl
theorem hO_ok {l : Nat → Nat} (hl : ∀ j, j < 4 → l j < 6) : hO l 4 0 0 0 (fun _ => 0) = mx (lb (nrm l)) := by
  have e := all_r (all_r (all_r (all_r fin4 (hl 0 (by omega))) (hl 1 (by omega))) (hl 2 (by omega))) (hl 3 (by omega))
  rw [nrm_q4, hO_q4]
  exact beq_iff_eq.mp e
/-- a pattern's facts, one by one -/
def pf1 (p : Nat) : Bool := (List.range 4).all (fun r => decide (lb p r ≤ r + 1) && decide (lb p r ≤ top p))
def pf2 (p : Nat) : Bool := vsN p == (if wlf (lb p) 0 = 0 then [] else [wlf (lb p) 0]) ++ ((if wlf (lb p) 1 = 0 then [] else [wlf (lb p) 1]) ++ ((if wlf (lb p) 2 = 0 then [] else [wlf (lb p) 2]) ++ ((if wlf (lb p) 3 = 0 then [] else [wlf (lb p) 3]) ++ [top p + 1])))
def pf3 (p : Nat) : Bool := (List.range 5).all (fun w => decide (wlf (lb p) w = 0) || (decide (wy p (vv p w) = w) && (decide (1 ≤ vv p w) && (decide (vv p w ≤ top p + 1) && (decide (cs (lb p) 0 (wlf (lb p) w) = cs (lb p) 0 (vv p w)) && (decide (cs (lb p) 2 (wlf (lb p) w) = cs (lb p) 2 (vv p w)) && (List.range 3).all (fun kA => (List.range 3).all (fun kB => nxP p (wlf (lb p) w) kA kB == nxP p (vv p w) kA kB))))))))
def pf4 (p : Nat) : Bool := p == ((lb p 0 * 5 + lb p 1) * 5 + lb p 2) * 5 + lb p 3
set_option maxRecDepth 100000 in
theorem fin5 : (List.range 625).all (fun p => !nor p || (pf1 p && (pf2 p && (pf3 p && pf4 p)))) = true := by decide +kernel
theorem pf_of {p : Nat} (hp : p < 625) (hn : nor p = true) : pf1 p = true ∧ pf2 p = true ∧ pf3 p = true ∧ pf4 p = true := by
  have e := all_r fin5 hp
  rw [hn] at e
  simpa [Bool.and_eq_true] using e
theorem vv_mod (c w : Nat) : vv c w = vv (c % 625) w := by unfold vv; rw [lb_mod c, top_mod c]
theorem wy_mod (c v : Nat) : wy c v = wy (c % 625) v := by unfold wy; rw [lb_mod c]
theorem lb_r {c : Nat} (hn : nor (c % 625) = true) {r : Nat} (hr : r < 4) : lb c r ≤ r + 1 ∧ lb c r ≤ top c := by
  have e := all_r (pf_of (p := c % 625) (Nat.mod_lt _ (by decide)) hn).1 hr
  rw [Bool.and_eq_true] at e
  rw [lb_mod, top_mod]
  exact ⟨of_decide_eq_true e.1, of_decide_eq_true e.2⟩
theorem vsN_w {c : Nat} (hn : nor (c % 625) = true) : vsN c = (if wlf (lb c) 0 = 0 then [] else [wlf (lb c) 0]) ++ ((if wlf (lb c) 1 = 0 then [] else [wlf (lb c) 1]) ++ ((if wlf (lb c) 2 = 0 then [] else [wlf (lb c) 2]) ++ ((if wlf (lb c) 3 = 0 then [] else [wlf (lb c) 3]) ++ [top c + 1]))) := by
  have e := (pf_of (p := c % 625) (Nat.mod_lt _ (by decide)) hn).2.1
  have e2 := beq_iff_eq.mp e
  unfold vsN at e2 ⊢
  rw [← lb_mod, ← top_mod] at e2
  exact e2
theorem way_ok {c : Nat} (hn : nor (c % 625) = true) {w : Nat} (hw : w < 5) (h0 : wlf (lb c) w ≠ 0) : wy c (vv c w) = w ∧ 1 ≤ vv c w ∧ vv c w ≤ top c + 1 ∧ cs (lb c) 0 (wlf (lb c) w) = cs (lb c) 0 (vv c w) ∧ cs (lb c) 2 (wlf (lb c) w) = cs (lb c) 2 (vv c w) ∧ ∀ kA kB, kA < 3 → kB < 3 → nxP c (wlf (lb c) w) kA kB = nxP c (vv c w) kA kB := by
  have e := all_r (pf_of (p := c % 625) (Nat.mod_lt _ (by decide)) hn).2.2.1 hw
  rw [← lb_mod, Bool.or_eq_true] at e
  rcases e with e | e
  · exact absurd (of_decide_eq_true e) h0
  · simp only [Bool.and_eq_true, decide_eq_true_eq] at e
    obtain ⟨e1, e2, e3, e4, e5, e6⟩ := e
    rw [← vv_mod] at e1 e2 e3 e4 e5 e6
    rw [← wy_mod] at e1
    rw [← top_mod] at e3
    refine ⟨e1, e2, e3, e4, e5, fun kA kB hA hB => ?_⟩
    have e7 := beq_iff_eq.mp (all_r (all_r e6 hA) hB)
    rw [← nxP_mod, ← nxP_mod] at e7
    exact e7
theorem mx_lt {c : Nat} (hn : nor (c % 625) = true) : mx (lb c) < 120 := by
  have h0 := (lb_r hn (show 0 < 4 by omega)).1
  have h1 := (lb_r hn (show 1 < 4 by omega)).1
  have h2 := (lb_r hn (show 2 < 4 by omega)).1
  have h3 := (lb_r hn (show 3 < 4 by omega)).1
  unfold mx
  omega
theorem hc_lt {c : Nat} (hn : nor (c % 625) = true) (hc5 : c < 22500) : hc c < 4320 := by
  have := mx_lt hn
  unfold hc
  omega
/-- a code's digits -/
theorem hc_dig {c : Nat} (hn : nor (c % 625) = true) : hc c % 120 = mx (lb c) ∧ hc c % 5 = lb c 3 ∧ hc c / 5 % 4 = lb c 2 ∧ hc c / 5 / 4 % 3 = lb c 1 ∧ hc c / 5 / 4 / 3 % 2 = lb c 0 ∧ hc c / 5 / 4 / 3 / 2 = c / 625 := by
  have h0 := (lb_r hn (show 0 < 4 by omega)).1
  have h1 := (lb_r hn (show 1 < 4 by omega)).1
  have h2 := (lb_r hn (show 2 < 4 by omega)).1
  have h3 := (lb_r hn (show 3 < 4 by omega)).1
  unfold hc mx
  generalize c / 625 = s at *
  generalize lb c 0 = x0 at *
  generalize lb c 1 = x1 at *
  generalize lb c 2 = x2 at *
  generalize lb c 3 = x3 at *
  refine ⟨by omega, by omega, by omega, by omega, by omega, by omega⟩
theorem hc_inj {c e : Nat} (hn : nor (c % 625) = true) (hm : nor (e % 625) = true) (h : hc c = hc e) : c = e := by
  obtain ⟨a0, a1, a2, a3, a4, a5⟩ := hc_dig hn
  obtain ⟨b0, b1, b2, b3, b4, b5⟩ := hc_dig hm
  rw [h] at a0 a1 a2 a3 a4 a5
  have p1 := beq_iff_eq.mp (pf_of (p := c % 625) (Nat.mod_lt _ (by decide)) hn).2.2.2
  have p2 := beq_iff_eq.mp (pf_of (p := e % 625) (Nat.mod_lt _ (by decide)) hm).2.2.2
  rw [← lb_mod, ← a1, ← a2, ← a3, ← a4, b1, b2, b3, b4] at p1
  rw [← lb_mod] at p2
  omega
/-- the class' code behind a way -/
theorem hc_chd {T U : TM} (hT : WFT T) (hU : WFT U) {c l v : Nat} (hc1 : vd T U c) (hl : l < 3) (hv : 1 ≤ v) (hv2 : v ≤ top c + 1) : hc (chd T U c l v) = 120 * (6 * T.2.1 (9 * (c / 625 / 6) + 3 * l + cs (lb c) 0 v) + U.2.1 (9 * (c / 625 % 6) + 3 * l + cs (lb c) 2 v)) + mx (lb (nxP c v (T.2.2.1 (9 * (c / 625 / 6) + 3 * l + cs (lb c) 0 v)) (U.2.2.1 (9 * (c / 625 % 6) + 3 * l + cs (lb c) 2 v)))) := by
  obtain ⟨e1, e2, e3, e4⟩ := chd_ok hT hU hc1 hl hv hv2
  have : hc (chd T U c l v) = 120 * (chd T U c l v / 625) + mx (lb (chd T U c l v % 625)) := by
    unfold hc
    rw [lb_mod]
  rw [this, e4]
  congr 2
  omega
