/-! ===== class: turnFrom, becomeAs, runs and watches ===== -/
theorem cpA_of {h : AH} {s t n0 n1 n : Nat} {g0 g1 : Nat → Int32} (hs : h.1 s = some (aI 0 n0 g0)) (ht : h.1 t = some (aI 0 n1 g1)) (hne : s ≠ t) (h0 : n ≤ n0) (h1 : n ≤ n1) (hn : n < 2 ^ 31) (f : AH → Option RV) : cpA h s 0 t 0 (nI n) f = f (hS h t (aI 0 n1 (va_cpy g0 g1 0 0 n))) := by
  unfold cpA
  rw [hs, ht]
  show (if _ then none else f (hS h t (aI 0 n1 (va_cpy g0 g1 (0 : Int32).toNatClampNeg (0 : Int32).toNatClampNeg (nI n).toNatClampNeg)))) = _
  rw [show (0 : Int32).toNatClampNeg = 0 from by decide, nI_clamp hn, if_neg]
  rintro (e | e | e | e | e | e | e | e)
  · exact hne e
  · exact e rfl
  · exact e rfl
  · exact absurd e (by decide)
  · exact absurd e (by decide)
  · exact nI_pos hn e
  · omega
  · omega
section CP
variable {d : Nat}
theorem l_turn {mm ba : Nat} {T : TM} {MA : MD} (hT : WFT T) (tA : MTT MA T) (hd : ba + 5 ≤ mm ∨ mm + 5 ≤ ba) : ∀ (k s : Nat) (h : AH) (M : MD), s + k = T.1.1 → isM h mm M → isM h ba MA → M.1.1 = nI T.1.1 → (∀ j, j < 6 → M.2.2.2.1 j = bI (decide (j < s) && !T.2.2.2 j)) → ∃ h' f, run d mt_2 50 [some (.ref mm), some (.ref ba), some (.int (nI s))] [] h = some (none, h') ∧ isM h' mm (M.1, (M.2.1, (M.2.2.1, (f, M.2.2.2.2)))) ∧ (∀ j, j < 6 → f j = bI (decide (j < T.1.1) && !T.2.2.2 j)) ∧ Fr h h' mm 5 := by
  have t6 := hT.2.1
  intro k
  induction k with
  | zero =>
    intro s h M hs hM hA h1 hg
    refine ⟨h, M.2.2.2.1, ?_, hM, fun j hj => by rw [show T.1.1 = s by omega]; exact hg j hj, Fr.rf _ _ _⟩
    rw [nd_2_50 (St_run d mt_2), hM.g3, h1, if_pos (nI_le (by omega) (by omega))]
  | succ k ih =>
    intro s h M hs hM hA h1 hg
    have hM1 := hM.w3 (upd M.2.2.2.1 s (bI (!T.2.2.2 s)))
    have f1 : Fr h (hS h (mm + 3) (aI 1 6 (upd M.2.2.2.1 s (bI (!T.2.2.2 s))))) mm 5 := Fr.set ⟨by omega, by omega⟩
    obtain ⟨h', f, e1, e2, e3, e4⟩ := ih (s + 1) _ _ (by omega) hM1 (hA.fr f1 (by omega)) h1 (fun j hj => by
      show upd M.2.2.2.1 s _ j = _
      by_cases e : j = s
      · rw [e, pk_us, decide_eq_true (show s < s + 1 by omega), Bool.true_and]
      · rw [pk_un e, hg j hj]
        by_cases e2 : j < s
        · rw [decide_eq_true e2, decide_eq_true (show j < s + 1 by omega)]
        · rw [decide_eq_false e2, decide_eq_false (show ¬ j < s + 1 by omega)])
    refine ⟨h', f, ?_, e2, e3, f1.tr e4⟩
    have ag := tA.2.2.2.2 s (by omega)
    have st : ∀ b : Bool, ∀ g, stZ h (mm + 3) (nI s) (bI b) g = g (hS h (mm + 3) (aI 1 6 (upd M.2.2.2.1 s (bI b)))) := fun b g => by
      rw [stZ_of hM.2.2.2.1 rfl (show s < 6 by omega) (by decide), bI_and]
    rw [nd_2_50 (St_run d mt_2), hM.g3, h1, if_neg (nI_ge (by omega) (by omega)), hM.g2, hA.g2, ldZ_of hA.2.2.2.1 rfl (show s < 6 by omega) (by decide), ag]
    cases hb : T.2.2.2 s with
    | true =>
      rw [hb] at e1
      rw [if_neg (by decide), nd_2_77 (St_run d mt_2), nI_1, show (0 : Int32) = bI false from rfl, st]
      exact e1
    | false =>
      rw [hb] at e1
      rw [if_pos (by rfl), nd_2_77 (St_run d mt_2), nI_1, show (1 : Int32) = bI true from rfl, st]
      exact e1
theorem C_turnFrom {mm ba : Nat} {T : TM} {MA M : MD} {h : AH} (hT : WFT T) (tA : MTT MA T) (hd : ba + 5 ≤ mm ∨ mm + 5 ≤ ba) (hM : isM h mm M) (hA : isM h ba MA) : ∃ h' M', call (d + 2) 2 [.ref mm, .ref ba] h = some (none, h') ∧ isM h' mm M' ∧ MTT M' (tTM T) ∧ M'.1.2.2.1 = 0 ∧ M'.1.2.2.2 = 0 ∧ Fr h h' mm 5 := by
  obtain ⟨h1, M1, e1, e2, e3, e4⟩ := m_begin (d := d) hM (nI T.1.1) (nI T.1.2)
  obtain ⟨b1, b2, b3, b4, b5⟩ := e3
  have hA1 := hA.fr e4 (by omega)
  have w1 := e2.w1 (va_cpy MA.2.1 M1.2.1 0 0 54)
  have f1 : Fr h1 (hS h1 (mm + 1) (aI 0 54 (va_cpy MA.2.1 M1.2.1 0 0 54))) mm 5 := Fr.set ⟨by omega, by omega⟩
  have hA2 := hA1.fr f1 (by omega)
  have w2 := w1.w2 (va_cpy MA.2.2.1 M1.2.2.1 0 0 54)
  have f2 : Fr (hS h1 (mm + 1) (aI 0 54 (va_cpy MA.2.1 M1.2.1 0 0 54))) (hS (hS h1 (mm + 1) (aI 0 54 (va_cpy MA.2.1 M1.2.1 0 0 54))) (mm + 2) (aI 0 54 (va_cpy MA.2.2.1 M1.2.2.1 0 0 54))) mm 5 := Fr.set ⟨by omega, by omega⟩
  have hA3 := hA2.fr f2 (by omega)
  obtain ⟨h', f, y1, y2, y3, y4⟩ := l_turn (d := d + 1) hT tA hd T.1.1 0 _ _ (by omega) w2 hA3 (by rw [b1]) (fun j hj => by
    rw [show (M1.1, (va_cpy MA.2.1 M1.2.1 0 0 54, (va_cpy MA.2.2.1 M1.2.2.1 0 0 54, M1.2.2.2))).2.2.2.1 = M1.2.2.2.1 from rfl, b4 j hj]
    rfl)
  refine ⟨h', _, ?_, y2, ⟨by rw [b1]; rfl, by rw [b1]; rfl, fun j hj => ?_, fun j hj => ?_, y3⟩, by rw [b1], by rw [b1], ((e4.tr f1).tr f2).tr y4⟩
  · rw [call_at mt_2 [some (.ref mm), some (.ref ba), none] rfl rfl rfl, nd_2_0 (St_run (d + 1) mt_2) rfl, hA.g3, hA.g4, hM.o, tA.1, tA.2.1, e1, bind_some', rV_some, hA1.g0, e2.g0, e2.g0, lnI_of e2.2.1, cpA_of hA1.2.1 e2.2.1 (by omega) (Nat.le_refl _) (Nat.le_refl _) (by decide), hA2.g1, w1.g1, w1.g1, lnI_of w1.2.2.1, cpA_of hA2.2.2.1 w1.2.2.1 (by omega) (Nat.le_refl _) (Nat.le_refl _) (by decide)]
    exact y1
  · show va_cpy MA.2.1 M1.2.1 0 0 54 j = _
    rw [pk_cpy_in (by omega) (by omega), show 0 + (j - 0) = j by omega]
    exact tA.2.2.1 j hj
  · show va_cpy MA.2.2.1 M1.2.2.1 0 0 54 j = _
    rw [pk_cpy_in (by omega) (by omega), show 0 + (j - 0) = j by omega]
    exact tA.2.2.2.1 j hj
theorem C_becomeAs {ro le : Nat} {D E : D_Row} {h : AH} {n : Nat} (qr : isRow h ro D 40) (ql : isRow h le E 1872) (hn : E.1 = nI n) (h40 : n ≤ 40) (hd : ro + 3 ≤ le ∨ le + 3 ≤ ro) : ∃ h' f g, call (d + 2) 26 [.ref ro, .ref le] h = some (none, h') ∧ isRow h' ro (nI n, (f, g)) 40 ∧ (∀ j, j < n → f j = E.2.1 j ∧ g j = E.2.2 j) ∧ Fr h h' ro 3 := by
  have q1 := qr.u2 (nI n)
  have f1 : Fr h (hS h ro (oB 2 [.ref (ro + 1), .ref (ro + 2), .int (nI n)])) ro 3 := Fr.set ⟨by omega, by omega⟩
  have l1 := ql.fr f1 (by omega)
  have q2 := q1.w0 (va_cpy E.2.1 D.2.1 0 0 n)
  have f2 : Fr (hS h ro (oB 2 [.ref (ro + 1), .ref (ro + 2), .int (nI n)])) (hS (hS h ro (oB 2 [.ref (ro + 1), .ref (ro + 2), .int (nI n)])) (ro + 1) (aI 0 40 (va_cpy E.2.1 D.2.1 0 0 n))) ro 3 := Fr.set ⟨by omega, by omega⟩
  have l2 := l1.fr f2 (by omega)
  have q3 := q2.w1 (va_cpy E.2.2 D.2.2 0 0 n)
  refine ⟨_, _, _, ?_, q3, fun j hj => ⟨?_, ?_⟩, (f1.tr f2).tr (Fr.set ⟨by omega, by omega⟩)⟩
  · rw [call_at mt_26 [some (.ref ro), some (.ref le)] rfl rfl rfl, nd_26_0 (St_run (d + 1) mt_26) rfl, ql.g2, qr.g0, lnI_of qr.a0, hn, if_neg (nI_nlt (a := 40) (b := n) h40 (by decide) |> fun q => q), qr.p2, l1.g0, q1.g0, q1.g2, cpA_of l1.a0 q1.a0 (by omega) (by omega) (by omega) (by omega), l2.g1, q2.g1, q2.g2, cpA_of l2.a1 q2.a1 (by omega) (by omega) (by omega) (by omega)]
  · show va_cpy E.2.1 D.2.1 0 0 n j = _
    rw [pk_cpy_in (by omega) (by omega), show 0 + (j - 0) = j by omega]
  · show va_cpy E.2.2 D.2.2 0 0 n j = _
    rw [pk_cpy_in (by omega) (by omega), show 0 + (j - 0) = j by omega]
/-- a run stands at P, behind n places -/
def CPo (D : D_Run) (P : PO) (n : Nat) : Prop := RD D P.1 0 P.2.1 ∧ D.2.2.1 = nI n
theorem C_go {ra b : Nat} {D : D_Run} {M : MD} {T : TM} {h : AH} {P : PO} {n : Nat} (q : isRun h ra D) (hM : isM h b M) (hd : ra + 3 ≤ b ∨ b + 5 ≤ ra) (t : MTT M T) (hT : WFT T) (g : PG T P) (c : CPo D P n) (hn : n < 2 ^ 31) (l : Nat) (hl : l < 3) (y : Int32) : ∃ h' D', call (d + 2) 29 [.ref ra, .ref b, .int (nI l), .int y] h = some (none, h') ∧ isRun h' ra D' ∧ CPo D' (psT T P l y (nI n)) (n + 1) ∧ D'.2.1 = nI (cas P y) ∧ (∀ r, r < 2 → D'.2.2.2.2 r = if r = kps T P l y then nI n else D.2.2.2.2 r) ∧ Fr h h' ra 3 := by
  have vc := g.vd hT
  obtain ⟨v1, v2, v3⟩ := lbl_ok vc g.2 y
  obtain ⟨o1, o2, o3, o4⟩ := chd_ok hT T0_wf vc hl v1 v2
  obtain ⟨lA, _⟩ := chd_lb hT T0_wf vc hl v1 v2
  obtain ⟨c1, c2⟩ := c
  have sA := vc.2.2.1
  have y1 := hT.2.1
  obtain ⟨h', e1, e2, e3⟩ := m_go (d := d) q hM hd (t.wf hT) (P.1 / 625 / 6) l y c1.1 sA hl (RD_hk c1 (fun r hr hr2 => by rw [Nat.zero_add]; exact vc.2.2.2.2.1 r hr hr2))
  have hng : D.2.2.1 ≠ NO := by rw [c2]; exact fun e => by rw [eq_NO hn] at e; exact e
  have hx : ∀ r, r < 2 → (lb P.1 (0 + r) = lbl P.1 P.2.1 y ↔ lb P.1 (0 + r) ≠ 0 ∧ P.2.1 (0 + r) = y) := fun r hr => by rw [Nat.zero_add]; exact v3 r hr
  have hcas := caseN_cs c1 v1 hx
  have hc2 := cs_le (lb P.1) 0 (lbl P.1 P.2.1 y)
  refine ⟨h', _, e1, e2, ⟨RD_step (b := 0) t hT c1 (Or.inl rfl) sA hl v1 hx hng rfl o2 (fun r hr => by rw [Nat.zero_add]; exact lA r hr) (fun r hr _ => by rw [Nat.zero_add]; rfl), ?_⟩, ?_, fun r hr => ?_, e3⟩
  · show D.2.2.1 + 1 = _
    rw [c2, nI_1]
  · show nI (caseN D y) = _
    rw [hcas]
    rfl
  · show kpH (M.2.2.1 (9 * (P.1 / 625 / 6) + 3 * l + caseN D y)) D.2.2.2.2 D.2.2.1 r = _
    have k2 := hT.2.2.2.2 (9 * (P.1 / 625 / 6) + 3 * l + cs (lb P.1) 0 (lbl P.1 P.2.1 y))
    have r2 := hT.2.2.1
    rw [hcas, t.2.2.2.1 _ (by omega), kpH_k (by omega), c2]
    have ek : kps T P l y = T.2.2.1 (9 * (P.1 / 625 / 6) + 3 * l + cs (lb P.1) 0 (lbl P.1 P.2.1 y)) := rfl
    rw [ek]
    generalize T.2.2.1 (9 * (P.1 / 625 / 6) + 3 * l + cs (lb P.1) 0 (lbl P.1 P.2.1 y)) = k at *
    by_cases h2 : k = 2
    · rw [if_pos h2, if_neg (by omega)]
    · rw [if_neg h2]
      by_cases e : r = k
      · rw [if_pos e, e, pk_us]
      · rw [if_neg e, pk_un e]
theorem C_isDoomed {ra b : Nat} {D : D_Run} {M : MD} {T : TM} {h : AH} {P : PO} {n : Nat} (q : isRun h ra D) (hM : isM h b M) (t : MTT M T) (hT : WFT T) (ft : FT T M.2.2.2.2) (g : PG T P) (c : CPo D P n) : call (d + 3) 32 [.ref ra, .ref b] h = some (some (.int (bI (!alB T P.1))), h) := by
  have vc := g.vd hT
  rw [m_isDoomed q hM t.1 hT.2.1 (P.1 / 625 / 6) c.1.1 vc.2.2.1, patN_fx vc c.1 g.2]
  obtain ⟨⟨i, hi, e⟩, _⟩ := g
  have := ft.1 i hi
  rw [e] at this
  rw [this]
  cases alB T P.1 <;> rfl
theorem C_runBegin {ra : Nat} {D : D_Run} {h : AH} (q : isRun h ra D) : ∃ h' D', call (d + 1) 28 [.ref ra] h = some (none, h') ∧ isRun h' ra D' ∧ CPo D' P0 0 ∧ D'.2.1 = NO ∧ (∀ r, r < 2 → D'.2.2.2.2 r = NO) ∧ Fr h h' ra 3 := by
  obtain ⟨h', f, g, e1, e2, e3, e4⟩ := m_runBegin (d := d) q
  refine ⟨h', _, e1, e2, ⟨RD_0 rfl ⟨e3.2.2.1, e3.2.2.2⟩, rfl⟩, rfl, fun r hr => ?_, e4⟩
  rcases (show r = 0 ∨ r = 1 by omega) with rfl | rfl
  · exact e3.2.2.1
  · exact e3.2.2.2
end CP
