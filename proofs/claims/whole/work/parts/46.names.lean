/-! ===== Walk: giveNames ===== -/
section GN
variable {d a ro b1 b2 : Nat} {I : Nat → Int32} {A : Nat → Nat → Int32} {M1 M2 : MD} {T U : TM}
theorem l_gn (t1 : MTT M1 T) (hT : WFT T) (t2 : MTT M2 U) (hU : WFT U) {C L V : Nat → Nat} {n : Nat} (hn : n < 1872) (hW : isW T U C L V n) (hvn : vd T U (C n)) (hB1 : dj b1 5 [(ro, 3), (a + 13, 6)]) (hB2 : dj b2 5 [(ro, 3), (a + 13, 6)]) (hro : ro + 3 ≤ a ∨ a + 19 ≤ ro) : ∀ (m k : Nat) (h : AH) (D1 D2 : D_Run) (R : D_Row), k + m = n → isWlk h a I A → isRun h (a + 13) D1 → isRun h (a + 16) D2 → isRow h ro R 1872 → isM h b1 M1 → isM h b2 M2 → R.1 = nI n → (∀ j, j < n → R.2.1 j = nI (L j)) → (∀ j, k ≤ j → j < n → R.2.2 j = nI (wy (C j) (V j))) → RD D1 (C k) 0 (fun r => nI ((tls T U C L V k).1 r)) → RD D2 (C k) 2 (fun r => nI ((tls T U C L V k).1 r)) → D1.2.2.1 = nI k → D2.2.2.1 = nI k → ∃ h' D1' D2' g', run (d + 2) mt_53 20 [some (.ref a), some (.ref b1), some (.ref b2), some (.ref ro), some (.int (nI (tls T U C L V k).2)), some (.int (nI k)), none, none] [] h = some (none, h') ∧ isRun h' (a + 13) D1' ∧ isRun h' (a + 16) D2' ∧ isRow h' ro (R.1, (R.2.1, g')) 1872 ∧ (∀ j, k ≤ j → j < n → g' j = nI (tlx T U C L V j)) ∧ (∀ j, j < k → g' j = R.2.2 j) ∧ Fs h h' [(ro, 3), (a + 13, 6)] := by
  intro m
  induction m with
  | zero =>
    intro k h D1 D2 R hk qw q1 q2 qr hm1 hm2 hR1 hRL hRC rd1 rd2 g1 g2
    refine ⟨h, D1, D2, R.2.2, ?_, q1, q2, qr, fun j h1 h2 => by omega, fun _ _ => rfl, Fs.rf _ _⟩
    rw [nd_53_20 (St_run (d + 2) mt_53), qr.g2, hR1, if_pos (nI_le (by omega) (by omega))]
  | succ m ih =>
    intro k h D1 D2 R hk qw q1 q2 qr hm1 hm2 hR1 hRL hRC rd1 rd2 g1 g2
    obtain ⟨w1, w2, w3, w4, w5⟩ := hW.2 k (by omega)
    obtain ⟨n1, n2⟩ := tls_ok hT hU hW k (by omega)
    have n3 := tlx_le hT hU hW (show k < n by omega)
    have sA := w1.2.2.1
    have sB := w1.2.2.2.1
    have kA := hT.2.2.2.2 (9 * (C k / 625 / 6) + 3 * L k + cs (lb (C k)) 0 (V k))
    have kB := hU.2.2.2.2 (9 * (C k / 625 % 6) + 3 * L k + cs (lb (C k)) 2 (V k))
    have rA := hT.2.2.1
    have rB := hU.2.2.1
    obtain ⟨o1, o2, o3, o4⟩ := chd_ok hT hU w1 w2 w3 w4
    obtain ⟨lA, lB⟩ := chd_lb hT hU w1 w2 w3 w4
    rw [← w5] at o1 o2 o3 o4 lA lB
    have hx : ∀ r, r < 4 → (lb (C k) r = V k ↔ lb (C k) r ≠ 0 ∧ nI ((tls T U C L V k).1 r) = nI (tlx T U C L V k)) := fun r hr => by
      rw [nm_of n1 w3 hr]
      show (_ ∧ _ = tlx T U C L V k) ↔ _
      constructor
      · rintro ⟨e1, e2⟩
        exact ⟨e1, congrArg nI e2⟩
      · rintro ⟨e1, e2⟩
        have := (n1 r hr e1).1
        exact ⟨e1, (nI_eq (by omega) (by omega)).mp e2⟩
    have et : (tls T U C L V (k + 1)).1 = asg (asg (tls T U C L V k).1 0 (T.2.2.1 (9 * (C k / 625 / 6) + 3 * L k + cs (lb (C k)) 0 (V k))) (tlx T U C L V k)) 2 (U.2.2.1 (9 * (C k / 625 % 6) + 3 * L k + cs (lb (C k)) 2 (V k))) (tlx T U C L V k) := rfl
    have en : (tls T U C L V (k + 1)).2 = nxn (C k) (V k) (tls T U C L V k).2 := rfl
    have rl := hRL k (by omega)
    have rc := hRC k (Nat.le_refl _) (by omega)
    -- what comes behind the name
    have fin : ∃ h' D1' D2' g', run (d + 2) mt_53 100 [some (.ref a), some (.ref b1), some (.ref b2), some (.ref ro), some (.int (nI (tls T U C L V (k + 1)).2)), some (.int (nI k)), none, some (.int (nI (tlx T U C L V k)))] [] h = some (none, h') ∧ isRun h' (a + 13) D1' ∧ isRun h' (a + 16) D2' ∧ isRow h' ro (R.1, (R.2.1, g')) 1872 ∧ (∀ j, k ≤ j → j < n → g' j = nI (tlx T U C L V j)) ∧ (∀ j, j < k → g' j = R.2.2 j) ∧ Fs h h' [(ro, 3), (a + 13, 6)] := by
      have qr1 := qr.w1 (upd R.2.2 k (nI (tlx T U C L V k)))
      have s1 : ∀ f, stI h (ro + 2) (nI k) (nI (tlx T U C L V k)) f = f (hS h (ro + 2) (aI 0 1872 (upd R.2.2 k (nI (tlx T U C L V k))))) := fun f => stI_of qr.a1 rfl (show k < 1872 by omega) (by decide) f
      have f1 : Fr h (hS h (ro + 2) (aI 0 1872 (upd R.2.2 k (nI (tlx T U C L V k))))) ro 3 := Fr.set ⟨by omega, by omega⟩
      generalize hS h (ro + 2) (aI 0 1872 (upd R.2.2 k (nI (tlx T U C L V k)))) = h1 at *
      have j1 := hB1 (ro, 3) (by simp)
      have j2 := hB1 (a + 13, 6) (by simp)
      have j3 := hB2 (ro, 3) (by simp)
      have j4 := hB2 (a + 13, 6) (by simp)
      dsimp only at j1 j2 j3 j4
      have qw1 := qw.fr f1 (by omega)
      have q11 := q1.fr f1 (by omega)
      have q21 := q2.fr f1 (by omega)
      have m11 := hm1.fr f1 (by omega)
      have m21 := hm2.fr f1 (by omega)
      have rd1' := rd1.1
      have rd2' := rd2.1
      obtain ⟨h2, e1, e2, e3⟩ := m_go (d := d) q11 m11 (by omega) (t1.wf hT) (C k / 625 / 6) (L k) (nI (tlx T U C L V k)) rd1' sA w2 (RD_hk rd1 (fun r hr hr2 => by rw [Nat.zero_add]; exact w1.2.2.2.2.1 r hr hr2))
      have qw2 := qw1.fr e3 (by omega)
      have q22 := q21.fr e3 (by omega)
      have qr2 := qr1.fr e3 (by omega)
      have m12 := m11.fr e3 (by omega)
      have m22 := m21.fr e3 (by omega)
      obtain ⟨h3, i1, i2, i3⟩ := m_go (d := d) q22 m22 (by omega) (t2.wf hU) (C k / 625 % 6) (L k) (nI (tlx T U C L V k)) rd2' sB w2 (RD_hk rd2 (fun r hr hr2 => w1.2.2.2.2.2 r hr hr2))
      have qw3 := qw2.fr i3 (by omega)
      have q13 := e2.fr i3 (by omega)
      have qr3 := qr2.fr i3 (by omega)
      have m13 := m12.fr i3 (by omega)
      have m23 := m22.fr i3 (by omega)
      have c1 := RD_step (b := 0) (c' := C (k + 1)) (x' := fun r => nI ((tls T U C L V (k + 1)).1 r)) (y := nI (tlx T U C L V k)) t1 hT rd1 (Or.inl rfl) sA w2 w3 (fun r hr => by rw [Nat.zero_add]; exact hx r (by omega)) (by rw [g1]; exact fun e => by rw [eq_NO (by omega)] at e; exact e) rfl o2 (fun r hr => by rw [Nat.zero_add]; exact lA r hr) (fun r hr _ => by
        rw [Nat.zero_add, et, asg_lo _ (by omega) hr]
        exact (apply_ite nI _ _ _))
      have c2 := RD_step (b := 2) (c' := C (k + 1)) (x' := fun r => nI ((tls T U C L V (k + 1)).1 r)) (y := nI (tlx T U C L V k)) t2 hU rd2 (Or.inr rfl) sB w2 w3 (fun r hr => hx (2 + r) (by omega)) (by rw [g2]; exact fun e => by rw [eq_NO (by omega)] at e; exact e) rfl o3 (fun r hr => lB r hr) (fun r hr _ => by
        rw [et, asg_hi _ (by omega) (by omega) hr]
        exact (apply_ite nI _ _ _))
      obtain ⟨h4, D1', D2', g', y1, y2, y3, y4, y5, y6, y7⟩ := ih (k + 1) h3 _ _ _ (by omega) qw3 q13 i2 qr3 m13 m23 hR1 hRL (fun j h1 h2 => by
        dsimp only
        rw [pk_un (by omega)]
        exact hRC j (by omega) h2) c1 c2 (by show D1.2.2.1 + 1 = _; rw [g1, nI_1]) (by show D2.2.2.1 + 1 = _; rw [g2, nI_1])
      refine ⟨h4, D1', D2', g', ?_, y2, y3, y4, fun j h1 h2 => ?_, fun j hj => ?_, ?_⟩
      · rw [nd_53_100 (St_run (d + 2) mt_53), qr.g1, s1, qw1.g16, qr1.g0, ldI_of qr1.a0 rfl (show k < 1872 by omega) (by decide)]
        dsimp only
        rw [rl, q11.o, e1, bind_some', rV_some, qw2.g17, qr2.g0, ldI_of qr2.a0 rfl (show k < 1872 by omega) (by decide)]
        dsimp only
        rw [rl, q22.o, i1, bind_some', rV_some, nI_1]
        exact y1
      · by_cases hj : j = k
        · rw [hj, y6 k (by omega)]
          dsimp only
          rw [pk_us]
        · exact y5 j (by omega) h2
      · rw [y6 j (by omega)]
        dsimp only
        rw [pk_un (by omega)]
      · exact Fs.tr (Fs.tr (Fs.tr (f1.in (ro, 3) (by simp) (Nat.le_refl _) (Nat.le_refl _)) (e3.in (a + 13, 6) (by simp) (Nat.le_refl _) (by omega))) (i3.in (a + 13, 6) (by simp) (by omega) (by omega))) y7
    have ldc : ∀ f, ldI h (ro + 2) (nI k) f = f (nI (wy (C k) (V k))) := fun f => by rw [ldI_of qr.a1 rfl (show k < 1872 by omega) (by decide), rc]
    have hitn : hit (C k) (V k) → (tls T U C L V (k + 1)).2 = (tls T U C L V k).2 := fun e => by rw [en]; exact if_pos e
    rw [nd_53_20 (St_run (d + 2) mt_53), qr.g2, if_neg (show ¬ R.1 ≤ nI k from by rw [hR1]; exact nI_ge (by omega) (by omega)), qr.g1, ldc]
    -- which way
    have hr1 : ∀ r, r < 2 → lb (C k) r = V k → D1.2.2.2.1 r = nI (tlx T U C L V k) := fun r hr e => by
      have e2 := (hx r (by omega)).mp e
      have e3 := ((rd1.2 r hr).2 (by rw [Nat.zero_add]; exact e2.1)).2
      dsimp only at e3
      rw [Nat.zero_add] at e3
      exact e3.trans e2.2
    have hr2 : ∀ r, r < 2 → lb (C k) (2 + r) = V k → D2.2.2.2.1 r = nI (tlx T U C L V k) := fun r hr e => by
      have e2 := (hx (2 + r) (by omega)).mp e
      have e3 := ((rd2.2 r hr).2 e2.1).2
      exact e3.trans e2.2
    have c1 : ∀ r, r < 2 → lb (C k) r = V k → ∀ f, ldI h (a + 13 + 1) (nI r) f = f (nI (tlx T U C L V k)) := fun r hr e f => by rw [ldI_of q1.a0 rfl hr (by decide), hr1 r hr e]
    have c2 : ∀ r, r < 2 → lb (C k) (2 + r) = V k → ∀ f, ldI h (a + 16 + 1) (nI r) f = f (nI (tlx T U C L V k)) := fun r hr e f => by rw [ldI_of q2.a0 rfl hr (by decide), hr2 r hr e]
    unfold wy
    by_cases z0 : lb (C k) 0 = V k
    · rw [if_pos z0, if_neg (by decide), if_neg (by decide), qw.g16, q1.g1, c1 0 (by omega) z0, ← hitn (Or.inl z0)]
      exact fin
    · rw [if_neg z0]
      by_cases z1 : lb (C k) 1 = V k
      · rw [if_pos z1, if_neg (by decide), if_neg (by decide), qw.g16, q1.g1, c1 1 (by omega) z1, ← hitn (Or.inr (Or.inl z1))]
        exact fin
      · rw [if_neg z1]
        by_cases z2 : lb (C k) 2 = V k
        · rw [if_pos z2, if_neg (by decide), if_pos (by decide), nd_53_68 (St_run (d + 2) mt_53), if_neg (by decide), if_neg (by decide), qw.g17, q2.g1, show nI 2 - 2 = nI 0 from by decide, c2 0 (by omega) z2, ← hitn (Or.inr (Or.inr (Or.inl z2)))]
          exact fin
        · rw [if_neg z2]
          by_cases z3 : lb (C k) 3 = V k
          · rw [if_pos z3, if_neg (by decide), if_pos (by decide), nd_53_68 (St_run (d + 2) mt_53), if_neg (by decide), if_neg (by decide), qw.g17, q2.g1, show nI 3 - 2 = nI 1 from by decide, c2 1 (by omega) z3, ← hitn (Or.inr (Or.inr (Or.inr z3)))]
            exact fin
          · have hm : ¬ hit (C k) (V k) := by
              rintro (e | e | e | e)
              · exact z0 e
              · exact z1 e
              · exact z2 e
              · exact z3 e
            have e1 : (tls T U C L V (k + 1)).2 = (tls T U C L V k).2 + 1 := by rw [en]; exact if_neg hm
            have e2 : tlx T U C L V k = (tls T U C L V k).2 := nm_miss hm
            rw [if_neg z3, if_neg (by decide), if_pos (by decide), nd_53_68 (St_run (d + 2) mt_53), if_neg (by decide), if_pos (by decide), nd_53_97 (St_run (d + 2) mt_53), nI_1, ← e1, ← e2]
            exact fin
theorem W_giveNames {h : AH} (t1 : MTT M1 T) (hT : WFT T) (t2 : MTT M2 U) (hU : WFT U) {C L V : Nat → Nat} {n : Nat} (hn : n < 1872) (hW : isW T U C L V n) (hvn : vd T U (C n)) (hB1 : dj b1 5 [(ro, 3), (a + 13, 6)]) (hB2 : dj b2 5 [(ro, 3), (a + 13, 6)]) (hro : ro + 3 ≤ a ∨ a + 19 ≤ ro) {D1 D2 : D_Run} {R : D_Row} (qw : isWlk h a I A) (q1 : isRun h (a + 13) D1) (q2 : isRun h (a + 16) D2) (qr : isRow h ro R 1872) (hm1 : isM h b1 M1) (hm2 : isM h b2 M2) (hR1 : R.1 = nI n) (hR : ∀ j, j < n → R.2.1 j = nI (L j) ∧ R.2.2 j = nI (wy (C j) (V j))) : ∃ h' D1' D2' g', call (d + 3) 53 [.ref a, .ref b1, .ref b2, .ref ro] h = some (none, h') ∧ isRun h' (a + 13) D1' ∧ isRun h' (a + 16) D2' ∧ isRow h' ro (nI n, (R.2.1, g')) 1872 ∧ (∀ j, j < n → g' j = nI (tlx T U C L V j)) ∧ Fs h h' [(ro, 3), (a + 13, 6)] := by
  have j1 := hB1 (ro, 3) (by simp)
  have j2 := hB1 (a + 13, 6) (by simp)
  have j3 := hB2 (ro, 3) (by simp)
  have j4 := hB2 (a + 13, 6) (by simp)
  dsimp only at j1 j2 j3 j4
  obtain ⟨h1, f1, f2, e1, e2, e3, e4⟩ := m_runBegin (d := d + 1) q1
  have qw1 := qw.fr e4 (by omega)
  have q21 := q2.fr e4 (by omega)
  have qr1 := qr.fr e4 (by omega)
  have m11 := hm1.fr e4 (by omega)
  have m21 := hm2.fr e4 (by omega)
  obtain ⟨h2, g1, g2, i1, i2, i3, i4⟩ := m_runBegin (d := d + 1) q21
  have qw2 := qw1.fr i4 (by omega)
  have q12 := e2.fr i4 (by omega)
  have qr2 := qr1.fr i4 (by omega)
  have m12 := m11.fr i4 (by omega)
  have m22 := m21.fr i4 (by omega)
  have c0 := hW.1
  obtain ⟨h', D1', D2', g', y1, y2, y3, y4, y5, y6, y7⟩ := l_gn (d := d) t1 hT t2 hU hn hW hvn hB1 hB2 hro n 0 h2 _ _ R (by omega) qw2 q12 i2 qr2 m12 m22 hR1 (fun j hj => (hR j hj).1) (fun j _ hj => (hR j hj).2) (by rw [c0]; exact RD_0 rfl ⟨e3.2.2.1, e3.2.2.2⟩) (by rw [c0]; exact RD_0 rfl ⟨i3.2.2.1, i3.2.2.2⟩) rfl rfl
  refine ⟨h', D1', D2', g', ?_, y2, y3, by rw [hR1] at y4; exact y4, fun j hj => y5 j (Nat.zero_le _) hj, ?_⟩
  · rw [call_at mt_53 [some (.ref a), some (.ref b1), some (.ref b2), some (.ref ro), none, none, none, none] rfl rfl rfl, nd_53_0 (St_run (d + 2) mt_53), qw.g16, q1.o, e1, bind_some', rV_some, qw1.g17, q21.o, i1, bind_some', rV_some]
    exact y1
  · exact Fs.tr (Fs.tr (e4.in (a + 13, 6) (by simp) (Nat.le_refl _) (by omega)) (i4.in (a + 13, 6) (by simp) (by omega) (by omega))) y7
end GN
