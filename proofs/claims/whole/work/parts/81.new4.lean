/-! ===== the reference, new ===== -/
def arrs (a ci : Nat) : List (Nat × (AC × Nat)) → AH → (AH → Option RV) → Option RV
  | [], h, f => f h
  | p :: l, h, f => pfV (hN h p.2.1 p.2.2) a ci p.1 (.ref h.2.1) (fun h1 => arrs a ci l h1 f)
def stL : List (Nat × (AC × Nat)) → Nat → List Value → List Value
  | [], _, fs => fs
  | p :: l, t, fs => stL l (t + 1) (fs.set p.1 (.ref t))
def smL : List (Nat × (AC × Nat)) → Nat
  | [] => 0
  | p :: l => p.2.2 + smL l
theorem arrs_eq {h0 : AH} {ci : Nat} {f : AH → Option RV} : ∀ (l : List (Nat × (AC × Nat))) (fs : List Value) (L : List AC) (k : Nat), (∀ p ∈ l, p.1 < fs.length) → arrs h0.2.1 ci l (mkN h0 ci fs L k) f = f (mkN h0 ci (stL l (h0.2.1 + 1 + L.length) fs) (L ++ l.map (fun p => p.2.1)) (k + smL l))
  | [], fs, L, k, _ => by
    show f (mkN h0 ci fs L k) = f (mkN h0 ci fs (L ++ []) (k + 0))
    rw [List.append_nil, Nat.add_zero]
  | p :: l, fs, L, k, hp => by
    show pfV (hN (mkN h0 ci fs L k) p.2.1 p.2.2) h0.2.1 ci p.1 (.ref (mkN h0 ci fs L k).2.1) (fun h1 => arrs h0.2.1 ci l h1 f) = _
    rw [nk_arr (hp p (List.mem_cons_self ..)), arrs_eq l _ _ _ (fun p' hp' => by rw [List.length_set]; exact hp p' (List.mem_cons_of_mem _ hp'))]
    rw [List.length_append, List.length_singleton, List.append_assoc, Nat.add_assoc k]
    rfl
def arM : List (Nat × (AC × Nat)) := [(1, (aI 0 40 (fun _ => 0), 40)), (2, (aI 0 40 (fun _ => 0), 40)), (4, (aI 0 6 (fun _ => 0), 6)), (5, (aI 0 6 (fun _ => 0), 6)), (6, (aI 1 36 (fun _ => 0), 36)), (7, (aI 0 324 (fun _ => 0), 324)), (8, (aI 0 324 (fun _ => 0), 324)), (9, (aI 0 7 (fun _ => 0), 7)), (10, (aI 0 54 (fun _ => 0), 54)), (11, (aI 0 54 (fun _ => 0), 54)), (13, (aI 1 2 (fun _ => 0), 2)), (14, (aI 0 2 (fun _ => 0), 2)), (15, (aI 0 2 (fun _ => 0), 2)), (17, (aI 1 22500 (fun _ => 0), 22500)), (18, (aI 1 22500 (fun _ => 0), 22500)), (19, (aI 0 22500 (fun _ => 0), 22500)), (20, (aI 0 22500 (fun _ => 0), 22500)), (21, (aI 0 22500 (fun _ => 0), 22500)), (25, (aI 0 4 (fun _ => 0), 4)), (26, (aI 0 4 (fun _ => 0), 4)), (27, (aI 0 22500 (fun _ => 0), 22500)), (30, (aI 0 4 (fun _ => 0), 4)), (32, (aI 0 4 (fun _ => 0), 4)), (33, (aI 0 4 (fun _ => 0), 4)), (34, (aI 1 8 (fun _ => 0), 8)), (35, (aI 0 8 (fun _ => 0), 8)), (36, (aI 0 4 (fun _ => 0), 4)), (37, (aI 0 4 (fun _ => 0), 4)), (38, (aI 0 4 (fun _ => 0), 4)), (39, (aI 0 4 (fun _ => 0), 4)), (40, (aI 0 4 (fun _ => 0), 4)), (41, (aI 0 240 (fun _ => 0), 240))]
theorem arM_ok : ∀ p ∈ arM, p.1 < (dfl 8).length := by
  unfold arM
  simp only [List.mem_cons, List.not_mem_nil, or_false, forall_eq_or_imp, forall_eq, dfl, List.length_cons, List.length_nil]
  decide
def clO : List AC := [aI 0 40 (fun _ => 0), aI 0 40 (fun _ => 0), aI 0 6 (fun _ => 0), aI 0 6 (fun _ => 0), aI 1 36 (fun _ => 0), aI 0 324 (fun _ => 0), aI 0 324 (fun _ => 0), aI 0 7 (fun _ => 0), aI 0 54 (fun _ => 0), aI 0 54 (fun _ => 0), aI 1 2 (fun _ => 0), aI 0 2 (fun _ => 0), aI 0 2 (fun _ => 0), aI 1 22500 (fun _ => 0), aI 1 22500 (fun _ => 0), aI 0 22500 (fun _ => 0), aI 0 22500 (fun _ => 0), aI 0 22500 (fun _ => 0), aI 0 4 (fun _ => 0), aI 0 4 (fun _ => 0), aI 0 22500 (fun _ => 0), aI 0 4 (fun _ => 0), aI 0 4 (fun _ => 0), aI 0 4 (fun _ => 0), aI 1 8 (fun _ => 0), aI 0 8 (fun _ => 0), aI 0 4 (fun _ => 0), aI 0 4 (fun _ => 0), aI 0 4 (fun _ => 0), aI 0 4 (fun _ => 0), aI 0 4 (fun _ => 0), aI 0 240 (fun _ => 0)]
theorem clO_eq : arM.map (fun p => p.2.1) = clO := rfl
theorem clO_len : clO.length = 32 := rfl
theorem smM : (dfl 8).length + smL arM = 136235 := by simp only [arM, smL, dfl, List.length_cons, List.length_nil, Nat.reduceAdd]
theorem stM (a : Nat) : stL arM (a + 1) (dfl 8) = flMod a (fun _ => 0) := by
  simp only [arM, stL, dfl, List.set_cons_zero, List.set_cons_succ, flMod, Nat.add_assoc, Nat.reduceAdd]
theorem mod_at {h : AH} {a : Nat} (h0 : h.1 a = some (oB 8 (flMod a (fun _ => 0)))) (hc : ∀ i, i < 32 → h.1 (a + 1 + i) = clO[i]?) : isMod h a (fun _ => 0) (fun _ _ => 0) := by
  refine ⟨h0, fun k o t n hk => ?_⟩
  match k, hk with
  | 0, hk => cases hk
  | 1, hk => cases hk; exact hc 0 (by decide)
  | 2, hk => cases hk; exact hc 1 (by decide)
  | 3, hk => cases hk
  | 4, hk => cases hk; exact hc 2 (by decide)
  | 5, hk => cases hk; exact hc 3 (by decide)
  | 6, hk => cases hk; exact hc 4 (by decide)
  | 7, hk => cases hk; exact hc 5 (by decide)
  | 8, hk => cases hk; exact hc 6 (by decide)
  | 9, hk => cases hk; exact hc 7 (by decide)
  | 10, hk => cases hk; exact hc 8 (by decide)
  | 11, hk => cases hk; exact hc 9 (by decide)
  | 12, hk => cases hk
  | 13, hk => cases hk; exact hc 10 (by decide)
  | 14, hk => cases hk; exact hc 11 (by decide)
  | 15, hk => cases hk; exact hc 12 (by decide)
  | 16, hk => cases hk
  | 17, hk => cases hk; exact hc 13 (by decide)
  | 18, hk => cases hk; exact hc 14 (by decide)
  | 19, hk => cases hk; exact hc 15 (by decide)
  | 20, hk => cases hk; exact hc 16 (by decide)
  | 21, hk => cases hk; exact hc 17 (by decide)
  | 22, hk => cases hk
  | 23, hk => cases hk
  | 24, hk => cases hk
  | 25, hk => cases hk; exact hc 18 (by decide)
  | 26, hk => cases hk; exact hc 19 (by decide)
  | 27, hk => cases hk; exact hc 20 (by decide)
  | 28, hk => cases hk
  | 29, hk => cases hk
  | 30, hk => cases hk; exact hc 21 (by decide)
  | 31, hk => cases hk
  | 32, hk => cases hk; exact hc 22 (by decide)
  | 33, hk => cases hk; exact hc 23 (by decide)
  | 34, hk => cases hk; exact hc 24 (by decide)
  | 35, hk => cases hk; exact hc 25 (by decide)
  | 36, hk => cases hk; exact hc 26 (by decide)
  | 37, hk => cases hk; exact hc 27 (by decide)
  | 38, hk => cases hk; exact hc 28 (by decide)
  | 39, hk => cases hk; exact hc 29 (by decide)
  | 40, hk => cases hk; exact hc 30 (by decide)
  | 41, hk => cases hk; exact hc 31 (by decide)
  | k + 42, hk => cases hk
section EMPTY2
variable {d : Nat}
theorem K_106 (h : AH) : ∃ h1, call (d + 2) 106 [.ref h.2.1] (hN h (oB 8 (dfl 8)) (dfl 8).length) = some (none, h1) ∧ (∃ I A, isMod h1 h.2.1 I A ∧ RS I A s0) ∧ h1.2.1 = h.2.1 + 33 ∧ h1.2.2 = h.2.2 + 136235 ∧ ∀ b, b < h.2.1 ∨ h.2.1 + 33 ≤ b → h1.1 b = h.1 b := by
  obtain ⟨H, hH⟩ : ∃ H, H = mkN h 8 (flMod h.2.1 (fun _ => 0)) clO 136235 := ⟨_, rfl⟩
  have m : isMod H h.2.1 (fun _ => 0) (fun _ _ => 0) := mod_at (by rw [hH]; exact nk_a _ _ _ _ _) (fun i hi => by rw [hH]; exact nk_at _ _ _ _ _ (by rw [clO_len]; exact hi))
  have e0 : call (d + 2) 106 [.ref h.2.1] (hN h (oB 8 (dfl 8)) (dfl 8).length) = run (d + 1) mt_106 258 [some (.ref h.2.1), some (.int (nI 0))] [] H := by
    rw [nk_0, call_at mt_106 [some (.ref h.2.1), none] rfl rfl rfl, nd_106_0 (St_run (d + 1) mt_106) rfl]
    refine Eq.trans (arrs_eq (f := fun h32 => run (d + 1) mt_106 258 [some (.ref h.2.1), some (.int 0)] [] h32) arM (dfl 8) [] (dfl 8).length arM_ok) ?_
    rw [List.length_nil, Nat.add_zero, stM, List.nil_append, clO_eq, smM, hH]
    rfl
  have st : ∀ (k : Nat) (A : Nat → Nat → Int32), k < 4 → run (d + 1) mt_106 258 [some (.ref h.2.1), some (.int (nI k))] [] (mkR H h.2.1 (fun _ => 0) A) = run (d + 1) mt_106 258 [some (.ref h.2.1), some (.int (nI (k + 1)))] [] (mkR H h.2.1 (fun _ => 0) (updA A 39 (upd (A 39) k (-4)))) := fun k A hk => by
    rw [nd_106_258 (St_run (d + 1) mt_106), if_neg (show ¬ (4 : Int32) ≤ nI k from nI_ge (b := 4) hk (by omega)), mkR_g39, mkR_s39 _ _ _ _ hk, nI_1]
  have e4 : ∀ A, run (d + 1) mt_106 258 [some (.ref h.2.1), some (.int (nI (3 + 1)))] [] (mkR H h.2.1 (fun _ => 0) A) = some (none, mkR H h.2.1 (fun _ => 0) A) := fun A => by
    rw [nd_106_258 (St_run (d + 1) mt_106), if_pos (show (4 : Int32) ≤ nI (3 + 1) by decide)]
  have e1 := (st 0 (fun _ _ => 0) (by decide)).trans ((st 1 _ (by decide)).trans ((st 2 _ (by decide)).trans ((st 3 _ (by decide)).trans (e4 _))))
  rw [← mkR_self m] at e1
  have fin : ∃ A4, run (d + 1) mt_106 258 [some (.ref h.2.1), some (.int (nI 0))] [] H = some (none, mkR H h.2.1 (fun _ => 0) A4) ∧ rsSh A4 s0.2.2.2 := ⟨_, e1, fun k hk => by
    rcases (show k = 0 ∨ k = 1 ∨ k = 2 ∨ k = 3 by omega) with rfl | rfl | rfl | rfl <;> exact ⟨rfl, rfl, fun i hi => rfl⟩⟩
  obtain ⟨A4, f1, f2⟩ := fin
  have p := mkR_Fr H h.2.1 (fun _ => 0) A4
  refine ⟨_, e0.trans f1, ⟨_, _, mkR_is _ _ _ _, ⟨rfl, fun j hj => absurd hj (Nat.not_lt_zero _)⟩, ⟨rfl, fun j hj => absurd hj (Nat.not_lt_zero _)⟩, ⟨rfl, fun j hj => absurd hj (Nat.not_lt_zero _)⟩, f2⟩, ?_, ?_, fun b hb => ?_⟩
  · rw [p.1, hH]
    show h.2.1 + 1 + clO.length = _
    rw [clO_len]
  · rw [p.1, hH]
    rfl
  · rw [p.2 b (by omega), hH]
    rcases hb with hb | hb
    · exact nk_lo _ _ _ _ _ hb
    · exact nk_hi _ _ _ _ _ (by rw [clO_len]; omega)
end EMPTY2
