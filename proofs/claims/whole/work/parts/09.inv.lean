/-! ===== an instruction of ours is an instruction of the machine's ===== -/
theorem pI_inv {st : List Value} {f : Int32 → List Value → Option RV} {res : RV} (h : pI st f = some res) : ∃ x r, st = .int x :: r ∧ f x r = some res := by
  unfold pI at h
  split at h
  · exact ⟨_, _, rfl, h⟩
  · cases h
theorem pL_inv {st : List Value} {f : Int64 → List Value → Option RV} {res : RV} (h : pL st f = some res) : ∃ x r, st = .long x :: r ∧ f x r = some res := by
  unfold pL at h
  split at h
  · exact ⟨_, _, rfl, h⟩
  · cases h
theorem pR_inv {st : List Value} {f : Nat → List Value → Option RV} {res : RV} (h : pR st f = some res) : ∃ x r, st = .ref x :: r ∧ f x r = some res := by
  unfold pR at h
  split at h
  · exact ⟨_, _, rfl, h⟩
  · cases h
theorem pQ_inv {st : List Value} {g : List Value → Option RV} {f : Nat → List Value → Option RV} {res : RV} (h : pQ st g f = some res) : (∃ x r, st = .ref x :: r ∧ f x r = some res) ∨ ∃ r, st = .null :: r ∧ g r = some res := by
  unfold pQ at h
  split at h
  · exact Or.inl ⟨_, _, rfl, h⟩
  · exact Or.inr ⟨_, rfl, h⟩
  · cases h
theorem gLI_inv {L : List (Option Value)} {i : Nat} {f : Int32 → Option RV} {res : RV} (h : gLI L i f = some res) : ∃ x, L[i]? = some (some (.int x)) ∧ f x = some res := by
  unfold gLI at h
  split at h
  · exact ⟨_, by assumption, h⟩
  · cases h
theorem gLL_inv {L : List (Option Value)} {i : Nat} {f : Int64 → Option RV} {res : RV} (h : gLL L i f = some res) : ∃ x, L[i]? = some (some (.long x)) ∧ f x = some res := by
  unfold gLL at h
  split at h
  · exact ⟨_, by assumption, h⟩
  · cases h
theorem gLQ_inv {L : List (Option Value)} {i : Nat} {g : Option RV} {f : Nat → Option RV} {res : RV} (h : gLQ L i g f = some res) : (∃ x, L[i]? = some (some (.ref x)) ∧ f x = some res) ∨ (L[i]? = some (some .null) ∧ g = some res) := by
  unfold gLQ at h
  split at h
  · exact Or.inl ⟨_, by assumption, h⟩
  · exact Or.inr ⟨by assumption, h⟩
  · cases h
theorem cond_inv {b : Bool} {x : Option RV} {res : RV} (h : (bif b then x else none) = some res) : b = true ∧ x = some res := by
  cases b
  · cases h
  · exact ⟨rfl, h⟩
theorem sL_inv {L : List (Option Value)} {i : Nat} {v : Value} {f : List (Option Value) → Option RV} {res : RV} (h : sL L i v f = some res) : i < L.length ∧ noL L i = true ∧ f (L.set i (some v)) = some res := by
  obtain ⟨h1, h2⟩ := cond_inv h
  rw [Bool.and_eq_true] at h1
  exact ⟨Nat.le_of_ble_eq_true h1.1, h1.2, h2⟩
theorem sLL_inv {L : List (Option Value)} {i : Nat} {v : Value} {f : List (Option Value) → Option RV} {res : RV} (h : sLL L i v f = some res) : i + 1 < L.length ∧ noL L i = true ∧ f ((L.set i (some v)).set (i + 1) none) = some res := by
  obtain ⟨h1, h2⟩ := cond_inv h
  rw [Bool.and_eq_true] at h1
  exact ⟨Nat.le_of_ble_eq_true h1.1, h1.2, h2⟩
theorem jmp_inv {pc : Nat} {off : Int} {f : Nat → Option RV} {res : RV} (h : jmp pc off f = some res) : ∃ t : Nat, (pc : Int) + off = (t : Int) ∧ f t = some res := by
  unfold jmp at h
  split at h
  · exact ⟨_, by assumption, h⟩
  · cases h
theorem gfI_inv {h : AH} {a ci k : Nat} {f : Int32 → Option RV} {res : RV} (hs : gfI h a ci k f = some res) : ∃ fs x, h.1 a = some (oB ci fs) ∧ fs[k]? = some (.int x) ∧ f x = some res := by
  unfold gfI at hs
  split at hs
  · split at hs
    · next hc =>
      subst hc
      split at hs
      · exact ⟨_, _, by assumption, by assumption, hs⟩
      · cases hs
    · cases hs
  · cases hs
theorem gfQ_inv {h : AH} {a ci k : Nat} {g : Option RV} {f : Nat → Option RV} {res : RV} (hs : gfQ h a ci k g f = some res) : ∃ fs, h.1 a = some (oB ci fs) ∧ ((∃ x, fs[k]? = some (.ref x) ∧ f x = some res) ∨ (fs[k]? = some .null ∧ g = some res)) := by
  unfold gfQ at hs
  split at hs
  · split at hs
    · next hc =>
      subst hc
      split at hs
      · exact ⟨_, by assumption, Or.inl ⟨_, by assumption, hs⟩⟩
      · exact ⟨_, by assumption, Or.inr ⟨by assumption, hs⟩⟩
      · cases hs
    · cases hs
  · cases hs
theorem pfV_inv {h : AH} {a ci k : Nat} {v : Value} {f : AH → Option RV} {res : RV} (hs : pfV h a ci k v f = some res) : ∃ fs, h.1 a = some (oB ci fs) ∧ k < fs.length ∧ f (hS h a (oB ci (fs.set k v))) = some res := by
  unfold pfV at hs
  split at hs
  · split at hs
    · next hc =>
      obtain ⟨hc, hk⟩ := hc
      subst hc
      exact ⟨_, by assumption, hk, hs⟩
    · cases hs
  · cases hs
theorem isZ_inv {x : Int32} {f : Option RV} {res : RV} (h : isZ x f = some res) : (x = 0 ∨ x = 1) ∧ f = some res := by
  unfold isZ at h
  split at h
  · exact ⟨by assumption, h⟩
  · cases h
theorem ldI_inv {h : AH} {a : Nat} {i : Int32} {f : Int32 → Option RV} {res : RV} (hs : ldI h a i f = some res) : ∃ t n g, h.1 a = some (aI t n g) ∧ ¬ t = 1 ∧ vp_in i n ∧ f (g i.toNatClampNeg) = some res := by
  unfold ldI at hs
  split at hs
  · split at hs
    · cases hs
    · next hc => exact ⟨_, _, _, by assumption, fun q => hc (Or.inl q), fun q => hc (Or.inr q), hs⟩
  · cases hs
theorem ldZ_inv {h : AH} {a : Nat} {i : Int32} {f : Int32 → Option RV} {res : RV} (hs : ldZ h a i f = some res) : ∃ n g, h.1 a = some (aI 1 n g) ∧ vp_in i n ∧ f (g i.toNatClampNeg) = some res := by
  unfold ldZ at hs
  split at hs
  · split at hs
    · cases hs
    · next hc =>
      rw [not_or] at hc
      obtain ⟨h1, h2⟩ := hc
      have h1 := Decidable.not_not.mp h1
      subst h1
      exact ⟨_, _, by assumption, h2, hs⟩
  · cases hs
theorem ldQ_inv {h : AH} {a : Nat} {i : Int32} {g0 : Option RV} {f : Nat → Option RV} {res : RV} (hs : ldQ h a i g0 f = some res) : ∃ t n g, h.1 a = some (aQ t n g) ∧ vp_in i n ∧ ((∃ b, g i.toNatClampNeg = some b ∧ f b = some res) ∨ (g i.toNatClampNeg = none ∧ g0 = some res)) := by
  unfold ldQ at hs
  split at hs
  · split at hs
    · cases hs
    · next hc =>
      split at hs
      · exact ⟨_, _, _, by assumption, hc, Or.inl ⟨_, by assumption, hs⟩⟩
      · exact ⟨_, _, _, by assumption, hc, Or.inr ⟨by assumption, hs⟩⟩
  · cases hs
theorem stI_inv {h : AH} {a : Nat} {i x : Int32} {f : AH → Option RV} {res : RV} (hs : stI h a i x f = some res) : ∃ n g, h.1 a = some (aI 0 n g) ∧ vp_in i n ∧ f (hS h a (aI 0 n (upd g i.toNatClampNeg x))) = some res := by
  unfold stI at hs
  split at hs
  · split at hs
    · cases hs
    · next hc =>
      rw [not_or] at hc
      obtain ⟨h1, h2⟩ := hc
      have h1 := Decidable.not_not.mp h1
      subst h1
      exact ⟨_, _, by assumption, h2, hs⟩
  · cases hs
theorem stZ_inv {h : AH} {a : Nat} {i x : Int32} {f : AH → Option RV} {res : RV} (hs : stZ h a i x f = some res) : ∃ n g, h.1 a = some (aI 1 n g) ∧ vp_in i n ∧ f (hS h a (aI 1 n (upd g i.toNatClampNeg (vp_nar .boolean x)))) = some res := by
  unfold stZ at hs
  split at hs
  · split at hs
    · cases hs
    · next hc =>
      rw [not_or] at hc
      obtain ⟨h1, h2⟩ := hc
      have h1 := Decidable.not_not.mp h1
      subst h1
      exact ⟨_, _, by assumption, h2, hs⟩
  · cases hs
theorem isO_inv {h : AH} {a ci : Nat} {f : Option RV} {res : RV} (hs : isO h a ci f = some res) : ∃ fs, h.1 a = some (oB ci fs) ∧ f = some res := by
  unfold isO at hs
  split at hs
  · split at hs
    · next hc =>
      subst hc
      exact ⟨_, by assumption, hs⟩
    · cases hs
  · cases hs
theorem stQ_inv {h : AH} {a : Nat} {i : Int32} {v : Nat} {f : AH → Option RV} {res : RV} (hs : stQ h a i v f = some res) : ∃ t n g fs, h.1 a = some (aQ t n g) ∧ vp_in i n ∧ h.1 v = some (oB (qcl t) fs) ∧ f (hS h a (aQ t n (va_up g i.toNatClampNeg (some v)))) = some res := by
  unfold stQ at hs
  split at hs
  · split at hs
    · cases hs
    · next hc =>
      obtain ⟨fs, h1, h2⟩ := isO_inv hs
      exact ⟨_, _, _, _, by assumption, hc, h1, h2⟩
  · cases hs
theorem lnA_inv {h : AH} {a : Nat} {f : Int32 → Option RV} {res : RV} (hs : lnA h a f = some res) : (∃ t n g, h.1 a = some (aI t n g) ∧ f (Int32.ofNat n) = some res) ∨ ∃ t n g, h.1 a = some (aQ t n g) ∧ f (Int32.ofNat n) = some res := by
  unfold lnA at hs
  split at hs
  · exact Or.inl ⟨_, _, _, by assumption, hs⟩
  · exact Or.inr ⟨_, _, _, by assumption, hs⟩
  · cases hs
theorem cpA_inv {h : AH} {s d : Nat} {sp dp n : Int32} {f : AH → Option RV} {res : RV} (hs : cpA h s sp d dp n f = some res) : ∃ n0 g0 n1 g1, h.1 s = some (aI 0 n0 g0) ∧ h.1 d = some (aI 0 n1 g1) ∧ ¬ s = d ∧ ¬ sp < 0 ∧ ¬ dp < 0 ∧ ¬ n < 0 ∧ sp.toNatClampNeg + n.toNatClampNeg ≤ n0 ∧ dp.toNatClampNeg + n.toNatClampNeg ≤ n1 ∧ f (hS h d (aI 0 n1 (va_cpy g0 g1 sp.toNatClampNeg dp.toNatClampNeg n.toNatClampNeg))) = some res := by
  unfold cpA at hs
  split at hs
  · split at hs
    · split at hs
      · cases hs
      · next hc =>
        simp only [not_or, Decidable.not_not] at hc
        obtain ⟨c1, c2, c3, c4, c5, c6, c7, c8⟩ := hc
        subst c2
        subst c3
        exact ⟨_, _, _, _, by assumption, by assumption, c1, c4, c5, c6, Nat.not_lt.mp c7, Nat.not_lt.mp c8, hs⟩
    · cases hs
  · cases hs
theorem swt_inv {x : Int32} {f : Int → Option RV} {dflt : Option RV} {res : RV} : ∀ (offs : List Int) (lo : Int), swt x lo offs f dflt = some res → (∃ (k : Nat) (o : Int), offs[k]? = some o ∧ x.toInt = lo + k ∧ f o = some res) ∨ ((∀ k : Nat, k < offs.length → ¬ x.toInt = lo + k) ∧ dflt = some res)
  | [], lo, h => Or.inr ⟨fun k hk => absurd hk (Nat.not_lt_zero k), h⟩
  | o :: r, lo, h => by
    unfold swt at h
    split at h
    · next hc => exact Or.inl ⟨0, o, rfl, by rw [hc]; simp, h⟩
    · next hc =>
      rcases swt_inv r (lo + 1) h with ⟨k, o', h1, h2, h3⟩ | ⟨h1, h2⟩
      · exact Or.inl ⟨k + 1, o', h1, by rw [h2]; push_cast; omega, h3⟩
      · refine Or.inr ⟨fun k hk => ?_, h2⟩
        cases k with
        | zero => simpa using hc
        | succ k =>
          have := h1 k (by simp at hk; omega)
          push_cast
          omega
theorem elem_in {α : Type} [BEq α] [LawfulBEq α] {a : α} {l : List α} (h : l.elem a = true) : a ∈ l := List.elem_iff.mp h
theorem map_in {α β : Type} {l : List (α × β)} {t : List α} (he : l.map (fun x => x.1) = t) {a : α} (h : a ∈ t) : ∃ b, (a, b) ∈ l := by
  rw [← he] at h
  obtain ⟨x, h1, h2⟩ := List.mem_map.mp h
  exact ⟨x.2, by rw [← h2]; exact h1⟩
theorem fl_use {q : Nat × Nat × Nat × Nat} (h : flT.elem q = true) : ∃ r : vw_C, cls9[q.2.2.1]? = some r ∧ q.2.2.2 < r.2.2 ∧ Cond.fieldLink (cnm q.1) q.2.1 (r.2.1 q.2.2.2).1 (r.2.1 q.2.2.2).2.1 (r.2.1 q.2.2.2).2.2.1 ∈ gtbl := by
  obtain ⟨p, hp⟩ := map_in fl_eq (elem_in h)
  obtain ⟨h1, h2, h3⟩ := fl_ok _ hp
  dsimp only at h1 h2 h3
  unfold flk at h3
  unfold flw at h1 h2
  cases hc : cls9[q.2.2.1]? with
  | none => rw [hc] at h3; cases h3
  | some r =>
    rw [hc] at h1 h2 h3
    dsimp only at h1 h2 h3
    exact ⟨r, rfl, Nat.le_of_ble_eq_true h3, gt_of h1 h2⟩
theorem ml_use {q : Nat × Nat × Nat} (h : mlT.elem q = true) : Cond.methodLink (cnm q.1) q.2.1 (mnm q.2.2) ∈ gtbl := by
  obtain ⟨p, hp⟩ := map_in ml_eq (elem_in h)
  exact gt_of (ml_ok _ hp) rfl
theorem kl_use {q : Nat × Nat × Nat} (h : klT.elem q = true) : ∃ r : vw_C, cls9[q.2.2]? = some r ∧ Cond.classLink (cnm q.1) q.2.1 r.1 ∈ gtbl ∧ Cond.instantiable r.1 r.2.2 ∈ gtbl ∧ Cond.initialized r.1 ∈ gtbl := by
  obtain ⟨p, hp⟩ := map_in kl_eq (elem_in h)
  obtain ⟨h1, h2, h3⟩ := kl_ok _ hp
  have h4 := gt_list _ _ h1 h2
  dsimp only at h3 h4
  unfold klw at h4
  cases hc : cls9[q.2.2]? with
  | none => rw [hc] at h3; cases h3
  | some r =>
    rw [hc] at h4
    dsimp only at h4
    exact ⟨r, rfl, h4 _ (by simp), h4 _ (by simp), h4 _ (by simp)⟩
theorem ql_use {q : Nat × Nat × Nat} (h : qlT.elem q = true) : Cond.classLink (cnm q.1) q.2.1 (qlc q.2.2) ∈ gtbl ∧ (q.2.2 = 2 ∨ q.2.2 = 3 ∨ q.2.2 = 4) := by
  obtain ⟨p, hp⟩ := map_in ql_eq (elem_in h)
  obtain ⟨h1, h2⟩ := ql_ok _ hp
  exact ⟨gt_list _ _ h1 rfl _ (by simp), h2⟩
theorem ll_use {q : Nat × Nat × Nat} (h : llT.elem q = true) : Cond.constantLong (cnm q.1) q.2.1 (Int64.ofNat q.2.2) ∈ gtbl := by
  obtain ⟨p, hp⟩ := map_in ll_eq (elem_in h)
  exact gt_of (ll_ok _ hp).1 (ll_ok _ hp).2
theorem ol_use {q : Nat × Nat} (h : olT.elem q = true) : Cond.methodLink (cnm q.1) q.2 objectInit ∈ gtbl := by
  obtain ⟨p, hp⟩ := map_in ol_eq (elem_in h)
  exact gt_of (ol_ok _ hp) rfl
theorem al_use {q : Nat × Nat} (h : alT.elem q = true) : Cond.methodLink (cnm q.1) q.2 arraycopyName ∈ gtbl := by
  obtain ⟨p, hp⟩ := map_in al_eq (elem_in h)
  exact gt_of (al_ok _ hp) rfl
theorem xl_use {q : Nat × Nat × Nat} (h : xlT.elem q = true) : Cond.methodLink (cnm q.1) q.2.1 (xnm q.2.2) ∈ gtbl := by
  obtain ⟨p, hp⟩ := map_in xl_eq (elem_in h)
  exact gt_of (xl_ok _ hp).1 rfl
theorem cls_nm : ∀ (ci : Nat) (r : vw_C), cls9[ci]? = some r → r.1 = cnm ci
  | 0, r, h => by cases h; rfl
  | 1, r, h => by cases h; rfl
  | 2, r, h => by cases h; rfl
  | 3, r, h => by cases h; rfl
  | 4, r, h => by cases h; rfl
  | 5, r, h => by cases h; rfl
  | 6, r, h => by cases h; rfl
  | 7, r, h => by cases h; rfl
  | 8, r, h => by cases h; rfl
  | n + 9, r, h => by simp [cls9] at h
theorem fits_of {ci k kd : Nat} {v : Value} (hf : fkOk ci k kd = true) (hv : (kd = 0 ∧ ∃ x, v = .int x) ∨ (kd = 1 ∧ (v = .null ∨ ∃ a, v = .ref a)) ∨ (kd = 2 ∧ ∃ x : Int32, v = .int x ∧ (x = 0 ∨ x = 1))) : narrow (tyT ci k) v = v ∧ fits (tyT ci k) v = true := by
  unfold fkOk at hf
  generalize tyT ci k = ty at hf ⊢
  rcases hv with ⟨rfl, x, rfl⟩ | ⟨rfl, hv⟩ | ⟨rfl, x, rfl, hx⟩
  · cases ty <;> first | exact ⟨rfl, rfl⟩ | (simp at hf; done)
  · cases ty <;> first | (simp at hf; done) | (rcases hv with rfl | ⟨a, rfl⟩ <;> exact ⟨rfl, rfl⟩)
  · cases ty <;> first | (simp at hf; done) | (rcases hx with rfl | rfl <;> exact ⟨by decide +kernel, by decide +kernel⟩)
