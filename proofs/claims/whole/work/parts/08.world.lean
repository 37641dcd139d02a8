/-! ===== the world: our heap beside the machine's ===== -/
abbrev tys (dA : Nat → ClassId) : List (ClassId × FieldType) := [(dA 0, .int), (dA 1, .boolean), (dA 2, .object RX0), (dA 3, .object RX6), (dA 4, .object RX4)]
def atC (G : va_G) (dA : Nat → ClassId) (s : State) (a : Nat) (e : AC) (H : Heap) : Prop := match e with
  | .inl (t, (n, f)) => if t = 2 then va_X a n f s H else t < 2 ∧ H[a]? = some (vp_cell (dA t) (n, .inl f))
  | .inr (.inl (t, (n, g))) => (t = 2 ∨ t = 3 ∨ t = 4) ∧ H[a]? = some (vp_cell (dA t) (n, .inr (.inr (.inr (.inr g)))))
  | .inr (.inr (ci, fs)) => va_at G cls9 (a, .inr (ci, fs)) H
theorem atC.kept {G : va_G} {dA : Nat → ClassId} {s : State} {a : Nat} {e : AC} {H H1 : Heap} (h : atC G dA s a e H) (hq : H1[a]? = H[a]?) : atC G dA s a e H1 := by
  rcases e with ⟨t, n, f⟩ | ⟨t, n, g⟩ | ⟨ci, fs⟩
  · unfold atC at h ⊢
    dsimp only at h ⊢
    by_cases ht : t = 2
    · rw [if_pos ht] at h ⊢
      exact h.kept hq
    · rw [if_neg ht] at h ⊢
      exact ⟨h.1, hq.trans h.2⟩
  · exact ⟨h.1, hq.trans h.2⟩
  · exact va_at.kept (q := (a, .inr (ci, fs))) h hq
theorem atC.lt {G : va_G} {dA : Nat → ClassId} {s : State} {a : Nat} {e : AC} {H : Heap} (h : atC G dA s a e H) : a < H.size := by
  rcases e with ⟨t, n, f⟩ | ⟨t, n, g⟩ | ⟨ci, fs⟩
  · unfold atC at h
    dsimp only at h
    by_cases ht : t = 2
    · rw [if_pos ht] at h
      obtain ⟨scr, h1, -⟩ := h
      exact (Array.getElem?_eq_some_iff.mp h1).1
    · rw [if_neg ht] at h
      exact (Array.getElem?_eq_some_iff.mp h.2).1
  · exact (Array.getElem?_eq_some_iff.mp h.2).1
  · exact va_at.lt (q := (a, .inr (ci, fs))) h
theorem atC.moved {G : va_G} {dA : Nat → ClassId} {u U : State} {a : Nat} {e : AC} {H : Heap} (hvm : u.vm.Alike U.vm) (h : atC G dA u a e H) : atC G dA U a e H := by
  rcases e with ⟨t, n, f⟩ | ⟨t, n, g⟩ | ⟨ci, fs⟩
  · unfold atC at h ⊢
    dsimp only at h ⊢
    by_cases ht : t = 2
    · rw [if_pos ht] at h ⊢
      exact h.moved hvm
    · rw [if_neg ht] at h ⊢
      exact h
  · exact h
  · exact h
def WD (G : va_G) (dA : Nat → ClassId) (lo : Nat) (s : State) (h : AH) (H : Heap) : Prop := (H.size = h.2.1 ∧ lo ≤ H.size) ∧ ∀ (a : Nat) (e : AC), h.1 a = some e → atC G dA s a e H ∧ (lo ≤ a ∨ ∃ n f, e = aI 2 n f)
theorem WD.moved {G : va_G} {dA : Nat → ClassId} {lo : Nat} {u U : State} {h : AH} {H : Heap} (hvm : u.vm.Alike U.vm) (hW : WD G dA lo u h H) : WD G dA lo U h H := ⟨hW.1, fun a e he => ⟨(hW.2 a e he).1.moved hvm, (hW.2 a e he).2⟩⟩
theorem WD.set {G : va_G} {dA : Nat → ClassId} {lo : Nat} {s : State} {h : AH} {H H1 : Heap} {a : Nat} {e0 e : AC} (hW : WD G dA lo s h H) (ha : h.1 a = some e0) (h0 : ∀ n f, e0 ≠ aI 2 n f) (hnew : atC G dA s a e H1) (hz : H1.size = H.size) (ho : ∀ q : Nat, q ≠ a → H1[q]? = H[q]?) : WD G dA lo s (hS h a e) H1 := by
  refine ⟨by rw [hz]; exact hW.1, fun b eb hb => ?_⟩
  unfold hS at hb
  dsimp only at hb
  by_cases hba : b = a
  · subst hba
    rw [if_pos rfl] at hb
    cases hb
    exact ⟨hnew, Or.inl ((hW.2 b e0 ha).2.resolve_right (fun ⟨n, f, q⟩ => h0 n f q))⟩
  · rw [if_neg hba] at hb
    obtain ⟨h1, h2⟩ := hW.2 b eb hb
    exact ⟨h1.kept (ho b hba), h2⟩
theorem WD.lo {G : va_G} {dA : Nat → ClassId} {lo : Nat} {s : State} {h : AH} {H : Heap} {a : Nat} {e0 : AC} (hW : WD G dA lo s h H) (ha : h.1 a = some e0) (h0 : ∀ n f, e0 ≠ aI 2 n f) : lo ≤ a := (hW.2 a e0 ha).2.resolve_right (fun ⟨n, f, q⟩ => h0 n f q)
theorem WD.new {G : va_G} {dA : Nat → ClassId} {lo : Nat} {s : State} {h : AH} {H H1 : Heap} {e : AC} (n : Nat) (hW : WD G dA lo s h H) (hnew : atC G dA s H.size e H1) (hz : H1.size = H.size + 1) (ho : ∀ q : Nat, q < H.size → H1[q]? = H[q]?) : WD G dA lo s (hN h e n) H1 := by
  refine ⟨⟨by rw [hz, hW.1.1]; rfl, by rw [hz]; exact Nat.le_succ_of_le hW.1.2⟩, fun b eb hb => ?_⟩
  unfold hN at hb
  dsimp only at hb
  by_cases hba : b = h.2.1
  · rw [if_pos hba] at hb
    cases hb
    rw [← hW.1.1] at hba
    subst hba
    exact ⟨hnew, Or.inl hW.1.2⟩
  · rw [if_neg hba] at hb
    obtain ⟨h1, h2⟩ := hW.2 b eb hb
    exact ⟨h1.kept (ho b h1.lt), h2⟩
def KK (G : va_G) (dA : Nat → ClassId) (U : State) : Prop := va_K G cls9 (tys dA) U ∧ (∀ q ∈ nlT, va_Nw (.methodLinkNest (cnm q.1) q.2.1 (mnm q.2.2) "NameRows") U) ∧ (va_AO RX0 U ∧ va_AO RX6 U ∧ va_AO RX4 U)
theorem KK.warm {G : va_G} {dA : Nat → ClassId} {s U : State} (hW : s.WarmedH U.vm) (h : KK G dA s) : KK G dA U := ⟨h.1.moved hW.alike, fun q hq => (h.2.1 q hq).warmM hW, h.2.2.1.moved hW.alike, h.2.2.2.1.moved hW.alike, h.2.2.2.2.moved hW.alike⟩
theorem KK.calling {G : va_G} {dA : Nat → ClassId} {U : State} {g : JFrame} {mk : MethodId} {a : Array Value} (h : KK G dA U) : KK G dA (U.calling g mk a) := ⟨va_K.moved (u := U) (U := U.calling g mk a) (Vm.Alike.refl U.vm) h.1, fun q hq => va_Nw.same rfl (u := U) rfl (h.2.1 q hq), va_AO.moved (u := U) (U := U.calling g mk a) (Vm.Alike.refl U.vm) h.2.2.1, va_AO.moved (u := U) (U := U.calling g mk a) (Vm.Alike.refl U.vm) h.2.2.2.1, va_AO.moved (u := U) (U := U.calling g mk a) (Vm.Alike.refl U.vm) h.2.2.2.2⟩
/-! locals -/
def lvr (ls : Array Slot) (L : List (Option Value)) : Prop := ls.size = L.length ∧ lv_wf ls ∧ ∀ (i : Nat) (v : Value), L[i]? = some (some v) → ls[i]? = some (.val v)
def lvP (L : List (Option Value)) : List (Nat × Value) := L.zipIdx.filterMap fun q => q.1.map fun v => (q.2, v)
theorem mem_lvP {L : List (Option Value)} {i : Nat} {v : Value} : (i, v) ∈ lvP L ↔ L[i]? = some (some v) := by
  unfold lvP
  rw [List.mem_filterMap]
  constructor
  · rintro ⟨⟨o, j⟩, h1, h2⟩
    cases o with
    | none => cases h2
    | some w =>
      simp at h2
      obtain ⟨rfl, rfl⟩ := h2
      exact List.mem_zipIdx_iff_getElem?.mp h1
  · intro h
    exact ⟨(some v, i), List.mem_zipIdx_iff_getElem?.mpr h, rfl⟩
theorem lvr_has {ls : Array Slot} {L : List (Option Value)} (h : lvr ls L) : lv_has ls L.length (lvP L) := ⟨h.1, h.2.1, fun q hq => h.2.2 q.1 q.2 (mem_lvP.mp hq)⟩
theorem noL_cat {L : List (Option Value)} {j : Nat} {w : Value} (hn : noL L (j + 1) = true) (hj : L[j]? = some (some w)) : ¬ w.category = 2 := by
  unfold noL at hn
  dsimp only at hn
  rw [hj] at hn
  cases w <;> first | (intro h; simp [Value.category] at h; done) | (simp at hn; done)
theorem lvr_set {ls' : Array Slot} {L : List (Option Value)} {i : Nat} {v : Value} (hi : i < L.length) (hn : noL L i = true) (h : lv_has ls' L.length ((i, v) :: (lvP L).filter (fun q => !(q.1 == i) && !(q.1 + 1 == i && q.2.category == 2)))) : lvr ls' (L.set i (some v)) := by
  refine ⟨by rw [List.length_set]; exact h.1, h.2.1, fun j w hj => ?_⟩
  rw [List.getElem?_set] at hj
  by_cases hij : i = j
  · subst hij
    simp [hi] at hj
    subst hj
    exact h.2.2 (i, v) List.mem_cons_self
  · rw [if_neg hij] at hj
    refine h.2.2 (j, w) (List.mem_cons_of_mem _ (List.mem_filter.mpr ⟨mem_lvP.mpr hj, ?_⟩))
    have h1 : (j == i) = false := by simp; exact fun q => hij q.symm
    have h2 : (j + 1 == i && w.category == 2) = false := by
      by_cases hji : j + 1 = i
      · subst hji
        have := noL_cat hn hj
        simp [this]
      · simp [hji]
    simp [h1, h2]
theorem lvr_set2 {ls' : Array Slot} {L : List (Option Value)} {i : Nat} {v : Value} (hi : i + 1 < L.length) (hn : noL L i = true) (h : lv_has ls' L.length ((i, v) :: (lvP L).filter (fun q => !(q.1 == i) && (!(q.1 == i + 1) && !(q.1 + 1 == i && q.2.category == 2))))) : lvr ls' ((L.set i (some v)).set (i + 1) none) := by
  refine ⟨by rw [List.length_set, List.length_set]; exact h.1, h.2.1, fun j w hj => ?_⟩
  rw [List.getElem?_set] at hj
  by_cases hij1 : i + 1 = j
  · subst hij1
    simp [hi] at hj
  · rw [if_neg hij1, List.getElem?_set] at hj
    by_cases hij : i = j
    · subst hij
      simp [Nat.lt_of_succ_lt hi] at hj
      subst hj
      exact h.2.2 (i, v) List.mem_cons_self
    · rw [if_neg hij] at hj
      refine h.2.2 (j, w) (List.mem_cons_of_mem _ (List.mem_filter.mpr ⟨mem_lvP.mpr hj, ?_⟩))
      have h1 : (j == i) = false := by simp; exact fun q => hij q.symm
      have h3 : (j == i + 1) = false := by simp; exact fun q => hij1 q.symm
      have h2 : (j + 1 == i && w.category == 2) = false := by
        by_cases hji : j + 1 = i
        · subst hji
          have := noL_cat hn hj
          simp [this]
        · simp [hji]
      simp [h1, h2, h3]
theorem msk_len (mk : List (Nat × List Nat)) (pc : Nat) (L : List (Option Value)) : (msk mk pc L).length = L.length := by
  unfold msk
  split
  · simp
  · rfl
theorem lvr_msk {ls : Array Slot} {L : List (Option Value)} (mk : List (Nat × List Nat)) (pc : Nat) (h : lvr ls L) : lvr ls (msk mk pc L) := by
  refine ⟨by rw [msk_len]; exact h.1, h.2.1, fun i v hi => h.2.2 i v ?_⟩
  unfold msk at hi
  split at hi
  · rw [List.getElem?_map, List.getElem?_zipIdx] at hi
    cases hL : L[i]? with
    | none => rw [hL] at hi; cases hi
    | some o =>
      rw [hL] at hi
      simp at hi
      cases hb : (decide (i ∈ (by assumption : List Nat))) with
      | true => simp_all
      | false => simp_all
  · exact hi
