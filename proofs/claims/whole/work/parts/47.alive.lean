/-! ===== pure: orbits from which a good state can come ===== -/
def livP (T : TM) : Nat → Nat → Prop
  | 0, c => T.2.2.2 (c / 625 / 6) = true
  | n + 1, c => livP T n c ∨ ∃ l v, l < 3 ∧ 1 ≤ v ∧ v ≤ top c + 1 ∧ livP T n (chd T T0 c l v)
def alv (T : TM) (c : Nat) : Prop := ∃ n, livP T n c
noncomputable def alB (T : TM) (c : Nat) : Bool := @decide (alv T c) (Classical.propDecidable _)
theorem alB_iff {T : TM} {c : Nat} : alB T c = true ↔ alv T c := by
  unfold alB
  exact @decide_eq_true_iff (alv T c) (Classical.propDecidable _)
theorem alv_good {T : TM} {c : Nat} (h : T.2.2.2 (c / 625 / 6) = true) : alv T c := ⟨0, h⟩
theorem alv_step {T : TM} {c l v : Nat} (hl : l < 3) (hv : 1 ≤ v) (hv2 : v ≤ top c + 1) (h : alv T (chd T T0 c l v)) : alv T c := by
  obtain ⟨n, hn⟩ := h
  exact ⟨n + 1, Or.inr ⟨l, v, hl, hv, hv2, hn⟩⟩
/-- orbit j comes next to orbit i -/
def nxt (T : TM) (q : Nat → Nat) (i j : Nat) : Prop := ∃ l v, l < 3 ∧ 1 ≤ v ∧ v ≤ top (q i) + 1 ∧ q j = chd T T0 (q i) l v
theorem alv_min {T : TM} (hT : WFT T) (S : Nat → Bool) (h0 : ∀ i, i < (bF T T0).1 → T.2.2.2 ((bF T T0).2.1 i / 625 / 6) = true → S i = true) (h1 : ∀ i j, i < (bF T T0).1 → j < (bF T T0).1 → nxt T (bF T T0).2.1 i j → S j = true → S i = true) : ∀ (n i : Nat), i < (bF T T0).1 → livP T n ((bF T T0).2.1 i) → S i = true := by
  intro n
  induction n with
  | zero => intro i hi h; exact h0 i hi h
  | succ n ih =>
    intro i hi h
    rcases h with h | ⟨l, v, hl, hv, hv2, h⟩
    · exact ih i hi h
    · obtain ⟨j, hj, e⟩ := bF_closed hT T0_wf hi hl hv hv2
      rw [← e] at h
      exact h1 i j hi hj ⟨l, v, hl, hv, hv2, e⟩ (ih j hj h)
/-- a set of orbits that is sound, holds the good ones and is closed is just the living ones -/
theorem alv_is {T : TM} (hT : WFT T) (S : Nat → Bool) (hs : ∀ i, i < (bF T T0).1 → S i = true → alv T ((bF T T0).2.1 i)) (h0 : ∀ i, i < (bF T T0).1 → T.2.2.2 ((bF T T0).2.1 i / 625 / 6) = true → S i = true) (h1 : ∀ i j, i < (bF T T0).1 → j < (bF T T0).1 → nxt T (bF T T0).2.1 i j → S j = true → S i = true) {i : Nat} (hi : i < (bF T T0).1) : S i = alB T ((bF T T0).2.1 i) := by
  have : S i = true ↔ alB T ((bF T T0).2.1 i) = true := by
    rw [alB_iff]
    exact ⟨hs i hi, fun ⟨n, h⟩ => alv_min hT S h0 h1 n i hi h⟩
  cases h1 : S i <;> cases h2 : alB T ((bF T T0).2.1 i) <;> simp_all
theorem nxt_alv {T : TM} {q : Nat → Nat} {i j : Nat} (h : nxt T q i j) (ha : alv T (q j)) : alv T (q i) := by
  obtain ⟨l, v, h1, h2, h3, h4⟩ := h
  rw [h4] at ha
  exact alv_step h1 h2 h3 ha
/-- every label is that of a way -/
theorem v_way {c : Nat} (hn : nor (c % 625) = true) {v : Nat} (hv : 1 ≤ v) (hv2 : v ≤ top c + 1) : ∃ w, w < 5 ∧ wlf (lb c) w ≠ 0 ∧ vv c w = v := by
  have hm : v ∈ vsN c := vsN_mem.mpr ⟨hv, hv2⟩
  rw [vsN_w hn] at hm
  have key : ∀ w, w < 4 → v ∈ (if wlf (lb c) w = 0 then [] else [wlf (lb c) w]) → ∃ w, w < 5 ∧ wlf (lb c) w ≠ 0 ∧ vv c w = v := fun w hw h => by
    by_cases h0 : wlf (lb c) w = 0
    · rw [if_pos h0] at h; cases h
    · rw [if_neg h0, List.mem_singleton] at h
      exact ⟨w, by omega, h0, by rw [h]; exact if_neg (by omega)⟩
  rcases List.mem_append.mp hm with h | hm
  · exact key 0 (by omega) h
  · rcases List.mem_append.mp hm with h | hm
    · exact key 1 (by omega) h
    · rcases List.mem_append.mp hm with h | hm
      · exact key 2 (by omega) h
      · rcases List.mem_append.mp hm with h | hm
        · exact key 3 (by omega) h
        · rw [List.mem_singleton] at hm
          exact ⟨4, by omega, by show 5 ≠ 0; decide, by rw [hm]; rfl⟩
/-- counting -/
theorem ctN_le2 {p q : Nat → Bool} : ∀ {n : Nat}, (∀ j, j < n → p j = true → q j = true) → ctN p n ≤ ctN q n
  | 0, _ => Nat.le_refl _
  | n + 1, h => by
    have e := ctN_le2 (n := n) (fun j hj => h j (by omega))
    have hn := h n (by omega)
    unfold ctN
    cases hp : p n with
    | false => simp; omega
    | true => rw [hn hp]; simp; omega
theorem ctN_lt2 {p q : Nat → Bool} : ∀ {n : Nat}, (∀ j, j < n → p j = true → q j = true) → (∃ j, j < n ∧ p j = false ∧ q j = true) → ctN p n < ctN q n
  | 0, _, h => by obtain ⟨j, hj, _⟩ := h; omega
  | n + 1, h, hx => by
    obtain ⟨j, hj, h1, h2⟩ := hx
    have hn := h n (by omega)
    by_cases hjn : j = n
    · subst hjn
      have e := ctN_le2 (n := j) (fun k hk => h k (by omega))
      unfold ctN
      rw [h1, h2]
      simp
      omega
    · have e := ctN_lt2 (n := n) (fun k hk => h k (by omega)) ⟨j, by omega, h1, h2⟩
      unfold ctN
      cases hp : p n with
      | false => simp; omega
      | true => rw [hn hp]; simp; omega
theorem ctN_all {p : Nat → Bool} : ∀ {n : Nat}, n ≤ ctN p n → ∀ j, j < n → p j = true
  | 0, _, j, hj => by omega
  | n + 1, h, j, hj => by
    have e := ctN_le p n
    unfold ctN at h
    cases hp : p n with
    | false => rw [hp] at h; simp at h; omega
    | true =>
      rw [hp] at h
      simp at h
      by_cases hjn : j = n
      · rw [hjn]; exact hp
      · exact ctN_all h j (by omega)
/-- where the fate of an orbit stands -/
def fx (c : Nat) : Nat := 6 * (c / 625 / 6) + (3 * lb c 0 + lb c 1)
theorem T0_vd {T : TM} {c : Nat} (h : vd T T0 c) : c / 625 % 6 = 0 ∧ lb c 2 = 0 ∧ lb c 3 = 0 := ⟨Nat.lt_one_iff.mp h.2.2.2.1, h.2.2.2.2.2 0 (by decide) (Nat.zero_le _), h.2.2.2.2.2 1 (by decide) (Nat.zero_le _)⟩
theorem fx_lt {T : TM} (hT : WFT T) {c : Nat} (h : vd T T0 c) : 3 * lb c 0 + lb c 1 < 6 ∧ fx c < 36 := by
  have h0 := (lb_r h.2.1 (show 0 < 4 by omega)).1
  have h1 := (lb_r h.2.1 (show 1 < 4 by omega)).1
  have h2 := h.2.2.1
  have h3 := hT.2.1
  unfold fx
  omega
theorem fx_inj {T : TM} {c e : Nat} (h : vd T T0 c) (g : vd T T0 e) (he : fx c = fx e) : c = e := by
  have h0 := (lb_r h.2.1 (show 0 < 4 by omega)).1
  have h1 := (lb_r h.2.1 (show 1 < 4 by omega)).1
  have g0 := (lb_r g.2.1 (show 0 < 4 by omega)).1
  have g1 := (lb_r g.2.1 (show 1 < 4 by omega)).1
  obtain ⟨a1, a2, a3⟩ := T0_vd h
  obtain ⟨b1, b2, b3⟩ := T0_vd g
  have p1 := beq_iff_eq.mp (pf_of (p := c % 625) (Nat.mod_lt _ (by decide)) h.2.1).2.2.2
  have p2 := beq_iff_eq.mp (pf_of (p := e % 625) (Nat.mod_lt _ (by decide)) g.2.1).2.2.2
  rw [← lb_mod] at p1 p2
  unfold fx at he
  rw [a2, a3] at p1
  rw [b2, b3] at p2
  generalize lb c 0 = x0 at *
  generalize lb c 1 = x1 at *
  generalize lb e 0 = y0 at *
  generalize lb e 1 = y1 at *
  omega
def fv (b : Bool) : Int32 := if b then 1 else 2
/-- the fates are those of T's orbits -/
def FT (T : TM) (f : Nat → Int32) : Prop := (∀ i, i < (bF T T0).1 → f (fx ((bF T T0).2.1 i)) = fv (alB T ((bF T T0).2.1 i))) ∧ (∀ j, j < 36 → (∀ i, i < (bF T T0).1 → fx ((bF T T0).2.1 i) ≠ j) → f j = 0)
