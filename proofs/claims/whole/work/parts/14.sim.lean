/-! ===== runs of ours are runs of the machine's; every call at every depth; the law ===== -/
def slV (x : Slot) : Option Value := match x with
  | .val v => some v
  | _ => none
theorem entL_sl (nL : Nat) (as : List Value) : entL nL as = (lg_sl as ++ List.replicate (nL - (lg_sl as).length) Slot.unset).map slV := by
  have e1 : (as.flatMap fun v => bif Nat.beq v.category 2 then [some v, none] else [some v]) = (lg_sl as).map slV := by
    unfold lg_sl
    induction as with
    | nil => rfl
    | cons v r ih =>
      rw [List.flatMap_cons, List.flatMap_cons, List.map_append, ih]
      congr 1
      rcases lv_cat v with hc | hc
      · rw [hc]; rfl
      · rw [hc]; rfl
  unfold entL
  dsimp only
  rw [e1, List.map_append, List.length_map]
  congr 1
  rw [List.map_replicate]
  rfl
theorem entL_lvr {nL : Nat} {as : List Value} (h : (entL nL as).length ≤ nL) : lvr ((lg_sl as ++ List.replicate (nL - (lg_sl as).length) Slot.unset).toArray) (entL nL as) ∧ (entL nL as).length = nL := by
  have hle : (lg_sl as).length ≤ nL := by
    rw [entL_sl] at h
    simp only [List.length_map, List.length_append, List.length_replicate] at h
    omega
  have h1 := lv_entry as hle
  have hlen : (entL nL as).length = nL := by
    rw [entL_sl]
    simp only [List.length_map, List.length_append, List.length_replicate]
    omega
  refine ⟨⟨by rw [hlen]; exact h1.1, h1.2.1, fun i v hi => ?_⟩, hlen⟩
  rw [entL_sl, List.getElem?_map] at hi
  rw [List.getElem?_toArray]
  cases hq : (lg_sl as ++ List.replicate (nL - (lg_sl as).length) Slot.unset)[i]? with
  | none => rw [hq] at hi; cases hi
  | some x =>
    rw [hq] at hi
    cases x <;> simp [slV] at hi
    subst hi
    rfl
section AM5
variable {p : Program} {l : Launch} {e : Env} {R : Room} {s : State} {m : MethodId} {args : Array Value} {below : List Frame} {meth : Method} {c : Code} {Q : State → Prop}
variable {G : va_G} {dA : Nat → ClassId} {lo : Nat}
theorem am_run {y d : Nat} {q : MT} (hq : mtab[y]? = some q) (X : CX p R s m args meth c q.1.2.1 q.1.2.2.1 q.2.1 (mini q) d G dA) (hC : CM l G dA lo d (call d)) {t0 s0 : Nat} {res : RV} (hmx : res.2.2.1 ≤ t0 + R.cells ∧ res.2.2.2 ≤ s0 + R.slots)
    (hret : ∀ (i : Instr) (r : Nat × (Nat × Nat)) (pc : Nat) (L : List (Option Value)) (st : List Value) (h : AH) (K : Kt) (H : Heap) (locs : List Loc) (cells slots : Nat) (ls : Array Slot), isRet i = true → decode q.1.2.1 pc = .ok (i, lenI i r) → stp (call d) (Nat.blt 0 d) q.1.2.2.2 i r pc L st h K = some res → Re G dA lo s q.1.2.2.1 t0 s0 L h H locs cells slots ls → W p l e R s m args below meth c H locs cells slots Q (F0 m pc ls st)) :
    ∀ (n : Nat) (pc : Nat) (L : List (Option Value)) (st : List Value) (h : AH) (H : Heap) (locs : List Loc) (cells slots : Nat) (ls : Array Slot), rAt (call d) (Nat.blt 0 d) q n pc L st h = some res → Re G dA lo s q.1.2.2.1 t0 s0 L h H locs cells slots ls → W p l e R s m args below meth c H locs cells slots Q (F0 m pc ls st)
  | 0, _, _, _, _, _, _, _, _, _, hs, _ => by cases hs
  | n + 1, pc, L, st, h, H, locs, cells, slots, ls, hs, hR => by
    unfold rAt at hs
    cases hi : q.2.2.1[pc]? with
    | none => rw [hi] at hs; cases hs
    | some o =>
      cases o with
      | none => rw [hi] at hs; cases hs
      | some ir =>
        obtain ⟨i, r⟩ := ir
        rw [hi] at hs
        dsimp only at hs
        obtain ⟨hdec, hlk⟩ := ck_all y q hq pc i r hi
        cases hr : isRet i with
        | true => exact hret i r pc L st h _ H locs cells slots ls hr hdec hs hR
        | false =>
          refine am_step X hC hdec hlk hr hs hR hmx (fun pc L st h' hk => (rAt_mono (call_le d) _ _ _ _ _ _ hk).2) (fun pc' L' st' h' H' locs' cells' slots' ls' hk hR' => ?_)
          obtain ⟨a1, a2, a3, a4⟩ := hR'
          exact am_run hq X hC hmx hret n pc' _ st' h' H' locs' cells' slots' ls' hk ⟨a1, lvr_msk _ _ a2, by rw [msk_len]; exact a3, a4⟩
theorem am_sim (l : Launch) (G : va_G) (dA : Nat → ClassId) (lo : Nat) : ∀ d, CM l G dA lo d (call d)
  | 0 => fun _ _ _ _ hs => by cases hs
  | d + 1 => fun y as h res hs => by
    refine ⟨call_le _ _ _ _ _ hs, fun hy => ?_⟩
    have hge := call_le _ _ _ _ _ hs
    unfold call at hs
    cases hq : mtab[y]? with
    | none => rw [hq] at hs; cases hs
    | some q =>
      rw [hq] at hs
      dsimp only at hs
      obtain ⟨hle, hs⟩ := cond_inv hs
      have hle := Nat.le_of_ble_eq_true hle
      obtain ⟨n, hn⟩ := (rn_some (call_le d)).mp hs
      obtain ⟨k, hk, hok⟩ := mt_ok y q hq (by omega)
      obtain ⟨hcw, hkw, hpl, hmh, hcn, hmxl, -⟩ := hok
      refine ⟨d, q, rfl, rfl, ?_⟩
      refine Met.ofW (cc := q.1.2.1) (maxL := q.1.2.2.1) (ret := q.1.2.2.2) hpl rfl ?_
      intro p e s m args below meth c s₁ B hml hv
      obtain ⟨rfl, hWD, hK⟩ := hv
      have hx := B.exec
      have hb := B.bytes
      have hr := B.returns
      have hts := atoms_spec (ws := wsm q) B.pre
      have hown : s.vm.findClass (cnm q.2.1) = some m.cls := by rw [← hcn]; exact findClass_of_methodNamed B.named
      have hlocks := B.notSynchronized
      have hin : mini q = true → meth.name = "<init>" := fun h => by
        rw [(name_of_methodNamed B.named B.method).1]
        exact of_decide_eq_true h
      rw [lg_entry_eq]
      obtain ⟨hl1, hl2⟩ := entL_lvr hle
      have X : CX p (headSpec (wsm q) (rmm d h res.2)).room s m as.toArray meth c q.1.2.1 q.1.2.2.1 q.2.1 (mini q) d G dA := ⟨hx, hb, hml, hown, fun w hw => hts w (List.mem_cons_of_mem _ hw), hK, hin, Nat.le_refl d, Nat.le_refl _⟩
      refine am_run (e := e) (below := below) hq X (am_sim l G dA lo d) (t0 := h.2.1) (s0 := h.2.2) (res := res) ⟨?_, ?_⟩ ?_ n 0 (entL q.1.2.2.1 as) [] h s.heap [] 0 0 _ hn ⟨hWD, hl1, hl2, fun _ hq => absurd hq List.not_mem_nil, Nat.zero_add _, Nat.zero_add _⟩
      · show res.2.2.1 ≤ h.2.1 + (res.2.2.1 - h.2.1)
        have := hge.1
        omega
      · show res.2.2.2 ≤ h.2.2 + (res.2.2.2 - h.2.2)
        have := hge.2
        omega
      · intro i r pc L st hh K H locs cells slots ls hi hdg hst hRe
        obtain ⟨hW, hL, hn', hlo, hc1, hc2⟩ := hRe
        have fin : ∀ {v : Option Value}, res = (v, hh) → ∀ t : State, t.heap = H → s.WarmedH t.vm → Qm G dA lo res as.toArray s (.returned v) t := fun {v} e t ht hWm => by
          subst e
          exact ⟨rfl, by rw [ht]; exact hW.moved hWm.alike⟩
        have cs : ∀ {v : Option Value}, res = (v, hh) → res.2.2.1 - h.2.1 = cells ∧ res.2.2.2 - h.2.2 = slots := fun {v} e => by
          subst e
          exact ⟨by show hh.2.1 - _ = _; omega, by show hh.2.2 - _ = _; omega⟩
        cases i with
        | ireturn =>
          obtain ⟨x, st', e0, h9⟩ := pI_inv hst
          clear hst
          subst e0
          cases st' with
          | cons v r => cases h9
          | nil =>
            cases hrt : q.1.2.2.2 with
            | none => rw [hrt] at h9; cases h9
            | some ty =>
              rw [hrt] at h9 hr
              cases ty <;> first | (cases h9; done) | skip
              · have e1 : res = (some (.int x), hh) := (Option.some.inj h9).symm
                rw [(cs e1).1, (cs e1).2]
                exact W.iret (v := x) hx hb hr (fin e1) hlo hdg
              · obtain ⟨hz, h9⟩ := isZ_inv h9
                have e1 : res = (some (.int x), hh) := (Option.some.inj h9).symm
                rw [(cs e1).1, (cs e1).2]
                refine W.zret (v := x) hx hb hr ?_ (fin e1) hlo hdg
                rcases hz with rfl | rfl <;> decide +kernel
        | areturn =>
          cases hrt : q.1.2.2.2 with
          | none => rw [hrt] at hst; cases hst
          | some ty =>
            rw [hrt] at hst hr
            cases ty <;> first | (cases hst; done) | skip
            rcases pQ_inv hst with ⟨x, st', e0, h9⟩ | ⟨st', e0, h9⟩ <;> (clear hst; subst e0)
            · cases st' with
              | cons v r => cases h9
              | nil =>
                have e1 : res = (some (.ref x), hh) := (Option.some.inj h9).symm
                rw [(cs e1).1, (cs e1).2]
                exact W.aret (v := .ref x) hx hb hr (Or.inl ⟨_, rfl⟩) (Or.inr ⟨x, rfl⟩) (fin e1) hlo hdg
            · cases st' with
              | cons v r => cases h9
              | nil =>
                have e1 : res = (some .null, hh) := (Option.some.inj h9).symm
                rw [(cs e1).1, (cs e1).2]
                exact W.aret (v := .null) hx hb hr (Or.inl ⟨_, rfl⟩) (Or.inl rfl) (fin e1) hlo hdg
        | return_ =>
          cases hrt : q.1.2.2.2 with
          | some ty => rw [hrt] at hst; cases hst
          | none =>
            rw [hrt] at hst hr
            cases st with
            | cons v r => cases hst
            | nil =>
              have e1 : res = (none, hh) := (Option.some.inj hst).symm
              rw [(cs e1).1, (cs e1).2]
              exact W.vret hx hb hr (fin e1) hlo hdg
        | _ => cases hi
end AM5
