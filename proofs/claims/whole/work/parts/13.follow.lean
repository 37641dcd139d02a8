theorem aft_inv {k : Nat} {q : RV} {pc : Nat} {L : List (Option Value)} {rest : List Value} {K : Kt} {res : RV} (h : aft k q pc L rest K = some res) : K (pc + 3) L (q.1.toList ++ rest) q.2 = some res := by
  obtain ⟨v, h'⟩ := q
  unfold aft at h
  split at h
  · unfold rV at h
    split at h
    · next hq => dsimp only at hq; subst hq; exact h
    · cases h
  · unfold rQ at h
    split at h
    · next hq => dsimp only at hq; subst hq; exact h
    · next hq => dsimp only at hq; subst hq; exact h
    · cases h
  · unfold rI at h
    split at h
    · next hq => dsimp only at hq; subst hq; exact h
    · cases h
def isRet (i : Instr) : Bool := match i with
  | .ireturn => true
  | .areturn => true
  | .return_ => true
  | _ => false
section AM4
variable {p : Program} {l : Launch} {e : Env} {R : Room} {s : State} {m : MethodId} {args : Array Value} {below : List Frame} {meth : Method} {c : Code} {H : Heap} {locs : List Loc} {cells slots : Nat} {Q : State → Prop}
variable {cc : ByteArray} {pc : Nat} {ls : Array Slot} {rest : List Value} {G : va_G} {dA : Nat → ClassId} {lo : Nat}
set_option maxHeartbeats 4000000 in
theorem am_step {nL own d : Nat} {ini : Bool} (X : CX p R s m args meth c cc nL own ini d G dA) {cl : Ct} (hC : CM l G dA lo d cl) {rt : Option FieldType} {t0 s0 : Nat} {i : Instr} {r : Nat × (Nat × Nat)} (hdec : decode cc pc = .ok (i, lenI i r)) (hlk : lk own ini i r = true) (hnr : isRet i = false)
    {L : List (Option Value)} {st : List Value} {h : AH} {K : Kt} {res : RV} (hs : stp cl (Nat.blt 0 d) rt i r pc L st h K = some res) (hR : Re G dA lo s nL t0 s0 L h H locs cells slots ls) (hmx : res.2.2.1 ≤ t0 + R.cells ∧ res.2.2.2 ≤ s0 + R.slots)
    (hmo : ∀ pc L st h', K pc L st h' = some res → leH h' res.2)
    (kk : ∀ (pc' : Nat) (L' : List (Option Value)) (st' : List Value) (h' : AH) (H' : Heap) (locs' : List Loc) (cells' slots' : Nat) (ls' : Array Slot), K pc' L' st' h' = some res → Re G dA lo s nL t0 s0 L' h' H' locs' cells' slots' ls' → W p l e R s m args below meth c H' locs' cells' slots' Q (F0 m pc' ls' st')) :
    W p l e R s m args below meth c H locs cells slots Q (F0 m pc ls st) := by
  obtain ⟨hW, hL, hn, hl, hc1, hc2⟩ := id hR
  have hx := X.1
  have hb := X.2.1
  have hml := X.2.2.1
  have hown := X.2.2.2.1
  have hts := X.2.2.2.2.1
  have hfr := X.2.2.2.2.2.2.2.1
  have hlc := X.2.2.2.2.2.2.2.2
  have hlen : ls.size = nL := hL.1.trans hn
  have go : ∀ {pc' : Nat} {L' : List (Option Value)} {st' : List Value} {ls' : Array Slot}, K pc' L' st' h = some res → lvr ls' L' → L'.length = nL → W p l e R s m args below meth c H locs cells slots Q (F0 m pc' ls' st') := fun hk h1 h2 => kk _ _ _ _ _ _ _ _ _ hk ⟨hW, h1, h2, hl, hc1, hc2⟩
  have st1 : ∀ {pc' : Nat} {st' : List Value} {i : Nat} {v : Value} {ls' : Array Slot}, i < L.length → noL L i = true → K pc' (L.set i (some v)) st' h = some res → lv_has ls' L.length ((i, v) :: (lvP L).filter (fun q => !(q.1 == i) && !(q.1 + 1 == i && q.2.category == 2))) → W p l e R s m args below meth c H locs cells slots Q (F0 m pc' ls' st') := fun h1 h2 hk h3 => go hk (lvr_set h1 h2 h3) (by rw [List.length_set]; exact hn)
  cases i with
  | aconst_null =>
    exact lv_null hx hb hdec (go hs hL hn)
  | iconst n =>
    exact lv_iconst hx hb hdec rfl (go hs hL hn)
  | bipush n =>
    exact lv_bipush hx hb hdec rfl (go hs hL hn)
  | sipush n =>
    exact lv_sipush hx hb hdec rfl (go hs hL hn)
  | lconst n =>
    exact lv_lconst hx hb hdec rfl (go hs hL hn)
  | ldc2_w n =>
    exact lv_ldc2 hx hb hown (hts _ (ll_use hlk)) hdec (go hs hL hn)
  | iload_n k =>
    obtain ⟨x, h1, h9⟩ := gLI_inv hs
    clear hs
    have hs := h9
    clear h9
    exact lv_iload_n hx hb hdec rfl (hL.2.2 _ _ h1) (go hs hL hn)
  | iload k =>
    obtain ⟨x, h1, h9⟩ := gLI_inv hs
    clear hs
    have hs := h9
    clear h9
    exact lv_iload hx hb hdec (hL.2.2 _ _ h1) (go hs hL hn)
  | lload_n k =>
    obtain ⟨x, h1, h9⟩ := gLL_inv hs
    clear hs
    have hs := h9
    clear h9
    exact lv_lload_n hx hb hdec rfl (hL.2.2 _ _ h1) (go hs hL hn)
  | lload k =>
    obtain ⟨x, h1, h9⟩ := gLL_inv hs
    clear hs
    have hs := h9
    clear h9
    exact lv_lload hx hb hdec (hL.2.2 _ _ h1) (go hs hL hn)
  | aload_n k =>
    rcases gLQ_inv hs with ⟨x, h1, hs⟩ | ⟨h1, hs⟩
    · exact lv_aload_n hx hb hdec rfl (hL.2.2 _ _ h1) (go hs hL hn)
    · exact lv_aload_nN hx hb hdec rfl (hL.2.2 _ _ h1) (go hs hL hn)
  | aload k =>
    rcases gLQ_inv hs with ⟨x, h1, hs⟩ | ⟨h1, hs⟩
    · exact lv_aload hx hb hdec (hL.2.2 _ _ h1) (go hs hL hn)
    · exact lv_aloadN hx hb hdec (hL.2.2 _ _ h1) (go hs hL hn)
  | istore_n k =>
    obtain ⟨x, r, e0, h9⟩ := pI_inv hs
    clear hs
    have hs := h9
    clear h9
    subst e0
    obtain ⟨h1, h2, h9⟩ := sL_inv hs
    clear hs
    have hs := h9
    clear h9
    exact lv_istore_n hx hb hdec rfl (lvr_has hL) h1 rfl (fun ls2 h3 => st1 h1 h2 hs h3)
  | istore k =>
    obtain ⟨x, r, e0, h9⟩ := pI_inv hs
    clear hs
    have hs := h9
    clear h9
    subst e0
    obtain ⟨h1, h2, h9⟩ := sL_inv hs
    clear hs
    have hs := h9
    clear h9
    exact lv_istore hx hb hdec (lvr_has hL) h1 rfl (fun ls2 h3 => st1 h1 h2 hs h3)
  | lstore k =>
    obtain ⟨x, r, e0, h9⟩ := pL_inv hs
    clear hs
    have hs := h9
    clear h9
    subst e0
    obtain ⟨h1, h2, h9⟩ := sLL_inv hs
    clear hs
    have hs := h9
    clear h9
    exact lv_lstore hx hb hdec (lvr_has hL) h1 rfl (fun ls2 h3 => go hs (lvr_set2 h1 h2 h3) (by rw [List.length_set, List.length_set]; exact hn))
  | astore_n k =>
    rcases pQ_inv hs with ⟨x, r, e0, h9⟩ | ⟨r, e0, h9⟩ <;> (clear hs; have hs := h9; clear h9; subst e0)
    · obtain ⟨h1, h2, h9⟩ := sL_inv hs
      clear hs
      have hs := h9
      clear h9
      exact lv_astore_n hx hb hdec rfl (lvr_has hL) h1 rfl (fun ls2 h3 => st1 h1 h2 hs h3)
    · obtain ⟨h1, h2, h9⟩ := sL_inv hs
      clear hs
      have hs := h9
      clear h9
      exact lv_astore_nN hx hb hdec rfl (lvr_has hL) h1 rfl (fun ls2 h3 => st1 h1 h2 hs h3)
  | astore k =>
    rcases pQ_inv hs with ⟨x, r, e0, h9⟩ | ⟨r, e0, h9⟩ <;> (clear hs; have hs := h9; clear h9; subst e0)
    · obtain ⟨h1, h2, h9⟩ := sL_inv hs
      clear hs
      have hs := h9
      clear h9
      exact lv_astore hx hb hdec (lvr_has hL) h1 rfl (fun ls2 h3 => st1 h1 h2 hs h3)
    · obtain ⟨h1, h2, h9⟩ := sL_inv hs
      clear hs
      have hs := h9
      clear h9
      exact lv_astoreN hx hb hdec (lvr_has hL) h1 rfl (fun ls2 h3 => st1 h1 h2 hs h3)
  | iinc k n =>
    obtain ⟨x, h0, h9⟩ := gLI_inv hs
    clear hs
    have hs := h9
    clear h9
    obtain ⟨h1, h2, h9⟩ := sL_inv hs
    clear hs
    have hs := h9
    clear h9
    obtain ⟨j, hj⟩ := List.getElem?_of_mem (mem_lvP.mpr h0)
    exact lv_iinc hx hb hdec (lvr_has hL) hj rfl h1 rfl (fun ls2 h3 => st1 h1 h2 hs h3)
  | iadd =>
    obtain ⟨y, r, e0, h9⟩ := pI_inv hs
    clear hs
    have hs := h9
    clear h9
    subst e0
    obtain ⟨x, r, e0, h9⟩ := pI_inv hs
    clear hs
    have hs := h9
    clear h9
    subst e0
    exact lv_iadd hx hb hdec (go hs hL hn)
  | isub =>
    obtain ⟨y, r, e0, h9⟩ := pI_inv hs
    clear hs
    have hs := h9
    clear h9
    subst e0
    obtain ⟨x, r, e0, h9⟩ := pI_inv hs
    clear hs
    have hs := h9
    clear h9
    subst e0
    exact lv_isub hx hb hdec (go hs hL hn)
  | imul =>
    obtain ⟨y, r, e0, h9⟩ := pI_inv hs
    clear hs
    have hs := h9
    clear h9
    subst e0
    obtain ⟨x, r, e0, h9⟩ := pI_inv hs
    clear hs
    have hs := h9
    clear h9
    subst e0
    exact lv_imul hx hb hdec (go hs hL hn)
  | iand =>
    obtain ⟨y, r, e0, h9⟩ := pI_inv hs
    clear hs
    have hs := h9
    clear h9
    subst e0
    obtain ⟨x, r, e0, h9⟩ := pI_inv hs
    clear hs
    have hs := h9
    clear h9
    subst e0
    exact lv_iand hx hb hdec (go hs hL hn)
  | ior =>
    obtain ⟨y, r, e0, h9⟩ := pI_inv hs
    clear hs
    have hs := h9
    clear h9
    subst e0
    obtain ⟨x, r, e0, h9⟩ := pI_inv hs
    clear hs
    have hs := h9
    clear h9
    subst e0
    exact lv_ior hx hb hdec (go hs hL hn)
  | ishl =>
    obtain ⟨y, r, e0, h9⟩ := pI_inv hs
    clear hs
    have hs := h9
    clear h9
    subst e0
    obtain ⟨x, r, e0, h9⟩ := pI_inv hs
    clear hs
    have hs := h9
    clear h9
    subst e0
    exact lv_ishl hx hb hdec (go hs hL hn)
  | ishr =>
    obtain ⟨y, r, e0, h9⟩ := pI_inv hs
    clear hs
    have hs := h9
    clear h9
    subst e0
    obtain ⟨x, r, e0, h9⟩ := pI_inv hs
    clear hs
    have hs := h9
    clear h9
    subst e0
    exact lv_ishr hx hb hdec (go hs hL hn)
  | idiv =>
    obtain ⟨y, r, e0, h9⟩ := pI_inv hs
    clear hs
    have hs := h9
    clear h9
    subst e0
    obtain ⟨x, r, e0, h9⟩ := pI_inv hs
    clear hs
    have hs := h9
    clear h9
    subst e0
    by_cases h0 : y = 0
    · rw [if_pos h0] at hs; cases hs
    · rw [if_neg h0] at hs
      exact lv_idiv hx hb hdec h0 (go hs hL hn)
  | irem =>
    obtain ⟨y, r, e0, h9⟩ := pI_inv hs
    clear hs
    have hs := h9
    clear h9
    subst e0
    obtain ⟨x, r, e0, h9⟩ := pI_inv hs
    clear hs
    have hs := h9
    clear h9
    subst e0
    by_cases h0 : y = 0
    · rw [if_pos h0] at hs; cases hs
    · rw [if_neg h0] at hs
      exact lv_irem hx hb hdec h0 (go hs hL hn)
  | i2l =>
    obtain ⟨x, r, e0, h9⟩ := pI_inv hs
    clear hs
    have hs := h9
    clear h9
    subst e0
    exact lv_i2l hx hb hdec rfl (go hs hL hn)
  | l2i =>
    obtain ⟨x, r, e0, h9⟩ := pL_inv hs
    clear hs
    have hs := h9
    clear h9
    subst e0
    exact lv_l2i hx hb hdec rfl (go hs hL hn)
  | i2b =>
    obtain ⟨x, r, e0, h9⟩ := pI_inv hs
    clear hs
    have hs := h9
    clear h9
    subst e0
    exact lv_i2b hx hb hdec rfl (go hs hL hn)
  | i2s =>
    obtain ⟨x, r, e0, h9⟩ := pI_inv hs
    clear hs
    have hs := h9
    clear h9
    subst e0
    exact lv_i2s hx hb hdec rfl (go hs hL hn)
  | ladd =>
    obtain ⟨y, r, e0, h9⟩ := pL_inv hs
    clear hs
    have hs := h9
    clear h9
    subst e0
    obtain ⟨x, r, e0, h9⟩ := pL_inv hs
    clear hs
    have hs := h9
    clear h9
    subst e0
    exact lv_ladd hx hb hdec (go hs hL hn)
  | lcmp =>
    obtain ⟨y, r, e0, h9⟩ := pL_inv hs
    clear hs
    have hs := h9
    clear h9
    subst e0
    obtain ⟨x, r, e0, h9⟩ := pL_inv hs
    clear hs
    have hs := h9
    clear h9
    subst e0
    exact W.lcmp hx hb hdec (go hs hL hn)
  | dup =>
    rcases pQ_inv hs with ⟨x, r, e0, h9⟩ | ⟨r, e0, h9⟩ <;> (clear hs; have hs := h9; clear h9; subst e0)
    · exact lv_dup hx hb hdec rfl (go hs hL hn)
    · cases hs
  | dup2 =>
    obtain ⟨x, r, e0, h9⟩ := pI_inv hs
    clear hs
    have hs := h9
    clear h9
    subst e0
    obtain ⟨a, r, e0, h9⟩ := pR_inv hs
    clear hs
    have hs := h9
    clear h9
    subst e0
    exact lv_dup2_11 hx hb hdec rfl rfl (go hs hL hn)
  | pop =>
    obtain ⟨x, r, e0, h9⟩ := pI_inv hs
    clear hs
    have hs := h9
    clear h9
    subst e0
    exact lv_pop hx hb hdec rfl (go hs hL hn)
  | goto off =>
    obtain ⟨t, ht, h9⟩ := jmp_inv hs
    clear hs
    have hs := h9
    clear h9
    exact lv_goto hx hb hdec ht (go hs hL hn)
  | if_icmp cd off =>
    obtain ⟨y, r, e0, h9⟩ := pI_inv hs
    clear hs
    have hs := h9
    clear h9
    subst e0
    obtain ⟨x, r, e0, h9⟩ := pI_inv hs
    clear hs
    have hs := h9
    clear h9
    subst e0
    obtain ⟨t, ht, h9⟩ := jmp_inv hs
    clear hs
    have hs := h9
    clear h9
    cases cd with
    | eq => exact lv_icmp_eq hx hb hdec ht (fun q => go ((if_pos q).symm.trans hs) hL hn) (fun q => go ((if_neg q).symm.trans hs) hL hn)
    | ne => exact lv_icmp_ne hx hb hdec ht (fun q => go ((if_neg q).symm.trans hs) hL hn) (fun q => go ((if_pos q).symm.trans hs) hL hn)
    | lt => exact lv_icmp_lt hx hb hdec ht (fun q => go ((if_pos q).symm.trans hs) hL hn) (fun q => go ((if_neg q).symm.trans hs) hL hn)
    | ge => exact lv_icmp_ge hx hb hdec ht (fun q => go ((if_pos q).symm.trans hs) hL hn) (fun q => go ((if_neg q).symm.trans hs) hL hn)
    | gt => exact lv_icmp_gt hx hb hdec ht (fun q => go ((if_pos q).symm.trans hs) hL hn) (fun q => go ((if_neg q).symm.trans hs) hL hn)
    | le => exact lv_icmp_le hx hb hdec ht (fun q => go ((if_pos q).symm.trans hs) hL hn) (fun q => go ((if_neg q).symm.trans hs) hL hn)
  | ifCond cd off =>
    obtain ⟨x, r, e0, h9⟩ := pI_inv hs
    clear hs
    have hs := h9
    clear h9
    subst e0
    obtain ⟨t, ht, h9⟩ := jmp_inv hs
    clear hs
    have hs := h9
    clear h9
    cases cd with
    | eq => exact lv_if_eq hx hb hdec ht (fun q => go ((if_pos q).symm.trans hs) hL hn) (fun q => go ((if_neg q).symm.trans hs) hL hn)
    | ne => exact lv_if_ne hx hb hdec ht (fun q => go ((if_neg q).symm.trans hs) hL hn) (fun q => go ((if_pos q).symm.trans hs) hL hn)
    | lt => exact lv_if_lt hx hb hdec ht (fun q => go ((if_pos q).symm.trans hs) hL hn) (fun q => go ((if_neg q).symm.trans hs) hL hn)
    | ge => exact lv_if_ge hx hb hdec ht (fun q => go ((if_pos q).symm.trans hs) hL hn) (fun q => go ((if_neg q).symm.trans hs) hL hn)
    | gt => exact lv_if_gt hx hb hdec ht (fun q => go ((if_pos q).symm.trans hs) hL hn) (fun q => go ((if_neg q).symm.trans hs) hL hn)
    | le => exact lv_if_le hx hb hdec ht (fun q => go ((if_pos q).symm.trans hs) hL hn) (fun q => go ((if_neg q).symm.trans hs) hL hn)
  | ifnull off =>
    obtain ⟨t, ht, h9⟩ := jmp_inv hs
    clear hs
    have hs := h9
    clear h9
    rcases pQ_inv hs with ⟨x, r, e0, h9⟩ | ⟨r, e0, h9⟩ <;> (clear hs; have hs := h9; clear h9; subst e0)
    · exact lv_ifnull hx hb hdec (go hs hL hn)
    · exact lv_ifnullN hx hb hdec ht (go hs hL hn)
  | ifnonnull off =>
    obtain ⟨t, ht, h9⟩ := jmp_inv hs
    clear hs
    have hs := h9
    clear h9
    rcases pQ_inv hs with ⟨x, r, e0, h9⟩ | ⟨r, e0, h9⟩ <;> (clear hs; have hs := h9; clear h9; subst e0)
    · exact lv_ifnonnull hx hb hdec ht (go hs hL hn)
    · exact lv_ifnonnullN hx hb hdec (go hs hL hn)
  | tableswitch df low hi offs =>
    obtain ⟨x, r, e0, h9⟩ := pI_inv hs
    clear hs
    have hs := h9
    clear h9
    subst e0
    obtain ⟨hq, h9⟩ := cond_inv hs
    clear hs
    have hs := h9
    clear h9
    have hq : hi - low + 1 = (offs.toList.length : Int) := by simpa using hq
    rcases swt_inv _ _ hs with ⟨k, o, h1, h2, hs⟩ | ⟨h1, hs⟩
    · obtain ⟨t, ht, h9⟩ := jmp_inv hs
      clear hs
      have hs := h9
      clear h9
      have hk : k < offs.toList.length := (List.getElem?_eq_some_iff.mp h1).1
      refine lv_tableIn hx hb hdec (by omega) (by omega) (off := o) ?_ ht (go hs hL hn)
      rw [show (x.toInt - low).toNat = k by omega, ← Array.getElem?_toList]
      exact h1
    · obtain ⟨t, ht, h9⟩ := jmp_inv hs
      clear hs
      have hs := h9
      clear h9
      refine lv_tableOut hx hb hdec ?_ ht (go hs hL hn)
      by_cases h2 : x.toInt < low
      · exact Or.inl h2
      · right
        have h3 := h1 (x.toInt - low).toNat
        omega
  | getfield n =>
    obtain ⟨a, st, e0, h9⟩ := pR_inv hs
    clear hs
    have hs := h9
    clear h9
    subst e0
    obtain ⟨r1, r2, r3⟩ := r
    match r3 with
    | 0 =>
      obtain ⟨fs, x, h1, h2, h9⟩ := gfI_inv hs
      clear hs
      have hs := h9
      clear h9
      exact am_get X hlk hW h1 h2 hdec (go hs hL hn)
    | 1 =>
      obtain ⟨fs, h1, ⟨x, h2, hs⟩ | ⟨h2, hs⟩⟩ := gfQ_inv hs
      · exact am_get X hlk hW h1 h2 hdec (go hs hL hn)
      · cases hs
    | 2 =>
      obtain ⟨fs, x, h1, h2, h9⟩ := gfI_inv hs
      clear hs
      have hs := h9
      clear h9
      exact am_get X hlk hW h1 h2 hdec (go hs hL hn)
    | 3 =>
      obtain ⟨fs, x, h1, h2, h9⟩ := gfI_inv hs
      clear hs
      have hs := h9
      clear h9
      exact am_get X hlk hW h1 h2 hdec (go hs hL hn)
    | 4 =>
      obtain ⟨fs, h1, ⟨x, h2, hs⟩ | ⟨h2, hs⟩⟩ := gfQ_inv hs
      · exact am_get X hlk hW h1 h2 hdec (go hs hL hn)
      · exact am_get X hlk hW h1 h2 hdec (go hs hL hn)
    | k + 5 =>
      obtain ⟨fs, x, h1, h2, h9⟩ := gfI_inv hs
      clear hs
      have hs := h9
      clear h9
      exact am_get X hlk hW h1 h2 hdec (go hs hL hn)
  | putfield n =>
    obtain ⟨r1, r2, r3⟩ := r
    have hlk : (flT.elem (own, n, r1, r2) && (fkOk r1 r2 r3 && ffin own ini r1 r2)) = true := hlk
    rw [Bool.and_eq_true, Bool.and_eq_true] at hlk
    obtain ⟨hk1, hk2, hk3⟩ := hlk
    match r3, hk2 with
    | 0, hk2 =>
      obtain ⟨x, st, e0, h9⟩ := pI_inv hs
      clear hs
      have hs := h9
      clear h9
      subst e0
      obtain ⟨a, st, e0, h9⟩ := pR_inv hs
      clear hs
      have hs := h9
      clear h9
      subst e0
      obtain ⟨fs, h1, h2, h9⟩ := pfV_inv hs
      clear hs
      have hs := h9
      clear h9
      exact am_put X hk1 hk2 hk3 hW hl h1 h2 (Or.inl ⟨rfl, x, rfl⟩) hdec (fun H1 locs1 g1 g2 => kk _ _ _ _ _ _ _ _ _ hs ⟨g1, hL, hn, g2, hc1, hc2⟩)
    | 1, hk2 =>
      rcases pQ_inv hs with ⟨x, st, e0, h9⟩ | ⟨st, e0, h9⟩ <;> (clear hs; have hs := h9; clear h9; subst e0)
      · obtain ⟨a, st, e0, h9⟩ := pR_inv hs
        clear hs
        have hs := h9
        clear h9
        subst e0
        obtain ⟨fs, h1, h2, h9⟩ := pfV_inv hs
        clear hs
        have hs := h9
        clear h9
        exact am_put X hk1 hk2 hk3 hW hl h1 h2 (Or.inr (Or.inl ⟨rfl, Or.inr ⟨x, rfl⟩⟩)) hdec (fun H1 locs1 g1 g2 => kk _ _ _ _ _ _ _ _ _ hs ⟨g1, hL, hn, g2, hc1, hc2⟩)
      · obtain ⟨a, st, e0, h9⟩ := pR_inv hs
        clear hs
        have hs := h9
        clear h9
        subst e0
        obtain ⟨fs, h1, h2, h9⟩ := pfV_inv hs
        clear hs
        have hs := h9
        clear h9
        exact am_put X hk1 hk2 hk3 hW hl h1 h2 (Or.inr (Or.inl ⟨rfl, Or.inl rfl⟩)) hdec (fun H1 locs1 g1 g2 => kk _ _ _ _ _ _ _ _ _ hs ⟨g1, hL, hn, g2, hc1, hc2⟩)
    | 2, hk2 =>
      obtain ⟨x, st, e0, h9⟩ := pI_inv hs
      clear hs
      have hs := h9
      clear h9
      subst e0
      obtain ⟨a, st, e0, h9⟩ := pR_inv hs
      clear hs
      have hs := h9
      clear h9
      subst e0
      obtain ⟨hz, h9⟩ := isZ_inv hs
      clear hs
      have hs := h9
      clear h9
      obtain ⟨fs, h1, h2, h9⟩ := pfV_inv hs
      clear hs
      have hs := h9
      clear h9
      exact am_put X hk1 hk2 hk3 hW hl h1 h2 (Or.inr (Or.inr ⟨rfl, x, rfl, hz⟩)) hdec (fun H1 locs1 g1 g2 => kk _ _ _ _ _ _ _ _ _ hs ⟨g1, hL, hn, g2, hc1, hc2⟩)
    | k + 3, hk2 =>
      exfalso
      unfold fkOk at hk2
      generalize tyT r1 r2 = ty at hk2
      cases ty <;> simp at hk2
  | iaload =>
    obtain ⟨x, st, e0, h9⟩ := pI_inv hs
    clear hs
    have hs := h9
    clear h9
    subst e0
    obtain ⟨a, st, e0, h9⟩ := pR_inv hs
    clear hs
    have hs := h9
    clear h9
    subst e0
    obtain ⟨t, n, g, h1, h2, h3, h9⟩ := ldI_inv hs
    clear hs
    have hs := h9
    clear h9
    exact am_iald X hW h1 h2 h3 hdec (go hs hL hn)
  | baload =>
    obtain ⟨x, st, e0, h9⟩ := pI_inv hs
    clear hs
    have hs := h9
    clear h9
    subst e0
    obtain ⟨a, st, e0, h9⟩ := pR_inv hs
    clear hs
    have hs := h9
    clear h9
    subst e0
    obtain ⟨n, g, h1, h3, h9⟩ := ldZ_inv hs
    clear hs
    have hs := h9
    clear h9
    exact am_zald X hW h1 h3 hdec (go hs hL hn)
  | aaload =>
    obtain ⟨x, st, e0, h9⟩ := pI_inv hs
    clear hs
    have hs := h9
    clear h9
    subst e0
    obtain ⟨a, st, e0, h9⟩ := pR_inv hs
    clear hs
    have hs := h9
    clear h9
    subst e0
    obtain ⟨t, n, g, h1, h3, ⟨b, h4, hs⟩ | ⟨h4, hs⟩⟩ := ldQ_inv hs
    · refine am_qald X hW h1 h3 hdec ?_
      rw [h4]
      exact go hs hL hn
    · cases hs
  | iastore =>
    obtain ⟨x, st, e0, h9⟩ := pI_inv hs
    clear hs
    have hs := h9
    clear h9
    subst e0
    obtain ⟨j, st, e0, h9⟩ := pI_inv hs
    clear hs
    have hs := h9
    clear h9
    subst e0
    obtain ⟨a, st, e0, h9⟩ := pR_inv hs
    clear hs
    have hs := h9
    clear h9
    subst e0
    obtain ⟨n, g, h1, h3, h9⟩ := stI_inv hs
    clear hs
    have hs := h9
    clear h9
    exact am_iast X hW hl h1 h3 hdec (fun H1 locs1 g1 g2 => kk _ _ _ _ _ _ _ _ _ hs ⟨g1, hL, hn, g2, hc1, hc2⟩)
  | bastore =>
    obtain ⟨x, st, e0, h9⟩ := pI_inv hs
    clear hs
    have hs := h9
    clear h9
    subst e0
    obtain ⟨j, st, e0, h9⟩ := pI_inv hs
    clear hs
    have hs := h9
    clear h9
    subst e0
    obtain ⟨a, st, e0, h9⟩ := pR_inv hs
    clear hs
    have hs := h9
    clear h9
    subst e0
    obtain ⟨n, g, h1, h3, h9⟩ := stZ_inv hs
    clear hs
    have hs := h9
    clear h9
    exact am_zast X hW hl h1 h3 hdec (fun H1 locs1 g1 g2 => kk _ _ _ _ _ _ _ _ _ hs ⟨g1, hL, hn, g2, hc1, hc2⟩)
  | aastore =>
    obtain ⟨v, st, e0, h9⟩ := pR_inv hs
    clear hs
    have hs := h9
    clear h9
    subst e0
    obtain ⟨j, st, e0, h9⟩ := pI_inv hs
    clear hs
    have hs := h9
    clear h9
    subst e0
    obtain ⟨a, st, e0, h9⟩ := pR_inv hs
    clear hs
    have hs := h9
    clear h9
    subst e0
    obtain ⟨t, n, g, fs, h1, h3, h4, h9⟩ := stQ_inv hs
    clear hs
    have hs := h9
    clear h9
    exact am_qast X hW hl h1 h3 h4 hdec (fun H1 locs1 g1 g2 => kk _ _ _ _ _ _ _ _ _ hs ⟨g1, hL, hn, g2, hc1, hc2⟩)
  | arraylength =>
    obtain ⟨a, st, e0, h9⟩ := pR_inv hs
    clear hs
    have hs := h9
    clear h9
    subst e0
    rcases lnA_inv hs with ⟨t, n, g, h1, hs⟩ | ⟨t, n, g, h1, hs⟩
    · exact am_alen X hW h1 hdec (go hs hL hn)
    · exact am_qlen X hW h1 hdec (go hs hL hn)
  | new n =>
    obtain ⟨m1, m2⟩ := hmo _ _ _ _ hs
    have m1 : h.2.1 + 1 ≤ res.2.2.1 := m1
    have m2 : h.2.2 + (dfl r.1).length ≤ res.2.2.2 := m2
    exact am_new X hlk hW (by omega) (by omega) hdec (fun H1 g1 => kk _ _ _ _ _ _ _ _ _ hs ⟨g1, hL, hn, hl, by show _ = h.2.1 + 1; omega, by show _ = h.2.2 + _; omega⟩)
  | newarray ty =>
    obtain ⟨n, st, e0, h9⟩ := pI_inv hs
    clear hs
    have hs := h9
    clear h9
    subst e0
    by_cases h0 : n < 0 ∨ 100000 < n.toNatClampNeg
    · rw [if_pos h0] at hs; cases hs
    · rw [if_neg h0] at hs
      rw [not_or] at h0
      cases ty with
      | int =>
        obtain ⟨m1, m2⟩ := hmo _ _ _ _ hs
        have m1 : h.2.1 + 1 ≤ res.2.2.1 := m1
        have m2 : h.2.2 + n.toNatClampNeg ≤ res.2.2.2 := m2
        exact am_newi X hW h0.1 (by omega) (by omega) (by omega) hdec (fun H1 g1 => kk _ _ _ _ _ _ _ _ _ hs ⟨g1, hL, hn, hl, by show _ = h.2.1 + 1; omega, by show _ = h.2.2 + _; omega⟩)
      | boolean =>
        obtain ⟨m1, m2⟩ := hmo _ _ _ _ hs
        have m1 : h.2.1 + 1 ≤ res.2.2.1 := m1
        have m2 : h.2.2 + n.toNatClampNeg ≤ res.2.2.2 := m2
        exact am_newz X hW h0.1 (by omega) (by omega) (by omega) hdec (fun H1 g1 => kk _ _ _ _ _ _ _ _ _ hs ⟨g1, hL, hn, hl, by show _ = h.2.1 + 1; omega, by show _ = h.2.2 + _; omega⟩)
      | _ => cases hs
  | anewarray x =>
    obtain ⟨n, st, e0, h9⟩ := pI_inv hs
    clear hs
    have hs := h9
    clear h9
    subst e0
    by_cases h0 : n < 0 ∨ 100000 < n.toNatClampNeg
    · rw [if_pos h0] at hs; cases hs
    · rw [if_neg h0] at hs
      rw [not_or] at h0
      obtain ⟨m1, m2⟩ := hmo _ _ _ _ hs
      have m1 : h.2.1 + 1 ≤ res.2.2.1 := m1
      have m2 : h.2.2 + n.toNatClampNeg ≤ res.2.2.2 := m2
      exact am_newq X hlk hW h0.1 (by omega) (by omega) (by omega) hdec (fun H1 g1 => kk _ _ _ _ _ _ _ _ _ hs ⟨g1, hL, hn, hl, by show _ = h.2.1 + 1; omega, by show _ = h.2.2 + _; omega⟩)
  | invokevirtual n =>
    obtain ⟨r1, r2, r3⟩ := r
    have hlk : (mlT.elem (own, n, r1) && (decide (mkd[r1]? = some 0) && (decide (npar r1 = some r2) && decide (r1 < 169)))) = true := hlk
    simp only [Bool.and_eq_true, decide_eq_true_eq] at hlk
    obtain ⟨k1, k2, k3, k4⟩ := hlk
    obtain ⟨b, rest, hst, h9⟩ := pR_inv hs
    clear hs
    have hs := h9
    clear h9
    obtain ⟨hro, h9⟩ := cond_inv hs
    clear hs
    have hs := h9
    clear h9
    obtain ⟨fs, hb0, h9⟩ := isO_inv hs
    clear hs
    have hs := h9
    clear h9
    obtain ⟨q, hq, hs⟩ := Option.bind_eq_some_iff.mp hs
    have hs := aft_inv hs
    obtain ⟨m1, m2⟩ := hmo _ _ _ _ hs
    obtain ⟨n1, n2⟩ := (hC _ _ _ _ hq).1
    exact am_callV X hC k1 k2 k3 k4 hst hro hW hl hlen hb0 hq ⟨by omega, by omega⟩ hdec (fun H1 locs1 g1 g2 => kk _ _ _ _ _ _ _ _ _ hs ⟨g1, hL, hn, g2, by omega, by omega⟩)
  | invokespecial n =>
    obtain ⟨r1, r2, r3⟩ := r
    by_cases h1000 : r1 = 1000
    · subst h1000
      have hlk : olT.elem (own, n) = true := hlk
      replace hs : (pR st fun _ rest => bif roomOk rest && Nat.blt 0 d then K (pc + 3) L rest h else none) = some res := hs
      obtain ⟨b, rest, e0, h9⟩ := pR_inv hs
      clear hs
      have hs := h9
      clear h9
      subst e0
      obtain ⟨hro, h9⟩ := cond_inv hs
      clear hs
      have hs := h9
      clear h9
      rw [Bool.and_eq_true] at hro
      have hd : 0 < d := Nat.le_of_ble_eq_true hro.2
      have hr8 := room_of hro.1
      refine W.objInit hx hb hown (hts _ (ol_use hlk)) (hts _ w_oi) (hts _ w_oc) rfl (by rw [hml]; exact hlen) rfl hdec (by omega) (by show 2 * 0 + _ + 12 ≤ _; omega) ?_
      exact W.eq (g2 := F0 m (pc + 3) ls rest) rfl (go hs hL hn)
    · have hne : Nat.beq r1 1000 = false := by
        cases hq : Nat.beq r1 1000 with
        | false => rfl
        | true => exact absurd (Nat.eq_of_beq_eq_true hq) h1000
      have hlk : (bif Nat.beq r1 1000 then olT.elem (own, n) else (mlT.elem (own, n, r1) || nlT.elem (own, n, r1)) && (decide (mkd[r1]? = some 2) && (decide (npar r1 = some r2) && decide (r1 < 169)))) = true := hlk
      rw [hne] at hlk
      have hlk : ((mlT.elem (own, n, r1) || nlT.elem (own, n, r1)) && (decide (mkd[r1]? = some 2) && (decide (npar r1 = some r2) && decide (r1 < 169)))) = true := hlk
      rw [Bool.and_eq_true, Bool.and_eq_true, Bool.and_eq_true, decide_eq_true_eq, decide_eq_true_eq, decide_eq_true_eq] at hlk
      obtain ⟨k1, k2, k3, k4⟩ := hlk
      replace hs : (bif Nat.beq r1 1000 then (pR st fun _ rest => bif roomOk rest && Nat.blt 0 d then K (pc + 3) L rest h else none) else pR (st.drop r2) fun b rest => bif roomOk rest then (cl r1 (.ref b :: (st.take r2).reverse) h).bind fun q => aft r3 q pc L rest K else none) = some res := hs
      rw [hne] at hs
      replace hs : (pR (st.drop r2) fun b rest => bif roomOk rest then (cl r1 (.ref b :: (st.take r2).reverse) h).bind fun q => aft r3 q pc L rest K else none) = some res := hs
      obtain ⟨b, rest, hst, h9⟩ := pR_inv hs
      clear hs
      have hs := h9
      clear h9
      obtain ⟨hro, h9⟩ := cond_inv hs
      clear hs
      have hs := h9
      clear h9
      obtain ⟨q, hq, hs⟩ := Option.bind_eq_some_iff.mp hs
      have hs := aft_inv hs
      obtain ⟨m1, m2⟩ := hmo _ _ _ _ hs
      obtain ⟨n1, n2⟩ := (hC _ _ _ _ hq).1
      exact am_callI X hC k1 k2 k3 k4 hst hro hW hl hlen hq ⟨by omega, by omega⟩ hdec (fun H1 locs1 g1 g2 => kk _ _ _ _ _ _ _ _ _ hs ⟨g1, hL, hn, g2, by omega, by omega⟩)
  | invokestatic n =>
    obtain ⟨r1, r2, r3⟩ := r
    have nb : ∀ k : Nat, ¬ r1 = k → Nat.beq r1 k = false := fun k hk => by
      cases hq : Nat.beq r1 k with
      | false => rfl
      | true => exact absurd (Nat.eq_of_beq_eq_true hq) hk
    by_cases h1000 : r1 = 1000
    · subst h1000
      have hlk : alT.elem (own, n) = true := hlk
      replace hs : (pI st fun n s => pI s fun dp s => pR s fun d' s => pI s fun sp s => pR s fun a s => bif roomOk s && Nat.blt 0 d then cpA h a sp d' dp n fun h => K (pc + 3) L s h else none) = some res := hs
      obtain ⟨nn, st, e0, h9⟩ := pI_inv hs
      clear hs
      have hs := h9
      clear h9
      subst e0
      obtain ⟨dp, st, e0, h9⟩ := pI_inv hs
      clear hs
      have hs := h9
      clear h9
      subst e0
      obtain ⟨a1, st, e0, h9⟩ := pR_inv hs
      clear hs
      have hs := h9
      clear h9
      subst e0
      obtain ⟨sp, st, e0, h9⟩ := pI_inv hs
      clear hs
      have hs := h9
      clear h9
      subst e0
      obtain ⟨a0, st, e0, h9⟩ := pR_inv hs
      clear hs
      have hs := h9
      clear h9
      subst e0
      obtain ⟨hro, h9⟩ := cond_inv hs
      clear hs
      have hs := h9
      clear h9
      rw [Bool.and_eq_true] at hro
      have hd : 0 < d := Nat.le_of_ble_eq_true hro.2
      obtain ⟨n0, g0, n1, g1, c1, c2, c3, c4, c5, c6, c7, c8, h9⟩ := cpA_inv hs
      clear hs
      have hs := h9
      clear h9
      exact am_copy X hd hlk hW hl hlen c1 c2 c4 c5 c6 c7 c8 hro.1 hdec (fun H1 locs1 g1 g2 => kk _ _ _ _ _ _ _ _ _ hs ⟨g1, hL, hn, g2, hc1, hc2⟩)
    · by_cases h1001 : r1 = 1001
      · subst h1001
        have hlk : xlT.elem (own, n, 1001) = true := hlk
        replace hs : (pI st fun y s => pI s fun x s => bif roomOk s && Nat.blt 0 d then K (pc + 3) L (.int (if x < y then y else x) :: s) h else none) = some res := hs
        obtain ⟨y, st, e0, h9⟩ := pI_inv hs
        clear hs
        have hs := h9
        clear h9
        subst e0
        obtain ⟨x, st, e0, h9⟩ := pI_inv hs
        clear hs
        have hs := h9
        clear h9
        subst e0
        obtain ⟨hro, h9⟩ := cond_inv hs
        clear hs
        have hs := h9
        clear h9
        rw [Bool.and_eq_true] at hro
        have hd : 0 < d := Nat.le_of_ble_eq_true hro.2
        have hr8 := room_of hro.1
        obtain ⟨m1, m2⟩ := hmo _ _ _ _ hs
        exact va_mmax hx hb (hml.trans hlen.symm) hown (hts _ (xl_use hlk)) (hts _ w_mxs) (hts _ w_mi) (hts _ w_mxc) (by omega) (by omega) (by omega) (by omega) hdec (go hs hL hn)
      · by_cases h1002 : r1 = 1002
        · subst h1002
          have hlk : xlT.elem (own, n, 1002) = true := hlk
          replace hs : (pI st fun y s => pI s fun x s => bif roomOk s && Nat.blt 0 d then K (pc + 3) L (.int (if y < x then y else x) :: s) h else none) = some res := hs
          obtain ⟨y, st, e0, h9⟩ := pI_inv hs
          clear hs
          have hs := h9
          clear h9
          subst e0
          obtain ⟨x, st, e0, h9⟩ := pI_inv hs
          clear hs
          have hs := h9
          clear h9
          subst e0
          obtain ⟨hro, h9⟩ := cond_inv hs
          clear hs
          have hs := h9
          clear h9
          rw [Bool.and_eq_true] at hro
          have hd : 0 < d := Nat.le_of_ble_eq_true hro.2
          have hr8 := room_of hro.1
          obtain ⟨m1, m2⟩ := hmo _ _ _ _ hs
          exact va_mmin hx hb (hml.trans hlen.symm) hown (hts _ (xl_use hlk)) (hts _ w_mns) (hts _ w_mi) (hts _ w_mnc) (by omega) (by omega) (by omega) (by omega) hdec (go hs hL hn)
        · have e0 := nb _ h1000
          have e1 := nb _ h1001
          have e2 := nb _ h1002
          unfold lk at hlk
          dsimp only at hlk
          rw [e0, e1, e2] at hlk
          have hlk : (mlT.elem (own, n, r1) && (decide (mkd[r1]? = some 1) && (decide (npar r1 = some r2) && decide (r1 < 169)))) = true := hlk
          rw [Bool.and_eq_true, Bool.and_eq_true, Bool.and_eq_true, decide_eq_true_eq, decide_eq_true_eq, decide_eq_true_eq] at hlk
          obtain ⟨k1, k2, k3, k4⟩ := hlk
          unfold stp at hs
          dsimp only at hs
          rw [e0, e1, e2] at hs
          replace hs : (bif Nat.ble r2 st.length && roomOk (st.drop r2) then (cl r1 (st.take r2).reverse h).bind fun q => aft r3 q pc L (st.drop r2) K else none) = some res := hs
          obtain ⟨hro, h9⟩ := cond_inv hs
          clear hs
          have hs := h9
          clear h9
          rw [Bool.and_eq_true] at hro
          obtain ⟨q, hq, hs⟩ := Option.bind_eq_some_iff.mp hs
          have hs := aft_inv hs
          obtain ⟨m1, m2⟩ := hmo _ _ _ _ hs
          obtain ⟨n1, n2⟩ := (hC _ _ _ _ hq).1
          exact am_callS X hC k1 k2 k3 k4 (Nat.le_of_ble_eq_true hro.1) hro.2 hW hl hlen hq ⟨by omega, by omega⟩ hdec (fun H1 locs1 g1 g2 => kk _ _ _ _ _ _ _ _ _ hs ⟨g1, hL, hn, g2, by omega, by omega⟩)
  | ireturn =>
    cases hnr
  | areturn =>
    cases hnr
  | return_ =>
    cases hnr
  | _ => cases hs
end AM4
