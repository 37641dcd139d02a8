section AM2
variable {p : Program} {l : Launch} {e : Env} {R : Room} {s : State} {m : MethodId} {args : Array Value} {below : List Frame} {meth : Method} {c : Code} {H : Heap} {locs : List Loc} {cells slots : Nat} {Q : State → Prop}
variable {cc : ByteArray} {pc : Nat} {ls : Array Slot} {rest : List Value} {G : va_G} {dA : Nat → ClassId} {lo : Nat}
theorem am_new {nL own d : Nat} {ini : Bool} (X : CX p R s m args meth c cc nL own ini d G dA) {x ci : Nat} (hlk : klT.elem (own, x, ci) = true) {h : AH} (hW : WD G dA lo s h H) (hcell : cells + 1 ≤ R.cells) (hslot : slots + (dfl ci).length ≤ R.slots) (hdg : decode cc pc = .ok (.new x, 3))
    (kk : ∀ H1 : Heap, WD G dA lo s (hN h (oB ci (dfl ci)) (dfl ci).length) H1 → W p l e R s m args below meth c H1 locs (cells + 1) (slots + (dfl ci).length) Q (F0 m (pc + 3) ls (.ref h.2.1 :: rest))) : W p l e R s m args below meth c H locs cells slots Q (F0 m pc ls rest) := by
  obtain ⟨hx, hb, hml, hown, hts, hK, -⟩ := X
  obtain ⟨r, hc, h1, h2, h3⟩ := kl_use hlk
  dsimp only at hc h1 h2 h3
  obtain ⟨hin, hty, hnm⟩ := cls_ok _ _ hc
  obtain ⟨hdl, hdf⟩ := dfl_ok _ _ hc
  have hKn := hK.1.1 ci _ hc
  rw [hdl] at hslot kk
  refine W.newcK hx hb hown (hts _ h1) (hts _ h2) (hts _ h3) rfl hdg hcell hslot hKn.2.1 hW.1.1 fun H1 kC hkC e1 z1 o1 => ?_
  have hsz := hW.1.1
  refine kk H1 (hW.new _ ?_ (by rw [z1, hsz]) (fun q hq => o1 q (by rw [← hsz]; exact hq)))
  rw [hsz]
  exact ⟨_, hc, (u_born (tyT ci) hts hin hKn hkC e1 hty).to hdf⟩
theorem am_newq {nL own d : Nat} {ini : Bool} (X : CX p R s m args meth c cc nL own ini d G dA) {x t : Nat} (hlk : qlT.elem (own, x, t) = true) {n : Int32} {h : AH} (hW : WD G dA lo s h H) (hn : ¬ n < 0) (hNb : n.toNatClampNeg ≤ 100000) (hcell : cells + 1 ≤ R.cells) (hslot : slots + n.toNatClampNeg ≤ R.slots) (hdg : decode cc pc = .ok (.anewarray x, 3))
    (kk : ∀ H1 : Heap, WD G dA lo s (hN h (aQ t n.toNatClampNeg fun _ => none) n.toNatClampNeg) H1 → W p l e R s m args below meth c H1 locs (cells + 1) (slots + n.toNatClampNeg) Q (F0 m (pc + 3) ls (.ref h.2.1 :: rest))) : W p l e R s m args below meth c H locs cells slots Q (F0 m pc ls (.int n :: rest)) := by
  obtain ⟨hx, hb, hml, hown, hts, hK, -⟩ := X
  obtain ⟨h1, ht⟩ := ql_use hlk
  dsimp only at h1 ht
  have hAO : va_AO (qlc t) s := by
    rcases ht with rfl | rfl | rfl
    · exact hK.2.2.1
    · exact hK.2.2.2.1
    · exact hK.2.2.2.2
  have hRA : s.vm.findClass ("[" ++ (FieldType.object (qlc t)).toString) = some (dA t) := by
    rcases ht with rfl | rfl | rfl
    · obtain ⟨_, _, -, -, -, h4⟩ := (hK.1.2 2 _ rfl).2; exact h4
    · obtain ⟨_, _, -, -, -, h4⟩ := (hK.1.2 3 _ rfl).2; exact h4
    · obtain ⟨_, _, -, -, -, h4⟩ := (hK.1.2 4 _ rfl).2; exact h4
  refine W.anew hx hb hown (hts _ h1) (va_AO.use hAO) rfl hdg rfl hn (by omega) hcell hslot fun cA kA comp f1 f2 f3 f4 => ?_
  have hcA : cA = dA t := Option.some.inj (f1.symm.trans hRA)
  subst hcA
  have hsz := hW.1.1
  generalize hH1 : H.push ({ cls := dA t, slots := Array.replicate n.toNatClampNeg .null, vm := .none } : Cell) = H1
  have z1 : H1.size = H.size + 1 := by rw [← hH1, Array.size_push]
  have e1 : H1[H.size]? = some (arrV (dA t) n.toNatClampNeg (fun _ => .null)) := by rw [← hH1, Array.getElem?_push_size, ← arrV_new]
  have o1 : ∀ q : Nat, q < H.size → H1[q]? = H[q]? := fun q hq => by rw [← hH1, Array.getElem?_push, if_neg (Nat.ne_of_lt hq)]
  rw [hsz]
  refine kk H1 (hW.new _ ⟨ht, ?_⟩ z1 o1)
  rw [vp_cell_q]
  exact e1
theorem room_of {st : List Value} (h : roomOk st = true) : (st.map fun v => v.category).sum ≤ 8 := Nat.le_of_ble_eq_true h
theorem nfw_ok : 8 + (nativeFrameWords "java/lang/System" "arraycopy" 5 + 11) ≤ 36 := by decide +kernel
theorem am_copy {nL own d : Nat} {ini : Bool} (X : CX p R s m args meth c cc nL own ini d G dA) (hd : 1 ≤ d) {x : Nat} (hlk : alT.elem (own, x) = true) {a0 a n0 n1 : Nat} {f g : Nat → Int32} {sp dp n : Int32} {h : AH} (hW : WD G dA lo s h H) (hl : ∀ q ∈ locs, lo ≤ q.base) (hlen : ls.size = nL) (ha0 : h.1 a0 = some (aI 0 n0 f)) (ha1 : h.1 a = some (aI 0 n1 g))
    (h1 : ¬ sp < 0) (h2 : ¬ dp < 0) (h3 : ¬ n < 0) (h4 : sp.toNatClampNeg + n.toNatClampNeg ≤ n0) (h5 : dp.toNatClampNeg + n.toNatClampNeg ≤ n1) (hroom : roomOk rest = true) (hdg : decode cc pc = .ok (.invokestatic x, 3))
    (kk : ∀ (H1 : Heap) (locs1 : List Loc), WD G dA lo s (hS h a (aI 0 n1 (va_cpy f g sp.toNatClampNeg dp.toNatClampNeg n.toNatClampNeg))) H1 → (∀ q ∈ locs1, lo ≤ q.base) → W p l e R s m args below meth c H1 locs1 cells slots Q (F0 m (pc + 3) ls rest)) : W p l e R s m args below meth c H locs cells slots Q (F0 m pc ls (.int n :: .int dp :: .ref a :: .int sp :: .ref a0 :: rest)) := by
  obtain ⟨hx, hb, hml, hown, hts, hK, -, hfr, hlc⟩ := X
  have hro := room_of hroom
  have hnf := nfw_ok
  have nn : ∀ z : Int32, ¬ z < 0 → z.toInt = (z.toNatClampNeg : Int) := by
    intro z hz
    have hz0 : (0 : Int) ≤ z.toInt := by
      have := Int32.not_lt.mp hz
      simpa using Int32.le_iff_toInt_le.mp this
    show z.toInt = ((z.toInt.toNat : Nat) : Int)
    omega
  intro T hT X
  have hc0 : H[a0]? = some (vp_cell (dA 0) (n0, .inl f)) := (hW.2 a0 _ ha0).1.2
  have hc1 : H[a]? = some (vp_cell (dA 0) (n1, .inl g)) := (hW.2 a _ ha1).1.2
  have hloa : lo ≤ a := hW.lo ha1 (fun n f q => by cases q)
  obtain ⟨-, k0, hk0, cm0, hkk0⟩ := (hK.1.2 0 _ rfl).1 n0 (fun j => .int (f j))
  obtain ⟨-, k1, hk1, cm1, hkk1⟩ := (hK.1.2 0 _ rfl).1 n1 (fun j => .int (g j))
  obtain ⟨vm', X', step⟩ := X.arraycopy hx hown (hts _ (al_use hlk)) (hts _ w_an) (hts _ w_as) (hts _ w_ai) (src := a0) (dst := a) (cs := vp_cell (dA 0) (n0, .inl f)) (cd := vp_cell (dA 0) (n1, .inl g)) (srcPos := sp) (destPos := dp) (n := n) (by rw [hT]; exact hc0) (by rw [hT]; exact hc1)
    (fun _ h => by cases h) (fun _ h => by cases h) (fun h => by cases h) (fun h => by cases h) hk0 hk1 hkk0 hkk1 (by simp) h1 h2 h3
    (by rw [nn sp h1, nn n h3]; show ¬ _ > ((arrV (dA 0) n0 (fun j => .int (f j))).slots.size : Int); rw [arrV_size]; omega)
    (by rw [nn dp h2, nn n h3]; show ¬ _ > ((arrV (dA 0) n1 (fun j => .int (g j))).slots.size : Int); rw [arrV_size]; omega)
    (fun vm₁ _ i hi => by
      have e : (vp_cell (dA 0) (n0, .inl f)).slots.getD (sp.toNatClampNeg + i) .null = .int (f (sp.toNatClampNeg + i)) := by
        show (arrV (dA 0) n0 (fun j => .int (f j))).slots.getD _ _ = _
        rw [Array.getD_eq_getD_getElem?, arrV_read _ _ (by omega)]
        rfl
      refine ⟨?_, ?_⟩
      · rw [e]
        rfl
      · rw [e]
        exact trivial)
    (g := F0 m pc ls (.int n :: .int dp :: .ref a :: .int sp :: .ref a0 :: rest)) rfl (by rw [hml]; exact hlen) (rest := rest) rfl (by rw [hb]; exact hdg) (by omega) (by show 2 * 0 + _ + _ ≤ _; omega)
  have e1 : copied (vp_cell (dA 0) (n0, .inl f)) (vp_cell (dA 0) (n1, .inl g)) sp dp n = vp_cell (dA 0) (n1, .inl (va_cpy f g sp.toNatClampNeg dp.toNatClampNeg n.toNatClampNeg)) := va_copied (fun z => .int z) (dA 0) (dA 0) f g h4
  rw [e1] at X' step
  have hlt : a < H.size := (Array.getElem?_eq_some_iff.mp hc1).1
  have hheap : ((T.setVm vm').setCell a (vp_cell (dA 0) (n1, .inl (va_cpy f g sp.toNatClampNeg dp.toNatClampNeg n.toNatClampNeg)))).heap = H.setIfInBounds a (vp_cell (dA 0) (n1, .inl (va_cpy f g sp.toNatClampNeg dp.toNatClampNeg n.toNatClampNeg))) := by rw [← hT]; rfl
  have oq : ∀ q : Nat, q ≠ a → (H.setIfInBounds a (vp_cell (dA 0) (n1, .inl (va_cpy f g sp.toNatClampNeg dp.toNatClampNeg n.toNatClampNeg))))[q]? = H[q]? := fun q hq => by simp [Array.getElem?_setIfInBounds, Ne.symm hq]
  obtain ⟨t, a1, b1⟩ := kk _ _ (hW.set ha1 (fun n f q => by cases q) ⟨by decide, show (H.setIfInBounds a _)[a]? = some _ by simp [Array.getElem?_setIfInBounds, hlt]⟩ (by simp) oq) (fun q hq => by
      rcases List.mem_append.mp hq with h | h
      · exact hl q h
      · obtain ⟨z, -, hz⟩ := List.mem_map.mp h
        rw [← hz]
        exact hloa) _ hheap X'
  exact ⟨t, step t a1, b1⟩
theorem take_len {st r : List Value} {v : Value} {n : Nat} (h : st.drop n = v :: r) : (st.take n).reverse.length = n := by
  have h1 : (st.drop n).length = r.length + 1 := by rw [h]; rfl
  rw [List.length_drop] at h1
  rw [List.length_reverse, List.length_take]
  omega
theorem take_st {st r : List Value} {v : Value} {n : Nat} (h : st.drop n = v :: r) : st = (st.take n).reverse.reverse ++ v :: r := by
  rw [List.reverse_reverse, ← h, List.take_append_drop]
theorem am_meth {d y : Nat} {cl : Ct} (hC : CM l G dA lo d cl) {k : Nat} (hkd : mkd[y]? = some k) (hy : y < 169) {as : List Value} {h : AH} {res : RV} (hs : cl y as h = some res) : ∃ (d' : Nat) (q : MT), d = d' + 1 ∧ mnm y = q.1.1 ∧ clsOf y = q.2.1 ∧ mOK q k ∧ Met l q.1.1 (wsm q) (rmm d' h res.2) (Pm G dA lo as h) (Qm G dA lo res) (res.2.2.1 - h.2.1) (res.2.2.2 - h.2.2) (fun x => lo ≤ x) := by
  obtain ⟨-, hM⟩ := hC _ _ _ _ hs
  obtain ⟨d', q, hd, hq, hM⟩ := hM hy
  obtain ⟨k', hk, hok⟩ := mt_ok y q hq (by omega)
  have : k' = k := Option.some.inj (hk.symm.trans hkd)
  subst this
  exact ⟨d', q, hd, by unfold mnm; rw [hq], by unfold clsOf; rw [hq], hok, hM⟩
theorem am_callV {nL own d : Nat} {ini : Bool} (X : CX p R s m args meth c cc nL own ini d G dA) {cl : Ct} (hC : CM l G dA lo d cl) {x y n : Nat} (hlk : mlT.elem (own, x, y) = true) (hkd : mkd[y]? = some 0) (hnp : npar y = some n) (hy : y < 169) {st : List Value} {b : Nat} (hst : st.drop n = .ref b :: rest) (hroom : roomOk rest = true) {fs : List Value} {h : AH} (hW : WD G dA lo s h H) (hl : ∀ q ∈ locs, lo ≤ q.base) (hlen : ls.size = nL) (hb0 : h.1 b = some (oB (clsOf y) fs)) {res : RV} (hs : cl y (.ref b :: (st.take n).reverse) h = some res) (hcs : cells + (res.2.2.1 - h.2.1) ≤ R.cells ∧ slots + (res.2.2.2 - h.2.2) ≤ R.slots) (hdg : decode cc pc = .ok (.invokevirtual x, 3))
    (kk : ∀ (H1 : Heap) (locs1 : List Loc), WD G dA lo s res.2 H1 → (∀ q ∈ locs1, lo ≤ q.base) → W p l e R s m args below meth c H1 locs1 (cells + (res.2.2.1 - h.2.1)) (slots + (res.2.2.2 - h.2.2)) Q (F0 m (pc + 3) ls (res.1.toList ++ rest))) : W p l e R s m args below meth c H locs cells slots Q (F0 m pc ls st) := by
  obtain ⟨hx, hb, hml, hown, hts, hK, -, hfr, hlc⟩ := X
  obtain ⟨d', q, hd, hnm, hcl, ⟨hcw, hkw, hpl, hmh, hcn, hmx, -⟩, hM⟩ := am_meth hC hkd hy hs
  subst hd
  have hlw := ml_use hlk
  dsimp only at hlw
  rw [hnm] at hlw
  unfold npar at hnp
  rw [hnm] at hnp
  obtain ⟨r', hr', cell, q1, q2, q3, q4⟩ := (hW.2 b _ hb0).1
  have hrn := cls_nm _ _ hr'
  have hgood : ∀ w ∈ wsm q, w ∈ gtbl := fun w hw => (List.mem_cons.mp hw).elim (fun e => e ▸ hcw) id
  refine am_back (va_runV (As := (st.take n).reverse) (rest := rest) (b := b) (C := q.1.1.cls) (own := cnm own) (Ts := gtbl) (nL := nL) ⟨hx, hb, hml, hown, hts⟩ hM (cwV n hts (gt_gtbl ?_) rfl rfl rfl ⟨rfl, hmh.1, hmh.2, hnp⟩ ⟨hfr, ?_⟩) ⟨Pm_blind, ⟨cell, q1, by rw [q3]; rfl, ?_⟩, fun U hU hWm => ⟨rfl, by rw [hU]; exact hW.moved hWm.alike, hK.warm hWm⟩⟩ rfl (take_len hst) hlen (take_st hst) (lv_room (room_of hroom)) hdg hcs) hl kk
  · intro w hw
    rcases List.mem_append.mp hw with h | h
    · simp only [List.mem_cons, List.not_mem_nil, or_false] at h
      rcases h with rfl | rfl | rfl | rfl
      · exact hlw
      · exact hkw _ (by simp [kwd])
      · exact hkw _ (by simp [kwd])
      · exact hkw _ (by simp [kwd])
    · exact hgood w h
  · show 8 + (q.1.2.2.1 + 11) + 36 * d' ≤ R.locals
    omega
  · rw [hcn, q2, ← hcl, ← hrn]
    exact (hK.1.1 _ _ hr').2.1
theorem am_callS {nL own d : Nat} {ini : Bool} (X : CX p R s m args meth c cc nL own ini d G dA) {cl : Ct} (hC : CM l G dA lo d cl) {x y n : Nat} (hlk : mlT.elem (own, x, y) = true) (hkd : mkd[y]? = some 1) (hnp : npar y = some n) (hy : y < 169) {st : List Value} (hst : n ≤ st.length) (hroom : roomOk (st.drop n) = true) {h : AH} (hW : WD G dA lo s h H) (hl : ∀ q ∈ locs, lo ≤ q.base) (hlen : ls.size = nL) {res : RV} (hs : cl y (st.take n).reverse h = some res) (hcs : cells + (res.2.2.1 - h.2.1) ≤ R.cells ∧ slots + (res.2.2.2 - h.2.2) ≤ R.slots) (hdg : decode cc pc = .ok (.invokestatic x, 3))
    (kk : ∀ (H1 : Heap) (locs1 : List Loc), WD G dA lo s res.2 H1 → (∀ q ∈ locs1, lo ≤ q.base) → W p l e R s m args below meth c H1 locs1 (cells + (res.2.2.1 - h.2.1)) (slots + (res.2.2.2 - h.2.2)) Q (F0 m (pc + 3) ls (res.1.toList ++ st.drop n))) : W p l e R s m args below meth c H locs cells slots Q (F0 m pc ls st) := by
  obtain ⟨hx, hb, hml, hown, hts, hK, -, hfr, hlc⟩ := X
  obtain ⟨d', q, hd, hnm, hcl, ⟨hcw, hkw, hpl, hmh, hcn, hmx, -⟩, hM⟩ := am_meth hC hkd hy hs
  subst hd
  have hlw := ml_use hlk
  dsimp only at hlw
  rw [hnm] at hlw
  unfold npar at hnp
  rw [hnm] at hnp
  have hgood : ∀ w ∈ wsm q, w ∈ gtbl := fun w hw => (List.mem_cons.mp hw).elim (fun e => e ▸ hcw) id
  refine am_back (va_runS (As := (st.take n).reverse) (rest := st.drop n) (own := cnm own) (Ts := gtbl) (nL := nL) ⟨hx, hb, hml, hown, hts⟩ hM ⟨callB_of n hts (gt_gtbl hgood) rfl rfl rfl (hts _ (hkw _ (by simp [kwd]))) (hts _ hlw) ⟨hmh.1, hmh.2, hnp⟩ ⟨hfr, ?_⟩, hts _ (hkw _ (by simp [kwd]))⟩ ⟨Pm_blind, fun U hU hWm => ⟨rfl, by rw [hU]; exact hW.moved hWm.alike, hK.warm hWm⟩⟩ rfl (by rw [List.length_reverse, List.length_take]; omega) hlen (by show st = _; rw [List.reverse_reverse, List.take_append_drop]) (lv_room (room_of hroom)) hdg hcs) hl kk
  show 8 + (q.1.2.2.1 + 11) + 36 * d' ≤ R.locals
  omega
theorem am_callI {nL own d : Nat} {ini : Bool} (X : CX p R s m args meth c cc nL own ini d G dA) {cl : Ct} (hC : CM l G dA lo d cl) {x y n : Nat} (hlk : (mlT.elem (own, x, y) || nlT.elem (own, x, y)) = true) (hkd : mkd[y]? = some 2) (hnp : npar y = some n) (hy : y < 169) {st : List Value} {b : Nat} (hst : st.drop n = .ref b :: rest) (hroom : roomOk rest = true) {h : AH} (hW : WD G dA lo s h H) (hl : ∀ q ∈ locs, lo ≤ q.base) (hlen : ls.size = nL) {res : RV} (hs : cl y (.ref b :: (st.take n).reverse) h = some res) (hcs : cells + (res.2.2.1 - h.2.1) ≤ R.cells ∧ slots + (res.2.2.2 - h.2.2) ≤ R.slots) (hdg : decode cc pc = .ok (.invokespecial x, 3))
    (kk : ∀ (H1 : Heap) (locs1 : List Loc), WD G dA lo s res.2 H1 → (∀ q ∈ locs1, lo ≤ q.base) → W p l e R s m args below meth c H1 locs1 (cells + (res.2.2.1 - h.2.1)) (slots + (res.2.2.2 - h.2.2)) Q (F0 m (pc + 3) ls (res.1.toList ++ rest))) : W p l e R s m args below meth c H locs cells slots Q (F0 m pc ls st) := by
  obtain ⟨hx, hb, hml, hown, hts, hK, -, hfr, hlc⟩ := X
  obtain ⟨d', q, hd, hnm, hcl, ⟨hcw, hkw, hpl, hmh, hcn, hmx, hin⟩, hM⟩ := am_meth hC hkd hy hs
  subst hd
  obtain ⟨hin1, hin2⟩ := hin rfl
  unfold npar at hnp
  rw [hnm] at hnp
  have hgood : ∀ w ∈ wsm q, w ∈ gtbl := fun w hw => (List.mem_cons.mp hw).elim (fun e => e ▸ hcw) id
  have hwm : wsm q = Cond.code q.1.1 q.1.2.1 q.1.2.2.1 none :: gtbl := by unfold wsm cwd; rw [hin2]
  rw [Bool.or_eq_true] at hlk
  rcases hlk with hlk | hlk
  · have hlw := ml_use hlk
    dsimp only at hlw
    rw [hnm] at hlw
    refine am_back (va_runI (As := (st.take n).reverse) (rest := rest) (b := b) (own := cnm own) (Ts := gtbl) (nL := nL) ⟨hx, hb, hml, hown, hts⟩ hM ⟨callB_of n hts (gt_gtbl hgood) hwm rfl rfl (hts _ (hkw _ (by simp [kwd]))) (hts _ hlw) ⟨hmh.1, hmh.2, hnp⟩ ⟨hfr, ?_⟩, hin1, hts _ (hkw _ (by simp [kwd]))⟩ ⟨Pm_blind, fun U hU hWm => ⟨rfl, by rw [hU]; exact hW.moved hWm.alike, hK.warm hWm⟩⟩ rfl (take_len hst) hlen (take_st hst) (lv_room (room_of hroom)) hdg hcs) hl kk
    show 8 + (q.1.2.2.1 + 11) + 36 * d' ≤ R.locals
    omega
  · have hlw := hK.2.1 _ (elem_in hlk)
    dsimp only at hlw
    rw [hnm] at hlw
    refine am_back (va_runIN (As := (st.take n).reverse) (rest := rest) (b := b) (own := cnm own) (Ts := gtbl) (nL := nL) ⟨hx, hb, hml, hown, hts⟩ hM ⟨va_cnB n hts (gt_gtbl hgood) hwm rfl rfl hlw (hts _ (hkw _ (by simp [kwd]))) ⟨hmh.1, hmh.2, hnp⟩ ⟨hfr, ?_⟩, hin1, hts _ (hkw _ (by simp [kwd]))⟩ ⟨Pm_blind, fun U hU hWm => ⟨rfl, by rw [hU]; exact hW.moved hWm.alike, hK.warm hWm⟩⟩ rfl (take_len hst) hlen (take_st hst) (lv_room (room_of hroom)) hdg hcs) hl kk
    show 8 + (q.1.2.2.1 + 11) + 36 * d' ≤ R.locals
    omega
end AM2
