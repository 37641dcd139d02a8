section AM3
variable {p : Program} {l : Launch} {e : Env} {R : Room} {s : State} {m : MethodId} {args : Array Value} {below : List Frame} {meth : Method} {c : Code} {H : Heap} {locs : List Loc} {cells slots : Nat} {Q : State → Prop}
variable {cc : ByteArray} {pc : Nat} {ls : Array Slot} {rest : List Value} {G : va_G} {dA : Nat → ClassId} {lo : Nat}
theorem cb_i : componentBytes (newarray.typeOf .int) = 4 := by decide +kernel
theorem cb_z : componentBytes (newarray.typeOf .boolean) = 1 := by decide +kernel
set_option maxHeartbeats 200000 in
theorem am_newi {nL own d : Nat} {ini : Bool} (X : CX p R s m args meth c cc nL own ini d G dA) {n : Int32} {h : AH} (hW : WD G dA lo s h H) (hn : ¬ n < 0) (hNb : n.toNatClampNeg ≤ 100000) (hcell : cells + 1 ≤ R.cells) (hslot : slots + n.toNatClampNeg ≤ R.slots) (hdg : decode cc pc = .ok (.newarray .int, 2))
    (kk : ∀ H1 : Heap, WD G dA lo s (hN h (aI 0 n.toNatClampNeg fun _ => 0) n.toNatClampNeg) H1 → W p l e R s m args below meth c H1 locs (cells + 1) (slots + n.toNatClampNeg) Q (F0 m (pc + 2) ls (.ref h.2.1 :: rest))) : W p l e R s m args below meth c H locs cells slots Q (F0 m pc ls (.int n :: rest)) := by
  obtain ⟨hx, hb, hml, hown, hts, hK, -⟩ := X
  have hbt : n.toNatClampNeg * componentBytes (newarray.typeOf .int) ≤ 536870912 := by rw [cb_i]; omega
  have hac : (Cond.arrayClass (newarray.typeOf .int)).before args s = true := hts (.arrayClass .int) w_ci
  refine va_newaK (atype := .int) (N := n.toNatClampNeg) (h := h.2.1) hx hb hac (g := F0 m pc ls (.int n :: rest)) rfl hdg (n := n) (rest := rest) rfl hn rfl hbt hcell hslot hW.1.1 fun H1 cA e1 z1 o1 hAr hNm => ?_
  have hsz := hW.1.1
  have hRA : s.vm.findClass ("[" ++ (newarray.typeOf .int).toString) = some (dA 0) := (hK.1.2 0 _ rfl).2
  have hcA : cA = dA 0 := Option.some.inj (hNm.symm.trans hRA)
  subst hcA
  refine kk H1 (hW.new _ ⟨by decide, ?_⟩ (by rw [z1, hsz]) (fun q hq => o1 q (by rw [← hsz]; exact hq)))
  rw [hsz, vp_cell_i]
  exact e1
set_option maxHeartbeats 200000 in
theorem am_newz {nL own d : Nat} {ini : Bool} (X : CX p R s m args meth c cc nL own ini d G dA) {n : Int32} {h : AH} (hW : WD G dA lo s h H) (hn : ¬ n < 0) (hNb : n.toNatClampNeg ≤ 100000) (hcell : cells + 1 ≤ R.cells) (hslot : slots + n.toNatClampNeg ≤ R.slots) (hdg : decode cc pc = .ok (.newarray .boolean, 2))
    (kk : ∀ H1 : Heap, WD G dA lo s (hN h (aI 1 n.toNatClampNeg fun _ => 0) n.toNatClampNeg) H1 → W p l e R s m args below meth c H1 locs (cells + 1) (slots + n.toNatClampNeg) Q (F0 m (pc + 2) ls (.ref h.2.1 :: rest))) : W p l e R s m args below meth c H locs cells slots Q (F0 m pc ls (.int n :: rest)) := by
  obtain ⟨hx, hb, hml, hown, hts, hK, -⟩ := X
  have hbt : n.toNatClampNeg * componentBytes (newarray.typeOf .boolean) ≤ 536870912 := by rw [cb_z]; omega
  have hac : (Cond.arrayClass (newarray.typeOf .boolean)).before args s = true := hts (.arrayClass .boolean) w_cz
  refine va_newaK (atype := .boolean) (N := n.toNatClampNeg) (h := h.2.1) hx hb hac (g := F0 m pc ls (.int n :: rest)) rfl hdg (n := n) (rest := rest) rfl hn rfl hbt hcell hslot hW.1.1 fun H1 cA e1 z1 o1 hAr hNm => ?_
  have hsz := hW.1.1
  have hRA : s.vm.findClass ("[" ++ (newarray.typeOf .boolean).toString) = some (dA 1) := (hK.1.2 1 _ rfl).2
  have hcA : cA = dA 1 := Option.some.inj (hNm.symm.trans hRA)
  subst hcA
  refine kk H1 (hW.new _ ⟨by decide, ?_⟩ (by rw [z1, hsz]) (fun q hq => o1 q (by rw [← hsz]; exact hq)))
  rw [hsz, vp_cell_i]
  exact e1
end AM3
