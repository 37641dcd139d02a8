/-! ===== contracts of methods, calls ===== -/
def Pm (G : va_G) (dA : Nat → ClassId) (lo : Nat) (args : List Value) (h : AH) : Array Value → State → Prop := fun a U => a = args.toArray ∧ WD G dA lo U h U.heap ∧ KK G dA U
def Qm (G : va_G) (dA : Nat → ClassId) (lo : Nat) (res : RV) : Array Value → State → Outcome → State → Prop := fun _ _ oc t => oc = .returned res.1 ∧ WD G dA lo t res.2 t.heap
def wsm (q : MT) : List Cond := cwd q :: gtbl
def rmm (d : Nat) (h h' : AH) : Room := { frames := d, cells := h'.2.1 - h.2.1, slots := h'.2.2 - h.2.2, locals := 36 * d }
def CM (l : Launch) (G : va_G) (dA : Nat → ClassId) (lo : Nat) (d : Nat) (c : Ct) : Prop := ∀ (y : Nat) (args : List Value) (h : AH) (res : RV), c y args h = some res → leH h res.2 ∧ (y < 169 → ∃ (d' : Nat) (q : MT), d = d' + 1 ∧ mtab[y]? = some q ∧ Met l q.1.1 (wsm q) (rmm d' h res.2) (Pm G dA lo args h) (Qm G dA lo res) (res.2.2.1 - h.2.1) (res.2.2.2 - h.2.2) (fun x => lo ≤ x))
theorem Pm_blind {G : va_G} {dA : Nat → ClassId} {lo : Nat} {args : List Value} {h : AH} : FrameBlind (Pm G dA lo args h) := fun _ U g mk ⟨h1, h2, h3⟩ => ⟨h1, WD.moved (u := U) (U := U.calling g mk _) (Vm.Alike.refl U.vm) h2, h3.calling⟩
/-- what a method's frame stands on -/
def CX (p : Program) (R : Room) (s : State) (m : MethodId) (args : Array Value) (meth : Method) (c : Code) (cc : ByteArray) (nL own : Nat) (ini : Bool) (d : Nat) (G : va_G) (dA : Nat → ClassId) : Prop :=
  p.tables.exec = Jvm.exec ∧ c.code = cc ∧ c.maxLocals = nL ∧ s.vm.findClass (cnm own) = some m.cls ∧ (∀ w ∈ gtbl, w.before args s = true) ∧ KK G dA s ∧ (ini = true → meth.name = "<init>") ∧ d ≤ R.frames ∧ 36 * d ≤ R.locals
/-- our state beside the machine's -/
def Re (G : va_G) (dA : Nat → ClassId) (lo : Nat) (s : State) (nL : Nat) (t0 s0 : Nat) (L : List (Option Value)) (h : AH) (H : Heap) (locs : List Loc) (cells slots : Nat) (ls : Array Slot) : Prop :=
  WD G dA lo s h H ∧ lvr ls L ∧ L.length = nL ∧ (∀ q ∈ locs, lo ≤ q.base) ∧ cells + t0 = h.2.1 ∧ slots + s0 = h.2.2
section AM
variable {p : Program} {l : Launch} {e : Env} {R : Room} {s : State} {m : MethodId} {args : Array Value} {below : List Frame} {meth : Method} {c : Code} {H : Heap} {locs : List Loc} {cells slots : Nat} {Q : State → Prop}
variable {cc : ByteArray} {pc : Nat} {ls : Array Slot} {rest : List Value} {G : va_G} {dA : Nat → ClassId} {lo : Nat}
/-- behind a call -/
theorem am_back {mc ms : Nat} {st0 : List Value} {a : Array Value} {res : RV} (hr : va_Run p l e R s m args below meth c H locs cells slots mc ms (F0 m pc ls st0) rest (Qm G dA lo res a) (fun x => lo ≤ x)) (hl : ∀ q ∈ locs, lo ≤ q.base)
    (kk : ∀ (H1 : Heap) (locs1 : List Loc), WD G dA lo s res.2 H1 → (∀ q ∈ locs1, lo ≤ q.base) → W p l e R s m args below meth c H1 locs1 (cells + mc) (slots + ms) Q (F0 m (pc + 3) ls (res.1.toList ++ rest))) : W p l e R s m args below meth c H locs cells slots Q (F0 m pc ls st0) := by
  intro T hT X
  obtain ⟨v, st₀, t, T', L, h0, X', hL, e1, e2, ⟨hv, hw⟩, st⟩ := hr T hT X
  have hv' : v = res.1 := by injection hv
  subst hv'
  have hal : t.vm.Alike s.vm := by rw [← e2]; exact X'.warmed.alike.symm
  obtain ⟨t2, a1, b1⟩ := kk T'.heap (locs ++ L) (by rw [e1]; exact hw.moved hal) (fun q hq => by
      rcases List.mem_append.mp hq with h | h
      · exact hl q h
      · exact hL q h) T' rfl X'
  exact ⟨t2, st t2 a1, b1⟩
theorem am_get {nL own d : Nat} {ini : Bool} (X : CX p R s m args meth c cc nL own ini d G dA) {x ci k : Nat} (hlk : flT.elem (own, x, ci, k) = true) {a : Nat} {fs : List Value} {v : Value} {h : AH} (hW : WD G dA lo s h H) (ha : h.1 a = some (oB ci fs)) (hv : fs[k]? = some v) (hdg : decode cc pc = .ok (.getfield x, 3))
    (kk : W p l e R s m args below meth c H locs cells slots Q (F0 m (pc + 3) ls (v :: rest))) : W p l e R s m args below meth c H locs cells slots Q (F0 m pc ls (.ref a :: rest)) := by
  obtain ⟨hx, hb, hml, hown, hts, hK, -⟩ := X
  obtain ⟨r, hc, hk, hw⟩ := fl_use hlk
  dsimp only at hc hk hw
  obtain ⟨hin, -⟩ := cls_ok _ _ hc
  have hP : va_P G cls9 [(a, .inr (ci, fs))] H := fun j q hj => by
    match j, hj with
    | 0, hj => cases hj; exact (hW.2 a _ ha).1
    | j + 1, hj => simp at hj
  exact va_get (D := G) (ci := ci) (v := v) (C := r.1) (T := r.2.1) (N := r.2.2) hx hb hts hin hown hK.1 hP 0 rfl hc k hk (hts _ hw) (fun _ h9 => h9) hv hdg kk
theorem am_put {nL own d : Nat} {ini : Bool} (X : CX p R s m args meth c cc nL own ini d G dA) {x ci k kd : Nat} (hlk : flT.elem (own, x, ci, k) = true) (hfk : fkOk ci k kd = true) (hff : ffin own ini ci k = true) {a : Nat} {fs : List Value} {v : Value} {h : AH} (hW : WD G dA lo s h H) (hl : ∀ q ∈ locs, lo ≤ q.base) (ha : h.1 a = some (oB ci fs)) (hk2 : k < fs.length) (hv : (kd = 0 ∧ ∃ x, v = .int x) ∨ (kd = 1 ∧ (v = .null ∨ ∃ a, v = .ref a)) ∨ (kd = 2 ∧ ∃ x : Int32, v = .int x ∧ (x = 0 ∨ x = 1))) (hdg : decode cc pc = .ok (.putfield x, 3))
    (kk : ∀ (H1 : Heap) (locs1 : List Loc), WD G dA lo s (hS h a (oB ci (fs.set k v))) H1 → (∀ q ∈ locs1, lo ≤ q.base) → W p l e R s m args below meth c H1 locs1 cells slots Q (F0 m (pc + 3) ls rest)) : W p l e R s m args below meth c H locs cells slots Q (F0 m pc ls (v :: .ref a :: rest)) := by
  obtain ⟨hx, hb, hml, hown, hts, hK, hini, -⟩ := X
  obtain ⟨r, hc, hk, hw⟩ := fl_use hlk
  dsimp only at hc hk hw
  obtain ⟨hin, hty, hnm⟩ := cls_ok _ _ hc
  obtain ⟨hn, hfit⟩ := fits_of hfk hv
  have hap := va_apart (own := cnm own) hts hin (tyT ci) hty hnm hK.1 hc
  have hat := (hW.2 a _ ha).1
  have hloa : lo ≤ a := hW.lo ha (fun n f q => by cases q)
  obtain ⟨r', h1, cell, q1, q2, q3, q4⟩ := id hat
  have hr : r' = r := Option.some.inj (h1.symm.trans hc)
  subst hr
  obtain ⟨hS, hfc, kC, hkC, hkind⟩ := hK.1.1 ci _ hc
  obtain ⟨cf, kf, fi, f, hi, hsl⟩ := hS k hk
  have hlay := hts _ (hin _ (u_in_lay hk))
  have hst := (u_facts hfc hkC (u_lays hts hin hk) hi).1
  have fin : ∀ H' : Heap, H'[a]? = some (cell.setSlot f.slot v) → H'.size = H.size → (∀ q, q ≠ a → H'[q]? = H[q]?) → W p l e R s m args below meth c H' (locs ++ [⟨a, f.slot⟩]) cells slots Q (F0 m (pc + 3) ls rest) := by
    intro H' e1 e2 e3
    rw [hsl] at e1
    refine kk H' _ (hW.set ha (fun n f q => by cases q) ?_ e2 e3) ?_
    · exact ⟨_, hc, t_OB.to (V := updV (vp_V fs) k v) ⟨_, e1, q2, q3, t_set q4 hap hk v⟩ (fun j _ => vp_updV_set hk2 v j)⟩
    · intro q hq
      rcases List.mem_append.mp hq with h | h
      · exact hl q h
      · rw [List.mem_singleton.mp h]; exact hloa
  unfold ffin at hff
  rw [hc] at hff
  dsimp only at hff
  rw [Bool.or_eq_true] at hff
  unfold u_lay at hlay
  rcases hff with hff | hff
  · have hfin : (r'.2.1 k).2.2.2 = false := by simpa using hff
    rw [if_neg (by rw [hfin]; decide)] at hlay
    have h6 := u_store hfc hkC hkind hlay hi (hty k hk) hn hfit
    exact W.putK hx hb (f := f) ⟨hown, hts _ hw, ⟨_, _, _, hi⟩, hst⟩ (by rw [q2]; exact h6) q1 q3 (by rw [hsl]; exact k2_hasslot (q4 k hk)) rfl rfl hdg fin
  · rw [Bool.and_eq_true, decide_eq_true_eq] at hff
    by_cases hfin : (r'.2.1 k).2.2.2 = true
    · rw [if_pos hfin] at hlay
      have hcf : m.cls = cf := by
        obtain ⟨_, _, c', _, _, _, -, -, hf', -, -, -, hown2, -⟩ := Cond.laysFinal_spec hlay
        have e1 : c' = cf := by have := hi.symm.trans hf'; simp at this; exact this.1.symm
        rw [hff.2] at hown2
        rw [← e1]; exact Option.some.inj (hown.symm.trans hown2)
      have h6 := u_fits hfc hkC hkind (Or.inr hlay) hi (hty k hk) hn hfit
      exact W.putFinK hx hb hown (hts _ hw) hi hst hcf (hini hff.1) (by rw [q2]; exact h6) q1 q3 (by rw [hsl]; exact k2_hasslot (q4 k hk)) rfl rfl hdg fin
    · rw [if_neg hfin] at hlay
      have h6 := u_store hfc hkC hkind hlay hi (hty k hk) hn hfit
      exact W.putK hx hb (f := f) ⟨hown, hts _ hw, ⟨_, _, _, hi⟩, hst⟩ (by rw [q2]; exact h6) q1 q3 (by rw [hsl]; exact k2_hasslot (q4 k hk)) rfl rfl hdg fin
theorem am_iald {nL own d : Nat} {ini : Bool} (X : CX p R s m args meth c cc nL own ini d G dA) {t n : Nat} {g : Nat → Int32} {i : Int32} {a : Nat} {h : AH} (hW : WD G dA lo s h H) (ha : h.1 a = some (aI t n g)) (ht : ¬ t = 1) (hin : vp_in i n) (hdg : decode cc pc = .ok (.iaload, 1))
    (kk : W p l e R s m args below meth c H locs cells slots Q (F0 m (pc + 1) ls (.int (g i.toNatClampNeg) :: rest))) : W p l e R s m args below meth c H locs cells slots Q (F0 m pc ls (.int i :: .ref a :: rest)) := by
  obtain ⟨hx, hb, hml, hown, hts, hK, -⟩ := X
  have hat := (hW.2 a _ ha).1
  unfold atC at hat
  dsimp only at hat
  have hlt : i.toNatClampNeg < n := Nat.not_le.mp fun q => hin (Or.inr q)
  by_cases h2 : t = 2
  · rw [if_pos h2] at hat
    obtain ⟨scr, h1, h2, h3, h4, h5⟩ := hat
    exact W.iald (v := .int (g i.toNatClampNeg)) hx hb h1 h2 h3 (by rw [h4]; exact hin) (h5 _ hlt) rfl rfl hdg kk
  · rw [if_neg h2] at hat
    have h0 : t = 0 := by omega
    subst h0
    have hP : va_P G cls9 [(a, .inl (dA 0, n, .inl g))] H := fun j q hj => by
      match j, hj with
      | 0, hj => cases hj; exact hat.2
      | j + 1, hj => simp at hj
    exact va_iald hx hb hK.1 hP 0 0 rfl rfl hin hdg kk
theorem am_zald {nL own d : Nat} {ini : Bool} (X : CX p R s m args meth c cc nL own ini d G dA) {n : Nat} {g : Nat → Int32} {i : Int32} {a : Nat} {h : AH} (hW : WD G dA lo s h H) (ha : h.1 a = some (aI 1 n g)) (hin : vp_in i n) (hdg : decode cc pc = .ok (.baload, 1))
    (kk : W p l e R s m args below meth c H locs cells slots Q (F0 m (pc + 1) ls (.int (g i.toNatClampNeg) :: rest))) : W p l e R s m args below meth c H locs cells slots Q (F0 m pc ls (.int i :: .ref a :: rest)) := by
  obtain ⟨hx, hb, hml, hown, hts, hK, -⟩ := X
  have hat := (hW.2 a _ ha).1
  have hP : va_P G cls9 [(a, .inl (dA 1, n, .inl g))] H := fun j q hj => by
    match j, hj with
    | 0, hj => cases hj; exact hat.2
    | j + 1, hj => simp at hj
  exact va_zald hx hb hK.1 hP 0 1 rfl rfl hin hdg kk
theorem am_tq {t : Nat} (ht : t = 2 ∨ t = 3 ∨ t = 4) : ∃ (k : Nat) (r : String) (q : u_T × Nat), (tys dA)[k]? = some (dA t, FieldType.object r) ∧ cls9[qcl t]? = some (r, q) := by
  rcases ht with rfl | rfl | rfl
  · exact ⟨2, RX0, _, rfl, rfl⟩
  · exact ⟨3, RX6, _, rfl, rfl⟩
  · exact ⟨4, RX4, _, rfl, rfl⟩
theorem am_qald {nL own d : Nat} {ini : Bool} (X : CX p R s m args meth c cc nL own ini d G dA) {t n : Nat} {g : Nat → Option Nat} {i : Int32} {a : Nat} {h : AH} (hW : WD G dA lo s h H) (ha : h.1 a = some (aQ t n g)) (hin : vp_in i n) (hdg : decode cc pc = .ok (.aaload, 1))
    (kk : W p l e R s m args below meth c H locs cells slots Q (F0 m (pc + 1) ls (va_rf (g i.toNatClampNeg) :: rest))) : W p l e R s m args below meth c H locs cells slots Q (F0 m pc ls (.int i :: .ref a :: rest)) := by
  obtain ⟨hx, hb, hml, hown, hts, hK, -⟩ := X
  obtain ⟨ht, hat⟩ := (hW.2 a _ ha).1
  obtain ⟨k, r, rq, hk, -⟩ := am_tq (dA := dA) ht
  have hP : va_P G cls9 [(a, .inl (dA t, n, .inr (.inr (.inr (.inr g)))))] H := fun j q hj => by
    match j, hj with
    | 0, hj => cases hj; exact hat
    | j + 1, hj => simp at hj
  exact va_aldq hx hb hK.1 hP 0 k rfl hk hin hdg kk
theorem am_iast {nL own d : Nat} {ini : Bool} (X : CX p R s m args meth c cc nL own ini d G dA) {n : Nat} {g : Nat → Int32} {i x : Int32} {a : Nat} {h : AH} (hW : WD G dA lo s h H) (hl : ∀ q ∈ locs, lo ≤ q.base) (ha : h.1 a = some (aI 0 n g)) (hin : vp_in i n) (hdg : decode cc pc = .ok (.iastore, 1))
    (kk : ∀ (H1 : Heap) (locs1 : List Loc), WD G dA lo s (hS h a (aI 0 n (upd g i.toNatClampNeg x))) H1 → (∀ q ∈ locs1, lo ≤ q.base) → W p l e R s m args below meth c H1 locs1 cells slots Q (F0 m (pc + 1) ls rest)) : W p l e R s m args below meth c H locs cells slots Q (F0 m pc ls (.int x :: .int i :: .ref a :: rest)) := by
  obtain ⟨hx, hb, hml, hown, hts, hK, -⟩ := X
  have hat : H[a]? = some (vp_cell (dA 0) (n, .inl g)) := (hW.2 a _ ha).1.2
  have hloa : lo ≤ a := hW.lo ha (fun n f q => by cases q)
  refine W.iast hx hb hat ((hK.1.2 0 _ rfl).1 n (fun j => .int (g j))) (fun q => by cases q) (by show ¬ (i < 0 ∨ (arrV _ _ _).slots.size ≤ _); rw [arrV_size]; exact hin) rfl rfl hdg fun H1 e1 z oq => ?_
  refine kk H1 _ (hW.set ha (fun n f q => by cases q) ⟨by decide, ?_⟩ z oq) (fun q hq => ?_)
  · rw [e1, vp_cell_i, vp_cell_i, arrV_store]
    congr 2
    funext q
    by_cases hq : q = i.toNatClampNeg
    · subst hq
      simp [updV, upd]
    · simp [updV, upd, hq]
  · rcases List.mem_append.mp hq with h | h
    · exact hl q h
    · rw [List.mem_singleton.mp h]; exact hloa
theorem am_zast {nL own d : Nat} {ini : Bool} (X : CX p R s m args meth c cc nL own ini d G dA) {n : Nat} {g : Nat → Int32} {i x : Int32} {a : Nat} {h : AH} (hW : WD G dA lo s h H) (hl : ∀ q ∈ locs, lo ≤ q.base) (ha : h.1 a = some (aI 1 n g)) (hin : vp_in i n) (hdg : decode cc pc = .ok (.bastore, 1))
    (kk : ∀ (H1 : Heap) (locs1 : List Loc), WD G dA lo s (hS h a (aI 1 n (upd g i.toNatClampNeg (vp_nar .boolean x)))) H1 → (∀ q ∈ locs1, lo ≤ q.base) → W p l e R s m args below meth c H1 locs1 cells slots Q (F0 m (pc + 1) ls rest)) : W p l e R s m args below meth c H locs cells slots Q (F0 m pc ls (.int x :: .int i :: .ref a :: rest)) := by
  obtain ⟨hx, hb, hml, hown, hts, hK, -⟩ := X
  have hat : H[a]? = some (vp_cell (dA 1) (n, .inl g)) := (hW.2 a _ ha).1.2
  have hloa : lo ≤ a := hW.lo ha (fun n f q => by cases q)
  refine W.zast hx hb hat ((hK.1.2 1 _ rfl).1 n (fun j => .int (g j))) (fun q => by cases q) (by show ¬ (i < 0 ∨ (arrV _ _ _).slots.size ≤ _); rw [arrV_size]; exact hin) rfl rfl hdg fun H1 e1 z oq => ?_
  refine kk H1 _ (hW.set ha (fun n f q => by cases q) ⟨by decide, ?_⟩ z oq) (fun q hq => ?_)
  · rw [e1, vp_cell_i, vp_cell_i, arrV_store]
    congr 2
    funext q
    by_cases hq : q = i.toNatClampNeg
    · subst hq
      simp [updV, upd, vp_nar]
      try rfl
    · simp [updV, upd, hq]
  · rcases List.mem_append.mp hq with h | h
    · exact hl q h
    · rw [List.mem_singleton.mp h]; exact hloa
theorem am_qast {nL own d : Nat} {ini : Bool} (X : CX p R s m args meth c cc nL own ini d G dA) {t n : Nat} {g : Nat → Option Nat} {i : Int32} {a v : Nat} {fs : List Value} {h : AH} (hW : WD G dA lo s h H) (hl : ∀ q ∈ locs, lo ≤ q.base) (ha : h.1 a = some (aQ t n g)) (hin : vp_in i n) (hv : h.1 v = some (oB (qcl t) fs)) (hdg : decode cc pc = .ok (.aastore, 1))
    (kk : ∀ (H1 : Heap) (locs1 : List Loc), WD G dA lo s (hS h a (aQ t n (va_up g i.toNatClampNeg (some v)))) H1 → (∀ q ∈ locs1, lo ≤ q.base) → W p l e R s m args below meth c H1 locs1 cells slots Q (F0 m (pc + 1) ls rest)) : W p l e R s m args below meth c H locs cells slots Q (F0 m pc ls (.ref v :: .int i :: .ref a :: rest)) := by
  obtain ⟨hx, hb, hml, hown, hts, hK, -⟩ := X
  obtain ⟨ht, hat⟩ := (hW.2 a _ ha).1
  have hloa : lo ≤ a := hW.lo ha (fun n f q => by cases q)
  obtain ⟨k, rn, rq, hk, hc⟩ := am_tq (dA := dA) ht
  have hlt : i.toNatClampNeg < n := Nat.not_le.mp fun q => hin (Or.inr q)
  have h0 : ¬ i < 0 := fun q => hin (Or.inl q)
  obtain ⟨r', hr', cellV, g1, g2, g3, -⟩ := (hW.2 v _ hv).1
  have hcls := (hK.1.1 (qcl t) _ hc).2
  obtain ⟨kA, comp, k1, k2, k3, -⟩ := (hK.1.2 k _ hk).2
  have hcomp : comp = G.1 (qcl t) := Option.some.inj (k3.symm.trans hcls.1)
  subst hcomp
  obtain ⟨kC, hkC, -⟩ := id hcls.2
  refine W.aast hx hb hat (fun q h => by cases h) (fun h => by cases h) k1 k2 rfl hkC ⟨h0, by show _ < (arrV _ _ _).slots.size; rw [arrV_size]; exact hlt⟩ g1 (fun q h => by rw [g3] at h; cases h) (by rw [g2]; exact hkC) (by rw [g2]; exact va_assign hcls) rfl rfl hdg fun H1 e1 z oq => ?_
  refine kk H1 _ (hW.set ha (fun n f q => by cases q) ⟨ht, ?_⟩ z oq) (fun q hq => ?_)
  · rw [e1, vp_cell_q, vp_cell_q, arrV_store]
    congr 2
    funext q
    by_cases hq : q = i.toNatClampNeg
    · subst hq
      simp [updV, va_up, va_rf]
    · simp [updV, va_up, hq]
  · rcases List.mem_append.mp hq with h | h
    · exact hl q h
    · rw [List.mem_singleton.mp h]; exact hloa
theorem am_alen {nL own d : Nat} {ini : Bool} (X : CX p R s m args meth c cc nL own ini d G dA) {t n : Nat} {g : Nat → Int32} {a : Nat} {h : AH} (hW : WD G dA lo s h H) (ha : h.1 a = some (aI t n g)) (hdg : decode cc pc = .ok (.arraylength, 1))
    (kk : W p l e R s m args below meth c H locs cells slots Q (F0 m (pc + 1) ls (.int (Int32.ofNat n) :: rest))) : W p l e R s m args below meth c H locs cells slots Q (F0 m pc ls (.ref a :: rest)) := by
  obtain ⟨hx, hb, hml, hown, hts, hK, -⟩ := X
  have hat := (hW.2 a _ ha).1
  unfold atC at hat
  dsimp only at hat
  by_cases h2 : t = 2
  · rw [if_pos h2] at hat
    obtain ⟨scr, h1, h2, h3, h4, h5⟩ := hat
    exact W.alen (n := Int32.ofNat n) hx hb h1 h2 (by rw [h4] <;> rfl) rfl rfl hdg kk
  · rw [if_neg h2] at hat
    have hP : va_P G cls9 [(a, .inl (dA t, n, .inl g))] H := fun j q hj => by
      match j, hj with
      | 0, hj => cases hj; exact hat.2
      | j + 1, hj => simp at hj
    have h01 : t = 0 ∨ t = 1 := by omega
    rcases h01 with rfl | rfl
    · exact va_alen hx hb hK.1 hP 0 0 rfl (ty := .int) rfl rfl hdg kk
    · exact va_alen hx hb hK.1 hP 0 1 rfl (ty := .boolean) rfl rfl hdg kk
theorem am_qlen {nL own d : Nat} {ini : Bool} (X : CX p R s m args meth c cc nL own ini d G dA) {t n : Nat} {g : Nat → Option Nat} {a : Nat} {h : AH} (hW : WD G dA lo s h H) (ha : h.1 a = some (aQ t n g)) (hdg : decode cc pc = .ok (.arraylength, 1))
    (kk : W p l e R s m args below meth c H locs cells slots Q (F0 m (pc + 1) ls (.int (Int32.ofNat n) :: rest))) : W p l e R s m args below meth c H locs cells slots Q (F0 m pc ls (.ref a :: rest)) := by
  obtain ⟨hx, hb, hml, hown, hts, hK, -⟩ := X
  obtain ⟨ht, hat⟩ := (hW.2 a _ ha).1
  obtain ⟨k, r, rq, hk, -⟩ := am_tq (dA := dA) ht
  have hP : va_P G cls9 [(a, .inl (dA t, n, .inr (.inr (.inr (.inr g)))))] H := fun j q hj => by
    match j, hj with
    | 0, hj => cases hj; exact hat
    | j + 1, hj => simp at hj
  exact va_alen hx hb hK.1 hP 0 k rfl hk rfl hdg kk
end AM
