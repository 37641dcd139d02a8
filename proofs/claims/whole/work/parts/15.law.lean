/-! THE CLAIM OUT OF ONE WALK OF THE LAW'S BODY. Your part is whole_start (and what it stands on); all else here is the same for every law, but numbers. -/
def R_law : String := "NameRowsLaw"
def lw_P (b : Addr) (xs : List Int32) (args : Array Value) (s : State) : Prop := args = #[.ref b] ∧ s.IntsAt b xs ∧ xs.length ≤ 3584 ∧ (Jvm.Cond.and given_1 narrow_1).before args s = true
def lw_Q (_ : Array Value) (s : State) (o : Outcome) (t : State) : Prop := o = .returned (some (.int 1)) ∧ Framed s o t [] 600000 7302250
def lw_Z (below : List Frame) (a : Array Value) (s : State) : State → Prop := fun t => ∃ o, t.status = .running ∧ Ended t below o ∧ lw_Q a s o t
/-- the law's own end, with 1 on the stack, nothing written that was there before, its room as the claim has it -/
theorem lw_ret {p : Program} {l : Launch} {e : Env} {s : State} {m : MethodId} {below : List Frame} {meth : Method} {c : Code} {b : Nat} (hx : p.tables.exec = Jvm.exec) (hb : c.code = code) (hr : meth.sig.returnType = ret) (hlocks : meth.locks = false) {pc : Nat} {H : Heap} {ls : Array Slot} (hdg : decode code pc = .ok (.ireturn, 1)) : W p l e room_1 s m #[Value.ref b] below meth c H [] 600000 7302250 (lw_Z below #[Value.ref b] s) (F0 m pc ls [.int 1]) := by
  intro T hT X
  obtain ⟨fs, hret, hrun, hended, hW, hframe⟩ := X.leave (v := some (.int 1)) (hlocks := hlocks) (fun h => by rw [hr] at h; cases h)
  have hmeth' : T.vm.method? m = some meth := X.method'
  refine ⟨T.setFrames fs, ?_, .returned (some (.int 1)), hrun, hended, rfl, ⟨_, rfl⟩, hW, hframe⟩
  jvm_step X.here [X.here.top, hx, hb, hdg, hmeth', hr, ret, narrow_b1]
  (try refine ⟨rfl, ?_⟩); (try refine ⟨rfl, ?_⟩)
  first | (intro acts; rw [hret _ acts rfl rfl rfl]) | rw [hret _ _ rfl rfl rfl]
  exact Steps.refl _
/-- what holds at the law's entry: the machine, the code, the tables' words (any of lw_tbl by 'hts w (by decide +kernel)'), the script of L ints xs at the cell b, what the Statement gives of the start (any of its parts by flat_of_before) -/
def lw_At (p : Program) (s : State) (m : MethodId) (meth : Method) (c : Code) (b L : Nat) (xs : Nat → Int32) : Prop :=
  p.tables.exec = Jvm.exec ∧ c.code = code ∧ meth.sig.returnType = ret ∧ c.maxLocals = 4 ∧ s.vm.findClass R_law = some m.cls ∧ (∀ w ∈ lw_tbl, w.before #[Value.ref b] s = true) ∧ va_X b L xs s s.heap ∧ b < s.heap.size ∧ meth.locks = false ∧ (Jvm.Cond.and given_1 narrow_1).before #[Value.ref b] s = true
theorem w_in0 : Cond.instantiable RX0 8 ∈ gtbl := gt_of (i := 114) (by decide +kernel) rfl
theorem w_in1 : Cond.instantiable RX1 2 ∈ gtbl := gt_of (i := 165) (by decide +kernel) rfl
theorem w_in2 : Cond.instantiable RX2 3 ∈ gtbl := gt_of (i := 83) (by decide +kernel) rfl
theorem w_in3 : Cond.instantiable RX3 5 ∈ gtbl := gt_of (i := 178) (by decide +kernel) rfl
theorem w_in4 : Cond.instantiable RX4 3 ∈ gtbl := gt_of (i := 292) (by decide +kernel) rfl
theorem w_in5 : Cond.instantiable RX5 18 ∈ gtbl := gt_of (i := 207) (by decide +kernel) rfl
theorem w_in6 : Cond.instantiable RX6 4 ∈ gtbl := gt_of (i := 269) (by decide +kernel) rfl
theorem w_in7 : Cond.instantiable RX7 16 ∈ gtbl := gt_of (i := 75) (by decide +kernel) rfl
theorem w_in8 : Cond.instantiable RX8 42 ∈ gtbl := gt_of (i := 775) (by decide +kernel) rfl
theorem w_aoRX0 : Cond.arrayOver (.object RX0) ∈ lw_tbl := List.mem_of_getElem? (i := 109) (by decide +kernel)
theorem w_aoRX6 : Cond.arrayOver (.object RX6) ∈ lw_tbl := List.mem_of_getElem? (i := 111) (by decide +kernel)
theorem w_aoRX4 : Cond.arrayOver (.object RX4) ∈ lw_tbl := List.mem_of_getElem? (i := 113) (by decide +kernel)
/-- the start: the script alone -/
def h00 (b L lo : Nat) (xs : Nat → Int32) : AH := (fun q => if q = b then some (aI 2 L xs) else none, (lo, 0))
theorem kk_start {args : Array Value} {s : State} (hts : ∀ w ∈ lw_tbl, w.before args s = true) : ∃ (G : va_G) (dA : Nat → ClassId), KK G dA s := by
  have htg : ∀ w ∈ gtbl, w.before args s = true := fun w hw => hts w (gt_in hw)
  obtain ⟨c0, i0, k0⟩ := u_known (C := RX0) (T := TX0) (N := 8) (n := 8) htg lay_0 (htg _ w_in0)
  obtain ⟨c1, i1, k1⟩ := u_known (C := RX1) (T := TX1) (N := 2) (n := 2) htg lay_1 (htg _ w_in1)
  obtain ⟨c2, i2, k2⟩ := u_known (C := RX2) (T := TX2) (N := 3) (n := 3) htg lay_2 (htg _ w_in2)
  obtain ⟨c3, i3, k3⟩ := u_known (C := RX3) (T := TX3) (N := 5) (n := 5) htg lay_3 (htg _ w_in3)
  obtain ⟨c4, i4, k4⟩ := u_known (C := RX4) (T := TX4) (N := 3) (n := 3) htg lay_4 (htg _ w_in4)
  obtain ⟨c5, i5, k5⟩ := u_known (C := RX5) (T := TX5) (N := 18) (n := 18) htg lay_5 (htg _ w_in5)
  obtain ⟨c6, i6, k6⟩ := u_known (C := RX6) (T := TX6) (N := 4) (n := 4) htg lay_6 (htg _ w_in6)
  obtain ⟨c7, i7, k7⟩ := u_known (C := RX7) (T := TX7) (N := 16) (n := 16) htg lay_7 (htg _ w_in7)
  obtain ⟨c8, i8, k8⟩ := u_known (C := RX8) (T := TX8) (N := 42) (n := 42) htg lay_8 (htg _ w_in8)
  obtain ⟨a0, ka0, cm0, f00, f01, f02⟩ := Cond.arrayClass_spec (htg _ w_ci)
  obtain ⟨a1, ka1, cm1, f10, f11, f12⟩ := Cond.arrayClass_spec (htg _ w_cz)
  have ao2 : va_AO RX0 s := va_AO.of (hts _ w_aoRX0)
  have ao3 : va_AO RX6 s := va_AO.of (hts _ w_aoRX6)
  have ao4 : va_AO RX4 s := va_AO.of (hts _ w_aoRX4)
  obtain ⟨cm2, a2, ka2, e20, -, e21, e22, e23⟩ := Cond.arrayOver_spec ao2
  obtain ⟨cm3, a3, ka3, e30, -, e31, e32, e33⟩ := Cond.arrayOver_spec ao3
  obtain ⟨cm4, a4, ka4, e40, -, e41, e42, e43⟩ := Cond.arrayOver_spec ao4
  refine ⟨(fun k => match k with
    | 0 => c0
    | 1 => c1
    | 2 => c2
    | 3 => c3
    | 4 => c4
    | 5 => c5
    | 6 => c6
    | 7 => c7
    | _ => c8, fun k => match k with
    | 0 => i0
    | 1 => i1
    | 2 => i2
    | 3 => i3
    | 4 => i4
    | 5 => i5
    | 6 => i6
    | 7 => i7
    | _ => i8), fun k => match k with
    | 0 => a0
    | 1 => a1
    | 2 => a2
    | 3 => a3
    | _ => a4, ⟨fun ci q hq => ?_, fun k q hq => ?_⟩, fun q hq => ?_, ao2, ao3, ao4⟩
  · match ci, hq with
    | 0, hq => cases hq; exact k0
    | 1, hq => cases hq; exact k1
    | 2, hq => cases hq; exact k2
    | 3, hq => cases hq; exact k3
    | 4, hq => cases hq; exact k4
    | 5, hq => cases hq; exact k5
    | 6, hq => cases hq; exact k6
    | 7, hq => cases hq; exact k7
    | 8, hq => cases hq; exact k8
    | n + 9, hq => simp [cls9] at hq
  · match k, hq with
    | 0, hq => cases hq; exact ⟨fun n z => ⟨(fun k h => by cases h), ka0, f01, cm0, f02⟩, f00⟩
    | 1, hq => cases hq; exact ⟨fun n z => ⟨(fun k h => by cases h), ka1, f11, cm1, f12⟩, f10⟩
    | 2, hq => cases hq; exact ⟨fun n z => ⟨(fun k h => by cases h), ka2, e21, cm2, e22⟩, ka2, cm2, e21, e22, e20, e23⟩
    | 3, hq => cases hq; exact ⟨fun n z => ⟨(fun k h => by cases h), ka3, e31, cm3, e32⟩, ka3, cm3, e31, e32, e30, e33⟩
    | 4, hq => cases hq; exact ⟨fun n z => ⟨(fun k h => by cases h), ka4, e41, cm4, e42⟩, ka4, cm4, e41, e42, e40, e43⟩
    | n + 5, hq => simp [tys] at hq
  · obtain ⟨p, hp⟩ := map_in nl_eq hq
    exact va_Nw.of rfl (hts _ (List.mem_of_getElem? (nl_ok _ hp)))
/-- the law's walk out of our run of it -/
theorem whole_of {p : Program} {e : Env} {s : State} {m : MethodId} {below : List Frame} {meth : Method} {c : Code} (l : Launch) {b L : Nat} {xs : Nat → Int32} (C0 : lw_At p s m meth c b L xs)
    (hrun : ∃ h' : AH, run 10 mt_169 0 (entL 4 [.ref b]) [] (h00 b L s.heap.size xs) = some (some (.int 1), h') ∧ h'.2.1 ≤ s.heap.size + 600000 ∧ h'.2.2 ≤ 7302250) : W p l e room_1 s m #[Value.ref b] below meth c s.heap [] 0 0 (lw_Z below #[Value.ref b] s) (entryFrame m ([Value.ref b] : List Value).toArray 4) := by
  obtain ⟨hx, hb, hr, hml, hown, hts, hX, hbl, hlocks, hgv⟩ := C0
  obtain ⟨G, dA, hK⟩ := kk_start hts
  obtain ⟨h', hrun, hm1, hm2⟩ := hrun
  obtain ⟨n, hn⟩ := (rn_some (call_le 10)).mp hrun
  rw [lg_entry_eq]
  obtain ⟨hl1, hl2⟩ := entL_lvr (nL := 4) (as := [.ref b]) (Nat.le_refl 4)
  have hq : mtab[169]? = some mt_169 := rfl
  have hX1 : CX p room_1 s m #[Value.ref b] meth c mt_169.1.2.1 mt_169.1.2.2.1 mt_169.2.1 (mini mt_169) 10 G dA := ⟨hx, hb, hml, hown, fun w hw => hts w (gt_in hw), hK, fun h => absurd h (by decide +kernel), by decide, by decide⟩
  have hWD : WD G dA s.heap.size s (h00 b L s.heap.size xs) s.heap := by
    refine ⟨⟨rfl, Nat.le_refl _⟩, fun a ae ha => ?_⟩
    unfold h00 at ha
    dsimp only at ha
    by_cases hab : a = b
    · rw [if_pos hab] at ha
      cases ha
      subst hab
      exact ⟨hX, Or.inr ⟨_, _, rfl⟩⟩
    · rw [if_neg hab] at ha
      cases ha
  refine am_run (e := e) (below := below) hq hX1 (am_sim l G dA s.heap.size 10) (t0 := s.heap.size) (s0 := 0) (res := (some (.int 1), h')) ⟨hm1, by show h'.2.2 ≤ 0 + 7302250; omega⟩ ?_ n 0 _ [] _ s.heap [] 0 0 _ hn ⟨hWD, hl1, hl2, fun _ hq => absurd hq List.not_mem_nil, Nat.zero_add _, Nat.zero_add _⟩
  intro i r pc L' st hh K H locs cells slots ls hi hdg hst hRe
  obtain ⟨hW, hL', hn', hlo, hc1, hc2⟩ := hRe
  cases i with
  | ireturn =>
    obtain ⟨x, st', e0, h9⟩ := pI_inv hst
    clear hst
    subst e0
    cases st' with
    | cons v r => cases h9
    | nil =>
      obtain ⟨hz, h9⟩ := isZ_inv h9
      have e1 : (some (Value.int x), hh) = ((some (Value.int 1), h') : RV) := Option.some.inj h9
      have e2 : hh = h' := congrArg Prod.snd e1
      have e3 : x = 1 := by
        have := congrArg Prod.fst e1
        simpa using this
      subst e2
      subst e3
      refine va_forget (fun q hq => hlo q hq) ?_
      refine W.widen (k := 600000) (n := 7302250) (by omega) (by omega) ?_
      exact lw_ret hx hb hr hlocks hdg
  | areturn => cases hst
  | return_ => cases hst
  | _ => cases hi
