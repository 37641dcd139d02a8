/-! ===== node equations: what each method does from a node to the next ===== -/
set_option maxHeartbeats 400000
set_option maxRecDepth 100000
-- X7_init ()V: 62
theorem nd_62_0 {c : Ct} {dd : Bool} {ρ : Kt} (H : St c dd mt_62 ρ) (hd : dd = true) (h : AH) (a0 : Nat) : ρ 0 [some (.ref a0), none] [] h = (c 21 [.ref h.2.1, .int 40] (hN h (oB 2 (dfl 2)) (dfl 2).length)).bind fun q1 => rV q1 fun h2 => pfV h2 a0 7 0 (.ref h.2.1) fun h3 => pfV (hN h3 (aQ 2 7 fun _ => none) 7) a0 7 1 (.ref h3.2.1) fun h4 => pfV h4 a0 7 2 (.int 0) fun h5 => pfV (hN h5 (aQ 3 4 fun _ => none) 4) a0 7 3 (.ref h5.2.1) fun h6 => pfV h6 a0 7 4 (.int 0) fun h7 => pfV (hN h7 (aQ 4 4 fun _ => none) 4) a0 7 5 (.ref h7.2.1) fun h8 => (c 0 [.ref h8.2.1] (hN h8 (oB 0 (dfl 0)) (dfl 0).length)).bind fun q9 => rV q9 fun h10 => pfV h10 a0 7 6 (.ref h8.2.1) fun h11 => (c 16 [.ref h11.2.1] (hN h11 (oB 1 (dfl 1)) (dfl 1).length)).bind fun q12 => rV q12 fun h13 => pfV h13 a0 7 7 (.ref h11.2.1) fun h14 => (c 27 [.ref h14.2.1] (hN h14 (oB 3 (dfl 3)) (dfl 3).length)).bind fun q15 => rV q15 fun h16 => pfV h16 a0 7 8 (.ref h14.2.1) fun h17 => (c 39 [.ref h17.2.1] (hN h17 (oB 5 (dfl 5)) (dfl 5).length)).bind fun q18 => rV q18 fun h19 => pfV h19 a0 7 9 (.ref h17.2.1) fun h20 => (c 21 [.ref h20.2.1, .int 1872] (hN h20 (oB 2 (dfl 2)) (dfl 2).length)).bind fun q21 => rV q21 fun h22 => pfV h22 a0 7 10 (.ref h20.2.1) fun h23 => isZ 0 (pfV h23 a0 7 11 (.int 0) fun h24 => pfV h24 a0 7 12 (.int (-4)) fun h25 => pfV h25 a0 7 13 (.int (-4)) fun h26 => pfV h26 a0 7 14 (.int (-4)) fun h27 => pfV h27 a0 7 15 (.int (-4)) fun h28 => ρ 141 [some (.ref a0), some (.int 0)] [] h28) :=
 T1 (x_aload_n H rfl rfl) rfl
 (T1 (x_oinit H rfl (by rw [hd]; rfl)) rfl
 (T1 (x_aload_n H rfl rfl) rfl
 (T1 (x_new H rfl) rfl
 (T1 (x_dup H rfl) rfl
 (T1 (x_bipush H rfl kb_40) rfl
 ((x_init H rfl [.int 40] rfl rfl rfl rfl).trans (bi_c fun q1 => rV_c fun h2 =>
 U1 rfl ((x_putR H rfl).trans (pfV_c fun h3 =>
 U1 rfl (T1 (x_aload_n H rfl rfl) rfl
 (T1 (x_bipush H rfl kb_7) rfl
 (T1 (x_newq H rfl (by decide) (by decide)) rfl
 ((x_putR H rfl).trans (pfV_c fun h4 =>
 U1 rfl (T1 (x_aload_n H rfl rfl) rfl
 (T1 (x_iconst H rfl ki_0) rfl
 ((x_putI H rfl).trans (pfV_c fun h5 =>
 U1 rfl (T1 (x_aload_n H rfl rfl) rfl
 (T1 (x_iconst H rfl ki_4) rfl
 (T1 (x_newq H rfl (by decide) (by decide)) rfl
 ((x_putR H rfl).trans (pfV_c fun h6 =>
 U1 rfl (T1 (x_aload_n H rfl rfl) rfl
 (T1 (x_iconst H rfl ki_0) rfl
 ((x_putI H rfl).trans (pfV_c fun h7 =>
 U1 rfl (T1 (x_aload_n H rfl rfl) rfl
 (T1 (x_iconst H rfl ki_4) rfl
 (T1 (x_newq H rfl (by decide) (by decide)) rfl
 ((x_putR H rfl).trans (pfV_c fun h8 =>
 U1 rfl (T1 (x_aload_n H rfl rfl) rfl
 (T1 (x_new H rfl) rfl
 (T1 (x_dup H rfl) rfl
 ((x_init H rfl [] rfl rfl rfl rfl).trans (bi_c fun q9 => rV_c fun h10 =>
 U1 rfl ((x_putR H rfl).trans (pfV_c fun h11 =>
 U1 rfl (T1 (x_aload_n H rfl rfl) rfl
 (T1 (x_new H rfl) rfl
 (T1 (x_dup H rfl) rfl
 ((x_init H rfl [] rfl rfl rfl rfl).trans (bi_c fun q12 => rV_c fun h13 =>
 U1 rfl ((x_putR H rfl).trans (pfV_c fun h14 =>
 U1 rfl (T1 (x_aload_n H rfl rfl) rfl
 (T1 (x_new H rfl) rfl
 (T1 (x_dup H rfl) rfl
 ((x_init H rfl [] rfl rfl rfl rfl).trans (bi_c fun q15 => rV_c fun h16 =>
 U1 rfl ((x_putR H rfl).trans (pfV_c fun h17 =>
 U1 rfl (T1 (x_aload_n H rfl rfl) rfl
 (T1 (x_new H rfl) rfl
 (T1 (x_dup H rfl) rfl
 ((x_init H rfl [] rfl rfl rfl rfl).trans (bi_c fun q18 => rV_c fun h19 =>
 U1 rfl ((x_putR H rfl).trans (pfV_c fun h20 =>
 U1 rfl (T1 (x_aload_n H rfl rfl) rfl
 (T1 (x_new H rfl) rfl
 (T1 (x_dup H rfl) rfl
 (T1 (x_sipush H rfl ks_1872) rfl
 ((x_init H rfl [.int 1872] rfl rfl rfl rfl).trans (bi_c fun q21 => rV_c fun h22 =>
 U1 rfl ((x_putR H rfl).trans (pfV_c fun h23 =>
 U1 rfl (T1 (x_aload_n H rfl rfl) rfl
 (T1 (x_iconst H rfl ki_0) rfl
 ((x_putZ H rfl).trans (isZ_c (pfV_c fun h24 =>
 U1 rfl (T1 (x_aload_n H rfl rfl) rfl
 (T1 (x_bipush H rfl kb_m4) rfl
 ((x_putI H rfl).trans (pfV_c fun h25 =>
 U1 rfl (T1 (x_aload_n H rfl rfl) rfl
 (T1 (x_bipush H rfl kb_m4) rfl
 ((x_putI H rfl).trans (pfV_c fun h26 =>
 U1 rfl (T1 (x_aload_n H rfl rfl) rfl
 (T1 (x_bipush H rfl kb_m4) rfl
 ((x_putI H rfl).trans (pfV_c fun h27 =>
 U1 rfl (T1 (x_aload_n H rfl rfl) rfl
 (T1 (x_bipush H rfl kb_m4) rfl
 ((x_putI H rfl).trans (pfV_c fun h28 =>
 U1 rfl (T1 (x_iconst H rfl ki_0) rfl
 (T2 [some (.ref a0), some (.int 0)] (x_istore_n H rfl rfl) rfl rfl)))))))))))))))))))))))))))))))))))))))))))))))))))))))))))))))))))))))))))))))))))))))))))
theorem nd_62_141 {c : Ct} {dd : Bool} {ρ : Kt} (H : St c dd mt_62 ρ) (h : AH) (a0 : Nat) (x1 : Int32) : ρ 141 [some (.ref a0), some (.int x1)] [] h = gfQ h a0 7 1 none fun b1 => lnA h b1 fun v2 => if v2 ≤ x1 then (ρ 171 [some (.ref a0), some (.int 0)] [] h) else (gfQ h a0 7 1 none fun b3 => (c 0 [.ref h.2.1] (hN h (oB 0 (dfl 0)) (dfl 0).length)).bind fun q4 => rV q4 fun h5 => stQ h5 b3 x1 h.2.1 fun h6 => ρ 141 [some (.ref a0), some (.int (x1 + 1))] [] h6) :=
 T1 (x_iload_n H rfl rfl) rfl
 (T1 (x_aload_n H rfl rfl) rfl
 ((x_getR H rfl).trans (gfQ_c rfl fun b1 =>
 U1 rfl ((x_alen H rfl).trans (lnA_c fun v2 =>
 U1 rfl ((x_icmp_ge H rfl (t := 169) (by decide)).trans (if_c
 (U1 rfl (T1 (x_iconst H rfl ki_0) rfl
 (T2 [some (.ref a0), some (.int 0)] (x_istore_n H rfl rfl) rfl rfl)))
 (U1 rfl (T1 (x_aload_n H rfl rfl) rfl
 ((x_getR H rfl).trans (gfQ_c rfl fun b3 =>
 U1 rfl (T1 (x_iload_n H rfl rfl) rfl
 (T1 (x_new H rfl) rfl
 (T1 (x_dup H rfl) rfl
 ((x_init H rfl [] rfl rfl rfl rfl).trans (bi_c fun q4 => rV_c fun h5 =>
 U1 rfl ((x_aastore H rfl).trans (stQ_c fun h6 =>
 U1 rfl (T2 [some (.ref a0), some (.int (x1 + 1))] (x_iinc H rfl ki_1 rfl rfl) rfl
 (T2 [some (.ref a0), some (.int (x1 + 1))] (x_goto H rfl (t := 141) (by decide)) rfl rfl))))))))))))))))))))
theorem nd_62_171 {c : Ct} {dd : Bool} {ρ : Kt} (H : St c dd mt_62 ρ) (h : AH) (a0 : Nat) (x1 : Int32) : ρ 171 [some (.ref a0), some (.int x1)] [] h = gfQ h a0 7 3 none fun b1 => lnA h b1 fun v2 => if v2 ≤ x1 then (ρ 201 [some (.ref a0), some (.int 0)] [] h) else (gfQ h a0 7 3 none fun b3 => (c 58 [.ref h.2.1] (hN h (oB 6 (dfl 6)) (dfl 6).length)).bind fun q4 => rV q4 fun h5 => stQ h5 b3 x1 h.2.1 fun h6 => ρ 171 [some (.ref a0), some (.int (x1 + 1))] [] h6) :=
 T1 (x_iload_n H rfl rfl) rfl
 (T1 (x_aload_n H rfl rfl) rfl
 ((x_getR H rfl).trans (gfQ_c rfl fun b1 =>
 U1 rfl ((x_alen H rfl).trans (lnA_c fun v2 =>
 U1 rfl ((x_icmp_ge H rfl (t := 199) (by decide)).trans (if_c
 (U1 rfl (T1 (x_iconst H rfl ki_0) rfl
 (T2 [some (.ref a0), some (.int 0)] (x_istore_n H rfl rfl) rfl rfl)))
 (U1 rfl (T1 (x_aload_n H rfl rfl) rfl
 ((x_getR H rfl).trans (gfQ_c rfl fun b3 =>
 U1 rfl (T1 (x_iload_n H rfl rfl) rfl
 (T1 (x_new H rfl) rfl
 (T1 (x_dup H rfl) rfl
 ((x_init H rfl [] rfl rfl rfl rfl).trans (bi_c fun q4 => rV_c fun h5 =>
 U1 rfl ((x_aastore H rfl).trans (stQ_c fun h6 =>
 U1 rfl (T2 [some (.ref a0), some (.int (x1 + 1))] (x_iinc H rfl ki_1 rfl rfl) rfl
 (T2 [some (.ref a0), some (.int (x1 + 1))] (x_goto H rfl (t := 171) (by decide)) rfl rfl))))))))))))))))))))
theorem nd_62_201 {c : Ct} {dd : Bool} {ρ : Kt} (H : St c dd mt_62 ρ) (h : AH) (a0 : Nat) (x1 : Int32) : ρ 201 [some (.ref a0), some (.int x1)] [] h = gfQ h a0 7 5 none fun b1 => lnA h b1 fun v2 => if v2 ≤ x1 then (some (none, h)) else (gfQ h a0 7 5 none fun b3 => (c 34 [.ref h.2.1] (hN h (oB 4 (dfl 4)) (dfl 4).length)).bind fun q4 => rV q4 fun h5 => stQ h5 b3 x1 h.2.1 fun h6 => ρ 201 [some (.ref a0), some (.int (x1 + 1))] [] h6) :=
 T1 (x_iload_n H rfl rfl) rfl
 (T1 (x_aload_n H rfl rfl) rfl
 ((x_getR H rfl).trans (gfQ_c rfl fun b1 =>
 U1 rfl ((x_alen H rfl).trans (lnA_c fun v2 =>
 U1 rfl ((x_icmp_ge H rfl (t := 229) (by decide)).trans (if_c
 (U1 rfl (x_return H rfl rfl))
 (U1 rfl (T1 (x_aload_n H rfl rfl) rfl
 ((x_getR H rfl).trans (gfQ_c rfl fun b3 =>
 U1 rfl (T1 (x_iload_n H rfl rfl) rfl
 (T1 (x_new H rfl) rfl
 (T1 (x_dup H rfl) rfl
 ((x_init H rfl [] rfl rfl rfl rfl).trans (bi_c fun q4 => rV_c fun h5 =>
 U1 rfl ((x_aastore H rfl).trans (stQ_c fun h6 =>
 U1 rfl (T2 [some (.ref a0), some (.int (x1 + 1))] (x_iinc H rfl ki_1 rfl rfl) rfl
 (T2 [some (.ref a0), some (.int (x1 + 1))] (x_goto H rfl (t := 201) (by decide)) rfl rfl))))))))))))))))))))
-- X7_place (II)I: 63
theorem nd_63_0 {c : Ct} {dd : Bool} {ρ : Kt} (H : St c dd mt_63 ρ) (h : AH) (a0 : Nat) (x1 : Int32) (x2 : Int32) : ρ 0 [some (.ref a0), some (.int x1), some (.int x2)] [] h = gfQ h a0 7 0 none fun b1 => isO h b1 2 ((c 24 [.ref b1, .int x1, .int x2] h).bind fun q2 => rI q2 fun v4 h3 => some (some (.int v4), h3)) :=
 T1 (x_aload_n H rfl rfl) rfl
 ((x_getR H rfl).trans (gfQ_c rfl fun b1 =>
 U1 rfl (T1 (x_iload_n H rfl rfl) rfl
 (T1 (x_iload_n H rfl rfl) rfl
 ((x_callI (ci := 2) H rfl [.int x1, .int x2] rfl rfl rfl rfl).trans (isO_c (bi_c fun q2 => rI_c fun v4 h3 =>
 U1 rfl (x_ireturn H rfl rfl))))))))
-- X7_cut (I)I: 64
theorem nd_64_0 {c : Ct} {dd : Bool} {ρ : Kt} (H : St c dd mt_64 ρ) (h : AH) (a0 : Nat) (x1 : Int32) : ρ 0 [some (.ref a0), some (.int x1), none] [] h = gfQ h a0 7 0 none fun b1 => isO h b1 2 ((c 23 [.ref b1, .int x1] h).bind fun q2 => rI q2 fun v4 h3 => if v4 = 0 then (some (some (.int (-1)), h3)) else (gfQ h3 a0 7 0 none fun b5 => gfI h3 b5 2 2 fun v6 => gfQ h3 a0 7 0 none fun b7 => pfV h3 b7 2 2 (.int x1) fun h8 => some (some (.int v6), h8))) :=
 T1 (x_aload_n H rfl rfl) rfl
 ((x_getR H rfl).trans (gfQ_c rfl fun b1 =>
 U1 rfl (T1 (x_iload_n H rfl rfl) rfl
 ((x_callZ (ci := 2) H rfl [.int x1] rfl rfl rfl rfl).trans (isO_c (bi_c fun q2 => rI_c fun v4 h3 =>
 U1 rfl ((x_if_ne H rfl (t := 13) (by decide)).trans (if_c
 (U1 rfl (T1 (x_iconst H rfl ki_m1) rfl
 (x_ireturn H rfl rfl)))
 (U1 rfl (T1 (x_aload_n H rfl rfl) rfl
 ((x_getR H rfl).trans (gfQ_c rfl fun b5 =>
 U1 rfl ((x_getI H rfl).trans (gfI_c fun v6 =>
 U1 rfl (T2 [some (.ref a0), some (.int x1), some (.int v6)] (x_istore_n H rfl rfl) rfl
 (T1 (x_aload_n H rfl rfl) rfl
 ((x_getR H rfl).trans (gfQ_c rfl fun b7 =>
 U1 rfl (T1 (x_iload_n H rfl rfl) rfl
 ((x_putI H rfl).trans (pfV_c fun h8 =>
 U1 rfl (T1 (x_iload_n H rfl rfl) rfl
 (x_ireturn H rfl rfl)))))))))))))))))))))))
-- X7_first (I)I: 65
theorem nd_65_0 {c : Ct} {dd : Bool} {ρ : Kt} (H : St c dd mt_65 ρ) (h : AH) (a0 : Nat) (x1 : Int32) : ρ 0 [some (.ref a0), some (.int x1)] [] h = gfQ h a0 7 0 none fun b1 => isO h b1 2 ((c 22 [.ref b1, .int x1] h).bind fun q2 => rI q2 fun v4 h3 => if v4 = 0 then (ρ 23 [none, none] [.int (-1)] h3) else (gfQ h3 a0 7 0 none fun b5 => isO h3 b5 2 ((c 25 [.ref b5, .int x1] h3).bind fun q6 => rI q6 fun v8 h7 => ρ 23 [none, none] [.int v8] h7))) :=
 T1 (x_aload_n H rfl rfl) rfl
 ((x_getR H rfl).trans (gfQ_c rfl fun b1 =>
 U1 rfl (T1 (x_iload_n H rfl rfl) rfl
 ((x_callZ (ci := 2) H rfl [.int x1] rfl rfl rfl rfl).trans (isO_c (bi_c fun q2 => rI_c fun v4 h3 =>
 U1 rfl ((x_if_eq H rfl (t := 22) (by decide)).trans (if_c
 (U1 rfl (T2 [none, none] (x_iconst H rfl ki_m1) rfl rfl))
 (U1 rfl (T1 (x_aload_n H rfl rfl) rfl
 ((x_getR H rfl).trans (gfQ_c rfl fun b5 =>
 U1 rfl (T1 (x_iload_n H rfl rfl) rfl
 ((x_callI (ci := 2) H rfl [.int x1] rfl rfl rfl rfl).trans (isO_c (bi_c fun q6 => rI_c fun v8 h7 =>
 U1 rfl (T2 [none, none] (x_goto H rfl (t := 23) (by decide)) rfl rfl)))))))))))))))))
theorem nd_65_23 {c : Ct} {dd : Bool} {ρ : Kt} (H : St c dd mt_65 ρ) (h : AH) (s0_ : Int32) : ρ 23 [none, none] [.int s0_] h = some (some (.int s0_), h) :=
 x_ireturn H rfl rfl
-- X7_names ()I: 66
theorem nd_66_0 {c : Ct} {dd : Bool} {ρ : Kt} (H : St c dd mt_66 ρ) (h : AH) (a0 : Nat) : ρ 0 [some (.ref a0), none, none] [] h = ρ 4 [some (.ref a0), some (.int 0), some (.int 0)] [] h :=
 T1 (x_iconst H rfl ki_0) rfl
 (T2 [some (.ref a0), some (.int 0), none] (x_istore_n H rfl rfl) rfl
 (T1 (x_iconst H rfl ki_0) rfl
 (T2 [some (.ref a0), some (.int 0), some (.int 0)] (x_istore_n H rfl rfl) rfl rfl)))
theorem nd_66_4 {c : Ct} {dd : Bool} {ρ : Kt} (H : St c dd mt_66 ρ) (h : AH) (a0 : Nat) (x1 : Int32) (x2 : Int32) : ρ 4 [some (.ref a0), some (.int x1), some (.int x2)] [] h = gfQ h a0 7 0 none fun b1 => gfI h b1 2 2 fun v2 => if v2 ≤ x2 then (some (some (.int x1), h)) else (gfQ h a0 7 0 none fun b3 => isO h b3 2 ((c 25 [.ref b3, .int x2] h).bind fun q4 => rI q4 fun v6 h5 => if v6 = x2 then (ρ 30 [some (.ref a0), some (.int (x1 + 1)), some (.int x2)] [] h5) else (ρ 30 [some (.ref a0), some (.int x1), some (.int x2)] [] h5))) :=
 T1 (x_iload_n H rfl rfl) rfl
 (T1 (x_aload_n H rfl rfl) rfl
 ((x_getR H rfl).trans (gfQ_c rfl fun b1 =>
 U1 rfl ((x_getI H rfl).trans (gfI_c fun v2 =>
 U1 rfl ((x_icmp_ge H rfl (t := 36) (by decide)).trans (if_c
 (U1 rfl (T1 (x_iload_n H rfl rfl) rfl
 (x_ireturn H rfl rfl)))
 (U1 rfl (T1 (x_aload_n H rfl rfl) rfl
 ((x_getR H rfl).trans (gfQ_c rfl fun b3 =>
 U1 rfl (T1 (x_iload_n H rfl rfl) rfl
 ((x_callI (ci := 2) H rfl [.int x2] rfl rfl rfl rfl).trans (isO_c (bi_c fun q4 => rI_c fun v6 h5 =>
 U1 rfl (T1 (x_iload_n H rfl rfl) rfl
 ((x_icmp_ne H rfl (t := 30) (by decide)).trans (if_c
 (U1 rfl (T2 [some (.ref a0), some (.int (x1 + 1)), some (.int x2)] (x_iinc H rfl ki_1 rfl rfl) rfl rfl))
 (U2 [some (.ref a0), some (.int x1), some (.int x2)] rfl rfl)))))))))))))))))))
theorem nd_66_30 {c : Ct} {dd : Bool} {ρ : Kt} (H : St c dd mt_66 ρ) (h : AH) (a0 : Nat) (x1 : Int32) (x2 : Int32) : ρ 30 [some (.ref a0), some (.int x1), some (.int x2)] [] h = ρ 4 [some (.ref a0), some (.int x1), some (.int (x2 + 1))] [] h :=
 T2 [some (.ref a0), some (.int x1), some (.int (x2 + 1))] (x_iinc H rfl ki_1 rfl rfl) rfl
 (T2 [some (.ref a0), some (.int x1), some (.int (x2 + 1))] (x_goto H rfl (t := 4) (by decide)) rfl rfl)
-- X7_machine (II)I: 67
theorem nd_67_0 {c : Ct} {dd : Bool} {ρ : Kt} (H : St c dd mt_67 ρ) (h : AH) (a0 : Nat) (x1 : Int32) (x2 : Int32) : ρ 0 [some (.ref a0), some (.int x1), some (.int x2)] [] h = if x1 < 1 then (ρ 20 [none, none, none] [] h) else (if 6 < x1 then (ρ 20 [none, none, none] [] h) else (if x2 < 0 then (ρ 20 [none, none, none] [] h) else (if x2 ≤ 2 then (isO h a0 7 ((c 76 [.ref a0] h).bind fun q1 => rQ q1 (fun h2 => none) (fun b3 h2 => isO h2 b3 0 ((c 1 [.ref b3, .int x1, .int x2] h2).bind fun q4 => rV q4 fun h5 => isO h5 a0 7 ((c 77 [.ref a0] h5).bind fun q6 => rI q6 fun v8 h7 => some (some (.int v8), h7)))))) else (ρ 20 [none, none, none] [] h)))) :=
 T1 (x_iload_n H rfl rfl) rfl
 (T1 (x_iconst H rfl ki_1) rfl
 ((x_icmp_lt H rfl (t := 20) (by decide)).trans (if_c
 (U2 [none, none, none] rfl rfl)
 (U1 rfl (T1 (x_iload_n H rfl rfl) rfl
 (T1 (x_bipush H rfl kb_6) rfl
 ((x_icmp_gt H rfl (t := 20) (by decide)).trans (if_c
 (U2 [none, none, none] rfl rfl)
 (U1 rfl (T1 (x_iload_n H rfl rfl) rfl
 ((x_if_lt H rfl (t := 20) (by decide)).trans (if_c
 (U2 [none, none, none] rfl rfl)
 (U1 rfl (T1 (x_iload_n H rfl rfl) rfl
 (T1 (x_iconst H rfl ki_2) rfl
 ((x_icmp_le H rfl (t := 22) (by decide)).trans (if_c
 (U1 rfl (T1 (x_aload_n H rfl rfl) rfl
 ((x_callR (ci := 7) H rfl [] rfl rfl rfl rfl).trans (isO_c (bi_c fun q1 => rQ_c (fun h2 => U1 rfl (T1 (x_iload_n H rfl rfl) rfl
 (T1 (x_iload_n H rfl rfl) rfl
 ((H 28 _ _ _ _ _ rfl).trans rfl)))) (fun b3 h2 =>
 U1 rfl (T1 (x_iload_n H rfl rfl) rfl
 (T1 (x_iload_n H rfl rfl) rfl
 ((x_callV (ci := 0) H rfl [.int x1, .int x2] rfl rfl rfl rfl).trans (isO_c (bi_c fun q4 => rV_c fun h5 =>
 U1 rfl (T1 (x_aload_n H rfl rfl) rfl
 ((x_callI (ci := 7) H rfl [] rfl rfl rfl rfl).trans (isO_c (bi_c fun q6 => rI_c fun v8 h7 =>
 U1 rfl (x_ireturn H rfl rfl))))))))))))))))
 (U2 [none, none, none] rfl rfl))))))))))))))))))
theorem nd_67_20 {c : Ct} {dd : Bool} {ρ : Kt} (H : St c dd mt_67 ρ) (h : AH)  : ρ 20 [none, none, none] [] h = some (some (.int (-1)), h) :=
 T1 (x_iconst H rfl ki_m1) rfl
 (x_ireturn H rfl rfl)
-- X7_step (IIIIII)I: 68
theorem nd_68_0 {c : Ct} {dd : Bool} {ρ : Kt} (H : St c dd mt_68 ρ) (h : AH) (a0 : Nat) (x1 : Int32) (x2 : Int32) (x3 : Int32) (x4 : Int32) (x5 : Int32) (x6 : Int32) : ρ 0 [some (.ref a0), some (.int x1), some (.int x2), some (.int x3), some (.int x4), some (.int x5), some (.int x6), none, none] [] h = isO h a0 7 ((c 75 [.ref a0, .int x1] h).bind fun q1 => rQ q1 (fun h2 => ρ 32 [none, none, none, none, none, none, none, none, none] [] h2) (fun b3 h2 => isO h2 b3 0 ((c 3 [.ref b3, .int x5] h2).bind fun q4 => rI q4 fun v6 h5 => if v6 = 0 then (ρ 32 [none, none, none, none, none, none, none, none, none] [] h5) else (isO h5 b3 0 ((c 5 [.ref b3, .int x6] h5).bind fun q7 => rI q7 fun v9 h8 => if v9 = 0 then (ρ 32 [none, none, none, none, none, none, none, none, none] [] h8) else (isO h8 b3 0 ((c 4 [.ref b3, .int x2, .int x3, .int x4] h8).bind fun q10 => rI q10 fun v12 h11 => if 0 ≤ v12 then (gfI h11 b3 0 5 fun v13 => if v13 = 0 then (isO h11 b3 0 ((c 6 [.ref b3, .int v12, .int x5, .int x6] h11).bind fun q14 => rV q14 fun h15 => isO h15 a0 7 ((c 78 [.ref a0] h15).bind fun q16 => rV q16 fun h17 => some (some (.int 1), h17)))) else (some (some (.int (-2)), h11))) else (some (some (.int (-1)), h11))))))))) :=
 T1 (x_aload_n H rfl rfl) rfl
 (T1 (x_iload_n H rfl rfl) rfl
 ((x_callR (ci := 7) H rfl [.int x1] rfl rfl rfl rfl).trans (isO_c (bi_c fun q1 => rQ_c (fun h2 => U1 rfl (T2 [some (.ref a0), some (.int x1), some (.int x2), some (.int x3), some (.int x4), some (.int x5), some (.int x6), some (.null), none] (x_astoreN H rfl rfl) rfl
 (T1 (x_aloadN H rfl rfl) rfl
 (T2 [none, none, none, none, none, none, none, none, none] (x_ifnullN H rfl (t := 32) (by decide)) rfl rfl)))) (fun b3 h2 =>
 U1 rfl (T2 [some (.ref a0), some (.int x1), some (.int x2), some (.int x3), some (.int x4), some (.int x5), some (.int x6), some (.ref b3), none] (x_astore H rfl rfl) rfl
 (T1 (x_aload H rfl rfl) rfl
 (T1 (x_ifnull H rfl (t := 32) (by decide)) rfl
 (T1 (x_aload H rfl rfl) rfl
 (T1 (x_iload H rfl rfl) rfl
 ((x_callZ (ci := 0) H rfl [.int x5] rfl rfl rfl rfl).trans (isO_c (bi_c fun q4 => rI_c fun v6 h5 =>
 U1 rfl ((x_if_eq H rfl (t := 32) (by decide)).trans (if_c
 (U2 [none, none, none, none, none, none, none, none, none] rfl rfl)
 (U1 rfl (T1 (x_aload H rfl rfl) rfl
 (T1 (x_iload H rfl rfl) rfl
 ((x_callZ (ci := 0) H rfl [.int x6] rfl rfl rfl rfl).trans (isO_c (bi_c fun q7 => rI_c fun v9 h8 =>
 U1 rfl ((x_if_ne H rfl (t := 34) (by decide)).trans (if_c
 (U2 [none, none, none, none, none, none, none, none, none] rfl rfl)
 (U1 rfl (T1 (x_aload H rfl rfl) rfl
 (T1 (x_iload_n H rfl rfl) rfl
 (T1 (x_iload_n H rfl rfl) rfl
 (T1 (x_iload H rfl rfl) rfl
 ((x_callI (ci := 0) H rfl [.int x2, .int x3, .int x4] rfl rfl rfl rfl).trans (isO_c (bi_c fun q10 => rI_c fun v12 h11 =>
 U1 rfl (T2 [some (.ref a0), some (.int x1), some (.int x2), some (.int x3), some (.int x4), some (.int x5), some (.int x6), some (.ref b3), some (.int v12)] (x_istore H rfl rfl) rfl
 (T1 (x_iload H rfl rfl) rfl
 ((x_if_ge H rfl (t := 52) (by decide)).trans (if_c
 (U1 rfl (T1 (x_aload H rfl rfl) rfl
 ((x_getZ H rfl).trans (gfI_c fun v13 =>
 U1 rfl ((x_if_eq H rfl (t := 63) (by decide)).trans (if_c
 (U1 rfl (T1 (x_aload H rfl rfl) rfl
 (T1 (x_iload H rfl rfl) rfl
 (T1 (x_iload H rfl rfl) rfl
 (T1 (x_iload H rfl rfl) rfl
 ((x_callV (ci := 0) H rfl [.int v12, .int x5, .int x6] rfl rfl rfl rfl).trans (isO_c (bi_c fun q14 => rV_c fun h15 =>
 U1 rfl (T1 (x_aload_n H rfl rfl) rfl
 ((x_callV (ci := 7) H rfl [] rfl rfl rfl rfl).trans (isO_c (bi_c fun q16 => rV_c fun h17 =>
 U1 rfl (T1 (x_iconst H rfl ki_1) rfl
 (x_ireturn H rfl rfl))))))))))))))
 (U1 rfl (T1 (x_bipush H rfl kb_m2) rfl
 (x_ireturn H rfl rfl)))))))))
 (U1 rfl (T1 (x_iconst H rfl ki_m1) rfl
 (x_ireturn H rfl rfl))))))))))))))))))))))))))))))))))))))
theorem nd_68_32 {c : Ct} {dd : Bool} {ρ : Kt} (H : St c dd mt_68 ρ) (h : AH)  : ρ 32 [none, none, none, none, none, none, none, none, none] [] h = some (some (.int (-1)), h) :=
 T1 (x_iconst H rfl ki_m1) rfl
 (x_ireturn H rfl rfl)
-- X7_good (IIZ)I: 69
theorem nd_69_0 {c : Ct} {dd : Bool} {ρ : Kt} (H : St c dd mt_69 ρ) (h : AH) (a0 : Nat) (x1 : Int32) (x2 : Int32) (x3 : Int32) : ρ 0 [some (.ref a0), some (.int x1), some (.int x2), some (.int x3), none, none] [] h = isO h a0 7 ((c 75 [.ref a0, .int x1] h).bind fun q1 => rQ q1 (fun h2 => ρ 21 [none, none, none, none, none, none] [] h2) (fun b3 h2 => isO h2 b3 0 ((c 3 [.ref b3, .int x2] h2).bind fun q4 => rI q4 fun v6 h5 => if v6 = 0 then (ρ 21 [none, none, none, none, none, none] [] h5) else (gfI h5 b3 0 5 fun v7 => if v7 = 0 then (isO h5 b3 0 ((c 7 [.ref b3, .int x2] h5).bind fun q8 => rI q8 fun v10 h9 => if v10 = 0 then (ρ 48 [some (.ref a0), none, some (.int x2), some (.int x3), some (.ref b3), none] [.int 0] h9) else (ρ 48 [some (.ref a0), none, some (.int x2), some (.int x3), some (.ref b3), none] [.int 1] h9))) else (some (some (.int (-2)), h5)))))) :=
 T1 (x_aload_n H rfl rfl) rfl
 (T1 (x_iload_n H rfl rfl) rfl
 ((x_callR (ci := 7) H rfl [.int x1] rfl rfl rfl rfl).trans (isO_c (bi_c fun q1 => rQ_c (fun h2 => U1 rfl (T2 [some (.ref a0), some (.int x1), some (.int x2), some (.int x3), some (.null), none] (x_astoreN H rfl rfl) rfl
 (T1 (x_aloadN H rfl rfl) rfl
 (T2 [none, none, none, none, none, none] (x_ifnullN H rfl (t := 21) (by decide)) rfl rfl)))) (fun b3 h2 =>
 U1 rfl (T2 [some (.ref a0), some (.int x1), some (.int x2), some (.int x3), some (.ref b3), none] (x_astore H rfl rfl) rfl
 (T1 (x_aload H rfl rfl) rfl
 (T1 (x_ifnull H rfl (t := 21) (by decide)) rfl
 (T1 (x_aload H rfl rfl) rfl
 (T1 (x_iload_n H rfl rfl) rfl
 ((x_callZ (ci := 0) H rfl [.int x2] rfl rfl rfl rfl).trans (isO_c (bi_c fun q4 => rI_c fun v6 h5 =>
 U1 rfl ((x_if_ne H rfl (t := 23) (by decide)).trans (if_c
 (U2 [none, none, none, none, none, none] rfl rfl)
 (U1 rfl (T1 (x_aload H rfl rfl) rfl
 ((x_getZ H rfl).trans (gfI_c fun v7 =>
 U1 rfl ((x_if_eq H rfl (t := 34) (by decide)).trans (if_c
 (U1 rfl (T1 (x_aload H rfl rfl) rfl
 (T1 (x_iload_n H rfl rfl) rfl
 ((x_callZ (ci := 0) H rfl [.int x2] rfl rfl rfl rfl).trans (isO_c (bi_c fun q8 => rI_c fun v10 h9 =>
 U1 rfl ((x_if_eq H rfl (t := 47) (by decide)).trans (if_c
 (U1 rfl (T2 [some (.ref a0), none, some (.int x2), some (.int x3), some (.ref b3), none] (x_iconst H rfl ki_0) rfl rfl))
 (U1 rfl (T1 (x_iconst H rfl ki_1) rfl
 (T2 [some (.ref a0), none, some (.int x2), some (.int x3), some (.ref b3), none] (x_goto H rfl (t := 48) (by decide)) rfl rfl)))))))))))
 (U1 rfl (T1 (x_bipush H rfl kb_m2) rfl
 (x_ireturn H rfl rfl))))))))))))))))))))))))
theorem nd_69_21 {c : Ct} {dd : Bool} {ρ : Kt} (H : St c dd mt_69 ρ) (h : AH)  : ρ 21 [none, none, none, none, none, none] [] h = some (some (.int (-1)), h) :=
 T1 (x_iconst H rfl ki_m1) rfl
 (x_ireturn H rfl rfl)
theorem nd_69_48 {c : Ct} {dd : Bool} {ρ : Kt} (H : St c dd mt_69 ρ) (h : AH) (a0 : Nat) (x2 : Int32) (x3 : Int32) (a4 : Nat) (s0_ : Int32) : ρ 48 [some (.ref a0), none, some (.int x2), some (.int x3), some (.ref a4), none] [.int s0_] h = isO h a4 0 ((c 8 [.ref a4, .int x2, .int x3] h).bind fun q1 => rV q1 fun h2 => isO h2 a0 7 ((c 78 [.ref a0] h2).bind fun q3 => rV q3 fun h4 => some (some (.int s0_), h4))) :=
 T2 [some (.ref a0), none, some (.int x2), some (.int x3), some (.ref a4), some (.int s0_)] (x_istore H rfl rfl) rfl
 (T1 (x_aload H rfl rfl) rfl
 (T1 (x_iload_n H rfl rfl) rfl
 (T1 (x_iload_n H rfl rfl) rfl
 ((x_callV (ci := 0) H rfl [.int x2, .int x3] rfl rfl rfl rfl).trans (isO_c (bi_c fun q1 => rV_c fun h2 =>
 U1 rfl (T1 (x_aload_n H rfl rfl) rfl
 ((x_callV (ci := 7) H rfl [] rfl rfl rfl rfl).trans (isO_c (bi_c fun q3 => rV_c fun h4 =>
 U1 rfl (T1 (x_iload H rfl rfl) rfl
 (x_ireturn H rfl rfl))))))))))))
-- X7_told (II)I: 70
theorem nd_70_0 {c : Ct} {dd : Bool} {ρ : Kt} (H : St c dd mt_70 ρ) (h : AH) (a0 : Nat) (x1 : Int32) (x2 : Int32) : ρ 0 [some (.ref a0), some (.int x1), some (.int x2), none] [] h = isO h a0 7 ((c 75 [.ref a0, .int x1] h).bind fun q1 => rQ q1 (fun h2 => some (some (.int (-1)), h2)) (fun b3 h2 => if (x2).toInt = 0 then (gfI h2 b3 0 3 fun v4 => some (some (.int v4), h2)) else (if (x2).toInt = 1 then (gfI h2 b3 0 4 fun v5 => some (some (.int v5), h2)) else (if (x2).toInt = 2 then (isO h2 b3 0 ((c 9 [.ref b3] h2).bind fun q6 => rI q6 fun v8 h7 => some (some (.int v8), h7))) else (some (some (.int (-1)), h2)))))) :=
 T1 (x_aload_n H rfl rfl) rfl
 (T1 (x_iload_n H rfl rfl) rfl
 ((x_callR (ci := 7) H rfl [.int x1] rfl rfl rfl rfl).trans (isO_c (bi_c fun q1 => rQ_c (fun h2 => U1 rfl (T2 [some (.ref a0), some (.int x1), some (.int x2), some (.null)] (x_astore_nN H rfl rfl) rfl
 (T1 (x_aload_nN H rfl rfl) rfl
 (T1 (x_ifnonnullN H rfl (t := 12) (by decide)) rfl
 (T1 (x_iconst H rfl ki_m1) rfl
 (x_ireturn H rfl rfl)))))) (fun b3 h2 =>
 U1 rfl (T2 [some (.ref a0), some (.int x1), some (.int x2), some (.ref b3)] (x_astore_n H rfl rfl) rfl
 (T1 (x_aload_n H rfl rfl) rfl
 (T1 (x_ifnonnull H rfl (t := 12) (by decide)) rfl
 (T1 (x_iload_n H rfl rfl) rfl
 ((x_switch H rfl rfl).trans
 (swt_c (lo1 := 1) (by decide) ((jmp_eq (t := 40) (by decide)).trans (U1 rfl (T1 (x_aload_n H rfl rfl) rfl
 ((x_getI H rfl).trans (gfI_c fun v4 =>
 U1 rfl (x_ireturn H rfl rfl))))))
 (swt_c (lo1 := 2) (by decide) ((jmp_eq (t := 45) (by decide)).trans (U1 rfl (T1 (x_aload_n H rfl rfl) rfl
 ((x_getI H rfl).trans (gfI_c fun v5 =>
 U1 rfl (x_ireturn H rfl rfl))))))
 (swt_c (lo1 := 3) (by decide) ((jmp_eq (t := 50) (by decide)).trans (U1 rfl (T1 (x_aload_n H rfl rfl) rfl
 ((x_callI (ci := 0) H rfl [] rfl rfl rfl rfl).trans (isO_c (bi_c fun q6 => rI_c fun v8 h7 =>
 U1 rfl (x_ireturn H rfl rfl)))))))
 (swt_0 ((jmp_eq (t := 55) (by decide)).trans (U1 rfl (T1 (x_iconst H rfl ki_m1) rfl
 (x_ireturn H rfl rfl))))))))))))))))))
-- X7_stepOf (IIIII)I: 71
theorem nd_71_0 {c : Ct} {dd : Bool} {ρ : Kt} (H : St c dd mt_71 ρ) (h : AH) (a0 : Nat) (x1 : Int32) (x2 : Int32) (x3 : Int32) (x4 : Int32) (x5 : Int32) : ρ 0 [some (.ref a0), some (.int x1), some (.int x2), some (.int x3), some (.int x4), some (.int x5), none, none] [] h = isO h a0 7 ((c 75 [.ref a0, .int x1] h).bind fun q1 => rQ q1 (fun h2 => ρ 23 [none, none, none, none, none, none, none, none] [] h2) (fun b3 h2 => if x5 < 0 then (ρ 23 [none, none, none, none, none, none, none, none] [] h2) else (if x5 ≤ 1 then (isO h2 b3 0 ((c 4 [.ref b3, .int x2, .int x3, .int x4] h2).bind fun q4 => rI q4 fun v6 h5 => if 0 ≤ v6 then (if x5 = 0 then (gfQ h5 b3 0 0 none fun b9 => ldI h5 b9 v6 fun v10 => ρ 67 [none, none, none, none, none, none, none, none] [.int v10] h5) else (gfQ h5 b3 0 1 none fun b7 => ldI h5 b7 v6 fun v8 => ρ 67 [none, none, none, none, none, none, none, none] [.int v8] h5)) else (some (some (.int (-1)), h5)))) else (ρ 23 [none, none, none, none, none, none, none, none] [] h2)))) :=
 T1 (x_aload_n H rfl rfl) rfl
 (T1 (x_iload_n H rfl rfl) rfl
 ((x_callR (ci := 7) H rfl [.int x1] rfl rfl rfl rfl).trans (isO_c (bi_c fun q1 => rQ_c (fun h2 => U1 rfl (T2 [some (.ref a0), some (.int x1), some (.int x2), some (.int x3), some (.int x4), some (.int x5), some (.null), none] (x_astoreN H rfl rfl) rfl
 (T1 (x_aloadN H rfl rfl) rfl
 (T2 [none, none, none, none, none, none, none, none] (x_ifnullN H rfl (t := 23) (by decide)) rfl rfl)))) (fun b3 h2 =>
 U1 rfl (T2 [some (.ref a0), some (.int x1), some (.int x2), some (.int x3), some (.int x4), some (.int x5), some (.ref b3), none] (x_astore H rfl rfl) rfl
 (T1 (x_aload H rfl rfl) rfl
 (T1 (x_ifnull H rfl (t := 23) (by decide)) rfl
 (T1 (x_iload H rfl rfl) rfl
 ((x_if_lt H rfl (t := 23) (by decide)).trans (if_c
 (U2 [none, none, none, none, none, none, none, none] rfl rfl)
 (U1 rfl (T1 (x_iload H rfl rfl) rfl
 (T1 (x_iconst H rfl ki_1) rfl
 ((x_icmp_le H rfl (t := 25) (by decide)).trans (if_c
 (U1 rfl (T1 (x_aload H rfl rfl) rfl
 (T1 (x_iload_n H rfl rfl) rfl
 (T1 (x_iload_n H rfl rfl) rfl
 (T1 (x_iload H rfl rfl) rfl
 ((x_callI (ci := 0) H rfl [.int x2, .int x3, .int x4] rfl rfl rfl rfl).trans (isO_c (bi_c fun q4 => rI_c fun v6 h5 =>
 U1 rfl (T2 [some (.ref a0), some (.int x1), some (.int x2), some (.int x3), some (.int x4), some (.int x5), some (.ref b3), some (.int v6)] (x_istore H rfl rfl) rfl
 (T1 (x_iload H rfl rfl) rfl
 ((x_if_ge H rfl (t := 43) (by decide)).trans (if_c
 (U1 rfl (T1 (x_iload H rfl rfl) rfl
 ((x_if_ne H rfl (t := 59) (by decide)).trans (if_c
 (U1 rfl (T1 (x_aload H rfl rfl) rfl
 ((x_getR H rfl).trans (gfQ_c rfl fun b9 =>
 U1 rfl (T1 (x_iload H rfl rfl) rfl
 ((x_iaload H rfl).trans (ldI_c fun v10 =>
 U1 rfl (T2 [none, none, none, none, none, none, none, none] (x_goto H rfl (t := 67) (by decide)) rfl rfl))))))))
 (U1 rfl (T1 (x_aload H rfl rfl) rfl
 ((x_getR H rfl).trans (gfQ_c rfl fun b7 =>
 U1 rfl (T1 (x_iload H rfl rfl) rfl
 ((x_iaload H rfl).trans (ldI_c fun v8 =>
 U2 [none, none, none, none, none, none, none, none] rfl rfl)))))))))))
 (U1 rfl (T1 (x_iconst H rfl ki_m1) rfl
 (x_ireturn H rfl rfl)))))))))))))))
 (U2 [none, none, none, none, none, none, none, none] rfl rfl)))))))))))))))))
theorem nd_71_23 {c : Ct} {dd : Bool} {ρ : Kt} (H : St c dd mt_71 ρ) (h : AH)  : ρ 23 [none, none, none, none, none, none, none, none] [] h = some (some (.int (-1)), h) :=
 T1 (x_iconst H rfl ki_m1) rfl
 (x_ireturn H rfl rfl)
theorem nd_71_67 {c : Ct} {dd : Bool} {ρ : Kt} (H : St c dd mt_71 ρ) (h : AH) (s0_ : Int32) : ρ 67 [none, none, none, none, none, none, none, none] [.int s0_] h = some (some (.int s0_), h) :=
 x_ireturn H rfl rfl
-- X7_drop ()I: 72
theorem nd_72_0 {c : Ct} {dd : Bool} {ρ : Kt} (H : St c dd mt_72 ρ) (h : AH) (a0 : Nat) : ρ 0 [some (.ref a0), none] [] h = gfI h a0 7 2 fun v1 => isO h a0 7 ((c 75 [.ref a0, .int (v1 - 1)] h).bind fun q2 => rQ q2 (fun h3 => some (some (.int (-4)), h3)) (fun b4 h3 => gfI h3 b4 0 5 fun v5 => if v5 = 0 then (gfI h3 a0 7 2 fun v6 => pfV h3 a0 7 2 (.int (v6 - 1)) fun h7 => isO h7 a0 7 ((c 78 [.ref a0] h7).bind fun q8 => rV q8 fun h9 => gfI h9 a0 7 2 fun v10 => some (some (.int v10), h9))) else (some (some (.int (-2)), h3)))) :=
 T1 (x_aload_n H rfl rfl) rfl
 (T1 (x_aload_n H rfl rfl) rfl
 ((x_getI H rfl).trans (gfI_c fun v1 =>
 U1 rfl (T1 (x_iconst H rfl ki_1) rfl
 (T1 (x_isub H rfl) rfl
 ((x_callR (ci := 7) H rfl [.int (v1 - 1)] rfl rfl rfl rfl).trans (isO_c (bi_c fun q2 => rQ_c (fun h3 => U1 rfl (T2 [some (.ref a0), some (.null)] (x_astore_nN H rfl rfl) rfl
 (T1 (x_aload_nN H rfl rfl) rfl
 (T1 (x_ifnonnullN H rfl (t := 18) (by decide)) rfl
 (T1 (x_bipush H rfl kb_m4) rfl
 (x_ireturn H rfl rfl)))))) (fun b4 h3 =>
 U1 rfl (T2 [some (.ref a0), some (.ref b4)] (x_astore_n H rfl rfl) rfl
 (T1 (x_aload_n H rfl rfl) rfl
 (T1 (x_ifnonnull H rfl (t := 18) (by decide)) rfl
 (T1 (x_aload_n H rfl rfl) rfl
 ((x_getZ H rfl).trans (gfI_c fun v5 =>
 U1 rfl ((x_if_eq H rfl (t := 28) (by decide)).trans (if_c
 (U1 rfl (T1 (x_aload_n H rfl rfl) rfl
 (T1 (x_dup H rfl) rfl
 ((x_getI H rfl).trans (gfI_c fun v6 =>
 U1 rfl (T1 (x_iconst H rfl ki_1) rfl
 (T1 (x_isub H rfl) rfl
 ((x_putI H rfl).trans (pfV_c fun h7 =>
 U1 rfl (T1 (x_aload_n H rfl rfl) rfl
 ((x_callV (ci := 7) H rfl [] rfl rfl rfl rfl).trans (isO_c (bi_c fun q8 => rV_c fun h9 =>
 U1 rfl (T1 (x_aload_n H rfl rfl) rfl
 ((x_getI H rfl).trans (gfI_c fun v10 =>
 U1 rfl (x_ireturn H rfl rfl)))))))))))))))))
 (U1 rfl (T1 (x_bipush H rfl kb_m2) rfl
 (x_ireturn H rfl rfl))))))))))))))))))))
-- X7_turned (I)I: 73
theorem nd_73_0 {c : Ct} {dd : Bool} {ρ : Kt} (H : St c dd mt_73 ρ) (h : AH) (a0 : Nat) (x1 : Int32) : ρ 0 [some (.ref a0), some (.int x1), none] [] h = isO h a0 7 ((c 75 [.ref a0, .int x1] h).bind fun q1 => rQ q1 (fun h2 => some (some (.int (-1)), h2)) (fun b3 h2 => isO h2 a0 7 ((c 76 [.ref a0] h2).bind fun q4 => rQ q4 (fun h5 => none) (fun b6 h5 => isO h5 b6 0 ((c 2 [.ref b6, .ref b3] h5).bind fun q7 => rV q7 fun h8 => isO h8 a0 7 ((c 77 [.ref a0] h8).bind fun q9 => rI q9 fun v11 h10 => some (some (.int v11), h10))))))) :=
 T1 (x_aload_n H rfl rfl) rfl
 (T1 (x_iload_n H rfl rfl) rfl
 ((x_callR (ci := 7) H rfl [.int x1] rfl rfl rfl rfl).trans (isO_c (bi_c fun q1 => rQ_c (fun h2 => U1 rfl (T2 [some (.ref a0), some (.int x1), some (.null)] (x_astore_nN H rfl rfl) rfl
 (T1 (x_aload_nN H rfl rfl) rfl
 (T1 (x_ifnonnullN H rfl (t := 12) (by decide)) rfl
 (T1 (x_iconst H rfl ki_m1) rfl
 (x_ireturn H rfl rfl)))))) (fun b3 h2 =>
 U1 rfl (T2 [some (.ref a0), some (.int x1), some (.ref b3)] (x_astore_n H rfl rfl) rfl
 (T1 (x_aload_n H rfl rfl) rfl
 (T1 (x_ifnonnull H rfl (t := 12) (by decide)) rfl
 (T1 (x_aload_n H rfl rfl) rfl
 ((x_callR (ci := 7) H rfl [] rfl rfl rfl rfl).trans (isO_c (bi_c fun q4 => rQ_c (fun h5 => U1 rfl (T1 (x_aload_n H rfl rfl) rfl
 ((H 17 _ _ _ _ _ rfl).trans rfl))) (fun b6 h5 =>
 U1 rfl (T1 (x_aload_n H rfl rfl) rfl
 ((x_callV (ci := 0) H rfl [.ref b3] rfl rfl rfl rfl).trans (isO_c (bi_c fun q7 => rV_c fun h8 =>
 U1 rfl (T1 (x_aload_n H rfl rfl) rfl
 ((x_callI (ci := 7) H rfl [] rfl rfl rfl rfl).trans (isO_c (bi_c fun q9 => rI_c fun v11 h10 =>
 U1 rfl (x_ireturn H rfl rfl))))))))))))))))))))))
-- X7_both (III)I: 74
theorem nd_74_0 {c : Ct} {dd : Bool} {ρ : Kt} (H : St c dd mt_74 ρ) (h : AH) (a0 : Nat) (x1 : Int32) (x2 : Int32) (x3 : Int32) : ρ 0 [some (.ref a0), some (.int x1), some (.int x2), some (.int x3), none, none] [] h = isO h a0 7 ((c 75 [.ref a0, .int x1] h).bind fun q1 => rQ q1 (fun h2 => isO h2 a0 7 ((c 75 [.ref a0, .int x2] h2).bind fun q4 => rQ q4 (fun h5 => ρ 33 [none, none, none, none, none, none] [] h5) (fun b6 h5 => ρ 33 [none, none, none, none, none, none] [] h5))) (fun b3 h2 => isO h2 a0 7 ((c 75 [.ref a0, .int x2] h2).bind fun q7 => rQ q7 (fun h8 => ρ 33 [none, none, none, none, none, none] [] h8) (fun b9 h8 => if x3 < 0 then (ρ 33 [none, none, none, none, none, none] [] h8) else (if x3 ≤ 2 then (gfI h8 b3 0 4 fun v10 => if v10 ≤ 0 then (ρ 54 [some (.ref a0), none, none, some (.int x3), some (.ref b3), some (.ref b9)] [] h8) else (gfI h8 b9 0 4 fun v11 => if v11 ≤ 0 then (ρ 54 [some (.ref a0), none, none, some (.int x3), some (.ref b3), some (.ref b9)] [] h8) else (some (some (.int (-2)), h8)))) else (ρ 33 [none, none, none, none, none, none] [] h8)))))) :=
 T1 (x_aload_n H rfl rfl) rfl
 (T1 (x_iload_n H rfl rfl) rfl
 ((x_callR (ci := 7) H rfl [.int x1] rfl rfl rfl rfl).trans (isO_c (bi_c fun q1 => rQ_c (fun h2 => U1 rfl (T2 [some (.ref a0), some (.int x1), some (.int x2), some (.int x3), some (.null), none] (x_astoreN H rfl rfl) rfl
 (T1 (x_aload_n H rfl rfl) rfl
 (T1 (x_iload_n H rfl rfl) rfl
 ((x_callR (ci := 7) H rfl [.int x2] rfl rfl rfl rfl).trans (isO_c (bi_c fun q4 => rQ_c (fun h5 => U1 rfl (T2 [some (.ref a0), some (.int x1), some (.int x2), some (.int x3), some (.null), some (.null)] (x_astoreN H rfl rfl) rfl
 (T1 (x_aloadN H rfl rfl) rfl
 (T2 [none, none, none, none, none, none] (x_ifnullN H rfl (t := 33) (by decide)) rfl rfl)))) (fun b6 h5 =>
 U1 rfl (T2 [some (.ref a0), some (.int x1), some (.int x2), some (.int x3), some (.null), some (.ref b6)] (x_astore H rfl rfl) rfl
 (T1 (x_aloadN H rfl rfl) rfl
 (T2 [none, none, none, none, none, none] (x_ifnullN H rfl (t := 33) (by decide)) rfl rfl))))))))))) (fun b3 h2 =>
 U1 rfl (T2 [some (.ref a0), some (.int x1), some (.int x2), some (.int x3), some (.ref b3), none] (x_astore H rfl rfl) rfl
 (T1 (x_aload_n H rfl rfl) rfl
 (T1 (x_iload_n H rfl rfl) rfl
 ((x_callR (ci := 7) H rfl [.int x2] rfl rfl rfl rfl).trans (isO_c (bi_c fun q7 => rQ_c (fun h8 => U1 rfl (T2 [some (.ref a0), some (.int x1), some (.int x2), some (.int x3), some (.ref b3), some (.null)] (x_astoreN H rfl rfl) rfl
 (T1 (x_aload H rfl rfl) rfl
 (T1 (x_ifnull H rfl (t := 33) (by decide)) rfl
 (T1 (x_aloadN H rfl rfl) rfl
 (T2 [none, none, none, none, none, none] (x_ifnullN H rfl (t := 33) (by decide)) rfl rfl)))))) (fun b9 h8 =>
 U1 rfl (T2 [some (.ref a0), some (.int x1), some (.int x2), some (.int x3), some (.ref b3), some (.ref b9)] (x_astore H rfl rfl) rfl
 (T1 (x_aload H rfl rfl) rfl
 (T1 (x_ifnull H rfl (t := 33) (by decide)) rfl
 (T1 (x_aload H rfl rfl) rfl
 (T1 (x_ifnull H rfl (t := 33) (by decide)) rfl
 (T1 (x_iload_n H rfl rfl) rfl
 ((x_if_lt H rfl (t := 33) (by decide)).trans (if_c
 (U2 [none, none, none, none, none, none] rfl rfl)
 (U1 rfl (T1 (x_iload_n H rfl rfl) rfl
 (T1 (x_iconst H rfl ki_2) rfl
 ((x_icmp_le H rfl (t := 35) (by decide)).trans (if_c
 (U1 rfl (T1 (x_aload H rfl rfl) rfl
 ((x_getI H rfl).trans (gfI_c fun v10 =>
 U1 rfl ((x_if_le H rfl (t := 54) (by decide)).trans (if_c
 (U2 [some (.ref a0), none, none, some (.int x3), some (.ref b3), some (.ref b9)] rfl rfl)
 (U1 rfl (T1 (x_aload H rfl rfl) rfl
 ((x_getI H rfl).trans (gfI_c fun v11 =>
 U1 rfl ((x_if_le H rfl (t := 54) (by decide)).trans (if_c
 (U2 [some (.ref a0), none, none, some (.int x3), some (.ref b3), some (.ref b9)] rfl rfl)
 (U1 rfl (T1 (x_bipush H rfl kb_m2) rfl
 (x_ireturn H rfl rfl)))))))))))))))
 (U2 [none, none, none, none, none, none] rfl rfl))))))))))))))))))))))))))
theorem nd_74_33 {c : Ct} {dd : Bool} {ρ : Kt} (H : St c dd mt_74 ρ) (h : AH)  : ρ 33 [none, none, none, none, none, none] [] h = some (some (.int (-1)), h) :=
 T1 (x_iconst H rfl ki_m1) rfl
 (x_ireturn H rfl rfl)
theorem nd_74_54 {c : Ct} {dd : Bool} {ρ : Kt} (H : St c dd mt_74 ρ) (h : AH) (a0 : Nat) (x3 : Int32) (a4 : Nat) (a5 : Nat) : ρ 54 [some (.ref a0), none, none, some (.int x3), some (.ref a4), some (.ref a5)] [] h = gfQ h a0 7 7 none fun b1 => isO h a0 7 ((c 76 [.ref a0] h).bind fun q2 => rQ q2 (fun h3 => isO h3 b1 1 ((c 17 [.ref b1, .null, .ref a4, .ref a5, .int x3] h3).bind fun q5 => rI q5 fun v7 h6 => if v7 = 0 then (ρ 82 [none, none, none, none, none, none] [.int (-2)] h6) else (isO h6 a0 7 ((c 77 [.ref a0] h6).bind fun q8 => rI q8 fun v10 h9 => ρ 82 [none, none, none, none, none, none] [.int v10] h9)))) (fun b4 h3 => isO h3 b1 1 ((c 17 [.ref b1, .ref b4, .ref a4, .ref a5, .int x3] h3).bind fun q11 => rI q11 fun v13 h12 => if v13 = 0 then (ρ 82 [none, none, none, none, none, none] [.int (-2)] h12) else (isO h12 a0 7 ((c 77 [.ref a0] h12).bind fun q14 => rI q14 fun v16 h15 => ρ 82 [none, none, none, none, none, none] [.int v16] h15))))) :=
 T1 (x_aload_n H rfl rfl) rfl
 ((x_getR H rfl).trans (gfQ_c rfl fun b1 =>
 U1 rfl (T1 (x_aload_n H rfl rfl) rfl
 ((x_callR (ci := 7) H rfl [] rfl rfl rfl rfl).trans (isO_c (bi_c fun q2 => rQ_c (fun h3 => U1 rfl (T1 (x_aload H rfl rfl) rfl
 (T1 (x_aload H rfl rfl) rfl
 (T1 (x_iload_n H rfl rfl) rfl
 ((x_callZ (ci := 1) H rfl [.null, .ref a4, .ref a5, .int x3] rfl rfl rfl rfl).trans (isO_c (bi_c fun q5 => rI_c fun v7 h6 =>
 U1 rfl ((x_if_eq H rfl (t := 80) (by decide)).trans (if_c
 (U1 rfl (T2 [none, none, none, none, none, none] (x_bipush H rfl kb_m2) rfl rfl))
 (U1 rfl (T1 (x_aload_n H rfl rfl) rfl
 ((x_callI (ci := 7) H rfl [] rfl rfl rfl rfl).trans (isO_c (bi_c fun q8 => rI_c fun v10 h9 =>
 U1 rfl (T2 [none, none, none, none, none, none] (x_goto H rfl (t := 82) (by decide)) rfl rfl))))))))))))))) (fun b4 h3 =>
 U1 rfl (T1 (x_aload H rfl rfl) rfl
 (T1 (x_aload H rfl rfl) rfl
 (T1 (x_iload_n H rfl rfl) rfl
 ((x_callZ (ci := 1) H rfl [.ref b4, .ref a4, .ref a5, .int x3] rfl rfl rfl rfl).trans (isO_c (bi_c fun q11 => rI_c fun v13 h12 =>
 U1 rfl ((x_if_eq H rfl (t := 80) (by decide)).trans (if_c
 (U1 rfl (T2 [none, none, none, none, none, none] (x_bipush H rfl kb_m2) rfl rfl))
 (U1 rfl (T1 (x_aload_n H rfl rfl) rfl
 ((x_callI (ci := 7) H rfl [] rfl rfl rfl rfl).trans (isO_c (bi_c fun q14 => rI_c fun v16 h15 =>
 U1 rfl (T2 [none, none, none, none, none, none] (x_goto H rfl (t := 82) (by decide)) rfl rfl)))))))))))))))))))))
theorem nd_74_82 {c : Ct} {dd : Bool} {ρ : Kt} (H : St c dd mt_74 ρ) (h : AH) (s0_ : Int32) : ρ 82 [none, none, none, none, none, none] [.int s0_] h = some (some (.int s0_), h) :=
 x_ireturn H rfl rfl
-- X7_machineAt (I)LNameRows$Machine;: 75
theorem nd_75_0 {c : Ct} {dd : Bool} {ρ : Kt} (H : St c dd mt_75 ρ) (h : AH) (a0 : Nat) (x1 : Int32) : ρ 0 [some (.ref a0), some (.int x1)] [] h = if x1 < 0 then (ρ 21 [none, none] [] h) else (gfI h a0 7 2 fun v1 => if v1 ≤ x1 then (ρ 21 [none, none] [] h) else (gfQ h a0 7 1 none fun b2 => ldQ h b2 x1 none fun b3 => ρ 22 [none, none] [.ref b3] h)) :=
 T1 (x_iload_n H rfl rfl) rfl
 ((x_if_lt H rfl (t := 21) (by decide)).trans (if_c
 (U2 [none, none] rfl rfl)
 (U1 rfl (T1 (x_iload_n H rfl rfl) rfl
 (T1 (x_aload_n H rfl rfl) rfl
 ((x_getI H rfl).trans (gfI_c fun v1 =>
 U1 rfl ((x_icmp_ge H rfl (t := 21) (by decide)).trans (if_c
 (U2 [none, none] rfl rfl)
 (U1 rfl (T1 (x_aload_n H rfl rfl) rfl
 ((x_getR H rfl).trans (gfQ_c rfl fun b2 =>
 U1 rfl (T1 (x_iload_n H rfl rfl) rfl
 ((x_aaload H rfl).trans (ldQ_c rfl fun b3 =>
 U1 rfl (T2 [none, none] (x_goto H rfl (t := 22) (by decide)) rfl rfl)))))))))))))))))
theorem nd_75_21 {c : Ct} {dd : Bool} {ρ : Kt} (H : St c dd mt_75 ρ) (h : AH)  : ρ 21 [none, none] [] h = ρ 22 [none, none] [.null] h :=
 T2 [none, none] (x_null H rfl) rfl rfl
theorem nd_75_22 {c : Ct} {dd : Bool} {ρ : Kt} (H : St c dd mt_75 ρ) (h : AH) (c0_ : Nat) : ρ 22 [none, none] [.ref c0_] h = some (some (.ref c0_), h) :=
 x_areturn H rfl rfl
theorem nd_75_22_2 {c : Ct} {dd : Bool} {ρ : Kt} (H : St c dd mt_75 ρ) (h : AH)  : ρ 22 [none, none] [.null] h = some (some .null, h) :=
 x_areturnN H rfl rfl
-- X7_spareMachine ()LNameRows$Machine;: 76
theorem nd_76_0 {c : Ct} {dd : Bool} {ρ : Kt} (H : St c dd mt_76 ρ) (h : AH) (a0 : Nat) : ρ 0 [some (.ref a0)] [] h = gfQ h a0 7 1 none fun b1 => gfI h a0 7 2 fun v2 => ldQ h b1 v2 none fun b3 => some (some (.ref b3), h) :=
 T1 (x_aload_n H rfl rfl) rfl
 ((x_getR H rfl).trans (gfQ_c rfl fun b1 =>
 U1 rfl (T1 (x_aload_n H rfl rfl) rfl
 ((x_getI H rfl).trans (gfI_c fun v2 =>
 U1 rfl ((x_aaload H rfl).trans (ldQ_c rfl fun b3 =>
 U1 rfl (x_areturn H rfl rfl))))))))
-- X7_addSpareMachine ()I: 77
theorem nd_77_0 {c : Ct} {dd : Bool} {ρ : Kt} (H : St c dd mt_77 ρ) (h : AH) (a0 : Nat) : ρ 0 [some (.ref a0)] [] h = gfI h a0 7 2 fun v1 => if v1 < 6 then (isO h a0 7 ((c 78 [.ref a0] h).bind fun q2 => rV q2 fun h3 => gfI h3 a0 7 2 fun v4 => pfV h3 a0 7 2 (.int (v4 + 1)) fun h5 => gfI h5 a0 7 2 fun v6 => some (some (.int (v6 - 1)), h5))) else (some (some (.int (-3)), h)) :=
 T1 (x_aload_n H rfl rfl) rfl
 ((x_getI H rfl).trans (gfI_c fun v1 =>
 U1 rfl (T1 (x_bipush H rfl kb_6) rfl
 ((x_icmp_lt H rfl (t := 12) (by decide)).trans (if_c
 (U1 rfl (T1 (x_aload_n H rfl rfl) rfl
 ((x_callV (ci := 7) H rfl [] rfl rfl rfl rfl).trans (isO_c (bi_c fun q2 => rV_c fun h3 =>
 U1 rfl (T1 (x_aload_n H rfl rfl) rfl
 (T1 (x_dup H rfl) rfl
 ((x_getI H rfl).trans (gfI_c fun v4 =>
 U1 rfl (T1 (x_iconst H rfl ki_1) rfl
 (T1 (x_iadd H rfl) rfl
 ((x_putI H rfl).trans (pfV_c fun h5 =>
 U1 rfl (T1 (x_aload_n H rfl rfl) rfl
 ((x_getI H rfl).trans (gfI_c fun v6 =>
 U1 rfl (T1 (x_iconst H rfl ki_1) rfl
 (T1 (x_isub H rfl) rfl
 (x_ireturn H rfl rfl)))))))))))))))))))
 (U1 rfl (T1 (x_bipush H rfl kb_m3) rfl
 (x_ireturn H rfl rfl))))))))
-- X7_machinesChanged ()V: 78
theorem nd_78_0 {c : Ct} {dd : Bool} {ρ : Kt} (H : St c dd mt_78 ρ) (h : AH) (a0 : Nat) : ρ 0 [some (.ref a0)] [] h = isZ 0 (pfV h a0 7 11 (.int 0) fun h1 => pfV h1 a0 7 15 (.int (-4)) fun h2 => some (none, h2)) :=
 T1 (x_aload_n H rfl rfl) rfl
 (T1 (x_iconst H rfl ki_0) rfl
 ((x_putZ H rfl).trans (isZ_c (pfV_c fun h1 =>
 U1 rfl (T1 (x_aload_n H rfl rfl) rfl
 (T1 (x_bipush H rfl kb_m4) rfl
 ((x_putI H rfl).trans (pfV_c fun h2 =>
 U1 rfl (x_return H rfl rfl)))))))))
-- X7_takes (II)I: 79
theorem nd_79_0 {c : Ct} {dd : Bool} {ρ : Kt} (H : St c dd mt_79 ρ) (h : AH) (a0 : Nat) (x1 : Int32) (x2 : Int32) : ρ 0 [some (.ref a0), some (.int x1), some (.int x2), none] [] h = isO h a0 7 ((c 75 [.ref a0, .int x1] h).bind fun q1 => rQ q1 (fun h2 => ρ 21 [none, none, none, none] [] h2) (fun b3 h2 => gfQ h2 a0 7 0 none fun b4 => isO h2 b4 2 ((c 23 [.ref b4, .int x2] h2).bind fun q5 => rI q5 fun v7 h6 => if v7 = 0 then (ρ 21 [none, none, none, none] [] h6) else (isO h6 a0 7 ((c 82 [.ref a0, .ref b3, .int x2] h6).bind fun q8 => rV q8 fun h9 => gfQ h9 a0 7 8 none fun b10 => gfI h9 b10 3 0 fun v11 => isO h9 b3 0 ((c 7 [.ref b3, .int v11] h9).bind fun q12 => rI q12 fun v14 h13 => if v14 = 0 then (ρ 48 [none, none, none, none] [.int 0] h13) else (ρ 48 [none, none, none, none] [.int 1] h13))))))) :=
 T1 (x_aload_n H rfl rfl) rfl
 (T1 (x_iload_n H rfl rfl) rfl
 ((x_callR (ci := 7) H rfl [.int x1] rfl rfl rfl rfl).trans (isO_c (bi_c fun q1 => rQ_c (fun h2 => U1 rfl (T2 [some (.ref a0), some (.int x1), some (.int x2), some (.null)] (x_astore_nN H rfl rfl) rfl
 (T1 (x_aload_nN H rfl rfl) rfl
 (T2 [none, none, none, none] (x_ifnullN H rfl (t := 21) (by decide)) rfl rfl)))) (fun b3 h2 =>
 U1 rfl (T2 [some (.ref a0), some (.int x1), some (.int x2), some (.ref b3)] (x_astore_n H rfl rfl) rfl
 (T1 (x_aload_n H rfl rfl) rfl
 (T1 (x_ifnull H rfl (t := 21) (by decide)) rfl
 (T1 (x_aload_n H rfl rfl) rfl
 ((x_getR H rfl).trans (gfQ_c rfl fun b4 =>
 U1 rfl (T1 (x_iload_n H rfl rfl) rfl
 ((x_callZ (ci := 2) H rfl [.int x2] rfl rfl rfl rfl).trans (isO_c (bi_c fun q5 => rI_c fun v7 h6 =>
 U1 rfl ((x_if_ne H rfl (t := 23) (by decide)).trans (if_c
 (U2 [none, none, none, none] rfl rfl)
 (U1 rfl (T1 (x_aload_n H rfl rfl) rfl
 (T1 (x_aload_n H rfl rfl) rfl
 (T1 (x_iload_n H rfl rfl) rfl
 ((x_callV (ci := 7) H rfl [.ref b3, .int x2] rfl rfl rfl rfl).trans (isO_c (bi_c fun q8 => rV_c fun h9 =>
 U1 rfl (T1 (x_aload_n H rfl rfl) rfl
 (T1 (x_aload_n H rfl rfl) rfl
 ((x_getR H rfl).trans (gfQ_c rfl fun b10 =>
 U1 rfl ((x_getI H rfl).trans (gfI_c fun v11 =>
 U1 rfl ((x_callZ (ci := 0) H rfl [.int v11] rfl rfl rfl rfl).trans (isO_c (bi_c fun q12 => rI_c fun v14 h13 =>
 U1 rfl ((x_if_eq H rfl (t := 47) (by decide)).trans (if_c
 (U1 rfl (T2 [none, none, none, none] (x_iconst H rfl ki_0) rfl rfl))
 (U1 rfl (T1 (x_iconst H rfl ki_1) rfl
 (T2 [none, none, none, none] (x_goto H rfl (t := 48) (by decide)) rfl rfl))))))))))))))))))))))))))))))))))))))
theorem nd_79_21 {c : Ct} {dd : Bool} {ρ : Kt} (H : St c dd mt_79 ρ) (h : AH)  : ρ 21 [none, none, none, none] [] h = some (some (.int (-1)), h) :=
 T1 (x_iconst H rfl ki_m1) rfl
 (x_ireturn H rfl rfl)
theorem nd_79_48 {c : Ct} {dd : Bool} {ρ : Kt} (H : St c dd mt_79 ρ) (h : AH) (s0_ : Int32) : ρ 48 [none, none, none, none] [.int s0_] h = some (some (.int s0_), h) :=
 x_ireturn H rfl rfl
-- X7_ran (III)I: 80
theorem nd_80_0 {c : Ct} {dd : Bool} {ρ : Kt} (H : St c dd mt_80 ρ) (h : AH) (a0 : Nat) (x1 : Int32) (x2 : Int32) (x3 : Int32) : ρ 0 [some (.ref a0), some (.int x1), some (.int x2), some (.int x3), none] [] h = isO h a0 7 ((c 75 [.ref a0, .int x1] h).bind fun q1 => rQ q1 (fun h2 => ρ 23 [none, none, none, none, none] [] h2) (fun b3 h2 => gfQ h2 a0 7 0 none fun b4 => isO h2 b4 2 ((c 23 [.ref b4, .int x2] h2).bind fun q5 => rI q5 fun v7 h6 => if v7 = 0 then (ρ 23 [none, none, none, none, none] [] h6) else (isO h6 a0 7 ((c 82 [.ref a0, .ref b3, .int x2] h6).bind fun q8 => rV q8 fun h9 => if (x3).toInt = 0 then (gfQ h9 a0 7 8 none fun b10 => gfI h9 b10 3 0 fun v11 => some (some (.int v11), h9)) else (if (x3).toInt = 1 then (gfQ h9 a0 7 8 none fun b12 => gfQ h9 b12 3 2 none fun b13 => ldI h9 b13 0 fun v14 => some (some (.int v14), h9)) else (if (x3).toInt = 2 then (gfQ h9 a0 7 8 none fun b15 => gfQ h9 b15 3 2 none fun b16 => ldI h9 b16 1 fun v17 => some (some (.int v17), h9)) else (if (x3).toInt = 3 then (gfQ h9 a0 7 8 none fun b18 => gfI h9 b18 3 3 fun v19 => some (some (.int v19), h9)) else (some (some (.int (-1)), h9)))))))))) :=
 T1 (x_aload_n H rfl rfl) rfl
 (T1 (x_iload_n H rfl rfl) rfl
 ((x_callR (ci := 7) H rfl [.int x1] rfl rfl rfl rfl).trans (isO_c (bi_c fun q1 => rQ_c (fun h2 => U1 rfl (T2 [some (.ref a0), some (.int x1), some (.int x2), some (.int x3), some (.null)] (x_astoreN H rfl rfl) rfl
 (T1 (x_aloadN H rfl rfl) rfl
 (T2 [none, none, none, none, none] (x_ifnullN H rfl (t := 23) (by decide)) rfl rfl)))) (fun b3 h2 =>
 U1 rfl (T2 [some (.ref a0), some (.int x1), some (.int x2), some (.int x3), some (.ref b3)] (x_astore H rfl rfl) rfl
 (T1 (x_aload H rfl rfl) rfl
 (T1 (x_ifnull H rfl (t := 23) (by decide)) rfl
 (T1 (x_aload_n H rfl rfl) rfl
 ((x_getR H rfl).trans (gfQ_c rfl fun b4 =>
 U1 rfl (T1 (x_iload_n H rfl rfl) rfl
 ((x_callZ (ci := 2) H rfl [.int x2] rfl rfl rfl rfl).trans (isO_c (bi_c fun q5 => rI_c fun v7 h6 =>
 U1 rfl ((x_if_ne H rfl (t := 25) (by decide)).trans (if_c
 (U2 [none, none, none, none, none] rfl rfl)
 (U1 rfl (T1 (x_aload_n H rfl rfl) rfl
 (T1 (x_aload H rfl rfl) rfl
 (T1 (x_iload_n H rfl rfl) rfl
 ((x_callV (ci := 7) H rfl [.ref b3, .int x2] rfl rfl rfl rfl).trans (isO_c (bi_c fun q8 => rV_c fun h9 =>
 U1 rfl (T1 (x_iload_n H rfl rfl) rfl
 ((x_switch H rfl rfl).trans
 (swt_c (lo1 := 1) (by decide) ((jmp_eq (t := 64) (by decide)).trans (U1 rfl (T1 (x_aload_n H rfl rfl) rfl
 ((x_getR H rfl).trans (gfQ_c rfl fun b10 =>
 U1 rfl ((x_getI H rfl).trans (gfI_c fun v11 =>
 U1 rfl (x_ireturn H rfl rfl))))))))
 (swt_c (lo1 := 2) (by decide) ((jmp_eq (t := 72) (by decide)).trans (U1 rfl (T1 (x_aload_n H rfl rfl) rfl
 ((x_getR H rfl).trans (gfQ_c rfl fun b12 =>
 U1 rfl ((x_getR H rfl).trans (gfQ_c rfl fun b13 =>
 U1 rfl (T1 (x_iconst H rfl ki_0) rfl
 ((x_iaload H rfl).trans (ldI_c fun v14 =>
 U1 rfl (x_ireturn H rfl rfl)))))))))))
 (swt_c (lo1 := 3) (by decide) ((jmp_eq (t := 82) (by decide)).trans (U1 rfl (T1 (x_aload_n H rfl rfl) rfl
 ((x_getR H rfl).trans (gfQ_c rfl fun b15 =>
 U1 rfl ((x_getR H rfl).trans (gfQ_c rfl fun b16 =>
 U1 rfl (T1 (x_iconst H rfl ki_1) rfl
 ((x_iaload H rfl).trans (ldI_c fun v17 =>
 U1 rfl (x_ireturn H rfl rfl)))))))))))
 (swt_c (lo1 := 4) (by decide) ((jmp_eq (t := 92) (by decide)).trans (U1 rfl (T1 (x_aload_n H rfl rfl) rfl
 ((x_getR H rfl).trans (gfQ_c rfl fun b18 =>
 U1 rfl ((x_getI H rfl).trans (gfI_c fun v19 =>
 U1 rfl (x_ireturn H rfl rfl))))))))
 (swt_0 ((jmp_eq (t := 100) (by decide)).trans (U1 rfl (T1 (x_iconst H rfl ki_m1) rfl
 (x_ireturn H rfl rfl)))))))))))))))))))))))))))))))))))
theorem nd_80_23 {c : Ct} {dd : Bool} {ρ : Kt} (H : St c dd mt_80 ρ) (h : AH)  : ρ 23 [none, none, none, none, none] [] h = some (some (.int (-1)), h) :=
 T1 (x_iconst H rfl ki_m1) rfl
 (x_ireturn H rfl rfl)
-- X7_doomed (I)I: 81
theorem nd_81_0 {c : Ct} {dd : Bool} {ρ : Kt} (H : St c dd mt_81 ρ) (h : AH) (a0 : Nat) (x1 : Int32) : ρ 0 [some (.ref a0), some (.int x1), none, none] [] h = isO h a0 7 ((c 75 [.ref a0, .int x1] h).bind fun q1 => rQ q1 (fun h2 => some (some (.int (-1)), h2)) (fun b3 h2 => isO h2 a0 7 ((c 83 [.ref a0, .ref b3] h2).bind fun q4 => rV q4 fun h5 => gfQ h5 a0 7 8 none fun b6 => isO h5 b6 3 ((c 28 [.ref b6] h5).bind fun q7 => rV q7 fun h8 => ρ 26 [some (.ref a0), none, some (.ref b3), some (.int 0)] [] h8)))) :=
 T1 (x_aload_n H rfl rfl) rfl
 (T1 (x_iload_n H rfl rfl) rfl
 ((x_callR (ci := 7) H rfl [.int x1] rfl rfl rfl rfl).trans (isO_c (bi_c fun q1 => rQ_c (fun h2 => U1 rfl (T2 [some (.ref a0), some (.int x1), some (.null), none] (x_astore_nN H rfl rfl) rfl
 (T1 (x_aload_nN H rfl rfl) rfl
 (T1 (x_ifnonnullN H rfl (t := 12) (by decide)) rfl
 (T1 (x_iconst H rfl ki_m1) rfl
 (x_ireturn H rfl rfl)))))) (fun b3 h2 =>
 U1 rfl (T2 [some (.ref a0), some (.int x1), some (.ref b3), none] (x_astore_n H rfl rfl) rfl
 (T1 (x_aload_n H rfl rfl) rfl
 (T1 (x_ifnonnull H rfl (t := 12) (by decide)) rfl
 (T1 (x_aload_n H rfl rfl) rfl
 (T1 (x_aload_n H rfl rfl) rfl
 ((x_callV (ci := 7) H rfl [.ref b3] rfl rfl rfl rfl).trans (isO_c (bi_c fun q4 => rV_c fun h5 =>
 U1 rfl (T1 (x_aload_n H rfl rfl) rfl
 ((x_getR H rfl).trans (gfQ_c rfl fun b6 =>
 U1 rfl ((x_callV (ci := 3) H rfl [] rfl rfl rfl rfl).trans (isO_c (bi_c fun q7 => rV_c fun h8 =>
 U1 rfl (T1 (x_iconst H rfl ki_0) rfl
 (T2 [some (.ref a0), none, some (.ref b3), some (.int 0)] (x_istore_n H rfl rfl) rfl rfl)))))))))))))))))))))
theorem nd_81_26 {c : Ct} {dd : Bool} {ρ : Kt} (H : St c dd mt_81 ρ) (h : AH) (a0 : Nat) (a2 : Nat) (x3 : Int32) : ρ 26 [some (.ref a0), none, some (.ref a2), some (.int x3)] [] h = gfQ h a0 7 0 none fun b1 => gfI h b1 2 2 fun v2 => if v2 ≤ x3 then (gfQ h a0 7 8 none fun b3 => isO h b3 3 ((c 32 [.ref b3, .ref a2] h).bind fun q4 => rI q4 fun v6 h5 => if v6 = 0 then (ρ 105 [none, none, none, none] [.int (-4)] h5) else (gfQ h5 a0 7 0 none fun b7 => gfI h5 b7 2 2 fun v8 => ρ 105 [none, none, none, none] [.int v8] h5))) else (gfQ h a0 7 8 none fun b9 => isO h b9 3 ((c 32 [.ref b9, .ref a2] h).bind fun q10 => rI q10 fun v12 h11 => if v12 = 0 then (gfQ h11 a0 7 8 none fun b13 => gfQ h11 a0 7 0 none fun b14 => gfQ h11 b14 2 0 none fun b15 => ldI h11 b15 x3 fun v16 => gfQ h11 a0 7 0 none fun b17 => gfQ h11 b17 2 1 none fun b18 => ldI h11 b18 x3 fun v19 => isO h11 b13 3 ((c 29 [.ref b13, .ref a2, .int v16, .int v19] h11).bind fun q20 => rV q20 fun h21 => ρ 26 [some (.ref a0), none, some (.ref a2), some (.int (x3 + 1))] [] h21)) else (some (some (.int x3), h11)))) :=
 T1 (x_iload_n H rfl rfl) rfl
 (T1 (x_aload_n H rfl rfl) rfl
 ((x_getR H rfl).trans (gfQ_c rfl fun b1 =>
 U1 rfl ((x_getI H rfl).trans (gfI_c fun v2 =>
 U1 rfl ((x_icmp_ge H rfl (t := 82) (by decide)).trans (if_c
 (U1 rfl (T1 (x_aload_n H rfl rfl) rfl
 ((x_getR H rfl).trans (gfQ_c rfl fun b3 =>
 U1 rfl (T1 (x_aload_n H rfl rfl) rfl
 ((x_callZ (ci := 3) H rfl [.ref a2] rfl rfl rfl rfl).trans (isO_c (bi_c fun q4 => rI_c fun v6 h5 =>
 U1 rfl ((x_if_eq H rfl (t := 103) (by decide)).trans (if_c
 (U1 rfl (T2 [none, none, none, none] (x_bipush H rfl kb_m4) rfl rfl))
 (U1 rfl (T1 (x_aload_n H rfl rfl) rfl
 ((x_getR H rfl).trans (gfQ_c rfl fun b7 =>
 U1 rfl ((x_getI H rfl).trans (gfI_c fun v8 =>
 U1 rfl (T2 [none, none, none, none] (x_goto H rfl (t := 105) (by decide)) rfl rfl)))))))))))))))))
 (U1 rfl (T1 (x_aload_n H rfl rfl) rfl
 ((x_getR H rfl).trans (gfQ_c rfl fun b9 =>
 U1 rfl (T1 (x_aload_n H rfl rfl) rfl
 ((x_callZ (ci := 3) H rfl [.ref a2] rfl rfl rfl rfl).trans (isO_c (bi_c fun q10 => rI_c fun v12 h11 =>
 U1 rfl ((x_if_eq H rfl (t := 50) (by decide)).trans (if_c
 (U1 rfl (T1 (x_aload_n H rfl rfl) rfl
 ((x_getR H rfl).trans (gfQ_c rfl fun b13 =>
 U1 rfl (T1 (x_aload_n H rfl rfl) rfl
 (T1 (x_aload_n H rfl rfl) rfl
 ((x_getR H rfl).trans (gfQ_c rfl fun b14 =>
 U1 rfl ((x_getR H rfl).trans (gfQ_c rfl fun b15 =>
 U1 rfl (T1 (x_iload_n H rfl rfl) rfl
 ((x_iaload H rfl).trans (ldI_c fun v16 =>
 U1 rfl (T1 (x_aload_n H rfl rfl) rfl
 ((x_getR H rfl).trans (gfQ_c rfl fun b17 =>
 U1 rfl ((x_getR H rfl).trans (gfQ_c rfl fun b18 =>
 U1 rfl (T1 (x_iload_n H rfl rfl) rfl
 ((x_iaload H rfl).trans (ldI_c fun v19 =>
 U1 rfl ((x_callV (ci := 3) H rfl [.ref a2, .int v16, .int v19] rfl rfl rfl rfl).trans (isO_c (bi_c fun q20 => rV_c fun h21 =>
 U1 rfl (T2 [some (.ref a0), none, some (.ref a2), some (.int (x3 + 1))] (x_iinc H rfl ki_1 rfl rfl) rfl
 (T2 [some (.ref a0), none, some (.ref a2), some (.int (x3 + 1))] (x_goto H rfl (t := 26) (by decide)) rfl rfl))))))))))))))))))))))))))
 (U1 rfl (T1 (x_iload_n H rfl rfl) rfl
 (x_ireturn H rfl rfl))))))))))))))))))))
theorem nd_81_105 {c : Ct} {dd : Bool} {ρ : Kt} (H : St c dd mt_81 ρ) (h : AH) (s0_ : Int32) : ρ 105 [none, none, none, none] [.int s0_] h = some (some (.int s0_), h) :=
 x_ireturn H rfl rfl
-- X7_runOver (LNameRows$Machine;I)V: 82
theorem nd_82_0 {c : Ct} {dd : Bool} {ρ : Kt} (H : St c dd mt_82 ρ) (h : AH) (a0 : Nat) (a1 : Nat) (x2 : Int32) : ρ 0 [some (.ref a0), some (.ref a1), some (.int x2), none] [] h = gfQ h a0 7 8 none fun b1 => isO h b1 3 ((c 28 [.ref b1] h).bind fun q2 => rV q2 fun h3 => ρ 9 [some (.ref a0), some (.ref a1), some (.int x2), some (.int 0)] [] h3) :=
 T1 (x_aload_n H rfl rfl) rfl
 ((x_getR H rfl).trans (gfQ_c rfl fun b1 =>
 U1 rfl ((x_callV (ci := 3) H rfl [] rfl rfl rfl rfl).trans (isO_c (bi_c fun q2 => rV_c fun h3 =>
 U1 rfl (T1 (x_iconst H rfl ki_0) rfl
 (T2 [some (.ref a0), some (.ref a1), some (.int x2), some (.int 0)] (x_istore_n H rfl rfl) rfl rfl)))))))
theorem nd_82_9 {c : Ct} {dd : Bool} {ρ : Kt} (H : St c dd mt_82 ρ) (h : AH) (a0 : Nat) (a1 : Nat) (x2 : Int32) (x3 : Int32) : ρ 9 [some (.ref a0), some (.ref a1), some (.int x2), some (.int x3)] [] h = if x2 ≤ x3 then (ρ 57 [none, none, none, none] [] h) else (gfQ h a0 7 0 none fun b1 => gfI h b1 2 2 fun v2 => if v2 ≤ x3 then (ρ 57 [none, none, none, none] [] h) else (gfQ h a0 7 8 none fun b3 => gfQ h a0 7 0 none fun b4 => gfQ h b4 2 0 none fun b5 => ldI h b5 x3 fun v6 => gfQ h a0 7 0 none fun b7 => gfQ h b7 2 1 none fun b8 => ldI h b8 x3 fun v9 => isO h b3 3 ((c 29 [.ref b3, .ref a1, .int v6, .int v9] h).bind fun q10 => rV q10 fun h11 => ρ 9 [some (.ref a0), some (.ref a1), some (.int x2), some (.int (x3 + 1))] [] h11))) :=
 T1 (x_iload_n H rfl rfl) rfl
 (T1 (x_iload_n H rfl rfl) rfl
 ((x_icmp_ge H rfl (t := 57) (by decide)).trans (if_c
 (U2 [none, none, none, none] rfl rfl)
 (U1 rfl (T1 (x_iload_n H rfl rfl) rfl
 (T1 (x_aload_n H rfl rfl) rfl
 ((x_getR H rfl).trans (gfQ_c rfl fun b1 =>
 U1 rfl ((x_getI H rfl).trans (gfI_c fun v2 =>
 U1 rfl ((x_icmp_ge H rfl (t := 57) (by decide)).trans (if_c
 (U2 [none, none, none, none] rfl rfl)
 (U1 rfl (T1 (x_aload_n H rfl rfl) rfl
 ((x_getR H rfl).trans (gfQ_c rfl fun b3 =>
 U1 rfl (T1 (x_aload_n H rfl rfl) rfl
 (T1 (x_aload_n H rfl rfl) rfl
 ((x_getR H rfl).trans (gfQ_c rfl fun b4 =>
 U1 rfl ((x_getR H rfl).trans (gfQ_c rfl fun b5 =>
 U1 rfl (T1 (x_iload_n H rfl rfl) rfl
 ((x_iaload H rfl).trans (ldI_c fun v6 =>
 U1 rfl (T1 (x_aload_n H rfl rfl) rfl
 ((x_getR H rfl).trans (gfQ_c rfl fun b7 =>
 U1 rfl ((x_getR H rfl).trans (gfQ_c rfl fun b8 =>
 U1 rfl (T1 (x_iload_n H rfl rfl) rfl
 ((x_iaload H rfl).trans (ldI_c fun v9 =>
 U1 rfl ((x_callV (ci := 3) H rfl [.ref a1, .int v6, .int v9] rfl rfl rfl rfl).trans (isO_c (bi_c fun q10 => rV_c fun h11 =>
 U1 rfl (T2 [some (.ref a0), some (.ref a1), some (.int x2), some (.int (x3 + 1))] (x_iinc H rfl ki_1 rfl rfl) rfl
 (T2 [some (.ref a0), some (.ref a1), some (.int x2), some (.int (x3 + 1))] (x_goto H rfl (t := 9) (by decide)) rfl rfl))))))))))))))))))))))))))))))))))))))
theorem nd_82_57 {c : Ct} {dd : Bool} {ρ : Kt} (H : St c dd mt_82 ρ) (h : AH)  : ρ 57 [none, none, none, none] [] h = some (none, h) :=
 x_return H rfl rfl
-- X7_learnOrbits (LNameRows$Machine;)V: 83
theorem nd_83_0 {c : Ct} {dd : Bool} {ρ : Kt} (H : St c dd mt_83 ρ) (h : AH) (a0 : Nat) (a1 : Nat) : ρ 0 [some (.ref a0), some (.ref a1)] [] h = gfI h a1 0 7 fun v1 => if v1 = 0 then (gfQ h a0 7 9 none fun b2 => gfQ h a0 7 6 none fun b3 => isO h b2 5 ((c 54 [.ref b2, .ref a1, .ref b3] h).bind fun q4 => rV q4 fun h5 => ρ 19 [none, none] [] h5)) else (ρ 19 [none, none] [] h) :=
 T1 (x_aload_n H rfl rfl) rfl
 ((x_getZ H rfl).trans (gfI_c fun v1 =>
 U1 rfl ((x_if_ne H rfl (t := 19) (by decide)).trans (if_c
 (U1 rfl (T1 (x_aload_n H rfl rfl) rfl
 ((x_getR H rfl).trans (gfQ_c rfl fun b2 =>
 U1 rfl (T1 (x_aload_n H rfl rfl) rfl
 (T1 (x_aload_n H rfl rfl) rfl
 ((x_getR H rfl).trans (gfQ_c rfl fun b3 =>
 U1 rfl ((x_callV (ci := 5) H rfl [.ref a1, .ref b3] rfl rfl rfl rfl).trans (isO_c (bi_c fun q4 => rV_c fun h5 =>
 U2 [none, none] rfl rfl)))))))))))
 (U2 [none, none] rfl rfl)))))
theorem nd_83_19 {c : Ct} {dd : Bool} {ρ : Kt} (H : St c dd mt_83 ρ) (h : AH)  : ρ 19 [none, none] [] h = some (none, h) :=
 x_return H rfl rfl
-- X7_orbits (II)I: 84
theorem nd_84_0 {c : Ct} {dd : Bool} {ρ : Kt} (H : St c dd mt_84 ρ) (h : AH) (a0 : Nat) (x1 : Int32) (x2 : Int32) : ρ 0 [some (.ref a0), some (.int x1), some (.int x2), none] [] h = isO h a0 7 ((c 75 [.ref a0, .int x1] h).bind fun q1 => rQ q1 (fun h2 => some (some (.int (-1)), h2)) (fun b3 h2 => isO h2 a0 7 ((c 83 [.ref a0, .ref b3] h2).bind fun q4 => rV q4 fun h5 => if (x2).toInt = 0 then (isO h5 b3 0 ((c 13 [.ref b3, .int 1] h5).bind fun q6 => rI q6 fun v8 h7 => isO h7 b3 0 ((c 13 [.ref b3, .int 2] h7).bind fun q9 => rI q9 fun v11 h10 => some (some (.int (v8 + v11)), h10)))) else (if (x2).toInt = 1 then (isO h5 b3 0 ((c 13 [.ref b3, .int 2] h5).bind fun q12 => rI q12 fun v14 h13 => some (some (.int v14), h13))) else (if (x2).toInt = 2 then (isO h5 b3 0 ((c 14 [.ref b3] h5).bind fun q15 => rI q15 fun v17 h16 => some (some (.int v17), h16))) else (some (some (.int (-1)), h5))))))) :=
 T1 (x_aload_n H rfl rfl) rfl
 (T1 (x_iload_n H rfl rfl) rfl
 ((x_callR (ci := 7) H rfl [.int x1] rfl rfl rfl rfl).trans (isO_c (bi_c fun q1 => rQ_c (fun h2 => U1 rfl (T2 [some (.ref a0), some (.int x1), some (.int x2), some (.null)] (x_astore_nN H rfl rfl) rfl
 (T1 (x_aload_nN H rfl rfl) rfl
 (T1 (x_ifnonnullN H rfl (t := 12) (by decide)) rfl
 (T1 (x_iconst H rfl ki_m1) rfl
 (x_ireturn H rfl rfl)))))) (fun b3 h2 =>
 U1 rfl (T2 [some (.ref a0), some (.int x1), some (.int x2), some (.ref b3)] (x_astore_n H rfl rfl) rfl
 (T1 (x_aload_n H rfl rfl) rfl
 (T1 (x_ifnonnull H rfl (t := 12) (by decide)) rfl
 (T1 (x_aload_n H rfl rfl) rfl
 (T1 (x_aload_n H rfl rfl) rfl
 ((x_callV (ci := 7) H rfl [.ref b3] rfl rfl rfl rfl).trans (isO_c (bi_c fun q4 => rV_c fun h5 =>
 U1 rfl (T1 (x_iload_n H rfl rfl) rfl
 ((x_switch H rfl rfl).trans
 (swt_c (lo1 := 1) (by decide) ((jmp_eq (t := 44) (by decide)).trans (U1 rfl (T1 (x_aload_n H rfl rfl) rfl
 (T1 (x_iconst H rfl ki_1) rfl
 ((x_callI (ci := 0) H rfl [.int 1] rfl rfl rfl rfl).trans (isO_c (bi_c fun q6 => rI_c fun v8 h7 =>
 U1 rfl (T1 (x_aload_n H rfl rfl) rfl
 (T1 (x_iconst H rfl ki_2) rfl
 ((x_callI (ci := 0) H rfl [.int 2] rfl rfl rfl rfl).trans (isO_c (bi_c fun q9 => rI_c fun v11 h10 =>
 U1 rfl (T1 (x_iadd H rfl) rfl
 (x_ireturn H rfl rfl))))))))))))))
 (swt_c (lo1 := 2) (by decide) ((jmp_eq (t := 56) (by decide)).trans (U1 rfl (T1 (x_aload_n H rfl rfl) rfl
 (T1 (x_iconst H rfl ki_2) rfl
 ((x_callI (ci := 0) H rfl [.int 2] rfl rfl rfl rfl).trans (isO_c (bi_c fun q12 => rI_c fun v14 h13 =>
 U1 rfl (x_ireturn H rfl rfl))))))))
 (swt_c (lo1 := 3) (by decide) ((jmp_eq (t := 62) (by decide)).trans (U1 rfl (T1 (x_aload_n H rfl rfl) rfl
 ((x_callI (ci := 0) H rfl [] rfl rfl rfl rfl).trans (isO_c (bi_c fun q15 => rI_c fun v17 h16 =>
 U1 rfl (x_ireturn H rfl rfl)))))))
 (swt_0 ((jmp_eq (t := 67) (by decide)).trans (U1 rfl (T1 (x_iconst H rfl ki_m1) rfl
 (x_ireturn H rfl rfl)))))))))))))))))))))))
-- X7_shortest (I)I: 85
theorem nd_85_0 {c : Ct} {dd : Bool} {ρ : Kt} (H : St c dd mt_85 ρ) (h : AH) (a0 : Nat) (x1 : Int32) : ρ 0 [some (.ref a0), some (.int x1)] [] h = isO h a0 7 ((c 91 [.ref a0, .int x1, .int (-4)] h).bind fun q1 => rI q1 fun v3 h2 => some (some (.int v3), h2)) :=
 T1 (x_aload_n H rfl rfl) rfl
 (T1 (x_iload_n H rfl rfl) rfl
 (T1 (x_bipush H rfl kb_m4) rfl
 ((x_callI (ci := 7) H rfl [.int x1, .int (-4)] rfl rfl rfl rfl).trans (isO_c (bi_c fun q1 => rI_c fun v3 h2 =>
 U1 rfl (x_ireturn H rfl rfl))))))
-- X7_shortestAt (III)I: 86
theorem nd_86_0 {c : Ct} {dd : Bool} {ρ : Kt} (H : St c dd mt_86 ρ) (h : AH) (a0 : Nat) (x1 : Int32) (x2 : Int32) (x3 : Int32) : ρ 0 [some (.ref a0), some (.int x1), some (.int x2), some (.int x3)] [] h = isO h a0 7 ((c 92 [.ref a0, .int x1, .int (-4), .int x2, .int x3] h).bind fun q1 => rI q1 fun v3 h2 => some (some (.int v3), h2)) :=
 T1 (x_aload_n H rfl rfl) rfl
 (T1 (x_iload_n H rfl rfl) rfl
 (T1 (x_bipush H rfl kb_m4) rfl
 (T1 (x_iload_n H rfl rfl) rfl
 (T1 (x_iload_n H rfl rfl) rfl
 ((x_callI (ci := 7) H rfl [.int x1, .int (-4), .int x2, .int x3] rfl rfl rfl rfl).trans (isO_c (bi_c fun q1 => rI_c fun v3 h2 =>
 U1 rfl (x_ireturn H rfl rfl))))))))
-- X7_parts (II)I: 87
theorem nd_87_0 {c : Ct} {dd : Bool} {ρ : Kt} (H : St c dd mt_87 ρ) (h : AH) (a0 : Nat) (x1 : Int32) (x2 : Int32) : ρ 0 [some (.ref a0), some (.int x1), some (.int x2)] [] h = isO h a0 7 ((c 75 [.ref a0, .int x2] h).bind fun q1 => rQ q1 (fun h2 => ρ 18 [none, none, none] [.int (-1)] h2) (fun b3 h2 => isO h2 a0 7 ((c 91 [.ref a0, .int x1, .int x2] h2).bind fun q4 => rI q4 fun v6 h5 => ρ 18 [none, none, none] [.int v6] h5))) :=
 T1 (x_aload_n H rfl rfl) rfl
 (T1 (x_iload_n H rfl rfl) rfl
 ((x_callR (ci := 7) H rfl [.int x2] rfl rfl rfl rfl).trans (isO_c (bi_c fun q1 => rQ_c (fun h2 => U1 rfl (T1 (x_ifnonnullN H rfl (t := 12) (by decide)) rfl
 (T1 (x_iconst H rfl ki_m1) rfl
 (T2 [none, none, none] (x_goto H rfl (t := 18) (by decide)) rfl rfl)))) (fun b3 h2 =>
 U1 rfl (T1 (x_ifnonnull H rfl (t := 12) (by decide)) rfl
 (T1 (x_aload_n H rfl rfl) rfl
 (T1 (x_iload_n H rfl rfl) rfl
 (T1 (x_iload_n H rfl rfl) rfl
 ((x_callI (ci := 7) H rfl [.int x1, .int x2] rfl rfl rfl rfl).trans (isO_c (bi_c fun q4 => rI_c fun v6 h5 =>
 U2 [none, none, none] rfl rfl))))))))))))
theorem nd_87_18 {c : Ct} {dd : Bool} {ρ : Kt} (H : St c dd mt_87 ρ) (h : AH) (s0_ : Int32) : ρ 18 [none, none, none] [.int s0_] h = some (some (.int s0_), h) :=
 x_ireturn H rfl rfl
-- X7_partsAt (IIII)I: 88
theorem nd_88_0 {c : Ct} {dd : Bool} {ρ : Kt} (H : St c dd mt_88 ρ) (h : AH) (a0 : Nat) (x1 : Int32) (x2 : Int32) (x3 : Int32) (x4 : Int32) : ρ 0 [some (.ref a0), some (.int x1), some (.int x2), some (.int x3), some (.int x4)] [] h = isO h a0 7 ((c 75 [.ref a0, .int x2] h).bind fun q1 => rQ q1 (fun h2 => ρ 21 [none, none, none, none, none] [.int (-1)] h2) (fun b3 h2 => isO h2 a0 7 ((c 92 [.ref a0, .int x1, .int x2, .int x3, .int x4] h2).bind fun q4 => rI q4 fun v6 h5 => ρ 21 [none, none, none, none, none] [.int v6] h5))) :=
 T1 (x_aload_n H rfl rfl) rfl
 (T1 (x_iload_n H rfl rfl) rfl
 ((x_callR (ci := 7) H rfl [.int x2] rfl rfl rfl rfl).trans (isO_c (bi_c fun q1 => rQ_c (fun h2 => U1 rfl (T1 (x_ifnonnullN H rfl (t := 12) (by decide)) rfl
 (T1 (x_iconst H rfl ki_m1) rfl
 (T2 [none, none, none, none, none] (x_goto H rfl (t := 21) (by decide)) rfl rfl)))) (fun b3 h2 =>
 U1 rfl (T1 (x_ifnonnull H rfl (t := 12) (by decide)) rfl
 (T1 (x_aload_n H rfl rfl) rfl
 (T1 (x_iload_n H rfl rfl) rfl
 (T1 (x_iload_n H rfl rfl) rfl
 (T1 (x_iload_n H rfl rfl) rfl
 (T1 (x_iload H rfl rfl) rfl
 ((x_callI (ci := 7) H rfl [.int x1, .int x2, .int x3, .int x4] rfl rfl rfl rfl).trans (isO_c (bi_c fun q4 => rI_c fun v6 h5 =>
 U2 [none, none, none, none, none] rfl rfl))))))))))))))
theorem nd_88_21 {c : Ct} {dd : Bool} {ρ : Kt} (H : St c dd mt_88 ρ) (h : AH) (s0_ : Int32) : ρ 21 [none, none, none, none, none] [.int s0_] h = some (some (.int s0_), h) :=
 x_ireturn H rfl rfl
-- X7_within (II)I: 89
theorem nd_89_0 {c : Ct} {dd : Bool} {ρ : Kt} (H : St c dd mt_89 ρ) (h : AH) (a0 : Nat) (x1 : Int32) (x2 : Int32) : ρ 0 [some (.ref a0), some (.int x1), some (.int x2), none, none] [] h = isO h a0 7 ((c 75 [.ref a0, .int x1] h).bind fun q1 => rQ q1 (fun h2 => isO h2 a0 7 ((c 75 [.ref a0, .int x2] h2).bind fun q4 => rQ q4 (fun h5 => ρ 22 [none, none, none, none, none] [] h5) (fun b6 h5 => ρ 22 [none, none, none, none, none] [] h5))) (fun b3 h2 => isO h2 a0 7 ((c 75 [.ref a0, .int x2] h2).bind fun q7 => rQ q7 (fun h8 => ρ 22 [none, none, none, none, none] [] h8) (fun b9 h8 => gfQ h8 a0 7 9 none fun b10 => isO h8 b10 5 ((c 41 [.ref b10, .ref b3, .ref b9, .int 2] h8).bind fun q11 => rI q11 fun v13 h12 => if v13 = (-4) then (ρ 45 [none, none, none, none, none] [.int 1] h12) else (ρ 45 [none, none, none, none, none] [.int 0] h12)))))) :=
 T1 (x_aload_n H rfl rfl) rfl
 (T1 (x_iload_n H rfl rfl) rfl
 ((x_callR (ci := 7) H rfl [.int x1] rfl rfl rfl rfl).trans (isO_c (bi_c fun q1 => rQ_c (fun h2 => U1 rfl (T2 [some (.ref a0), some (.int x1), some (.int x2), some (.null), none] (x_astore_nN H rfl rfl) rfl
 (T1 (x_aload_n H rfl rfl) rfl
 (T1 (x_iload_n H rfl rfl) rfl
 ((x_callR (ci := 7) H rfl [.int x2] rfl rfl rfl rfl).trans (isO_c (bi_c fun q4 => rQ_c (fun h5 => U1 rfl (T2 [some (.ref a0), some (.int x1), some (.int x2), some (.null), some (.null)] (x_astoreN H rfl rfl) rfl
 (T1 (x_aload_nN H rfl rfl) rfl
 (T2 [none, none, none, none, none] (x_ifnullN H rfl (t := 22) (by decide)) rfl rfl)))) (fun b6 h5 =>
 U1 rfl (T2 [some (.ref a0), some (.int x1), some (.int x2), some (.null), some (.ref b6)] (x_astore H rfl rfl) rfl
 (T1 (x_aload_nN H rfl rfl) rfl
 (T2 [none, none, none, none, none] (x_ifnullN H rfl (t := 22) (by decide)) rfl rfl))))))))))) (fun b3 h2 =>
 U1 rfl (T2 [some (.ref a0), some (.int x1), some (.int x2), some (.ref b3), none] (x_astore_n H rfl rfl) rfl
 (T1 (x_aload_n H rfl rfl) rfl
 (T1 (x_iload_n H rfl rfl) rfl
 ((x_callR (ci := 7) H rfl [.int x2] rfl rfl rfl rfl).trans (isO_c (bi_c fun q7 => rQ_c (fun h8 => U1 rfl (T2 [some (.ref a0), some (.int x1), some (.int x2), some (.ref b3), some (.null)] (x_astoreN H rfl rfl) rfl
 (T1 (x_aload_n H rfl rfl) rfl
 (T1 (x_ifnull H rfl (t := 22) (by decide)) rfl
 (T1 (x_aloadN H rfl rfl) rfl
 (T2 [none, none, none, none, none] (x_ifnonnullN H rfl (t := 24) (by decide)) rfl rfl)))))) (fun b9 h8 =>
 U1 rfl (T2 [some (.ref a0), some (.int x1), some (.int x2), some (.ref b3), some (.ref b9)] (x_astore H rfl rfl) rfl
 (T1 (x_aload_n H rfl rfl) rfl
 (T1 (x_ifnull H rfl (t := 22) (by decide)) rfl
 (T1 (x_aload H rfl rfl) rfl
 (T1 (x_ifnonnull H rfl (t := 24) (by decide)) rfl
 (T1 (x_aload_n H rfl rfl) rfl
 ((x_getR H rfl).trans (gfQ_c rfl fun b10 =>
 U1 rfl (T1 (x_aload_n H rfl rfl) rfl
 (T1 (x_aload H rfl rfl) rfl
 (T1 (x_iconst H rfl ki_2) rfl
 ((x_callI (ci := 5) H rfl [.ref b3, .ref b9, .int 2] rfl rfl rfl rfl).trans (isO_c (bi_c fun q11 => rI_c fun v13 h12 =>
 U1 rfl (T1 (x_bipush H rfl kb_m4) rfl
 ((x_icmp_ne H rfl (t := 44) (by decide)).trans (if_c
 (U1 rfl (T1 (x_iconst H rfl ki_1) rfl
 (T2 [none, none, none, none, none] (x_goto H rfl (t := 45) (by decide)) rfl rfl)))
 (U1 rfl (T2 [none, none, none, none, none] (x_iconst H rfl ki_0) rfl rfl)))))))))))))))))))))))))))))))
theorem nd_89_22 {c : Ct} {dd : Bool} {ρ : Kt} (H : St c dd mt_89 ρ) (h : AH)  : ρ 22 [none, none, none, none, none] [] h = some (some (.int (-1)), h) :=
 T1 (x_iconst H rfl ki_m1) rfl
 (x_ireturn H rfl rfl)
theorem nd_89_45 {c : Ct} {dd : Bool} {ρ : Kt} (H : St c dd mt_89 ρ) (h : AH) (s0_ : Int32) : ρ 45 [none, none, none, none, none] [.int s0_] h = some (some (.int s0_), h) :=
 x_ireturn H rfl rfl
-- X7_show (II)I: 90
theorem nd_90_0 {c : Ct} {dd : Bool} {ρ : Kt} (H : St c dd mt_90 ρ) (h : AH) (a0 : Nat) (x1 : Int32) (x2 : Int32) : ρ 0 [some (.ref a0), some (.int x1), some (.int x2), none] [] h = isO h a0 7 ((c 91 [.ref a0, .int x1, .int x2] h).bind fun q1 => rI q1 fun v3 h2 => if v3 ≤ 40 then (if v3 < 0 then (ρ 31 [none, none, none, some (.int v3)] [] h2) else (gfQ h2 a0 7 0 none fun b4 => gfQ h2 a0 7 10 none fun b5 => isO h2 b4 2 ((c 26 [.ref b4, .ref b5] h2).bind fun q6 => rV q6 fun h7 => ρ 31 [none, none, none, some (.int v3)] [] h7))) else (some (some (.int (-3)), h2))) :=
 T1 (x_aload_n H rfl rfl) rfl
 (T1 (x_iload_n H rfl rfl) rfl
 (T1 (x_iload_n H rfl rfl) rfl
 ((x_callI (ci := 7) H rfl [.int x1, .int x2] rfl rfl rfl rfl).trans (isO_c (bi_c fun q1 => rI_c fun v3 h2 =>
 U1 rfl (T2 [some (.ref a0), some (.int x1), some (.int x2), some (.int v3)] (x_istore_n H rfl rfl) rfl
 (T1 (x_iload_n H rfl rfl) rfl
 (T1 (x_bipush H rfl kb_40) rfl
 ((x_icmp_le H rfl (t := 16) (by decide)).trans (if_c
 (U1 rfl (T1 (x_iload_n H rfl rfl) rfl
 ((x_if_lt H rfl (t := 31) (by decide)).trans (if_c
 (U2 [none, none, none, some (.int v3)] rfl rfl)
 (U1 rfl (T1 (x_aload_n H rfl rfl) rfl
 ((x_getR H rfl).trans (gfQ_c rfl fun b4 =>
 U1 rfl (T1 (x_aload_n H rfl rfl) rfl
 ((x_getR H rfl).trans (gfQ_c rfl fun b5 =>
 U1 rfl ((x_callV (ci := 2) H rfl [.ref b5] rfl rfl rfl rfl).trans (isO_c (bi_c fun q6 => rV_c fun h7 =>
 U2 [none, none, none, some (.int v3)] rfl rfl))))))))))))))
 (U1 rfl (T1 (x_bipush H rfl kb_m3) rfl
 (x_ireturn H rfl rfl)))))))))))))
theorem nd_90_31 {c : Ct} {dd : Bool} {ρ : Kt} (H : St c dd mt_90 ρ) (h : AH) (x3 : Int32) : ρ 31 [none, none, none, some (.int x3)] [] h = some (some (.int x3), h) :=
 T1 (x_iload_n H rfl rfl) rfl
 (x_ireturn H rfl rfl)
-- X7_findLeast (II)I: 91
theorem nd_91_0 {c : Ct} {dd : Bool} {ρ : Kt} (H : St c dd mt_91 ρ) (h : AH) (a0 : Nat) (x1 : Int32) (x2 : Int32) : ρ 0 [some (.ref a0), some (.int x1), some (.int x2), none, none, none] [] h = isO h a0 7 ((c 75 [.ref a0, .int x1] h).bind fun q1 => rQ q1 (fun h2 => if x2 = (-4) then (gfQ h2 a0 7 6 none fun b7 => ρ 24 [some (.ref a0), some (.int x1), some (.int x2), some (.null), none, none] [.ref b7] h2) else (isO h2 a0 7 ((c 75 [.ref a0, .int x2] h2).bind fun q4 => rQ q4 (fun h5 => ρ 24 [some (.ref a0), some (.int x1), some (.int x2), some (.null), none, none] [.null] h5) (fun b6 h5 => ρ 24 [some (.ref a0), some (.int x1), some (.int x2), some (.null), none, none] [.ref b6] h5)))) (fun b3 h2 => if x2 = (-4) then (gfQ h2 a0 7 6 none fun b11 => ρ 24 [some (.ref a0), some (.int x1), some (.int x2), some (.ref b3), none, none] [.ref b11] h2) else (isO h2 a0 7 ((c 75 [.ref a0, .int x2] h2).bind fun q8 => rQ q8 (fun h9 => ρ 24 [some (.ref a0), some (.int x1), some (.int x2), some (.ref b3), none, none] [.null] h9) (fun b10 h9 => ρ 24 [some (.ref a0), some (.int x1), some (.int x2), some (.ref b3), none, none] [.ref b10] h9))))) :=
 T1 (x_aload_n H rfl rfl) rfl
 (T1 (x_iload_n H rfl rfl) rfl
 ((x_callR (ci := 7) H rfl [.int x1] rfl rfl rfl rfl).trans (isO_c (bi_c fun q1 => rQ_c (fun h2 => U1 rfl (T2 [some (.ref a0), some (.int x1), some (.int x2), some (.null), none, none] (x_astore_nN H rfl rfl) rfl
 (T1 (x_iload_n H rfl rfl) rfl
 (T1 (x_bipush H rfl kb_m4) rfl
 ((x_icmp_ne H rfl (t := 19) (by decide)).trans (if_c
 (U1 rfl (T1 (x_aload_n H rfl rfl) rfl
 ((x_getR H rfl).trans (gfQ_c rfl fun b7 =>
 U1 rfl (T2 [some (.ref a0), some (.int x1), some (.int x2), some (.null), none, none] (x_goto H rfl (t := 24) (by decide)) rfl rfl)))))
 (U1 rfl (T1 (x_aload_n H rfl rfl) rfl
 (T1 (x_iload_n H rfl rfl) rfl
 ((x_callR (ci := 7) H rfl [.int x2] rfl rfl rfl rfl).trans (isO_c (bi_c fun q4 => rQ_c (fun h5 => U2 [some (.ref a0), some (.int x1), some (.int x2), some (.null), none, none] rfl rfl) (fun b6 h5 =>
 U2 [some (.ref a0), some (.int x1), some (.int x2), some (.null), none, none] rfl rfl))))))))))))) (fun b3 h2 =>
 U1 rfl (T2 [some (.ref a0), some (.int x1), some (.int x2), some (.ref b3), none, none] (x_astore_n H rfl rfl) rfl
 (T1 (x_iload_n H rfl rfl) rfl
 (T1 (x_bipush H rfl kb_m4) rfl
 ((x_icmp_ne H rfl (t := 19) (by decide)).trans (if_c
 (U1 rfl (T1 (x_aload_n H rfl rfl) rfl
 ((x_getR H rfl).trans (gfQ_c rfl fun b11 =>
 U1 rfl (T2 [some (.ref a0), some (.int x1), some (.int x2), some (.ref b3), none, none] (x_goto H rfl (t := 24) (by decide)) rfl rfl)))))
 (U1 rfl (T1 (x_aload_n H rfl rfl) rfl
 (T1 (x_iload_n H rfl rfl) rfl
 ((x_callR (ci := 7) H rfl [.int x2] rfl rfl rfl rfl).trans (isO_c (bi_c fun q8 => rQ_c (fun h9 => U2 [some (.ref a0), some (.int x1), some (.int x2), some (.ref b3), none, none] rfl rfl) (fun b10 h9 =>
 U2 [some (.ref a0), some (.int x1), some (.int x2), some (.ref b3), none, none] rfl rfl)))))))))))))))))
theorem nd_91_24 {c : Ct} {dd : Bool} {ρ : Kt} (H : St c dd mt_91 ρ) (h : AH) (a0 : Nat) (x1 : Int32) (x2 : Int32) : ρ 24 [some (.ref a0), some (.int x1), some (.int x2), some (.null), none, none] [.null] h = ρ 35 [none, none, none, none, none, none] [] h :=
 T2 [some (.ref a0), some (.int x1), some (.int x2), some (.null), some (.null), none] (x_astoreN H rfl rfl) rfl
 (T1 (x_aload_nN H rfl rfl) rfl
 (T2 [none, none, none, none, none, none] (x_ifnullN H rfl (t := 35) (by decide)) rfl rfl))
theorem nd_91_24_2 {c : Ct} {dd : Bool} {ρ : Kt} (H : St c dd mt_91 ρ) (h : AH) (a0 : Nat) (x1 : Int32) (x2 : Int32) (c0_ : Nat) : ρ 24 [some (.ref a0), some (.int x1), some (.int x2), some (.null), none, none] [.ref c0_] h = ρ 35 [none, none, none, none, none, none] [] h :=
 T2 [some (.ref a0), some (.int x1), some (.int x2), some (.null), some (.ref c0_), none] (x_astore H rfl rfl) rfl
 (T1 (x_aload_nN H rfl rfl) rfl
 (T2 [none, none, none, none, none, none] (x_ifnullN H rfl (t := 35) (by decide)) rfl rfl))
theorem nd_91_24_3 {c : Ct} {dd : Bool} {ρ : Kt} (H : St c dd mt_91 ρ) (h : AH) (a0 : Nat) (x1 : Int32) (x2 : Int32) (a3 : Nat) : ρ 24 [some (.ref a0), some (.int x1), some (.int x2), some (.ref a3), none, none] [.null] h = ρ 35 [none, none, none, none, none, none] [] h :=
 T2 [some (.ref a0), some (.int x1), some (.int x2), some (.ref a3), some (.null), none] (x_astoreN H rfl rfl) rfl
 (T1 (x_aload_n H rfl rfl) rfl
 (T1 (x_ifnull H rfl (t := 35) (by decide)) rfl
 (T1 (x_aloadN H rfl rfl) rfl
 (T2 [none, none, none, none, none, none] (x_ifnonnullN H rfl (t := 37) (by decide)) rfl rfl))))
theorem nd_91_24_4 {c : Ct} {dd : Bool} {ρ : Kt} (H : St c dd mt_91 ρ) (h : AH) (a0 : Nat) (x1 : Int32) (x2 : Int32) (a3 : Nat) (c0_ : Nat) : ρ 24 [some (.ref a0), some (.int x1), some (.int x2), some (.ref a3), none, none] [.ref c0_] h = gfI h a0 7 11 fun v1 => if v1 = 0 then (ρ 60 [some (.ref a0), some (.int x1), some (.int x2), some (.ref a3), some (.ref c0_), none] [] h) else (gfI h a0 7 12 fun v2 => if x1 = v2 then (gfI h a0 7 13 fun v3 => if x2 = v3 then (ρ 142 [some (.ref a0), none, none, none, none, none] [] h) else (ρ 60 [some (.ref a0), some (.int x1), some (.int x2), some (.ref a3), some (.ref c0_), none] [] h)) else (ρ 60 [some (.ref a0), some (.int x1), some (.int x2), some (.ref a3), some (.ref c0_), none] [] h)) :=
 T2 [some (.ref a0), some (.int x1), some (.int x2), some (.ref a3), some (.ref c0_), none] (x_astore H rfl rfl) rfl
 (T1 (x_aload_n H rfl rfl) rfl
 (T1 (x_ifnull H rfl (t := 35) (by decide)) rfl
 (T1 (x_aload H rfl rfl) rfl
 (T1 (x_ifnonnull H rfl (t := 37) (by decide)) rfl
 (T1 (x_aload_n H rfl rfl) rfl
 ((x_getZ H rfl).trans (gfI_c fun v1 =>
 U1 rfl ((x_if_eq H rfl (t := 60) (by decide)).trans (if_c
 (U2 [some (.ref a0), some (.int x1), some (.int x2), some (.ref a3), some (.ref c0_), none] rfl rfl)
 (U1 rfl (T1 (x_iload_n H rfl rfl) rfl
 (T1 (x_aload_n H rfl rfl) rfl
 ((x_getI H rfl).trans (gfI_c fun v2 =>
 U1 rfl ((x_icmp_ne H rfl (t := 60) (by decide)).trans (if_c
 (U1 rfl (T1 (x_iload_n H rfl rfl) rfl
 (T1 (x_aload_n H rfl rfl) rfl
 ((x_getI H rfl).trans (gfI_c fun v3 =>
 U1 rfl ((x_icmp_eq H rfl (t := 142) (by decide)).trans (if_c
 (U2 [some (.ref a0), none, none, none, none, none] rfl rfl)
 (U2 [some (.ref a0), some (.int x1), some (.int x2), some (.ref a3), some (.ref c0_), none] rfl rfl))))))))
 (U2 [some (.ref a0), some (.int x1), some (.int x2), some (.ref a3), some (.ref c0_), none] rfl rfl)))))))))))))))))
theorem nd_91_35 {c : Ct} {dd : Bool} {ρ : Kt} (H : St c dd mt_91 ρ) (h : AH)  : ρ 35 [none, none, none, none, none, none] [] h = some (some (.int (-1)), h) :=
 T1 (x_iconst H rfl ki_m1) rfl
 (x_ireturn H rfl rfl)
theorem nd_91_60 {c : Ct} {dd : Bool} {ρ : Kt} (H : St c dd mt_91 ρ) (h : AH) (a0 : Nat) (x1 : Int32) (x2 : Int32) (a3 : Nat) (a4 : Nat) : ρ 60 [some (.ref a0), some (.int x1), some (.int x2), some (.ref a3), some (.ref a4), none] [] h = gfQ h a0 7 9 none fun b1 => isO h b1 5 ((c 41 [.ref b1, .ref a3, .ref a4, .int 1] h).bind fun q2 => rI q2 fun v4 h3 => if v4 = (-4) then (pfV h3 a0 7 14 (.int (-4)) fun h16 => ρ 127 [some (.ref a0), some (.int x1), some (.int x2), none, none, none] [] h16) else (gfQ h3 a0 7 9 none fun b5 => gfQ h3 a0 7 10 none fun b6 => isO h3 b5 5 ((c 52 [.ref b5, .int v4, .ref b6] h3).bind fun q7 => rV q7 fun h8 => gfQ h8 a0 7 9 none fun b9 => gfQ h8 a0 7 10 none fun b10 => isO h8 b9 5 ((c 53 [.ref b9, .ref a3, .ref a4, .ref b10] h8).bind fun q11 => rV q11 fun h12 => gfQ h12 a0 7 10 none fun b13 => gfI h12 b13 2 2 fun v14 => pfV h12 a0 7 14 (.int v14) fun h15 => ρ 127 [some (.ref a0), some (.int x1), some (.int x2), none, none, none] [] h15)))) :=
 T1 (x_aload_n H rfl rfl) rfl
 ((x_getR H rfl).trans (gfQ_c rfl fun b1 =>
 U1 rfl (T1 (x_aload_n H rfl rfl) rfl
 (T1 (x_aload H rfl rfl) rfl
 (T1 (x_iconst H rfl ki_1) rfl
 ((x_callI (ci := 5) H rfl [.ref a3, .ref a4, .int 1] rfl rfl rfl rfl).trans (isO_c (bi_c fun q2 => rI_c fun v4 h3 =>
 U1 rfl (T2 [some (.ref a0), some (.int x1), some (.int x2), some (.ref a3), some (.ref a4), some (.int v4)] (x_istore H rfl rfl) rfl
 (T1 (x_iload H rfl rfl) rfl
 (T1 (x_bipush H rfl kb_m4) rfl
 ((x_icmp_ne H rfl (t := 89) (by decide)).trans (if_c
 (U1 rfl (T1 (x_aload_n H rfl rfl) rfl
 (T1 (x_bipush H rfl kb_m4) rfl
 ((x_putI H rfl).trans (pfV_c fun h16 =>
 U1 rfl (T2 [some (.ref a0), some (.int x1), some (.int x2), none, none, none] (x_goto H rfl (t := 127) (by decide)) rfl rfl))))))
 (U1 rfl (T1 (x_aload_n H rfl rfl) rfl
 ((x_getR H rfl).trans (gfQ_c rfl fun b5 =>
 U1 rfl (T1 (x_iload H rfl rfl) rfl
 (T1 (x_aload_n H rfl rfl) rfl
 ((x_getR H rfl).trans (gfQ_c rfl fun b6 =>
 U1 rfl ((x_callV (ci := 5) H rfl [.int v4, .ref b6] rfl rfl rfl rfl).trans (isO_c (bi_c fun q7 => rV_c fun h8 =>
 U1 rfl (T1 (x_aload_n H rfl rfl) rfl
 ((x_getR H rfl).trans (gfQ_c rfl fun b9 =>
 U1 rfl (T1 (x_aload_n H rfl rfl) rfl
 (T1 (x_aload H rfl rfl) rfl
 (T1 (x_aload_n H rfl rfl) rfl
 ((x_getR H rfl).trans (gfQ_c rfl fun b10 =>
 U1 rfl ((x_callV (ci := 5) H rfl [.ref a3, .ref a4, .ref b10] rfl rfl rfl rfl).trans (isO_c (bi_c fun q11 => rV_c fun h12 =>
 U1 rfl (T1 (x_aload_n H rfl rfl) rfl
 (T1 (x_aload_n H rfl rfl) rfl
 ((x_getR H rfl).trans (gfQ_c rfl fun b13 =>
 U1 rfl ((x_getI H rfl).trans (gfI_c fun v14 =>
 U1 rfl ((x_putI H rfl).trans (pfV_c fun h15 =>
 U2 [some (.ref a0), some (.int x1), some (.int x2), none, none, none] rfl rfl)))))))))))))))))))))))))))))))))))))))))))
theorem nd_91_142 {c : Ct} {dd : Bool} {ρ : Kt} (H : St c dd mt_91 ρ) (h : AH) (a0 : Nat) : ρ 142 [some (.ref a0), none, none, none, none, none] [] h = gfI h a0 7 14 fun v1 => some (some (.int v1), h) :=
 T1 (x_aload_n H rfl rfl) rfl
 ((x_getI H rfl).trans (gfI_c fun v1 =>
 U1 rfl (x_ireturn H rfl rfl)))
theorem nd_91_127 {c : Ct} {dd : Bool} {ρ : Kt} (H : St c dd mt_91 ρ) (h : AH) (a0 : Nat) (x1 : Int32) (x2 : Int32) : ρ 127 [some (.ref a0), some (.int x1), some (.int x2), none, none, none] [] h = pfV h a0 7 12 (.int x1) fun h1 => pfV h1 a0 7 13 (.int x2) fun h2 => isZ 1 (pfV h2 a0 7 11 (.int 1) fun h3 => ρ 142 [some (.ref a0), none, none, none, none, none] [] h3) :=
 T1 (x_aload_n H rfl rfl) rfl
 (T1 (x_iload_n H rfl rfl) rfl
 ((x_putI H rfl).trans (pfV_c fun h1 =>
 U1 rfl (T1 (x_aload_n H rfl rfl) rfl
 (T1 (x_iload_n H rfl rfl) rfl
 ((x_putI H rfl).trans (pfV_c fun h2 =>
 U1 rfl (T1 (x_aload_n H rfl rfl) rfl
 (T1 (x_iconst H rfl ki_1) rfl
 ((x_putZ H rfl).trans (isZ_c (pfV_c fun h3 =>
 U2 [some (.ref a0), none, none, none, none, none] rfl rfl))))))))))))
-- X7_leastAt (IIII)I: 92
theorem nd_92_0 {c : Ct} {dd : Bool} {ρ : Kt} (H : St c dd mt_92 ρ) (h : AH) (a0 : Nat) (x1 : Int32) (x2 : Int32) (x3 : Int32) (x4 : Int32) : ρ 0 [some (.ref a0), some (.int x1), some (.int x2), some (.int x3), some (.int x4)] [] h = if x3 < 0 then (ρ 36 [none, none, none, none, none] [] h) else (isO h a0 7 ((c 91 [.ref a0, .int x1, .int x2] h).bind fun q1 => rI q1 fun v3 h2 => if v3 ≤ x3 then (ρ 36 [none, none, none, none, none] [] h2) else (gfQ h2 a0 7 10 none fun b4 => isO h2 b4 2 ((c 22 [.ref b4, .int x3] h2).bind fun q5 => rI q5 fun v7 h6 => if v7 = 0 then (ρ 36 [none, none, none, none, none] [] h6) else (if x4 < 0 then (ρ 36 [none, none, none, none, none] [] h6) else (if x4 ≤ 1 then (if x4 = 0 then (gfQ h6 a0 7 10 none fun b11 => gfQ h6 b11 2 0 none fun b12 => ldI h6 b12 x3 fun v13 => ρ 64 [none, none, none, none, none] [.int v13] h6) else (gfQ h6 a0 7 10 none fun b8 => gfQ h6 b8 2 1 none fun b9 => ldI h6 b9 x3 fun v10 => ρ 64 [none, none, none, none, none] [.int v10] h6)) else (ρ 36 [none, none, none, none, none] [] h6))))))) :=
 T1 (x_iload_n H rfl rfl) rfl
 ((x_if_lt H rfl (t := 36) (by decide)).trans (if_c
 (U2 [none, none, none, none, none] rfl rfl)
 (U1 rfl (T1 (x_iload_n H rfl rfl) rfl
 (T1 (x_aload_n H rfl rfl) rfl
 (T1 (x_iload_n H rfl rfl) rfl
 (T1 (x_iload_n H rfl rfl) rfl
 ((x_callI (ci := 7) H rfl [.int x1, .int x2] rfl rfl rfl rfl).trans (isO_c (bi_c fun q1 => rI_c fun v3 h2 =>
 U1 rfl ((x_icmp_ge H rfl (t := 36) (by decide)).trans (if_c
 (U2 [none, none, none, none, none] rfl rfl)
 (U1 rfl (T1 (x_aload_n H rfl rfl) rfl
 ((x_getR H rfl).trans (gfQ_c rfl fun b4 =>
 U1 rfl (T1 (x_iload_n H rfl rfl) rfl
 ((x_callZ (ci := 2) H rfl [.int x3] rfl rfl rfl rfl).trans (isO_c (bi_c fun q5 => rI_c fun v7 h6 =>
 U1 rfl ((x_if_eq H rfl (t := 36) (by decide)).trans (if_c
 (U2 [none, none, none, none, none] rfl rfl)
 (U1 rfl (T1 (x_iload H rfl rfl) rfl
 ((x_if_lt H rfl (t := 36) (by decide)).trans (if_c
 (U2 [none, none, none, none, none] rfl rfl)
 (U1 rfl (T1 (x_iload H rfl rfl) rfl
 (T1 (x_iconst H rfl ki_1) rfl
 ((x_icmp_le H rfl (t := 38) (by decide)).trans (if_c
 (U1 rfl (T1 (x_iload H rfl rfl) rfl
 ((x_if_ne H rfl (t := 55) (by decide)).trans (if_c
 (U1 rfl (T1 (x_aload_n H rfl rfl) rfl
 ((x_getR H rfl).trans (gfQ_c rfl fun b11 =>
 U1 rfl ((x_getR H rfl).trans (gfQ_c rfl fun b12 =>
 U1 rfl (T1 (x_iload_n H rfl rfl) rfl
 ((x_iaload H rfl).trans (ldI_c fun v13 =>
 U1 rfl (T2 [none, none, none, none, none] (x_goto H rfl (t := 64) (by decide)) rfl rfl))))))))))
 (U1 rfl (T1 (x_aload_n H rfl rfl) rfl
 ((x_getR H rfl).trans (gfQ_c rfl fun b8 =>
 U1 rfl ((x_getR H rfl).trans (gfQ_c rfl fun b9 =>
 U1 rfl (T1 (x_iload_n H rfl rfl) rfl
 ((x_iaload H rfl).trans (ldI_c fun v10 =>
 U2 [none, none, none, none, none] rfl rfl)))))))))))))
 (U2 [none, none, none, none, none] rfl rfl))))))))))))))))))))))))))))))))
theorem nd_92_36 {c : Ct} {dd : Bool} {ρ : Kt} (H : St c dd mt_92 ρ) (h : AH)  : ρ 36 [none, none, none, none, none] [] h = some (some (.int (-1)), h) :=
 T1 (x_iconst H rfl ki_m1) rfl
 (x_ireturn H rfl rfl)
theorem nd_92_64 {c : Ct} {dd : Bool} {ρ : Kt} (H : St c dd mt_92 ρ) (h : AH) (s0_ : Int32) : ρ 64 [none, none, none, none, none] [.int s0_] h = some (some (.int s0_), h) :=
 x_ireturn H rfl rfl
-- X7_watch (I)I: 93
theorem nd_93_0 {c : Ct} {dd : Bool} {ρ : Kt} (H : St c dd mt_93 ρ) (h : AH) (a0 : Nat) (x1 : Int32) : ρ 0 [some (.ref a0), some (.int x1), none] [] h = isO h a0 7 ((c 75 [.ref a0, .int x1] h).bind fun q1 => rQ q1 (fun h2 => some (some (.int (-1)), h2)) (fun b3 h2 => gfI h2 a0 7 4 fun v4 => if v4 < 4 then (isO h2 a0 7 ((c 83 [.ref a0, .ref b3] h2).bind fun q5 => rV q5 fun h6 => isZ 1 (pfV h6 b3 0 5 (.int 1) fun h7 => gfQ h7 a0 7 3 none fun b8 => gfI h7 a0 7 4 fun v9 => ldQ h7 b8 v9 none fun b10 => isO h7 b10 6 ((c 59 [.ref b10, .ref b3] h7).bind fun q11 => rV q11 fun h12 => gfI h12 a0 7 4 fun v13 => pfV h12 a0 7 4 (.int (v13 + 1)) fun h14 => gfI h14 a0 7 4 fun v15 => some (some (.int (v15 - 1)), h14))))) else (some (some (.int (-3)), h2)))) :=
 T1 (x_aload_n H rfl rfl) rfl
 (T1 (x_iload_n H rfl rfl) rfl
 ((x_callR (ci := 7) H rfl [.int x1] rfl rfl rfl rfl).trans (isO_c (bi_c fun q1 => rQ_c (fun h2 => U1 rfl (T2 [some (.ref a0), some (.int x1), some (.null)] (x_astore_nN H rfl rfl) rfl
 (T1 (x_aload_nN H rfl rfl) rfl
 (T1 (x_ifnonnullN H rfl (t := 12) (by decide)) rfl
 (T1 (x_iconst H rfl ki_m1) rfl
 (x_ireturn H rfl rfl)))))) (fun b3 h2 =>
 U1 rfl (T2 [some (.ref a0), some (.int x1), some (.ref b3)] (x_astore_n H rfl rfl) rfl
 (T1 (x_aload_n H rfl rfl) rfl
 (T1 (x_ifnonnull H rfl (t := 12) (by decide)) rfl
 (T1 (x_aload_n H rfl rfl) rfl
 ((x_getI H rfl).trans (gfI_c fun v4 =>
 U1 rfl (T1 (x_iconst H rfl ki_4) rfl
 ((x_icmp_lt H rfl (t := 23) (by decide)).trans (if_c
 (U1 rfl (T1 (x_aload_n H rfl rfl) rfl
 (T1 (x_aload_n H rfl rfl) rfl
 ((x_callV (ci := 7) H rfl [.ref b3] rfl rfl rfl rfl).trans (isO_c (bi_c fun q5 => rV_c fun h6 =>
 U1 rfl (T1 (x_aload_n H rfl rfl) rfl
 (T1 (x_iconst H rfl ki_1) rfl
 ((x_putZ H rfl).trans (isZ_c (pfV_c fun h7 =>
 U1 rfl (T1 (x_aload_n H rfl rfl) rfl
 ((x_getR H rfl).trans (gfQ_c rfl fun b8 =>
 U1 rfl (T1 (x_aload_n H rfl rfl) rfl
 ((x_getI H rfl).trans (gfI_c fun v9 =>
 U1 rfl ((x_aaload H rfl).trans (ldQ_c rfl fun b10 =>
 U1 rfl (T1 (x_aload_n H rfl rfl) rfl
 ((x_callV (ci := 6) H rfl [.ref b3] rfl rfl rfl rfl).trans (isO_c (bi_c fun q11 => rV_c fun h12 =>
 U1 rfl (T1 (x_aload_n H rfl rfl) rfl
 (T1 (x_dup H rfl) rfl
 ((x_getI H rfl).trans (gfI_c fun v13 =>
 U1 rfl (T1 (x_iconst H rfl ki_1) rfl
 (T1 (x_iadd H rfl) rfl
 ((x_putI H rfl).trans (pfV_c fun h14 =>
 U1 rfl (T1 (x_aload_n H rfl rfl) rfl
 ((x_getI H rfl).trans (gfI_c fun v15 =>
 U1 rfl (T1 (x_iconst H rfl ki_1) rfl
 (T1 (x_isub H rfl) rfl
 (x_ireturn H rfl rfl)))))))))))))))))))))))))))))))))))))
 (U1 rfl (T1 (x_bipush H rfl kb_m3) rfl
 (x_ireturn H rfl rfl)))))))))))))))))
-- X7_see (III)I: 94
theorem nd_94_0 {c : Ct} {dd : Bool} {ρ : Kt} (H : St c dd mt_94 ρ) (h : AH) (a0 : Nat) (x1 : Int32) (x2 : Int32) (x3 : Int32) : ρ 0 [some (.ref a0), some (.int x1), some (.int x2), some (.int x3), none] [] h = isO h a0 7 ((c 96 [.ref a0, .int x1] h).bind fun q1 => rQ q1 (fun h2 => ρ 21 [none, none, none, none, none] [] h2) (fun b3 h2 => if x2 < 0 then (ρ 21 [none, none, none, none, none] [] h2) else (if x2 < 3 then (isO h2 b3 6 ((c 61 [.ref b3, .int x2, .int x3] h2).bind fun q4 => rI q4 fun v6 h5 => some (some (.int v6), h5))) else (ρ 21 [none, none, none, none, none] [] h2)))) :=
 T1 (x_aload_n H rfl rfl) rfl
 (T1 (x_iload_n H rfl rfl) rfl
 ((x_callR (ci := 7) H rfl [.int x1] rfl rfl rfl rfl).trans (isO_c (bi_c fun q1 => rQ_c (fun h2 => U1 rfl (T2 [some (.ref a0), some (.int x1), some (.int x2), some (.int x3), some (.null)] (x_astoreN H rfl rfl) rfl
 (T1 (x_aloadN H rfl rfl) rfl
 (T2 [none, none, none, none, none] (x_ifnullN H rfl (t := 21) (by decide)) rfl rfl)))) (fun b3 h2 =>
 U1 rfl (T2 [some (.ref a0), some (.int x1), some (.int x2), some (.int x3), some (.ref b3)] (x_astore H rfl rfl) rfl
 (T1 (x_aload H rfl rfl) rfl
 (T1 (x_ifnull H rfl (t := 21) (by decide)) rfl
 (T1 (x_iload_n H rfl rfl) rfl
 ((x_if_lt H rfl (t := 21) (by decide)).trans (if_c
 (U2 [none, none, none, none, none] rfl rfl)
 (U1 rfl (T1 (x_iload_n H rfl rfl) rfl
 (T1 (x_iconst H rfl ki_3) rfl
 ((x_icmp_lt H rfl (t := 23) (by decide)).trans (if_c
 (U1 rfl (T1 (x_aload H rfl rfl) rfl
 (T1 (x_iload_n H rfl rfl) rfl
 (T1 (x_iload_n H rfl rfl) rfl
 ((x_callI (ci := 6) H rfl [.int x2, .int x3] rfl rfl rfl rfl).trans (isO_c (bi_c fun q4 => rI_c fun v6 h5 =>
 U1 rfl (x_ireturn H rfl rfl))))))))
 (U2 [none, none, none, none, none] rfl rfl)))))))))))))))))
theorem nd_94_21 {c : Ct} {dd : Bool} {ρ : Kt} (H : St c dd mt_94 ρ) (h : AH)  : ρ 21 [none, none, none, none, none] [] h = some (some (.int (-1)), h) :=
 T1 (x_iconst H rfl ki_m1) rfl
 (x_ireturn H rfl rfl)
-- X7_seen (II)I: 95
theorem nd_95_0 {c : Ct} {dd : Bool} {ρ : Kt} (H : St c dd mt_95 ρ) (h : AH) (a0 : Nat) (x1 : Int32) (x2 : Int32) : ρ 0 [some (.ref a0), some (.int x1), some (.int x2), none] [] h = isO h a0 7 ((c 96 [.ref a0, .int x1] h).bind fun q1 => rQ q1 (fun h2 => some (some (.int (-1)), h2)) (fun b3 h2 => if (x2).toInt = 0 then (gfQ h2 b3 6 0 none fun b4 => gfI h2 b4 3 4 fun v5 => some (some (.int v5), h2)) else (if (x2).toInt = 1 then (gfQ h2 b3 6 0 none fun b6 => gfI h2 b6 3 0 fun v7 => some (some (.int v7), h2)) else (if (x2).toInt = 2 then (gfI h2 b3 6 2 fun v8 => some (some (.int v8), h2)) else (if (x2).toInt = 3 then (gfI h2 b3 6 3 fun v9 => some (some (.int v9), h2)) else (some (some (.int (-1)), h2))))))) :=
 T1 (x_aload_n H rfl rfl) rfl
 (T1 (x_iload_n H rfl rfl) rfl
 ((x_callR (ci := 7) H rfl [.int x1] rfl rfl rfl rfl).trans (isO_c (bi_c fun q1 => rQ_c (fun h2 => U1 rfl (T2 [some (.ref a0), some (.int x1), some (.int x2), some (.null)] (x_astore_nN H rfl rfl) rfl
 (T1 (x_aload_nN H rfl rfl) rfl
 (T1 (x_ifnonnullN H rfl (t := 12) (by decide)) rfl
 (T1 (x_iconst H rfl ki_m1) rfl
 (x_ireturn H rfl rfl)))))) (fun b3 h2 =>
 U1 rfl (T2 [some (.ref a0), some (.int x1), some (.int x2), some (.ref b3)] (x_astore_n H rfl rfl) rfl
 (T1 (x_aload_n H rfl rfl) rfl
 (T1 (x_ifnonnull H rfl (t := 12) (by decide)) rfl
 (T1 (x_iload_n H rfl rfl) rfl
 ((x_switch H rfl rfl).trans
 (swt_c (lo1 := 1) (by decide) ((jmp_eq (t := 44) (by decide)).trans (U1 rfl (T1 (x_aload_n H rfl rfl) rfl
 ((x_getR H rfl).trans (gfQ_c rfl fun b4 =>
 U1 rfl ((x_getI H rfl).trans (gfI_c fun v5 =>
 U1 rfl (x_ireturn H rfl rfl))))))))
 (swt_c (lo1 := 2) (by decide) ((jmp_eq (t := 52) (by decide)).trans (U1 rfl (T1 (x_aload_n H rfl rfl) rfl
 ((x_getR H rfl).trans (gfQ_c rfl fun b6 =>
 U1 rfl ((x_getI H rfl).trans (gfI_c fun v7 =>
 U1 rfl (x_ireturn H rfl rfl))))))))
 (swt_c (lo1 := 3) (by decide) ((jmp_eq (t := 60) (by decide)).trans (U1 rfl (T1 (x_aload_n H rfl rfl) rfl
 ((x_getI H rfl).trans (gfI_c fun v8 =>
 U1 rfl (x_ireturn H rfl rfl))))))
 (swt_c (lo1 := 4) (by decide) ((jmp_eq (t := 65) (by decide)).trans (U1 rfl (T1 (x_aload_n H rfl rfl) rfl
 ((x_getI H rfl).trans (gfI_c fun v9 =>
 U1 rfl (x_ireturn H rfl rfl))))))
 (swt_0 ((jmp_eq (t := 70) (by decide)).trans (U1 rfl (T1 (x_iconst H rfl ki_m1) rfl
 (x_ireturn H rfl rfl)))))))))))))))))))
-- X7_watchAt (I)LNameRows$Watch;: 96
theorem nd_96_0 {c : Ct} {dd : Bool} {ρ : Kt} (H : St c dd mt_96 ρ) (h : AH) (a0 : Nat) (x1 : Int32) : ρ 0 [some (.ref a0), some (.int x1)] [] h = if x1 < 0 then (ρ 21 [none, none] [] h) else (gfI h a0 7 4 fun v1 => if v1 ≤ x1 then (ρ 21 [none, none] [] h) else (gfQ h a0 7 3 none fun b2 => ldQ h b2 x1 none fun b3 => ρ 22 [none, none] [.ref b3] h)) :=
 T1 (x_iload_n H rfl rfl) rfl
 ((x_if_lt H rfl (t := 21) (by decide)).trans (if_c
 (U2 [none, none] rfl rfl)
 (U1 rfl (T1 (x_iload_n H rfl rfl) rfl
 (T1 (x_aload_n H rfl rfl) rfl
 ((x_getI H rfl).trans (gfI_c fun v1 =>
 U1 rfl ((x_icmp_ge H rfl (t := 21) (by decide)).trans (if_c
 (U2 [none, none] rfl rfl)
 (U1 rfl (T1 (x_aload_n H rfl rfl) rfl
 ((x_getR H rfl).trans (gfQ_c rfl fun b2 =>
 U1 rfl (T1 (x_iload_n H rfl rfl) rfl
 ((x_aaload H rfl).trans (ldQ_c rfl fun b3 =>
 U1 rfl (T2 [none, none] (x_goto H rfl (t := 22) (by decide)) rfl rfl)))))))))))))))))
theorem nd_96_21 {c : Ct} {dd : Bool} {ρ : Kt} (H : St c dd mt_96 ρ) (h : AH)  : ρ 21 [none, none] [] h = ρ 22 [none, none] [.null] h :=
 T2 [none, none] (x_null H rfl) rfl rfl
theorem nd_96_22 {c : Ct} {dd : Bool} {ρ : Kt} (H : St c dd mt_96 ρ) (h : AH) (c0_ : Nat) : ρ 22 [none, none] [.ref c0_] h = some (some (.ref c0_), h) :=
 x_areturn H rfl rfl
theorem nd_96_22_2 {c : Ct} {dd : Bool} {ρ : Kt} (H : St c dd mt_96 ρ) (h : AH)  : ρ 22 [none, none] [.null] h = some (some .null, h) :=
 x_areturnN H rfl rfl
-- X7_sheet (III)I: 97
theorem nd_97_0 {c : Ct} {dd : Bool} {ρ : Kt} (H : St c dd mt_97 ρ) (h : AH) (a0 : Nat) (x1 : Int32) (x2 : Int32) (x3 : Int32) : ρ 0 [some (.ref a0), some (.int x1), some (.int x2), some (.int x3), none] [] h = isO h a0 7 ((c 101 [.ref a0, .int x1] h).bind fun q1 => rQ q1 (fun h2 => ρ 27 [none, none, none, none, none] [] h2) (fun b3 h2 => if x2 < 0 then (ρ 27 [none, none, none, none, none] [] h2) else (if 3 ≤ x2 then (ρ 27 [none, none, none, none, none] [] h2) else (if x3 ≤ 60 then (if 0 ≤ x3 then (isO h2 b3 4 ((c 35 [.ref b3, .int x2, .int x3] h2).bind fun q4 => rV q4 fun h5 => some (some (.int 1), h5))) else (some (some (.int (-14)), h2))) else (ρ 27 [none, none, none, none, none] [] h2))))) :=
 T1 (x_aload_n H rfl rfl) rfl
 (T1 (x_iload_n H rfl rfl) rfl
 ((x_callR (ci := 7) H rfl [.int x1] rfl rfl rfl rfl).trans (isO_c (bi_c fun q1 => rQ_c (fun h2 => U1 rfl (T2 [some (.ref a0), some (.int x1), some (.int x2), some (.int x3), some (.null)] (x_astoreN H rfl rfl) rfl
 (T1 (x_aloadN H rfl rfl) rfl
 (T2 [none, none, none, none, none] (x_ifnullN H rfl (t := 27) (by decide)) rfl rfl)))) (fun b3 h2 =>
 U1 rfl (T2 [some (.ref a0), some (.int x1), some (.int x2), some (.int x3), some (.ref b3)] (x_astore H rfl rfl) rfl
 (T1 (x_aload H rfl rfl) rfl
 (T1 (x_ifnull H rfl (t := 27) (by decide)) rfl
 (T1 (x_iload_n H rfl rfl) rfl
 ((x_if_lt H rfl (t := 27) (by decide)).trans (if_c
 (U2 [none, none, none, none, none] rfl rfl)
 (U1 rfl (T1 (x_iload_n H rfl rfl) rfl
 (T1 (x_iconst H rfl ki_3) rfl
 ((x_icmp_ge H rfl (t := 27) (by decide)).trans (if_c
 (U2 [none, none, none, none, none] rfl rfl)
 (U1 rfl (T1 (x_iload_n H rfl rfl) rfl
 (T1 (x_bipush H rfl kb_60) rfl
 ((x_icmp_le H rfl (t := 29) (by decide)).trans (if_c
 (U1 rfl (T1 (x_iload_n H rfl rfl) rfl
 ((x_if_ge H rfl (t := 36) (by decide)).trans (if_c
 (U1 rfl (T1 (x_aload H rfl rfl) rfl
 (T1 (x_iload_n H rfl rfl) rfl
 (T1 (x_iload_n H rfl rfl) rfl
 ((x_callV (ci := 4) H rfl [.int x2, .int x3] rfl rfl rfl rfl).trans (isO_c (bi_c fun q4 => rV_c fun h5 =>
 U1 rfl (T1 (x_iconst H rfl ki_1) rfl
 (x_ireturn H rfl rfl)))))))))
 (U1 rfl (T1 (x_bipush H rfl kb_m14) rfl
 (x_ireturn H rfl rfl)))))))
 (U2 [none, none, none, none, none] rfl rfl))))))))))))))))))))))
theorem nd_97_27 {c : Ct} {dd : Bool} {ρ : Kt} (H : St c dd mt_97 ρ) (h : AH)  : ρ 27 [none, none, none, none, none] [] h = some (some (.int (-1)), h) :=
 T1 (x_iconst H rfl ki_m1) rfl
 (x_ireturn H rfl rfl)
-- X7_lay (III)I: 98
theorem nd_98_0 {c : Ct} {dd : Bool} {ρ : Kt} (H : St c dd mt_98 ρ) (h : AH) (a0 : Nat) (x1 : Int32) (x2 : Int32) (x3 : Int32) : ρ 0 [some (.ref a0), some (.int x1), some (.int x2), some (.int x3), none] [] h = isO h a0 7 ((c 101 [.ref a0, .int x1] h).bind fun q1 => rQ q1 (fun h2 => some (some (.int (-1)), h2)) (fun b3 h2 => isO h2 b3 4 ((c 36 [.ref b3] h2).bind fun q4 => rI q4 fun v6 h5 => if v6 = 0 then (isO h5 b3 4 ((c 37 [.ref b3, .int x2] h5).bind fun q7 => rI q7 fun v9 h8 => if v9 = 0 then (some (some (.int (-12)), h8)) else (isO h8 b3 4 ((c 38 [.ref b3, .int x2, .int x3] h8).bind fun q10 => rV q10 fun h11 => some (some (.int 1), h11))))) else (some (some (.int (-11)), h5))))) :=
 T1 (x_aload_n H rfl rfl) rfl
 (T1 (x_iload_n H rfl rfl) rfl
 ((x_callR (ci := 7) H rfl [.int x1] rfl rfl rfl rfl).trans (isO_c (bi_c fun q1 => rQ_c (fun h2 => U1 rfl (T2 [some (.ref a0), some (.int x1), some (.int x2), some (.int x3), some (.null)] (x_astoreN H rfl rfl) rfl
 (T1 (x_aloadN H rfl rfl) rfl
 (T1 (x_ifnonnullN H rfl (t := 14) (by decide)) rfl
 (T1 (x_iconst H rfl ki_m1) rfl
 (x_ireturn H rfl rfl)))))) (fun b3 h2 =>
 U1 rfl (T2 [some (.ref a0), some (.int x1), some (.int x2), some (.int x3), some (.ref b3)] (x_astore H rfl rfl) rfl
 (T1 (x_aload H rfl rfl) rfl
 (T1 (x_ifnonnull H rfl (t := 14) (by decide)) rfl
 (T1 (x_aload H rfl rfl) rfl
 ((x_callZ (ci := 4) H rfl [] rfl rfl rfl rfl).trans (isO_c (bi_c fun q4 => rI_c fun v6 h5 =>
 U1 rfl ((x_if_eq H rfl (t := 25) (by decide)).trans (if_c
 (U1 rfl (T1 (x_aload H rfl rfl) rfl
 (T1 (x_iload_n H rfl rfl) rfl
 ((x_callZ (ci := 4) H rfl [.int x2] rfl rfl rfl rfl).trans (isO_c (bi_c fun q7 => rI_c fun v9 h8 =>
 U1 rfl ((x_if_ne H rfl (t := 37) (by decide)).trans (if_c
 (U1 rfl (T1 (x_bipush H rfl kb_m12) rfl
 (x_ireturn H rfl rfl)))
 (U1 rfl (T1 (x_aload H rfl rfl) rfl
 (T1 (x_iload_n H rfl rfl) rfl
 (T1 (x_iload_n H rfl rfl) rfl
 ((x_callV (ci := 4) H rfl [.int x2, .int x3] rfl rfl rfl rfl).trans (isO_c (bi_c fun q10 => rV_c fun h11 =>
 U1 rfl (T1 (x_iconst H rfl ki_1) rfl
 (x_ireturn H rfl rfl)))))))))))))))))
 (U1 rfl (T1 (x_bipush H rfl kb_m11) rfl
 (x_ireturn H rfl rfl)))))))))))))))))
-- X7_scan (IIII)I: 99
theorem nd_99_0 {c : Ct} {dd : Bool} {ρ : Kt} (H : St c dd mt_99 ρ) (h : AH) (a0 : Nat) (x1 : Int32) (x2 : Int32) (x3 : Int32) (x4 : Int32) : ρ 0 [some (.ref a0), some (.int x1), some (.int x2), some (.int x3), some (.int x4), none, none, none, none] [] h = isO h a0 7 ((c 101 [.ref a0, .int x1] h).bind fun q1 => rQ q1 (fun h2 => ρ 33 [none, none, none, none, none, none, none, none, none] [] h2) (fun b3 h2 => if x2 < 0 then (ρ 33 [none, none, none, none, none, none, none, none, none] [] h2) else (if 3 ≤ x2 then (ρ 33 [none, none, none, none, none, none, none, none, none] [] h2) else (if x4 < 0 then (ρ 33 [none, none, none, none, none, none, none, none, none] [] h2) else (if x4 ≤ 30 then (isO h2 b3 4 ((c 36 [.ref b3] h2).bind fun q4 => rI q4 fun v6 h5 => if v6 = 0 then (gfI h5 b3 4 1 fun v7 => if v7 = x2 then (gfQ h5 a0 7 0 none fun b8 => gfI h5 b8 2 2 fun v9 => ρ 70 [some (.ref a0), none, none, some (.int x3), some (.int x4), some (.ref b3), some (.int v9), some (.int 0), none] [] h5) else (some (some (.int (-13)), h5))) else (some (some (.int (-11)), h5)))) else (ρ 33 [none, none, none, none, none, none, none, none, none] [] h2)))))) :=
 T1 (x_aload_n H rfl rfl) rfl
 (T1 (x_iload_n H rfl rfl) rfl
 ((x_callR (ci := 7) H rfl [.int x1] rfl rfl rfl rfl).trans (isO_c (bi_c fun q1 => rQ_c (fun h2 => U1 rfl (T2 [some (.ref a0), some (.int x1), some (.int x2), some (.int x3), some (.int x4), some (.null), none, none, none] (x_astoreN H rfl rfl) rfl
 (T1 (x_aloadN H rfl rfl) rfl
 (T2 [none, none, none, none, none, none, none, none, none] (x_ifnullN H rfl (t := 33) (by decide)) rfl rfl)))) (fun b3 h2 =>
 U1 rfl (T2 [some (.ref a0), some (.int x1), some (.int x2), some (.int x3), some (.int x4), some (.ref b3), none, none, none] (x_astore H rfl rfl) rfl
 (T1 (x_aload H rfl rfl) rfl
 (T1 (x_ifnull H rfl (t := 33) (by decide)) rfl
 (T1 (x_iload_n H rfl rfl) rfl
 ((x_if_lt H rfl (t := 33) (by decide)).trans (if_c
 (U2 [none, none, none, none, none, none, none, none, none] rfl rfl)
 (U1 rfl (T1 (x_iload_n H rfl rfl) rfl
 (T1 (x_iconst H rfl ki_3) rfl
 ((x_icmp_ge H rfl (t := 33) (by decide)).trans (if_c
 (U2 [none, none, none, none, none, none, none, none, none] rfl rfl)
 (U1 rfl (T1 (x_iload H rfl rfl) rfl
 ((x_if_lt H rfl (t := 33) (by decide)).trans (if_c
 (U2 [none, none, none, none, none, none, none, none, none] rfl rfl)
 (U1 rfl (T1 (x_iload H rfl rfl) rfl
 (T1 (x_bipush H rfl kb_30) rfl
 ((x_icmp_le H rfl (t := 35) (by decide)).trans (if_c
 (U1 rfl (T1 (x_aload H rfl rfl) rfl
 ((x_callZ (ci := 4) H rfl [] rfl rfl rfl rfl).trans (isO_c (bi_c fun q4 => rI_c fun v6 h5 =>
 U1 rfl ((x_if_eq H rfl (t := 46) (by decide)).trans (if_c
 (U1 rfl (T1 (x_aload H rfl rfl) rfl
 ((x_getI H rfl).trans (gfI_c fun v7 =>
 U1 rfl (T1 (x_iload_n H rfl rfl) rfl
 ((x_icmp_eq H rfl (t := 58) (by decide)).trans (if_c
 (U1 rfl (T1 (x_aload_n H rfl rfl) rfl
 ((x_getR H rfl).trans (gfQ_c rfl fun b8 =>
 U1 rfl ((x_getI H rfl).trans (gfI_c fun v9 =>
 U1 rfl (T2 [some (.ref a0), some (.int x1), some (.int x2), some (.int x3), some (.int x4), some (.ref b3), some (.int v9), none, none] (x_istore H rfl rfl) rfl
 (T1 (x_iconst H rfl ki_0) rfl
 (T2 [some (.ref a0), none, none, some (.int x3), some (.int x4), some (.ref b3), some (.int v9), some (.int 0), none] (x_istore H rfl rfl) rfl rfl)))))))))
 (U1 rfl (T1 (x_bipush H rfl kb_m13) rfl
 (x_ireturn H rfl rfl))))))))))
 (U1 rfl (T1 (x_bipush H rfl kb_m11) rfl
 (x_ireturn H rfl rfl))))))))))
 (U2 [none, none, none, none, none, none, none, none, none] rfl rfl))))))))))))))))))))))))))
theorem nd_99_33 {c : Ct} {dd : Bool} {ρ : Kt} (H : St c dd mt_99 ρ) (h : AH)  : ρ 33 [none, none, none, none, none, none, none, none, none] [] h = some (some (.int (-1)), h) :=
 T1 (x_iconst H rfl ki_m1) rfl
 (x_ireturn H rfl rfl)
theorem nd_99_70 {c : Ct} {dd : Bool} {ρ : Kt} (H : St c dd mt_99 ρ) (h : AH) (a0 : Nat) (x3 : Int32) (x4 : Int32) (a5 : Nat) (x6 : Int32) (x7 : Int32) : ρ 70 [some (.ref a0), none, none, some (.int x3), some (.int x4), some (.ref a5), some (.int x6), some (.int x7), none] [] h = if x4 ≤ x7 then (gfQ h a0 7 0 none fun b1 => gfI h b1 2 2 fun v2 => some (some (.int v2), h)) else (isO h a0 7 ((c 100 [.ref a0, .ref a5, .int (x3 + (2 * x7))] h).bind fun q3 => rI q3 fun v5 h4 => if 0 ≤ v5 then (ρ 70 [some (.ref a0), none, none, some (.int x3), some (.int x4), some (.ref a5), some (.int x6), some (.int (x7 + 1)), none] [] h4) else (gfQ h4 a0 7 0 none fun b6 => pfV h4 b6 2 2 (.int x6) fun h7 => some (some (.int v5), h7)))) :=
 T1 (x_iload H rfl rfl) rfl
 (T1 (x_iload H rfl rfl) rfl
 ((x_icmp_ge H rfl (t := 114) (by decide)).trans (if_c
 (U1 rfl (T1 (x_aload_n H rfl rfl) rfl
 ((x_getR H rfl).trans (gfQ_c rfl fun b1 =>
 U1 rfl ((x_getI H rfl).trans (gfI_c fun v2 =>
 U1 rfl (x_ireturn H rfl rfl)))))))
 (U1 rfl (T1 (x_aload_n H rfl rfl) rfl
 (T1 (x_aload H rfl rfl) rfl
 (T1 (x_iload_n H rfl rfl) rfl
 (T1 (x_iconst H rfl ki_2) rfl
 (T1 (x_iload H rfl rfl) rfl
 (T1 (x_imul H rfl) rfl
 (T1 (x_iadd H rfl) rfl
 ((x_callI (ci := 7) H rfl [.ref a5, .int (x3 + (2 * x7))] rfl rfl rfl rfl).trans (isO_c (bi_c fun q3 => rI_c fun v5 h4 =>
 U1 rfl (T2 [some (.ref a0), none, none, some (.int x3), some (.int x4), some (.ref a5), some (.int x6), some (.int x7), some (.int v5)] (x_istore H rfl rfl) rfl
 (T1 (x_iload H rfl rfl) rfl
 ((x_if_ge H rfl (t := 108) (by decide)).trans (if_c
 (U1 rfl (T2 [some (.ref a0), none, none, some (.int x3), some (.int x4), some (.ref a5), some (.int x6), some (.int (x7 + 1)), some (.int v5)] (x_iinc H rfl ki_1 rfl rfl) rfl
 (T2 [some (.ref a0), none, none, some (.int x3), some (.int x4), some (.ref a5), some (.int x6), some (.int (x7 + 1)), none] (x_goto H rfl (t := 70) (by decide)) rfl rfl)))
 (U1 rfl (T1 (x_aload_n H rfl rfl) rfl
 ((x_getR H rfl).trans (gfQ_c rfl fun b6 =>
 U1 rfl (T1 (x_iload H rfl rfl) rfl
 ((x_putI H rfl).trans (pfV_c fun h7 =>
 U1 rfl (T1 (x_iload H rfl rfl) rfl
 (x_ireturn H rfl rfl)))))))))))))))))))))))))))
-- X7_scanPlace (LNameRows$Sheet;I)I: 100
theorem nd_100_0 {c : Ct} {dd : Bool} {ρ : Kt} (H : St c dd mt_100 ρ) (h : AH) (a0 : Nat) (a1 : Nat) (x2 : Int32) : ρ 0 [some (.ref a0), some (.ref a1), some (.int x2), none] [] h = isO h a1 4 ((c 37 [.ref a1, .int x2] h).bind fun q1 => rI q1 fun v3 h2 => if v3 = 0 then (ρ 18 [none, none, none, none] [] h2) else (isO h2 a1 4 ((c 37 [.ref a1, .int (x2 + 1)] h2).bind fun q4 => rI q4 fun v6 h5 => if v6 = 0 then (ρ 18 [none, none, none, none] [] h5) else (gfQ h5 a0 7 0 none fun b7 => gfQ h5 a1 4 0 none fun b8 => ldI h5 b8 x2 fun v9 => gfQ h5 a1 4 0 none fun b10 => ldI h5 b10 (x2 + 1) fun v11 => isO h5 b7 2 ((c 24 [.ref b7, .int v9, .int v11] h5).bind fun q12 => rI q12 fun v14 h13 => if 0 ≤ v14 then (ρ 55 [none, none, none, none] [.int v14] h13) else (ρ 55 [none, none, none, none] [.int ((-20) + v14)] h13)))))) :=
 T1 (x_aload_n H rfl rfl) rfl
 (T1 (x_iload_n H rfl rfl) rfl
 ((x_callZ (ci := 4) H rfl [.int x2] rfl rfl rfl rfl).trans (isO_c (bi_c fun q1 => rI_c fun v3 h2 =>
 U1 rfl ((x_if_eq H rfl (t := 18) (by decide)).trans (if_c
 (U2 [none, none, none, none] rfl rfl)
 (U1 rfl (T1 (x_aload_n H rfl rfl) rfl
 (T1 (x_iload_n H rfl rfl) rfl
 (T1 (x_iconst H rfl ki_1) rfl
 (T1 (x_iadd H rfl) rfl
 ((x_callZ (ci := 4) H rfl [.int (x2 + 1)] rfl rfl rfl rfl).trans (isO_c (bi_c fun q4 => rI_c fun v6 h5 =>
 U1 rfl ((x_if_ne H rfl (t := 21) (by decide)).trans (if_c
 (U2 [none, none, none, none] rfl rfl)
 (U1 rfl (T1 (x_aload_n H rfl rfl) rfl
 ((x_getR H rfl).trans (gfQ_c rfl fun b7 =>
 U1 rfl (T1 (x_aload_n H rfl rfl) rfl
 ((x_getR H rfl).trans (gfQ_c rfl fun b8 =>
 U1 rfl (T1 (x_iload_n H rfl rfl) rfl
 ((x_iaload H rfl).trans (ldI_c fun v9 =>
 U1 rfl (T1 (x_aload_n H rfl rfl) rfl
 ((x_getR H rfl).trans (gfQ_c rfl fun b10 =>
 U1 rfl (T1 (x_iload_n H rfl rfl) rfl
 (T1 (x_iconst H rfl ki_1) rfl
 (T1 (x_iadd H rfl) rfl
 ((x_iaload H rfl).trans (ldI_c fun v11 =>
 U1 rfl ((x_callI (ci := 2) H rfl [.int v9, .int v11] rfl rfl rfl rfl).trans (isO_c (bi_c fun q12 => rI_c fun v14 h13 =>
 U1 rfl (T2 [some (.ref a0), some (.ref a1), some (.int x2), some (.int v14)] (x_istore_n H rfl rfl) rfl
 (T1 (x_iload_n H rfl rfl) rfl
 ((x_if_ge H rfl (t := 54) (by decide)).trans (if_c
 (U1 rfl (T2 [none, none, none, none] (x_iload_n H rfl rfl) rfl rfl))
 (U1 rfl (T1 (x_bipush H rfl kb_m20) rfl
 (T1 (x_iload_n H rfl rfl) rfl
 (T1 (x_iadd H rfl) rfl
 (T2 [none, none, none, none] (x_goto H rfl (t := 55) (by decide)) rfl rfl))))))))))))))))))))))))))))))))))))))))))))))
theorem nd_100_18 {c : Ct} {dd : Bool} {ρ : Kt} (H : St c dd mt_100 ρ) (h : AH)  : ρ 18 [none, none, none, none] [] h = some (some (.int (-12)), h) :=
 T1 (x_bipush H rfl kb_m12) rfl
 (x_ireturn H rfl rfl)
theorem nd_100_55 {c : Ct} {dd : Bool} {ρ : Kt} (H : St c dd mt_100 ρ) (h : AH) (s0_ : Int32) : ρ 55 [none, none, none, none] [.int s0_] h = some (some (.int s0_), h) :=
 x_ireturn H rfl rfl
-- X7_sheetAt (I)LNameRows$Sheet;: 101
theorem nd_101_0 {c : Ct} {dd : Bool} {ρ : Kt} (H : St c dd mt_101 ρ) (h : AH) (a0 : Nat) (x1 : Int32) : ρ 0 [some (.ref a0), some (.int x1)] [] h = if x1 < 0 then (ρ 22 [none, none] [] h) else (gfQ h a0 7 5 none fun b1 => lnA h b1 fun v2 => if v2 ≤ x1 then (ρ 22 [none, none] [] h) else (gfQ h a0 7 5 none fun b3 => ldQ h b3 x1 none fun b4 => ρ 23 [none, none] [.ref b4] h)) :=
 T1 (x_iload_n H rfl rfl) rfl
 ((x_if_lt H rfl (t := 22) (by decide)).trans (if_c
 (U2 [none, none] rfl rfl)
 (U1 rfl (T1 (x_iload_n H rfl rfl) rfl
 (T1 (x_aload_n H rfl rfl) rfl
 ((x_getR H rfl).trans (gfQ_c rfl fun b1 =>
 U1 rfl ((x_alen H rfl).trans (lnA_c fun v2 =>
 U1 rfl ((x_icmp_ge H rfl (t := 22) (by decide)).trans (if_c
 (U2 [none, none] rfl rfl)
 (U1 rfl (T1 (x_aload_n H rfl rfl) rfl
 ((x_getR H rfl).trans (gfQ_c rfl fun b3 =>
 U1 rfl (T1 (x_iload_n H rfl rfl) rfl
 ((x_aaload H rfl).trans (ldQ_c rfl fun b4 =>
 U1 rfl (T2 [none, none] (x_goto H rfl (t := 23) (by decide)) rfl rfl)))))))))))))))))))
theorem nd_101_22 {c : Ct} {dd : Bool} {ρ : Kt} (H : St c dd mt_101 ρ) (h : AH)  : ρ 22 [none, none] [] h = ρ 23 [none, none] [.null] h :=
 T2 [none, none] (x_null H rfl) rfl rfl
theorem nd_101_23 {c : Ct} {dd : Bool} {ρ : Kt} (H : St c dd mt_101 ρ) (h : AH) (c0_ : Nat) : ρ 23 [none, none] [.ref c0_] h = some (some (.ref c0_), h) :=
 x_areturn H rfl rfl
theorem nd_101_23_2 {c : Ct} {dd : Bool} {ρ : Kt} (H : St c dd mt_101 ρ) (h : AH)  : ρ 23 [none, none] [.null] h = some (some .null, h) :=
 x_areturnN H rfl rfl
-- X7_count (I)I: 102
theorem nd_102_0 {c : Ct} {dd : Bool} {ρ : Kt} (H : St c dd mt_102 ρ) (h : AH) (a0 : Nat) (x1 : Int32) : ρ 0 [some (.ref a0), some (.int x1)] [] h = if (x1).toInt = 0 then (gfQ h a0 7 0 none fun b1 => gfI h b1 2 2 fun v2 => some (some (.int v2), h)) else (if (x1).toInt = 1 then (gfI h a0 7 2 fun v3 => some (some (.int v3), h)) else (if (x1).toInt = 2 then (gfI h a0 7 4 fun v4 => some (some (.int v4), h)) else (if (x1).toInt = 3 then (isO h a0 7 ((c 103 [.ref a0] h).bind fun q5 => rI q5 fun v7 h6 => some (some (.int v7), h6))) else (if (x1).toInt = 4 then (isO h a0 7 ((c 104 [.ref a0] h).bind fun q8 => rI q8 fun v10 h9 => some (some (.int v10), h9))) else (some (some (.int (-1)), h)))))) :=
 T1 (x_iload_n H rfl rfl) rfl
 ((x_switch H rfl rfl).trans
 (swt_c (lo1 := 1) (by decide) ((jmp_eq (t := 36) (by decide)).trans (U1 rfl (T1 (x_aload_n H rfl rfl) rfl
 ((x_getR H rfl).trans (gfQ_c rfl fun b1 =>
 U1 rfl ((x_getI H rfl).trans (gfI_c fun v2 =>
 U1 rfl (x_ireturn H rfl rfl))))))))
 (swt_c (lo1 := 2) (by decide) ((jmp_eq (t := 44) (by decide)).trans (U1 rfl (T1 (x_aload_n H rfl rfl) rfl
 ((x_getI H rfl).trans (gfI_c fun v3 =>
 U1 rfl (x_ireturn H rfl rfl))))))
 (swt_c (lo1 := 3) (by decide) ((jmp_eq (t := 49) (by decide)).trans (U1 rfl (T1 (x_aload_n H rfl rfl) rfl
 ((x_getI H rfl).trans (gfI_c fun v4 =>
 U1 rfl (x_ireturn H rfl rfl))))))
 (swt_c (lo1 := 4) (by decide) ((jmp_eq (t := 54) (by decide)).trans (U1 rfl (T1 (x_aload_n H rfl rfl) rfl
 ((x_callI (ci := 7) H rfl [] rfl rfl rfl rfl).trans (isO_c (bi_c fun q5 => rI_c fun v7 h6 =>
 U1 rfl (x_ireturn H rfl rfl)))))))
 (swt_c (lo1 := 5) (by decide) ((jmp_eq (t := 59) (by decide)).trans (U1 rfl (T1 (x_aload_n H rfl rfl) rfl
 ((x_callI (ci := 7) H rfl [] rfl rfl rfl rfl).trans (isO_c (bi_c fun q8 => rI_c fun v10 h9 =>
 U1 rfl (x_ireturn H rfl rfl)))))))
 (swt_0 ((jmp_eq (t := 64) (by decide)).trans (U1 rfl (T1 (x_iconst H rfl ki_m1) rfl
 (x_ireturn H rfl rfl)))))))))))
-- X7_watchesDone ()I: 103
theorem nd_103_0 {c : Ct} {dd : Bool} {ρ : Kt} (H : St c dd mt_103 ρ) (h : AH) (a0 : Nat) : ρ 0 [some (.ref a0), none, none] [] h = ρ 4 [some (.ref a0), some (.int 0), some (.int 0)] [] h :=
 T1 (x_iconst H rfl ki_0) rfl
 (T2 [some (.ref a0), some (.int 0), none] (x_istore_n H rfl rfl) rfl
 (T1 (x_iconst H rfl ki_0) rfl
 (T2 [some (.ref a0), some (.int 0), some (.int 0)] (x_istore_n H rfl rfl) rfl rfl)))
theorem nd_103_4 {c : Ct} {dd : Bool} {ρ : Kt} (H : St c dd mt_103 ρ) (h : AH) (a0 : Nat) (x1 : Int32) (x2 : Int32) : ρ 4 [some (.ref a0), some (.int x1), some (.int x2)] [] h = gfI h a0 7 4 fun v1 => if v1 ≤ x2 then (some (some (.int x1), h)) else (gfQ h a0 7 3 none fun b2 => ldQ h b2 x2 none fun b3 => isO h b3 6 ((c 60 [.ref b3] h).bind fun q4 => rI q4 fun v6 h5 => if v6 = 0 then (ρ 27 [some (.ref a0), some (.int x1), some (.int x2)] [] h5) else (ρ 27 [some (.ref a0), some (.int (x1 + 1)), some (.int x2)] [] h5))) :=
 T1 (x_iload_n H rfl rfl) rfl
 (T1 (x_aload_n H rfl rfl) rfl
 ((x_getI H rfl).trans (gfI_c fun v1 =>
 U1 rfl ((x_icmp_ge H rfl (t := 33) (by decide)).trans (if_c
 (U1 rfl (T1 (x_iload_n H rfl rfl) rfl
 (x_ireturn H rfl rfl)))
 (U1 rfl (T1 (x_aload_n H rfl rfl) rfl
 ((x_getR H rfl).trans (gfQ_c rfl fun b2 =>
 U1 rfl (T1 (x_iload_n H rfl rfl) rfl
 ((x_aaload H rfl).trans (ldQ_c rfl fun b3 =>
 U1 rfl ((x_callZ (ci := 6) H rfl [] rfl rfl rfl rfl).trans (isO_c (bi_c fun q4 => rI_c fun v6 h5 =>
 U1 rfl ((x_if_eq H rfl (t := 27) (by decide)).trans (if_c
 (U2 [some (.ref a0), some (.int x1), some (.int x2)] rfl rfl)
 (U1 rfl (T2 [some (.ref a0), some (.int (x1 + 1)), some (.int x2)] (x_iinc H rfl ki_1 rfl rfl) rfl rfl)))))))))))))))))))
theorem nd_103_27 {c : Ct} {dd : Bool} {ρ : Kt} (H : St c dd mt_103 ρ) (h : AH) (a0 : Nat) (x1 : Int32) (x2 : Int32) : ρ 27 [some (.ref a0), some (.int x1), some (.int x2)] [] h = ρ 4 [some (.ref a0), some (.int x1), some (.int (x2 + 1))] [] h :=
 T2 [some (.ref a0), some (.int x1), some (.int (x2 + 1))] (x_iinc H rfl ki_1 rfl rfl) rfl
 (T2 [some (.ref a0), some (.int x1), some (.int (x2 + 1))] (x_goto H rfl (t := 4) (by decide)) rfl rfl)
-- X7_countUnlikeMachines ()I: 104
theorem nd_104_0 {c : Ct} {dd : Bool} {ρ : Kt} (H : St c dd mt_104 ρ) (h : AH) (a0 : Nat) : ρ 0 [some (.ref a0), none, none] [] h = gfI h a0 7 15 fun v1 => if v1 = (-4) then (ρ 13 [some (.ref a0), some (.int 0), some (.int 0)] [] h) else (ρ 43 [some (.ref a0), none, none] [] h) :=
 T1 (x_aload_n H rfl rfl) rfl
 ((x_getI H rfl).trans (gfI_c fun v1 =>
 U1 rfl (T1 (x_bipush H rfl kb_m4) rfl
 ((x_icmp_ne H rfl (t := 43) (by decide)).trans (if_c
 (U1 rfl (T1 (x_iconst H rfl ki_0) rfl
 (T2 [some (.ref a0), some (.int 0), none] (x_istore_n H rfl rfl) rfl
 (T1 (x_iconst H rfl ki_0) rfl
 (T2 [some (.ref a0), some (.int 0), some (.int 0)] (x_istore_n H rfl rfl) rfl rfl)))))
 (U2 [some (.ref a0), none, none] rfl rfl))))))
theorem nd_104_13 {c : Ct} {dd : Bool} {ρ : Kt} (H : St c dd mt_104 ρ) (h : AH) (a0 : Nat) (x1 : Int32) (x2 : Int32) : ρ 13 [some (.ref a0), some (.int x1), some (.int x2)] [] h = gfI h a0 7 2 fun v1 => if v1 ≤ x2 then (pfV h a0 7 15 (.int x1) fun h2 => ρ 43 [some (.ref a0), none, none] [] h2) else (isO h a0 7 ((c 105 [.ref a0, .int x2] h).bind fun q3 => rI q3 fun v5 h4 => if v5 = 0 then (ρ 32 [some (.ref a0), some (.int (x1 + 1)), some (.int x2)] [] h4) else (ρ 32 [some (.ref a0), some (.int x1), some (.int x2)] [] h4))) :=
 T1 (x_iload_n H rfl rfl) rfl
 (T1 (x_aload_n H rfl rfl) rfl
 ((x_getI H rfl).trans (gfI_c fun v1 =>
 U1 rfl ((x_icmp_ge H rfl (t := 38) (by decide)).trans (if_c
 (U1 rfl (T1 (x_aload_n H rfl rfl) rfl
 (T1 (x_iload_n H rfl rfl) rfl
 ((x_putI H rfl).trans (pfV_c fun h2 =>
 U2 [some (.ref a0), none, none] rfl rfl)))))
 (U1 rfl (T1 (x_aload_n H rfl rfl) rfl
 (T1 (x_iload_n H rfl rfl) rfl
 ((x_callZ (ci := 7) H rfl [.int x2] rfl rfl rfl rfl).trans (isO_c (bi_c fun q3 => rI_c fun v5 h4 =>
 U1 rfl ((x_if_ne H rfl (t := 32) (by decide)).trans (if_c
 (U1 rfl (T2 [some (.ref a0), some (.int (x1 + 1)), some (.int x2)] (x_iinc H rfl ki_1 rfl rfl) rfl rfl))
 (U2 [some (.ref a0), some (.int x1), some (.int x2)] rfl rfl))))))))))))))
theorem nd_104_43 {c : Ct} {dd : Bool} {ρ : Kt} (H : St c dd mt_104 ρ) (h : AH) (a0 : Nat) : ρ 43 [some (.ref a0), none, none] [] h = gfI h a0 7 15 fun v1 => some (some (.int v1), h) :=
 T1 (x_aload_n H rfl rfl) rfl
 ((x_getI H rfl).trans (gfI_c fun v1 =>
 U1 rfl (x_ireturn H rfl rfl)))
theorem nd_104_32 {c : Ct} {dd : Bool} {ρ : Kt} (H : St c dd mt_104 ρ) (h : AH) (a0 : Nat) (x1 : Int32) (x2 : Int32) : ρ 32 [some (.ref a0), some (.int x1), some (.int x2)] [] h = ρ 13 [some (.ref a0), some (.int x1), some (.int (x2 + 1))] [] h :=
 T2 [some (.ref a0), some (.int x1), some (.int (x2 + 1))] (x_iinc H rfl ki_1 rfl rfl) rfl
 (T2 [some (.ref a0), some (.int x1), some (.int (x2 + 1))] (x_goto H rfl (t := 13) (by decide)) rfl rfl)
-- X7_isAsEarlierOne (I)Z: 105
theorem nd_105_0 {c : Ct} {dd : Bool} {ρ : Kt} (H : St c dd mt_105 ρ) (h : AH) (a0 : Nat) (x1 : Int32) : ρ 0 [some (.ref a0), some (.int x1), none] [] h = ρ 2 [some (.ref a0), some (.int x1), some (.int 0)] [] h :=
 T1 (x_iconst H rfl ki_0) rfl
 (T2 [some (.ref a0), some (.int x1), some (.int 0)] (x_istore_n H rfl rfl) rfl rfl)
theorem nd_105_2 {c : Ct} {dd : Bool} {ρ : Kt} (H : St c dd mt_105 ρ) (h : AH) (a0 : Nat) (x1 : Int32) (x2 : Int32) : ρ 2 [some (.ref a0), some (.int x1), some (.int x2)] [] h = if x1 ≤ x2 then (isZ 0 (some (some (.int 0), h))) else (gfQ h a0 7 9 none fun b1 => gfQ h a0 7 1 none fun b2 => ldQ h b2 x2 none fun b3 => gfQ h a0 7 1 none fun b4 => ldQ h b4 x1 none fun b5 => isO h b1 5 ((c 41 [.ref b1, .ref b3, .ref b5, .int 1] h).bind fun q6 => rI q6 fun v8 h7 => if v8 = (-4) then (isZ 1 (some (some (.int 1), h7))) else (ρ 2 [some (.ref a0), some (.int x1), some (.int (x2 + 1))] [] h7))) :=
 T1 (x_iload_n H rfl rfl) rfl
 (T1 (x_iload_n H rfl rfl) rfl
 ((x_icmp_ge H rfl (t := 40) (by decide)).trans (if_c
 (U1 rfl (T1 (x_iconst H rfl ki_0) rfl
 (x_zreturn H rfl rfl)))
 (U1 rfl (T1 (x_aload_n H rfl rfl) rfl
 ((x_getR H rfl).trans (gfQ_c rfl fun b1 =>
 U1 rfl (T1 (x_aload_n H rfl rfl) rfl
 ((x_getR H rfl).trans (gfQ_c rfl fun b2 =>
 U1 rfl (T1 (x_iload_n H rfl rfl) rfl
 ((x_aaload H rfl).trans (ldQ_c rfl fun b3 =>
 U1 rfl (T1 (x_aload_n H rfl rfl) rfl
 ((x_getR H rfl).trans (gfQ_c rfl fun b4 =>
 U1 rfl (T1 (x_iload_n H rfl rfl) rfl
 ((x_aaload H rfl).trans (ldQ_c rfl fun b5 =>
 U1 rfl (T1 (x_iconst H rfl ki_1) rfl
 ((x_callI (ci := 5) H rfl [.ref b3, .ref b5, .int 1] rfl rfl rfl rfl).trans (isO_c (bi_c fun q6 => rI_c fun v8 h7 =>
 U1 rfl (T1 (x_bipush H rfl kb_m4) rfl
 ((x_icmp_ne H rfl (t := 34) (by decide)).trans (if_c
 (U1 rfl (T1 (x_iconst H rfl ki_1) rfl
 (x_zreturn H rfl rfl)))
 (U1 rfl (T2 [some (.ref a0), some (.int x1), some (.int (x2 + 1))] (x_iinc H rfl ki_1 rfl rfl) rfl
 (T2 [some (.ref a0), some (.int x1), some (.int (x2 + 1))] (x_goto H rfl (t := 2) (by decide)) rfl rfl)))))))))))))))))))))))))))))
