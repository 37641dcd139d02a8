/-! ===== node equations: what each method does from a node to the next ===== -/
set_option maxHeartbeats 400000
set_option maxRecDepth 100000
-- X5_init ()V: 39
theorem nd_39_0 {c : Ct} {dd : Bool} {ρ : Kt} (H : St c dd mt_39 ρ) (hd : dd = true) (h : AH) (a0 : Nat) : ρ 0 [some (.ref a0)] [] h = pfV (hN h (aI 0 4320 fun _ => 0) 4320) a0 5 0 (.ref h.2.1) fun h1 => pfV (hN h1 (aI 0 1872 fun _ => 0) 1872) a0 5 1 (.ref h1.2.1) fun h2 => pfV (hN h2 (aI 0 1872 fun _ => 0) 1872) a0 5 2 (.ref h2.2.1) fun h3 => pfV (hN h3 (aI 0 1872 fun _ => 0) 1872) a0 5 3 (.ref h3.2.1) fun h4 => pfV h4 a0 5 4 (.int 0) fun h5 => pfV h5 a0 5 5 (.int 0) fun h6 => pfV h6 a0 5 6 (.int 0) fun h7 => pfV h7 a0 5 7 (.int 0) fun h8 => pfV (hN h8 (aI 0 4 fun _ => 0) 4) a0 5 8 (.ref h8.2.1) fun h9 => pfV (hN h9 (aI 0 5 fun _ => 0) 5) a0 5 9 (.ref h9.2.1) fun h10 => pfV (hN h10 (aI 0 5 fun _ => 0) 5) a0 5 10 (.ref h10.2.1) fun h11 => pfV (hN h11 (aI 0 5 fun _ => 0) 5) a0 5 11 (.ref h11.2.1) fun h12 => pfV (hN h12 (aI 0 4 fun _ => 0) 4) a0 5 12 (.ref h12.2.1) fun h13 => pfV (hN h13 (aI 0 4 fun _ => 0) 4) a0 5 13 (.ref h13.2.1) fun h14 => pfV (hN h14 (aI 1 30 fun _ => 0) 30) a0 5 14 (.ref h14.2.1) fun h15 => pfV (hN h15 (aI 0 450 fun _ => 0) 450) a0 5 15 (.ref h15.2.1) fun h16 => (c 27 [.ref h16.2.1] (hN h16 (oB 3 (dfl 3)) (dfl 3).length)).bind fun q17 => rV q17 fun h18 => pfV h18 a0 5 16 (.ref h16.2.1) fun h19 => (c 27 [.ref h19.2.1] (hN h19 (oB 3 (dfl 3)) (dfl 3).length)).bind fun q20 => rV q20 fun h21 => pfV h21 a0 5 17 (.ref h19.2.1) fun h22 => some (none, h22) :=
 T1 (x_aload_n H rfl rfl) rfl
 (T1 (x_oinit H rfl (by rw [hd]; rfl)) rfl
 (T1 (x_aload_n H rfl rfl) rfl
 (T1 (x_sipush H rfl ks_4320) rfl
 (T1 (x_newi H rfl (by decide) (by decide)) rfl
 ((x_putR H rfl).trans (pfV_c fun h1 =>
 U1 rfl (T1 (x_aload_n H rfl rfl) rfl
 (T1 (x_sipush H rfl ks_1872) rfl
 (T1 (x_newi H rfl (by decide) (by decide)) rfl
 ((x_putR H rfl).trans (pfV_c fun h2 =>
 U1 rfl (T1 (x_aload_n H rfl rfl) rfl
 (T1 (x_sipush H rfl ks_1872) rfl
 (T1 (x_newi H rfl (by decide) (by decide)) rfl
 ((x_putR H rfl).trans (pfV_c fun h3 =>
 U1 rfl (T1 (x_aload_n H rfl rfl) rfl
 (T1 (x_sipush H rfl ks_1872) rfl
 (T1 (x_newi H rfl (by decide) (by decide)) rfl
 ((x_putR H rfl).trans (pfV_c fun h4 =>
 U1 rfl (T1 (x_aload_n H rfl rfl) rfl
 (T1 (x_iconst H rfl ki_0) rfl
 ((x_putI H rfl).trans (pfV_c fun h5 =>
 U1 rfl (T1 (x_aload_n H rfl rfl) rfl
 (T1 (x_iconst H rfl ki_0) rfl
 ((x_putI H rfl).trans (pfV_c fun h6 =>
 U1 rfl (T1 (x_aload_n H rfl rfl) rfl
 (T1 (x_iconst H rfl ki_0) rfl
 ((x_putI H rfl).trans (pfV_c fun h7 =>
 U1 rfl (T1 (x_aload_n H rfl rfl) rfl
 (T1 (x_iconst H rfl ki_0) rfl
 ((x_putI H rfl).trans (pfV_c fun h8 =>
 U1 rfl (T1 (x_aload_n H rfl rfl) rfl
 (T1 (x_iconst H rfl ki_4) rfl
 (T1 (x_newi H rfl (by decide) (by decide)) rfl
 ((x_putR H rfl).trans (pfV_c fun h9 =>
 U1 rfl (T1 (x_aload_n H rfl rfl) rfl
 (T1 (x_iconst H rfl ki_5) rfl
 (T1 (x_newi H rfl (by decide) (by decide)) rfl
 ((x_putR H rfl).trans (pfV_c fun h10 =>
 U1 rfl (T1 (x_aload_n H rfl rfl) rfl
 (T1 (x_iconst H rfl ki_5) rfl
 (T1 (x_newi H rfl (by decide) (by decide)) rfl
 ((x_putR H rfl).trans (pfV_c fun h11 =>
 U1 rfl (T1 (x_aload_n H rfl rfl) rfl
 (T1 (x_iconst H rfl ki_5) rfl
 (T1 (x_newi H rfl (by decide) (by decide)) rfl
 ((x_putR H rfl).trans (pfV_c fun h12 =>
 U1 rfl (T1 (x_aload_n H rfl rfl) rfl
 (T1 (x_iconst H rfl ki_4) rfl
 (T1 (x_newi H rfl (by decide) (by decide)) rfl
 ((x_putR H rfl).trans (pfV_c fun h13 =>
 U1 rfl (T1 (x_aload_n H rfl rfl) rfl
 (T1 (x_iconst H rfl ki_4) rfl
 (T1 (x_newi H rfl (by decide) (by decide)) rfl
 ((x_putR H rfl).trans (pfV_c fun h14 =>
 U1 rfl (T1 (x_aload_n H rfl rfl) rfl
 (T1 (x_bipush H rfl kb_30) rfl
 (T1 (x_newz H rfl (by decide) (by decide)) rfl
 ((x_putR H rfl).trans (pfV_c fun h15 =>
 U1 rfl (T1 (x_aload_n H rfl rfl) rfl
 (T1 (x_sipush H rfl ks_450) rfl
 (T1 (x_newi H rfl (by decide) (by decide)) rfl
 ((x_putR H rfl).trans (pfV_c fun h16 =>
 U1 rfl (T1 (x_aload_n H rfl rfl) rfl
 (T1 (x_new H rfl) rfl
 (T1 (x_dup H rfl) rfl
 ((x_init H rfl [] rfl rfl rfl rfl).trans (bi_c fun q17 => rV_c fun h18 =>
 U1 rfl ((x_putR H rfl).trans (pfV_c fun h19 =>
 U1 rfl (T1 (x_aload_n H rfl rfl) rfl
 (T1 (x_new H rfl) rfl
 (T1 (x_dup H rfl) rfl
 ((x_init H rfl [] rfl rfl rfl rfl).trans (bi_c fun q20 => rV_c fun h21 =>
 U1 rfl ((x_putR H rfl).trans (pfV_c fun h22 =>
 U1 rfl (x_return H rfl rfl))))))))))))))))))))))))))))))))))))))))))))))))))))))))))))))))))))))))))))))))))))))))))))
-- X5_patternOf (II)I: 40
theorem nd_40_0 {c : Ct} {dd : Bool} {ρ : Kt} (H : St c dd mt_40 ρ) (h : AH) (x0 : Int32) (x1 : Int32) : ρ 0 [some (.int x0), some (.int x1)] [] h = some (some (.int ((x0 * 3) + x1)), h) :=
 T1 (x_iload_n H rfl rfl) rfl
 (T1 (x_iconst H rfl ki_3) rfl
 (T1 (x_imul H rfl) rfl
 (T1 (x_iload_n H rfl rfl) rfl
 (T1 (x_iadd H rfl) rfl
 (x_ireturn H rfl rfl)))))
-- X5_explore (LNameRows$Machine;LNameRows$Machine;I)I: 41
theorem nd_41_0 {c : Ct} {dd : Bool} {ρ : Kt} (H : St c dd mt_41 ρ) (h : AH) (a0 : Nat) (a1 : Nat) (a2 : Nat) (x3 : Int32) : ρ 0 [some (.ref a0), some (.ref a1), some (.ref a2), some (.int x3), none, none] [] h = isO h a0 5 ((c 42 [.ref a0] h).bind fun q1 => rV q1 fun h2 => isO h2 a0 5 ((c 43 [.ref a0, .int 0, .int (-4), .int (-4)] h2).bind fun q3 => rV q3 fun h4 => ρ 16 [some (.ref a0), some (.ref a1), some (.ref a2), some (.int x3), some (.int 0), none] [] h4)) :=
 T1 (x_aload_n H rfl rfl) rfl
 ((x_callV (ci := 5) H rfl [] rfl rfl rfl rfl).trans (isO_c (bi_c fun q1 => rV_c fun h2 =>
 U1 rfl (T1 (x_aload_n H rfl rfl) rfl
 (T1 (x_iconst H rfl ki_0) rfl
 (T1 (x_bipush H rfl kb_m4) rfl
 (T1 (x_bipush H rfl kb_m4) rfl
 ((x_callV (ci := 5) H rfl [.int 0, .int (-4), .int (-4)] rfl rfl rfl rfl).trans (isO_c (bi_c fun q3 => rV_c fun h4 =>
 U1 rfl (T1 (x_iconst H rfl ki_0) rfl
 (T2 [some (.ref a0), some (.ref a1), some (.ref a2), some (.int x3), some (.int 0), none] (x_istore H rfl rfl) rfl rfl))))))))))))
theorem nd_41_16 {c : Ct} {dd : Bool} {ρ : Kt} (H : St c dd mt_41 ρ) (h : AH) (a0 : Nat) (a1 : Nat) (a2 : Nat) (x3 : Int32) (x4 : Int32) : ρ 16 [some (.ref a0), some (.ref a1), some (.ref a2), some (.int x3), some (.int x4), none] [] h = gfI h a0 5 4 fun v1 => if v1 ≤ x4 then (ρ 103 [none, none, none, none, none, none] [] h) else (if 1872 ≤ x4 then (ρ 103 [none, none, none, none, none, none] [] h) else (isO h a0 5 ((c 45 [.ref a0, .int x4] h).bind fun q2 => rV q2 fun h3 => gfI h3 a0 5 5 fun v4 => isO h3 a1 0 ((c 7 [.ref a1, .int v4] h3).bind fun q5 => rI q5 fun v7 h6 => gfI h6 a0 5 6 fun v8 => isO h6 a2 0 ((c 7 [.ref a2, .int v8] h6).bind fun q9 => rI q9 fun v11 h10 => (c 44 [.int v7, .int v11, .int x3] h10).bind fun q12 => rI q12 fun v14 h13 => if v14 = 0 then (ρ 68 [some (.ref a0), some (.ref a1), some (.ref a2), some (.int x3), some (.int x4), some (.int 0)] [] h13) else (some (some (.int x4), h13))))))) :=
 T1 (x_iload H rfl rfl) rfl
 (T1 (x_aload_n H rfl rfl) rfl
 ((x_getI H rfl).trans (gfI_c fun v1 =>
 U1 rfl ((x_icmp_ge H rfl (t := 103) (by decide)).trans (if_c
 (U2 [none, none, none, none, none, none] rfl rfl)
 (U1 rfl (T1 (x_iload H rfl rfl) rfl
 (T1 (x_sipush H rfl ks_1872) rfl
 ((x_icmp_ge H rfl (t := 103) (by decide)).trans (if_c
 (U2 [none, none, none, none, none, none] rfl rfl)
 (U1 rfl (T1 (x_aload_n H rfl rfl) rfl
 (T1 (x_iload H rfl rfl) rfl
 ((x_callV (ci := 5) H rfl [.int x4] rfl rfl rfl rfl).trans (isO_c (bi_c fun q2 => rV_c fun h3 =>
 U1 rfl (T1 (x_aload_n H rfl rfl) rfl
 (T1 (x_aload_n H rfl rfl) rfl
 ((x_getI H rfl).trans (gfI_c fun v4 =>
 U1 rfl ((x_callZ (ci := 0) H rfl [.int v4] rfl rfl rfl rfl).trans (isO_c (bi_c fun q5 => rI_c fun v7 h6 =>
 U1 rfl (T1 (x_aload_n H rfl rfl) rfl
 (T1 (x_aload_n H rfl rfl) rfl
 ((x_getI H rfl).trans (gfI_c fun v8 =>
 U1 rfl ((x_callZ (ci := 0) H rfl [.int v8] rfl rfl rfl rfl).trans (isO_c (bi_c fun q9 => rI_c fun v11 h10 =>
 U1 rfl (T1 (x_iload_n H rfl rfl) rfl
 ((x_statZ H rfl [.int v7, .int v11, .int x3] rfl rfl rfl rfl rfl).trans (bi_c fun q12 => rI_c fun v14 h13 =>
 U1 rfl ((x_if_eq H rfl (t := 65) (by decide)).trans (if_c
 (U1 rfl (T1 (x_iconst H rfl ki_0) rfl
 (T2 [some (.ref a0), some (.ref a1), some (.ref a2), some (.int x3), some (.int x4), some (.int 0)] (x_istore H rfl rfl) rfl rfl)))
 (U1 rfl (T1 (x_iload H rfl rfl) rfl
 (x_ireturn H rfl rfl))))))))))))))))))))))))))))))))))))))
theorem nd_41_68 {c : Ct} {dd : Bool} {ρ : Kt} (H : St c dd mt_41 ρ) (h : AH) (a0 : Nat) (a1 : Nat) (a2 : Nat) (x3 : Int32) (x4 : Int32) (x5 : Int32) : ρ 68 [some (.ref a0), some (.ref a1), some (.ref a2), some (.int x3), some (.int x4), some (.int x5)] [] h = if 15 ≤ x5 then (ρ 16 [some (.ref a0), some (.ref a1), some (.ref a2), some (.int x3), some (.int (x4 + 1)), none] [] h) else (isO h a0 5 ((c 46 [.ref a0, .ref a1, .ref a2, .int x5] h).bind fun q1 => rI q1 fun v3 h2 => isO h2 a0 5 ((c 43 [.ref a0, .int v3, .int x4, .int x5] h2).bind fun q4 => rV q4 fun h5 => ρ 68 [some (.ref a0), some (.ref a1), some (.ref a2), some (.int x3), some (.int x4), some (.int (x5 + 1))] [] h5))) :=
 T1 (x_iload H rfl rfl) rfl
 (T1 (x_bipush H rfl kb_15) rfl
 ((x_icmp_ge H rfl (t := 97) (by decide)).trans (if_c
 (U1 rfl (T2 [some (.ref a0), some (.ref a1), some (.ref a2), some (.int x3), some (.int (x4 + 1)), some (.int x5)] (x_iinc H rfl ki_1 rfl rfl) rfl
 (T2 [some (.ref a0), some (.ref a1), some (.ref a2), some (.int x3), some (.int (x4 + 1)), none] (x_goto H rfl (t := 16) (by decide)) rfl rfl)))
 (U1 rfl (T1 (x_aload_n H rfl rfl) rfl
 (T1 (x_aload_n H rfl rfl) rfl
 (T1 (x_aload_n H rfl rfl) rfl
 (T1 (x_aload_n H rfl rfl) rfl
 (T1 (x_iload H rfl rfl) rfl
 ((x_callI (ci := 5) H rfl [.ref a1, .ref a2, .int x5] rfl rfl rfl rfl).trans (isO_c (bi_c fun q1 => rI_c fun v3 h2 =>
 U1 rfl (T1 (x_iload H rfl rfl) rfl
 (T1 (x_iload H rfl rfl) rfl
 ((x_callV (ci := 5) H rfl [.int v3, .int x4, .int x5] rfl rfl rfl rfl).trans (isO_c (bi_c fun q4 => rV_c fun h5 =>
 U1 rfl (T2 [some (.ref a0), some (.ref a1), some (.ref a2), some (.int x3), some (.int x4), some (.int (x5 + 1))] (x_iinc H rfl ki_1 rfl rfl) rfl
 (T2 [some (.ref a0), some (.ref a1), some (.ref a2), some (.int x3), some (.int x4), some (.int (x5 + 1))] (x_goto H rfl (t := 68) (by decide)) rfl rfl)))))))))))))))))))
theorem nd_41_103 {c : Ct} {dd : Bool} {ρ : Kt} (H : St c dd mt_41 ρ) (h : AH)  : ρ 103 [none, none, none, none, none, none] [] h = some (some (.int (-4)), h) :=
 T1 (x_bipush H rfl kb_m4) rfl
 (x_ireturn H rfl rfl)
-- X5_forget ()V: 42
theorem nd_42_0 {c : Ct} {dd : Bool} {ρ : Kt} (H : St c dd mt_42 ρ) (h : AH) (a0 : Nat) : ρ 0 [some (.ref a0), none] [] h = ρ 2 [some (.ref a0), some (.int 0)] [] h :=
 T1 (x_iconst H rfl ki_0) rfl
 (T2 [some (.ref a0), some (.int 0)] (x_istore_n H rfl rfl) rfl rfl)
theorem nd_42_2 {c : Ct} {dd : Bool} {ρ : Kt} (H : St c dd mt_42 ρ) (h : AH) (a0 : Nat) (x1 : Int32) : ρ 2 [some (.ref a0), some (.int x1)] [] h = gfI h a0 5 4 fun v1 => if v1 ≤ x1 then (pfV h a0 5 4 (.int 0) fun h2 => some (none, h2)) else (gfQ h a0 5 0 none fun b3 => gfQ h a0 5 1 none fun b4 => ldI h b4 x1 fun v5 => stI h b3 v5 0 fun h6 => ρ 2 [some (.ref a0), some (.int (x1 + 1))] [] h6) :=
 T1 (x_iload_n H rfl rfl) rfl
 (T1 (x_aload_n H rfl rfl) rfl
 ((x_getI H rfl).trans (gfI_c fun v1 =>
 U1 rfl ((x_icmp_ge H rfl (t := 28) (by decide)).trans (if_c
 (U1 rfl (T1 (x_aload_n H rfl rfl) rfl
 (T1 (x_iconst H rfl ki_0) rfl
 ((x_putI H rfl).trans (pfV_c fun h2 =>
 U1 rfl (x_return H rfl rfl))))))
 (U1 rfl (T1 (x_aload_n H rfl rfl) rfl
 ((x_getR H rfl).trans (gfQ_c rfl fun b3 =>
 U1 rfl (T1 (x_aload_n H rfl rfl) rfl
 ((x_getR H rfl).trans (gfQ_c rfl fun b4 =>
 U1 rfl (T1 (x_iload_n H rfl rfl) rfl
 ((x_iaload H rfl).trans (ldI_c fun v5 =>
 U1 rfl (T1 (x_iconst H rfl ki_0) rfl
 ((x_iastore H rfl).trans (stI_c fun h6 =>
 U1 rfl (T2 [some (.ref a0), some (.int (x1 + 1))] (x_iinc H rfl ki_1 rfl rfl) rfl
 (T2 [some (.ref a0), some (.int (x1 + 1))] (x_goto H rfl (t := 2) (by decide)) rfl rfl))))))))))))))))))))
-- X5_meet (III)V: 43
theorem nd_43_0 {c : Ct} {dd : Bool} {ρ : Kt} (H : St c dd mt_43 ρ) (h : AH) (a0 : Nat) (x1 : Int32) (x2 : Int32) (x3 : Int32) : ρ 0 [some (.ref a0), some (.int x1), some (.int x2), some (.int x3)] [] h = if x1 < 0 then (ρ 30 [none, none, none, none] [] h) else (if 4320 ≤ x1 then (ρ 30 [none, none, none, none] [] h) else (gfI h a0 5 4 fun v1 => if 1872 ≤ v1 then (ρ 30 [none, none, none, none] [] h) else (gfQ h a0 5 0 none fun b2 => ldI h b2 x1 fun v3 => if v3 = 0 then (gfQ h a0 5 1 none fun b4 => gfI h a0 5 4 fun v5 => stI h b4 v5 x1 fun h6 => gfQ h6 a0 5 2 none fun b7 => gfI h6 a0 5 4 fun v8 => stI h6 b7 v8 x2 fun h9 => gfQ h9 a0 5 3 none fun b10 => gfI h9 a0 5 4 fun v11 => stI h9 b10 v11 x3 fun h12 => gfI h12 a0 5 4 fun v13 => pfV h12 a0 5 4 (.int (v13 + 1)) fun h14 => gfQ h14 a0 5 0 none fun b15 => gfI h14 a0 5 4 fun v16 => stI h14 b15 x1 v16 fun h17 => some (none, h17)) else (ρ 30 [none, none, none, none] [] h)))) :=
 T1 (x_iload_n H rfl rfl) rfl
 ((x_if_lt H rfl (t := 30) (by decide)).trans (if_c
 (U2 [none, none, none, none] rfl rfl)
 (U1 rfl (T1 (x_iload_n H rfl rfl) rfl
 (T1 (x_sipush H rfl ks_4320) rfl
 ((x_icmp_ge H rfl (t := 30) (by decide)).trans (if_c
 (U2 [none, none, none, none] rfl rfl)
 (U1 rfl (T1 (x_aload_n H rfl rfl) rfl
 ((x_getI H rfl).trans (gfI_c fun v1 =>
 U1 rfl (T1 (x_sipush H rfl ks_1872) rfl
 ((x_icmp_ge H rfl (t := 30) (by decide)).trans (if_c
 (U2 [none, none, none, none] rfl rfl)
 (U1 rfl (T1 (x_aload_n H rfl rfl) rfl
 ((x_getR H rfl).trans (gfQ_c rfl fun b2 =>
 U1 rfl (T1 (x_iload_n H rfl rfl) rfl
 ((x_iaload H rfl).trans (ldI_c fun v3 =>
 U1 rfl ((x_if_eq H rfl (t := 31) (by decide)).trans (if_c
 (U1 rfl (T1 (x_aload_n H rfl rfl) rfl
 ((x_getR H rfl).trans (gfQ_c rfl fun b4 =>
 U1 rfl (T1 (x_aload_n H rfl rfl) rfl
 ((x_getI H rfl).trans (gfI_c fun v5 =>
 U1 rfl (T1 (x_iload_n H rfl rfl) rfl
 ((x_iastore H rfl).trans (stI_c fun h6 =>
 U1 rfl (T1 (x_aload_n H rfl rfl) rfl
 ((x_getR H rfl).trans (gfQ_c rfl fun b7 =>
 U1 rfl (T1 (x_aload_n H rfl rfl) rfl
 ((x_getI H rfl).trans (gfI_c fun v8 =>
 U1 rfl (T1 (x_iload_n H rfl rfl) rfl
 ((x_iastore H rfl).trans (stI_c fun h9 =>
 U1 rfl (T1 (x_aload_n H rfl rfl) rfl
 ((x_getR H rfl).trans (gfQ_c rfl fun b10 =>
 U1 rfl (T1 (x_aload_n H rfl rfl) rfl
 ((x_getI H rfl).trans (gfI_c fun v11 =>
 U1 rfl (T1 (x_iload_n H rfl rfl) rfl
 ((x_iastore H rfl).trans (stI_c fun h12 =>
 U1 rfl (T1 (x_aload_n H rfl rfl) rfl
 (T1 (x_dup H rfl) rfl
 ((x_getI H rfl).trans (gfI_c fun v13 =>
 U1 rfl (T1 (x_iconst H rfl ki_1) rfl
 (T1 (x_iadd H rfl) rfl
 ((x_putI H rfl).trans (pfV_c fun h14 =>
 U1 rfl (T1 (x_aload_n H rfl rfl) rfl
 ((x_getR H rfl).trans (gfQ_c rfl fun b15 =>
 U1 rfl (T1 (x_iload_n H rfl rfl) rfl
 (T1 (x_aload_n H rfl rfl) rfl
 ((x_getI H rfl).trans (gfI_c fun v16 =>
 U1 rfl ((x_iastore H rfl).trans (stI_c fun h17 =>
 U1 rfl (x_return H rfl rfl))))))))))))))))))))))))))))))))))))))))))))))
 (U2 [none, none, none, none] rfl rfl))))))))))))))))))))))))
theorem nd_43_30 {c : Ct} {dd : Bool} {ρ : Kt} (H : St c dd mt_43 ρ) (h : AH)  : ρ 30 [none, none, none, none] [] h = some (none, h) :=
 x_return H rfl rfl
-- X5_isWanted (ZZI)Z: 44
theorem nd_44_0 {c : Ct} {dd : Bool} {ρ : Kt} (H : St c dd mt_44 ρ) (h : AH) (x0 : Int32) (x1 : Int32) (x2 : Int32) : ρ 0 [some (.int x0), some (.int x1), some (.int x2)] [] h = if x2 = 1 then (if x0 = x1 then (ρ 15 [none, none, none] [.int 0] h) else (ρ 15 [none, none, none] [.int 1] h)) else (if x2 = 2 then (if x0 = 0 then (ρ 33 [none, none, none] [] h) else (if x1 = 0 then (ρ 34 [none, none, none] [.int 1] h) else (ρ 33 [none, none, none] [] h))) else (ρ 33 [none, none, none] [] h)) :=
 T1 (x_iload_n H rfl rfl) rfl
 (T1 (x_iconst H rfl ki_1) rfl
 ((x_icmp_ne H rfl (t := 16) (by decide)).trans (if_c
 (U1 rfl (T1 (x_iload_n H rfl rfl) rfl
 (T1 (x_iload_n H rfl rfl) rfl
 ((x_icmp_eq H rfl (t := 14) (by decide)).trans (if_c
 (U1 rfl (T2 [none, none, none] (x_iconst H rfl ki_0) rfl rfl))
 (U1 rfl (T1 (x_iconst H rfl ki_1) rfl
 (T2 [none, none, none] (x_goto H rfl (t := 15) (by decide)) rfl rfl))))))))
 (U1 rfl (T1 (x_iload_n H rfl rfl) rfl
 (T1 (x_iconst H rfl ki_2) rfl
 ((x_icmp_ne H rfl (t := 33) (by decide)).trans (if_c
 (U1 rfl (T1 (x_iload_n H rfl rfl) rfl
 ((x_if_eq H rfl (t := 33) (by decide)).trans (if_c
 (U2 [none, none, none] rfl rfl)
 (U1 rfl (T1 (x_iload_n H rfl rfl) rfl
 ((x_if_ne H rfl (t := 33) (by decide)).trans (if_c
 (U1 rfl (T1 (x_iconst H rfl ki_1) rfl
 (T2 [none, none, none] (x_goto H rfl (t := 34) (by decide)) rfl rfl)))
 (U2 [none, none, none] rfl rfl)))))))))
 (U2 [none, none, none] rfl rfl)))))))))
theorem nd_44_15 {c : Ct} {dd : Bool} {ρ : Kt} (H : St c dd mt_44 ρ) (h : AH) (s0_ : Int32) : ρ 15 [none, none, none] [.int s0_] h = isZ s0_ (some (some (.int s0_), h)) :=
 x_zreturn H rfl rfl
theorem nd_44_33 {c : Ct} {dd : Bool} {ρ : Kt} (H : St c dd mt_44 ρ) (h : AH)  : ρ 33 [none, none, none] [] h = ρ 34 [none, none, none] [.int 0] h :=
 T2 [none, none, none] (x_iconst H rfl ki_0) rfl rfl
theorem nd_44_34 {c : Ct} {dd : Bool} {ρ : Kt} (H : St c dd mt_44 ρ) (h : AH) (s0_ : Int32) : ρ 34 [none, none, none] [.int s0_] h = isZ s0_ (some (some (.int s0_), h)) :=
 x_zreturn H rfl rfl
-- X5_lookAt (I)V: 45
theorem nd_45_0 {c : Ct} {dd : Bool} {ρ : Kt} (H : St c dd mt_45 ρ) (h : AH) (a0 : Nat) (x1 : Int32) : ρ 0 [some (.ref a0), some (.int x1), none, none] [] h = gfQ h a0 5 1 none fun b1 => ldI h b1 x1 fun v2 => pfV h a0 5 7 (.int (v2 - v2 / 120 * 120)) fun h3 => ρ 17 [some (.ref a0), none, some (.int v2), some (.int 3)] [] h3 :=
 T1 (x_aload_n H rfl rfl) rfl
 ((x_getR H rfl).trans (gfQ_c rfl fun b1 =>
 U1 rfl (T1 (x_iload_n H rfl rfl) rfl
 ((x_iaload H rfl).trans (ldI_c fun v2 =>
 U1 rfl (T2 [some (.ref a0), some (.int x1), some (.int v2), none] (x_istore_n H rfl rfl) rfl
 (T1 (x_aload_n H rfl rfl) rfl
 (T1 (x_iload_n H rfl rfl) rfl
 (T1 (x_bipush H rfl kb_120) rfl
 (T1 (x_irem H rfl (by decide)) rfl
 ((x_putI H rfl).trans (pfV_c fun h3 =>
 U1 rfl (T1 (x_iconst H rfl ki_3) rfl
 (T2 [some (.ref a0), none, some (.int v2), some (.int 3)] (x_istore_n H rfl rfl) rfl rfl))))))))))))))
theorem nd_45_17 {c : Ct} {dd : Bool} {ρ : Kt} (H : St c dd mt_45 ρ) (h : AH) (a0 : Nat) (x2 : Int32) (x3 : Int32) : ρ 17 [some (.ref a0), none, some (.int x2), some (.int x3)] [] h = if x3 < 0 then (pfV h a0 5 5 (.int (x2 / 6)) fun h1 => pfV h1 a0 5 6 (.int (x2 - x2 / 6 * 6)) fun h2 => ρ 62 [some (.ref a0), none, none, some (.int 0)] [] h2) else (gfQ h a0 5 8 none fun b3 => if (x3 + 2) = 0 then none else (stI h b3 x3 (x2 - x2 / (x3 + 2) * (x3 + 2)) fun h4 => if (x3 + 2) = 0 then none else (ρ 17 [some (.ref a0), none, some (.int (x2 / (x3 + 2))), some (.int (x3 + (-1)))] [] h4))) :=
 T1 (x_iload_n H rfl rfl) rfl
 ((x_if_lt H rfl (t := 44) (by decide)).trans (if_c
 (U1 rfl (T1 (x_aload_n H rfl rfl) rfl
 (T1 (x_iload_n H rfl rfl) rfl
 (T1 (x_bipush H rfl kb_6) rfl
 (T1 (x_idiv H rfl (by decide)) rfl
 ((x_putI H rfl).trans (pfV_c fun h1 =>
 U1 rfl (T1 (x_aload_n H rfl rfl) rfl
 (T1 (x_iload_n H rfl rfl) rfl
 (T1 (x_bipush H rfl kb_6) rfl
 (T1 (x_irem H rfl (by decide)) rfl
 ((x_putI H rfl).trans (pfV_c fun h2 =>
 U1 rfl (T1 (x_iconst H rfl ki_0) rfl
 (T2 [some (.ref a0), none, none, some (.int 0)] (x_istore_n H rfl rfl) rfl rfl)))))))))))))))
 (U1 rfl (T1 (x_aload_n H rfl rfl) rfl
 ((x_getR H rfl).trans (gfQ_c rfl fun b3 =>
 U1 rfl (T1 (x_iload_n H rfl rfl) rfl
 (T1 (x_iload_n H rfl rfl) rfl
 (T1 (x_iload_n H rfl rfl) rfl
 (T1 (x_iconst H rfl ki_2) rfl
 (T1 (x_iadd H rfl) rfl
 ((x_iremC H rfl).trans (if_c rfl
 (U1 rfl ((x_iastore H rfl).trans (stI_c fun h4 =>
 U1 rfl (T1 (x_iload_n H rfl rfl) rfl
 (T1 (x_iload_n H rfl rfl) rfl
 (T1 (x_iconst H rfl ki_2) rfl
 (T1 (x_iadd H rfl) rfl
 ((x_idivC H rfl).trans (if_c rfl
 (U1 rfl (T2 [some (.ref a0), none, some (.int (x2 / (x3 + 2))), some (.int x3)] (x_istore_n H rfl rfl) rfl
 (T2 [some (.ref a0), none, some (.int (x2 / (x3 + 2))), some (.int (x3 + (-1)))] (x_iinc H rfl ki_m1 rfl rfl) rfl
 (T2 [some (.ref a0), none, some (.int (x2 / (x3 + 2))), some (.int (x3 + (-1)))] (x_goto H rfl (t := 17) (by decide)) rfl rfl))))))))))))))))))))))))))
theorem nd_45_62 {c : Ct} {dd : Bool} {ρ : Kt} (H : St c dd mt_45 ρ) (h : AH) (a0 : Nat) (x3 : Int32) : ρ 62 [some (.ref a0), none, none, some (.int x3)] [] h = if 5 ≤ x3 then (some (none, h)) else (gfQ h a0 5 9 none fun b1 => isO h a0 5 ((c 47 [.ref a0, .int x3] h).bind fun q2 => rI q2 fun v4 h3 => stI h3 b1 x3 v4 fun h5 => gfQ h5 a0 5 10 none fun b6 => gfQ h5 a0 5 9 none fun b7 => ldI h5 b7 x3 fun v8 => isO h5 a0 5 ((c 48 [.ref a0, .int v8, .int 0] h5).bind fun q9 => rI q9 fun v11 h10 => stI h10 b6 x3 v11 fun h12 => gfQ h12 a0 5 11 none fun b13 => gfQ h12 a0 5 9 none fun b14 => ldI h12 b14 x3 fun v15 => isO h12 a0 5 ((c 48 [.ref a0, .int v15, .int 2] h12).bind fun q16 => rI q16 fun v18 h17 => stI h17 b13 x3 v18 fun h19 => ρ 62 [some (.ref a0), none, none, some (.int (x3 + 1))] [] h19)))) :=
 T1 (x_iload_n H rfl rfl) rfl
 (T1 (x_iconst H rfl ki_5) rfl
 ((x_icmp_ge H rfl (t := 118) (by decide)).trans (if_c
 (U1 rfl (x_return H rfl rfl))
 (U1 rfl (T1 (x_aload_n H rfl rfl) rfl
 ((x_getR H rfl).trans (gfQ_c rfl fun b1 =>
 U1 rfl (T1 (x_iload_n H rfl rfl) rfl
 (T1 (x_aload_n H rfl rfl) rfl
 (T1 (x_iload_n H rfl rfl) rfl
 ((x_callI (ci := 5) H rfl [.int x3] rfl rfl rfl rfl).trans (isO_c (bi_c fun q2 => rI_c fun v4 h3 =>
 U1 rfl ((x_iastore H rfl).trans (stI_c fun h5 =>
 U1 rfl (T1 (x_aload_n H rfl rfl) rfl
 ((x_getR H rfl).trans (gfQ_c rfl fun b6 =>
 U1 rfl (T1 (x_iload_n H rfl rfl) rfl
 (T1 (x_aload_n H rfl rfl) rfl
 (T1 (x_aload_n H rfl rfl) rfl
 ((x_getR H rfl).trans (gfQ_c rfl fun b7 =>
 U1 rfl (T1 (x_iload_n H rfl rfl) rfl
 ((x_iaload H rfl).trans (ldI_c fun v8 =>
 U1 rfl (T1 (x_iconst H rfl ki_0) rfl
 ((x_callI (ci := 5) H rfl [.int v8, .int 0] rfl rfl rfl rfl).trans (isO_c (bi_c fun q9 => rI_c fun v11 h10 =>
 U1 rfl ((x_iastore H rfl).trans (stI_c fun h12 =>
 U1 rfl (T1 (x_aload_n H rfl rfl) rfl
 ((x_getR H rfl).trans (gfQ_c rfl fun b13 =>
 U1 rfl (T1 (x_iload_n H rfl rfl) rfl
 (T1 (x_aload_n H rfl rfl) rfl
 (T1 (x_aload_n H rfl rfl) rfl
 ((x_getR H rfl).trans (gfQ_c rfl fun b14 =>
 U1 rfl (T1 (x_iload_n H rfl rfl) rfl
 ((x_iaload H rfl).trans (ldI_c fun v15 =>
 U1 rfl (T1 (x_iconst H rfl ki_2) rfl
 ((x_callI (ci := 5) H rfl [.int v15, .int 2] rfl rfl rfl rfl).trans (isO_c (bi_c fun q16 => rI_c fun v18 h17 =>
 U1 rfl ((x_iastore H rfl).trans (stI_c fun h19 =>
 U1 rfl (T2 [some (.ref a0), none, none, some (.int (x3 + 1))] (x_iinc H rfl ki_1 rfl rfl) rfl
 (T2 [some (.ref a0), none, none, some (.int (x3 + 1))] (x_goto H rfl (t := 62) (by decide)) rfl rfl)))))))))))))))))))))))))))))))))))))))))))))))))))
-- X5_codeBehind (LNameRows$Machine;LNameRows$Machine;I)I: 46
theorem nd_46_0 {c : Ct} {dd : Bool} {ρ : Kt} (H : St c dd mt_46 ρ) (h : AH) (a0 : Nat) (a1 : Nat) (a2 : Nat) (x3 : Int32) : ρ 0 [some (.ref a0), some (.ref a1), some (.ref a2), some (.int x3), none, none, none, none, none] [] h = if (x3 - x3 / 5 * 5) < 0 then (ρ 25 [none, none, none, none, none, none, none, none, none] [] h) else (gfQ h a0 5 9 none fun b1 => ldI h b1 (x3 - x3 / 5 * 5) fun v2 => if v2 = 0 then (ρ 25 [none, none, none, none, none, none, none, none, none] [] h) else (gfI h a0 5 5 fun v3 => gfQ h a0 5 10 none fun b4 => ldI h b4 (x3 - x3 / 5 * 5) fun v5 => isO h a1 0 ((c 4 [.ref a1, .int v3, .int (x3 / 5), .int v5] h).bind fun q6 => rI q6 fun v8 h7 => gfI h7 a0 5 6 fun v9 => gfQ h7 a0 5 11 none fun b10 => ldI h7 b10 (x3 - x3 / 5 * 5) fun v11 => isO h7 a2 0 ((c 4 [.ref a2, .int v9, .int (x3 / 5), .int v11] h7).bind fun q12 => rI q12 fun v14 h13 => if v8 < 0 then (ρ 76 [none, none, none, none, none, none, none, none, none] [] h13) else (if 0 ≤ v14 then (gfQ h13 a1 0 0 none fun b15 => ldI h13 b15 v8 fun v16 => gfQ h13 a2 0 0 none fun b17 => ldI h13 b17 v14 fun v18 => gfQ h13 a0 5 9 none fun b19 => ldI h13 b19 (x3 - x3 / 5 * 5) fun v20 => gfQ h13 a1 0 1 none fun b21 => ldI h13 b21 v8 fun v22 => gfQ h13 a2 0 1 none fun b23 => ldI h13 b23 v14 fun v24 => isO h13 a0 5 ((c 49 [.ref a0, .int v20, .int v22, .int v24] h13).bind fun q25 => rI q25 fun v27 h26 => some (some (.int ((((v16 * 6) + v18) * 120) + v27)), h26))) else (ρ 76 [none, none, none, none, none, none, none, none, none] [] h13)))))) :=
 T1 (x_iload_n H rfl rfl) rfl
 (T1 (x_iconst H rfl ki_5) rfl
 (T1 (x_irem H rfl (by decide)) rfl
 (T2 [some (.ref a0), some (.ref a1), some (.ref a2), some (.int x3), some (.int (x3 - x3 / 5 * 5)), none, none, none, none] (x_istore H rfl rfl) rfl
 (T1 (x_iload_n H rfl rfl) rfl
 (T1 (x_iconst H rfl ki_5) rfl
 (T1 (x_idiv H rfl (by decide)) rfl
 (T2 [some (.ref a0), some (.ref a1), some (.ref a2), some (.int x3), some (.int (x3 - x3 / 5 * 5)), some (.int (x3 / 5)), none, none, none] (x_istore H rfl rfl) rfl
 (T1 (x_iload H rfl rfl) rfl
 ((x_if_lt H rfl (t := 25) (by decide)).trans (if_c
 (U2 [none, none, none, none, none, none, none, none, none] rfl rfl)
 (U1 rfl (T1 (x_aload_n H rfl rfl) rfl
 ((x_getR H rfl).trans (gfQ_c rfl fun b1 =>
 U1 rfl (T1 (x_iload H rfl rfl) rfl
 ((x_iaload H rfl).trans (ldI_c fun v2 =>
 U1 rfl ((x_if_ne H rfl (t := 28) (by decide)).trans (if_c
 (U2 [none, none, none, none, none, none, none, none, none] rfl rfl)
 (U1 rfl (T1 (x_aload_n H rfl rfl) rfl
 (T1 (x_aload_n H rfl rfl) rfl
 ((x_getI H rfl).trans (gfI_c fun v3 =>
 U1 rfl (T1 (x_iload H rfl rfl) rfl
 (T1 (x_aload_n H rfl rfl) rfl
 ((x_getR H rfl).trans (gfQ_c rfl fun b4 =>
 U1 rfl (T1 (x_iload H rfl rfl) rfl
 ((x_iaload H rfl).trans (ldI_c fun v5 =>
 U1 rfl ((x_callI (ci := 0) H rfl [.int v3, .int (x3 / 5), .int v5] rfl rfl rfl rfl).trans (isO_c (bi_c fun q6 => rI_c fun v8 h7 =>
 U1 rfl (T2 [some (.ref a0), some (.ref a1), some (.ref a2), some (.int x3), some (.int (x3 - x3 / 5 * 5)), some (.int (x3 / 5)), some (.int v8), none, none] (x_istore H rfl rfl) rfl
 (T1 (x_aload_n H rfl rfl) rfl
 (T1 (x_aload_n H rfl rfl) rfl
 ((x_getI H rfl).trans (gfI_c fun v9 =>
 U1 rfl (T1 (x_iload H rfl rfl) rfl
 (T1 (x_aload_n H rfl rfl) rfl
 ((x_getR H rfl).trans (gfQ_c rfl fun b10 =>
 U1 rfl (T1 (x_iload H rfl rfl) rfl
 ((x_iaload H rfl).trans (ldI_c fun v11 =>
 U1 rfl ((x_callI (ci := 0) H rfl [.int v9, .int (x3 / 5), .int v11] rfl rfl rfl rfl).trans (isO_c (bi_c fun q12 => rI_c fun v14 h13 =>
 U1 rfl (T2 [some (.ref a0), some (.ref a1), some (.ref a2), some (.int x3), some (.int (x3 - x3 / 5 * 5)), some (.int (x3 / 5)), some (.int v8), some (.int v14), none] (x_istore H rfl rfl) rfl
 (T1 (x_iload H rfl rfl) rfl
 ((x_if_lt H rfl (t := 76) (by decide)).trans (if_c
 (U2 [none, none, none, none, none, none, none, none, none] rfl rfl)
 (U1 rfl (T1 (x_iload H rfl rfl) rfl
 ((x_if_ge H rfl (t := 79) (by decide)).trans (if_c
 (U1 rfl (T1 (x_aload_n H rfl rfl) rfl
 ((x_getR H rfl).trans (gfQ_c rfl fun b15 =>
 U1 rfl (T1 (x_iload H rfl rfl) rfl
 ((x_iaload H rfl).trans (ldI_c fun v16 =>
 U1 rfl (T1 (x_bipush H rfl kb_6) rfl
 (T1 (x_imul H rfl) rfl
 (T1 (x_aload_n H rfl rfl) rfl
 ((x_getR H rfl).trans (gfQ_c rfl fun b17 =>
 U1 rfl (T1 (x_iload H rfl rfl) rfl
 ((x_iaload H rfl).trans (ldI_c fun v18 =>
 U1 rfl (T1 (x_iadd H rfl) rfl
 (T2 [some (.ref a0), some (.ref a1), some (.ref a2), some (.int x3), some (.int (x3 - x3 / 5 * 5)), some (.int (x3 / 5)), some (.int v8), some (.int v14), some (.int ((v16 * 6) + v18))] (x_istore H rfl rfl) rfl
 (T1 (x_iload H rfl rfl) rfl
 (T1 (x_bipush H rfl kb_120) rfl
 (T1 (x_imul H rfl) rfl
 (T1 (x_aload_n H rfl rfl) rfl
 (T1 (x_aload_n H rfl rfl) rfl
 ((x_getR H rfl).trans (gfQ_c rfl fun b19 =>
 U1 rfl (T1 (x_iload H rfl rfl) rfl
 ((x_iaload H rfl).trans (ldI_c fun v20 =>
 U1 rfl (T1 (x_aload_n H rfl rfl) rfl
 ((x_getR H rfl).trans (gfQ_c rfl fun b21 =>
 U1 rfl (T1 (x_iload H rfl rfl) rfl
 ((x_iaload H rfl).trans (ldI_c fun v22 =>
 U1 rfl (T1 (x_aload_n H rfl rfl) rfl
 ((x_getR H rfl).trans (gfQ_c rfl fun b23 =>
 U1 rfl (T1 (x_iload H rfl rfl) rfl
 ((x_iaload H rfl).trans (ldI_c fun v24 =>
 U1 rfl ((x_callI (ci := 5) H rfl [.int v20, .int v22, .int v24] rfl rfl rfl rfl).trans (isO_c (bi_c fun q25 => rI_c fun v27 h26 =>
 U1 rfl (T1 (x_iadd H rfl) rfl
 (x_ireturn H rfl rfl))))))))))))))))))))))))))))))))))))))))))))
 (U2 [none, none, none, none, none, none, none, none, none] rfl rfl))))))))))))))))))))))))))))))))))))))))))))))))))))))))))
theorem nd_46_25 {c : Ct} {dd : Bool} {ρ : Kt} (H : St c dd mt_46 ρ) (h : AH)  : ρ 25 [none, none, none, none, none, none, none, none, none] [] h = some (some (.int (-4)), h) :=
 T1 (x_bipush H rfl kb_m4) rfl
 (x_ireturn H rfl rfl)
theorem nd_46_76 {c : Ct} {dd : Bool} {ρ : Kt} (H : St c dd mt_46 ρ) (h : AH)  : ρ 76 [none, none, none, none, none, none, none, none, none] [] h = some (some (.int (-4)), h) :=
 T1 (x_bipush H rfl kb_m4) rfl
 (x_ireturn H rfl rfl)
-- X5_labelOf (I)I: 47
theorem nd_47_0 {c : Ct} {dd : Bool} {ρ : Kt} (H : St c dd mt_47 ρ) (h : AH) (a0 : Nat) (x1 : Int32) : ρ 0 [some (.ref a0), some (.int x1), none] [] h = if x1 < 0 then (ρ 9 [none, none, none] [] h) else (if x1 < 4 then (ρ 13 [some (.ref a0), some (.int x1), some (.int 0)] [] h) else (ρ 9 [none, none, none] [] h)) :=
 T1 (x_iload_n H rfl rfl) rfl
 ((x_if_lt H rfl (t := 9) (by decide)).trans (if_c
 (U2 [none, none, none] rfl rfl)
 (U1 rfl (T1 (x_iload_n H rfl rfl) rfl
 (T1 (x_iconst H rfl ki_4) rfl
 ((x_icmp_lt H rfl (t := 11) (by decide)).trans (if_c
 (U1 rfl (T1 (x_iconst H rfl ki_0) rfl
 (T2 [some (.ref a0), some (.int x1), some (.int 0)] (x_istore_n H rfl rfl) rfl rfl)))
 (U2 [none, none, none] rfl rfl))))))))
theorem nd_47_9 {c : Ct} {dd : Bool} {ρ : Kt} (H : St c dd mt_47 ρ) (h : AH)  : ρ 9 [none, none, none] [] h = some (some (.int 5), h) :=
 T1 (x_iconst H rfl ki_5) rfl
 (x_ireturn H rfl rfl)
theorem nd_47_13 {c : Ct} {dd : Bool} {ρ : Kt} (H : St c dd mt_47 ρ) (h : AH) (a0 : Nat) (x1 : Int32) (x2 : Int32) : ρ 13 [some (.ref a0), some (.int x1), some (.int x2)] [] h = if x1 ≤ x2 then (gfQ h a0 5 8 none fun b1 => ldI h b1 x1 fun v2 => some (some (.int v2), h)) else (gfQ h a0 5 8 none fun b3 => ldI h b3 x2 fun v4 => gfQ h a0 5 8 none fun b5 => ldI h b5 x1 fun v6 => if v4 = v6 then (some (some (.int 0), h)) else (ρ 13 [some (.ref a0), some (.int x1), some (.int (x2 + 1))] [] h)) :=
 T1 (x_iload_n H rfl rfl) rfl
 (T1 (x_iload_n H rfl rfl) rfl
 ((x_icmp_ge H rfl (t := 41) (by decide)).trans (if_c
 (U1 rfl (T1 (x_aload_n H rfl rfl) rfl
 ((x_getR H rfl).trans (gfQ_c rfl fun b1 =>
 U1 rfl (T1 (x_iload_n H rfl rfl) rfl
 ((x_iaload H rfl).trans (ldI_c fun v2 =>
 U1 rfl (x_ireturn H rfl rfl))))))))
 (U1 rfl (T1 (x_aload_n H rfl rfl) rfl
 ((x_getR H rfl).trans (gfQ_c rfl fun b3 =>
 U1 rfl (T1 (x_iload_n H rfl rfl) rfl
 ((x_iaload H rfl).trans (ldI_c fun v4 =>
 U1 rfl (T1 (x_aload_n H rfl rfl) rfl
 ((x_getR H rfl).trans (gfQ_c rfl fun b5 =>
 U1 rfl (T1 (x_iload_n H rfl rfl) rfl
 ((x_iaload H rfl).trans (ldI_c fun v6 =>
 U1 rfl ((x_icmp_ne H rfl (t := 35) (by decide)).trans (if_c
 (U1 rfl (T1 (x_iconst H rfl ki_0) rfl
 (x_ireturn H rfl rfl)))
 (U1 rfl (T2 [some (.ref a0), some (.int x1), some (.int (x2 + 1))] (x_iinc H rfl ki_1 rfl rfl) rfl
 (T2 [some (.ref a0), some (.int x1), some (.int (x2 + 1))] (x_goto H rfl (t := 13) (by decide)) rfl rfl)))))))))))))))))))))
-- X5_caseOf (II)I: 48
theorem nd_48_0 {c : Ct} {dd : Bool} {ρ : Kt} (H : St c dd mt_48 ρ) (h : AH) (a0 : Nat) (x1 : Int32) (x2 : Int32) : ρ 0 [some (.ref a0), some (.int x1), some (.int x2), none] [] h = ρ 2 [some (.ref a0), some (.int x1), some (.int x2), some (.int 0)] [] h :=
 T1 (x_iconst H rfl ki_0) rfl
 (T2 [some (.ref a0), some (.int x1), some (.int x2), some (.int 0)] (x_istore_n H rfl rfl) rfl rfl)
theorem nd_48_2 {c : Ct} {dd : Bool} {ρ : Kt} (H : St c dd mt_48 ρ) (h : AH) (a0 : Nat) (x1 : Int32) (x2 : Int32) (x3 : Int32) : ρ 2 [some (.ref a0), some (.int x1), some (.int x2), some (.int x3)] [] h = if 2 ≤ x3 then (some (some (.int 2), h)) else (gfQ h a0 5 8 none fun b1 => ldI h b1 (x2 + x3) fun v2 => if v2 = x1 then (some (some (.int x3), h)) else (ρ 2 [some (.ref a0), some (.int x1), some (.int x2), some (.int (x3 + 1))] [] h)) :=
 T1 (x_iload_n H rfl rfl) rfl
 (T1 (x_iconst H rfl ki_2) rfl
 ((x_icmp_ge H rfl (t := 27) (by decide)).trans (if_c
 (U1 rfl (T1 (x_iconst H rfl ki_2) rfl
 (x_ireturn H rfl rfl)))
 (U1 rfl (T1 (x_aload_n H rfl rfl) rfl
 ((x_getR H rfl).trans (gfQ_c rfl fun b1 =>
 U1 rfl (T1 (x_iload_n H rfl rfl) rfl
 (T1 (x_iload_n H rfl rfl) rfl
 (T1 (x_iadd H rfl) rfl
 ((x_iaload H rfl).trans (ldI_c fun v2 =>
 U1 rfl (T1 (x_iload_n H rfl rfl) rfl
 ((x_icmp_ne H rfl (t := 21) (by decide)).trans (if_c
 (U1 rfl (T1 (x_iload_n H rfl rfl) rfl
 (x_ireturn H rfl rfl)))
 (U1 rfl (T2 [some (.ref a0), some (.int x1), some (.int x2), some (.int (x3 + 1))] (x_iinc H rfl ki_1 rfl rfl) rfl
 (T2 [some (.ref a0), some (.int x1), some (.int x2), some (.int (x3 + 1))] (x_goto H rfl (t := 2) (by decide)) rfl rfl))))))))))))))))))
-- X5_heldBehind (III)I: 49
theorem nd_49_0 {c : Ct} {dd : Bool} {ρ : Kt} (H : St c dd mt_49 ρ) (h : AH) (a0 : Nat) (x1 : Int32) (x2 : Int32) (x3 : Int32) : ρ 0 [some (.ref a0), some (.int x1), some (.int x2), some (.int x3), none, none, none, none] [] h = if x2 = (-4) then (if x3 = (-4) then (gfI h a0 5 7 fun v1 => some (some (.int v1), h)) else (ρ 17 [some (.ref a0), some (.int x1), some (.int x2), some (.int x3), none, none, none, none] [] h)) else (ρ 17 [some (.ref a0), some (.int x1), some (.int x2), some (.int x3), none, none, none, none] [] h) :=
 T1 (x_iload_n H rfl rfl) rfl
 (T1 (x_bipush H rfl kb_m4) rfl
 ((x_icmp_ne H rfl (t := 17) (by decide)).trans (if_c
 (U1 rfl (T1 (x_iload_n H rfl rfl) rfl
 (T1 (x_bipush H rfl kb_m4) rfl
 ((x_icmp_ne H rfl (t := 17) (by decide)).trans (if_c
 (U1 rfl (T1 (x_aload_n H rfl rfl) rfl
 ((x_getI H rfl).trans (gfI_c fun v1 =>
 U1 rfl (x_ireturn H rfl rfl)))))
 (U2 [some (.ref a0), some (.int x1), some (.int x2), some (.int x3), none, none, none, none] rfl rfl))))))
 (U2 [some (.ref a0), some (.int x1), some (.int x2), some (.int x3), none, none, none, none] rfl rfl))))
theorem nd_49_17 {c : Ct} {dd : Bool} {ρ : Kt} (H : St c dd mt_49 ρ) (hd : dd = true) (h : AH) (a0 : Nat) (x1 : Int32) (x2 : Int32) (x3 : Int32) : ρ 17 [some (.ref a0), some (.int x1), some (.int x2), some (.int x3), none, none, none, none] [] h = gfQ h a0 5 8 none fun b1 => gfQ h a0 5 12 none fun b2 => cpA h b1 0 b2 0 4 fun h3 => isO h3 a0 5 ((c 50 [.ref a0, .int x1, .int 0, .int x2] h3).bind fun q4 => rV q4 fun h5 => isO h5 a0 5 ((c 50 [.ref a0, .int x1, .int 2, .int x3] h5).bind fun q6 => rV q6 fun h7 => ρ 54 [some (.ref a0), none, none, none, some (.int 0), some (.int 0), some (.int 0), none] [] h7)) :=
 T1 (x_aload_n H rfl rfl) rfl
 ((x_getR H rfl).trans (gfQ_c rfl fun b1 =>
 U1 rfl (T1 (x_iconst H rfl ki_0) rfl
 (T1 (x_aload_n H rfl rfl) rfl
 ((x_getR H rfl).trans (gfQ_c rfl fun b2 =>
 U1 rfl (T1 (x_iconst H rfl ki_0) rfl
 (T1 (x_iconst H rfl ki_4) rfl
 ((x_acopy H rfl (by rw [hd]; rfl)).trans (cpA_c fun h3 =>
 U1 rfl (T1 (x_aload_n H rfl rfl) rfl
 (T1 (x_iload_n H rfl rfl) rfl
 (T1 (x_iconst H rfl ki_0) rfl
 (T1 (x_iload_n H rfl rfl) rfl
 ((x_callV (ci := 5) H rfl [.int x1, .int 0, .int x2] rfl rfl rfl rfl).trans (isO_c (bi_c fun q4 => rV_c fun h5 =>
 U1 rfl (T1 (x_aload_n H rfl rfl) rfl
 (T1 (x_iload_n H rfl rfl) rfl
 (T1 (x_iconst H rfl ki_2) rfl
 (T1 (x_iload_n H rfl rfl) rfl
 ((x_callV (ci := 5) H rfl [.int x1, .int 2, .int x3] rfl rfl rfl rfl).trans (isO_c (bi_c fun q6 => rV_c fun h7 =>
 U1 rfl (T1 (x_iconst H rfl ki_0) rfl
 (T2 [some (.ref a0), some (.int x1), some (.int x2), some (.int x3), some (.int 0), none, none, none] (x_istore H rfl rfl) rfl
 (T1 (x_iconst H rfl ki_0) rfl
 (T2 [some (.ref a0), some (.int x1), some (.int x2), some (.int x3), some (.int 0), some (.int 0), none, none] (x_istore H rfl rfl) rfl
 (T1 (x_iconst H rfl ki_0) rfl
 (T2 [some (.ref a0), none, none, none, some (.int 0), some (.int 0), some (.int 0), none] (x_istore H rfl rfl) rfl rfl))))))))))))))))))))))))))))))
theorem nd_49_54 {c : Ct} {dd : Bool} {ρ : Kt} (H : St c dd mt_49 ρ) (h : AH) (a0 : Nat) (x4 : Int32) (x5 : Int32) (x6 : Int32) : ρ 54 [some (.ref a0), none, none, none, some (.int x4), some (.int x5), some (.int x6), none] [] h = if 4 ≤ x6 then (some (some (.int x4), h)) else (isO h a0 5 ((c 51 [.ref a0, .int x6] h).bind fun q1 => rI q1 fun v3 h2 => if v3 = (-4) then (ρ 82 [some (.ref a0), none, none, none, some (.int x4), some (.int (x5 + 1)), some (.int x6), some (.int (x5 + 1))] [] h2) else (ρ 82 [some (.ref a0), none, none, none, some (.int x4), some (.int x5), some (.int x6), some (.int v3)] [] h2))) :=
 T1 (x_iload H rfl rfl) rfl
 (T1 (x_iconst H rfl ki_4) rfl
 ((x_icmp_ge H rfl (t := 109) (by decide)).trans (if_c
 (U1 rfl (T1 (x_iload H rfl rfl) rfl
 (x_ireturn H rfl rfl)))
 (U1 rfl (T1 (x_aload_n H rfl rfl) rfl
 (T1 (x_iload H rfl rfl) rfl
 ((x_callI (ci := 5) H rfl [.int x6] rfl rfl rfl rfl).trans (isO_c (bi_c fun q1 => rI_c fun v3 h2 =>
 U1 rfl (T2 [some (.ref a0), none, none, none, some (.int x4), some (.int x5), some (.int x6), some (.int v3)] (x_istore H rfl rfl) rfl
 (T1 (x_iload H rfl rfl) rfl
 (T1 (x_bipush H rfl kb_m4) rfl
 ((x_icmp_ne H rfl (t := 82) (by decide)).trans (if_c
 (U1 rfl (T2 [some (.ref a0), none, none, none, some (.int x4), some (.int (x5 + 1)), some (.int x6), some (.int v3)] (x_iinc H rfl ki_1 rfl rfl) rfl
 (T1 (x_iload H rfl rfl) rfl
 (T2 [some (.ref a0), none, none, none, some (.int x4), some (.int (x5 + 1)), some (.int x6), some (.int (x5 + 1))] (x_istore H rfl rfl) rfl rfl))))
 (U2 [some (.ref a0), none, none, none, some (.int x4), some (.int x5), some (.int x6), some (.int v3)] rfl rfl)))))))))))))))
theorem nd_49_82 {c : Ct} {dd : Bool} {ρ : Kt} (H : St c dd mt_49 ρ) (h : AH) (a0 : Nat) (x4 : Int32) (x5 : Int32) (x6 : Int32) (x7 : Int32) : ρ 82 [some (.ref a0), none, none, none, some (.int x4), some (.int x5), some (.int x6), some (.int x7)] [] h = gfQ h a0 5 13 none fun b1 => stI h b1 x6 x7 fun h2 => ρ 54 [some (.ref a0), none, none, none, some (.int ((x4 * (x6 + 2)) + x7)), some (.int x5), some (.int (x6 + 1)), none] [] h2 :=
 T1 (x_aload_n H rfl rfl) rfl
 ((x_getR H rfl).trans (gfQ_c rfl fun b1 =>
 U1 rfl (T1 (x_iload H rfl rfl) rfl
 (T1 (x_iload H rfl rfl) rfl
 ((x_iastore H rfl).trans (stI_c fun h2 =>
 U1 rfl (T1 (x_iload H rfl rfl) rfl
 (T1 (x_iload H rfl rfl) rfl
 (T1 (x_iconst H rfl ki_2) rfl
 (T1 (x_iadd H rfl) rfl
 (T1 (x_imul H rfl) rfl
 (T1 (x_iload H rfl rfl) rfl
 (T1 (x_iadd H rfl) rfl
 (T2 [some (.ref a0), none, none, none, some (.int ((x4 * (x6 + 2)) + x7)), some (.int x5), some (.int x6), some (.int x7)] (x_istore H rfl rfl) rfl
 (T2 [some (.ref a0), none, none, none, some (.int ((x4 * (x6 + 2)) + x7)), some (.int x5), some (.int (x6 + 1)), some (.int x7)] (x_iinc H rfl ki_1 rfl rfl) rfl
 (T2 [some (.ref a0), none, none, none, some (.int ((x4 * (x6 + 2)) + x7)), some (.int x5), some (.int (x6 + 1)), none] (x_goto H rfl (t := 54) (by decide)) rfl rfl))))))))))))))))
-- X5_keep (III)V: 50
theorem nd_50_0 {c : Ct} {dd : Bool} {ρ : Kt} (H : St c dd mt_50 ρ) (h : AH) (a0 : Nat) (x1 : Int32) (x2 : Int32) (x3 : Int32) : ρ 0 [some (.ref a0), some (.int x1), some (.int x2), some (.int x3)] [] h = if x3 < 0 then (ρ 18 [none, none, none, none] [] h) else (if 2 ≤ x3 then (ρ 18 [none, none, none, none] [] h) else (gfQ h a0 5 12 none fun b1 => stI h b1 (x2 + x3) x1 fun h2 => ρ 18 [none, none, none, none] [] h2)) :=
 T1 (x_iload_n H rfl rfl) rfl
 ((x_if_lt H rfl (t := 18) (by decide)).trans (if_c
 (U2 [none, none, none, none] rfl rfl)
 (U1 rfl (T1 (x_iload_n H rfl rfl) rfl
 (T1 (x_iconst H rfl ki_2) rfl
 ((x_icmp_ge H rfl (t := 18) (by decide)).trans (if_c
 (U2 [none, none, none, none] rfl rfl)
 (U1 rfl (T1 (x_aload_n H rfl rfl) rfl
 ((x_getR H rfl).trans (gfQ_c rfl fun b1 =>
 U1 rfl (T1 (x_iload_n H rfl rfl) rfl
 (T1 (x_iload_n H rfl rfl) rfl
 (T1 (x_iadd H rfl) rfl
 (T1 (x_iload_n H rfl rfl) rfl
 ((x_iastore H rfl).trans (stI_c fun h2 =>
 U2 [none, none, none, none] rfl rfl)))))))))))))))))
theorem nd_50_18 {c : Ct} {dd : Bool} {ρ : Kt} (H : St c dd mt_50 ρ) (h : AH)  : ρ 18 [none, none, none, none] [] h = some (none, h) :=
 x_return H rfl rfl
-- X5_digitOfEarlier (I)I: 51
theorem nd_51_0 {c : Ct} {dd : Bool} {ρ : Kt} (H : St c dd mt_51 ρ) (h : AH) (a0 : Nat) (x1 : Int32) : ρ 0 [some (.ref a0), some (.int x1), none] [] h = gfQ h a0 5 12 none fun b1 => ldI h b1 x1 fun v2 => if v2 = 0 then (some (some (.int 0), h)) else (ρ 13 [some (.ref a0), some (.int x1), some (.int 0)] [] h) :=
 T1 (x_aload_n H rfl rfl) rfl
 ((x_getR H rfl).trans (gfQ_c rfl fun b1 =>
 U1 rfl (T1 (x_iload_n H rfl rfl) rfl
 ((x_iaload H rfl).trans (ldI_c fun v2 =>
 U1 rfl ((x_if_ne H rfl (t := 11) (by decide)).trans (if_c
 (U1 rfl (T1 (x_iconst H rfl ki_0) rfl
 (x_ireturn H rfl rfl)))
 (U1 rfl (T1 (x_iconst H rfl ki_0) rfl
 (T2 [some (.ref a0), some (.int x1), some (.int 0)] (x_istore_n H rfl rfl) rfl rfl))))))))))
theorem nd_51_13 {c : Ct} {dd : Bool} {ρ : Kt} (H : St c dd mt_51 ρ) (h : AH) (a0 : Nat) (x1 : Int32) (x2 : Int32) : ρ 13 [some (.ref a0), some (.int x1), some (.int x2)] [] h = if x1 ≤ x2 then (some (some (.int (-4)), h)) else (gfQ h a0 5 12 none fun b1 => ldI h b1 x2 fun v2 => gfQ h a0 5 12 none fun b3 => ldI h b3 x1 fun v4 => if v2 = v4 then (gfQ h a0 5 13 none fun b5 => ldI h b5 x2 fun v6 => some (some (.int v6), h)) else (ρ 13 [some (.ref a0), some (.int x1), some (.int (x2 + 1))] [] h)) :=
 T1 (x_iload_n H rfl rfl) rfl
 (T1 (x_iload_n H rfl rfl) rfl
 ((x_icmp_ge H rfl (t := 46) (by decide)).trans (if_c
 (U1 rfl (T1 (x_bipush H rfl kb_m4) rfl
 (x_ireturn H rfl rfl)))
 (U1 rfl (T1 (x_aload_n H rfl rfl) rfl
 ((x_getR H rfl).trans (gfQ_c rfl fun b1 =>
 U1 rfl (T1 (x_iload_n H rfl rfl) rfl
 ((x_iaload H rfl).trans (ldI_c fun v2 =>
 U1 rfl (T1 (x_aload_n H rfl rfl) rfl
 ((x_getR H rfl).trans (gfQ_c rfl fun b3 =>
 U1 rfl (T1 (x_iload_n H rfl rfl) rfl
 ((x_iaload H rfl).trans (ldI_c fun v4 =>
 U1 rfl ((x_icmp_ne H rfl (t := 40) (by decide)).trans (if_c
 (U1 rfl (T1 (x_aload_n H rfl rfl) rfl
 ((x_getR H rfl).trans (gfQ_c rfl fun b5 =>
 U1 rfl (T1 (x_iload_n H rfl rfl) rfl
 ((x_iaload H rfl).trans (ldI_c fun v6 =>
 U1 rfl (x_ireturn H rfl rfl))))))))
 (U1 rfl (T2 [some (.ref a0), some (.int x1), some (.int (x2 + 1))] (x_iinc H rfl ki_1 rfl rfl) rfl
 (T2 [some (.ref a0), some (.int x1), some (.int (x2 + 1))] (x_goto H rfl (t := 13) (by decide)) rfl rfl)))))))))))))))))))))
-- X5_tellWays (ILNameRows$Row;)V: 52
theorem nd_52_0 {c : Ct} {dd : Bool} {ρ : Kt} (H : St c dd mt_52 ρ) (h : AH) (a0 : Nat) (x1 : Int32) (a2 : Nat) : ρ 0 [some (.ref a0), some (.int x1), some (.ref a2), none, none, none] [] h = ρ 5 [some (.ref a0), some (.int x1), some (.ref a2), some (.int 0), some (.int x1), none] [] h :=
 T1 (x_iconst H rfl ki_0) rfl
 (T2 [some (.ref a0), some (.int x1), some (.ref a2), some (.int 0), none, none] (x_istore_n H rfl rfl) rfl
 (T1 (x_iload_n H rfl rfl) rfl
 (T2 [some (.ref a0), some (.int x1), some (.ref a2), some (.int 0), some (.int x1), none] (x_istore H rfl rfl) rfl rfl)))
theorem nd_52_5 {c : Ct} {dd : Bool} {ρ : Kt} (H : St c dd mt_52 ρ) (h : AH) (a0 : Nat) (x1 : Int32) (a2 : Nat) (x3 : Int32) (x4 : Int32) : ρ 5 [some (.ref a0), some (.int x1), some (.ref a2), some (.int x3), some (.int x4), none] [] h = if x4 ≤ 0 then (ρ 43 [some (.ref a0), some (.int x1), some (.ref a2), some (.int x3), none, none] [] h) else (gfI h a0 5 4 fun v1 => if v1 ≤ x4 then (ρ 43 [some (.ref a0), some (.int x1), some (.ref a2), some (.int x3), none, none] [] h) else (gfQ h a2 2 0 none fun b2 => lnA h b2 fun v3 => if v3 ≤ x3 then (ρ 43 [some (.ref a0), some (.int x1), some (.ref a2), some (.int x3), none, none] [] h) else (gfQ h a0 5 2 none fun b4 => ldI h b4 x4 fun v5 => ρ 5 [some (.ref a0), some (.int x1), some (.ref a2), some (.int (x3 + 1)), some (.int v5), none] [] h))) :=
 T1 (x_iload H rfl rfl) rfl
 ((x_if_le H rfl (t := 43) (by decide)).trans (if_c
 (U2 [some (.ref a0), some (.int x1), some (.ref a2), some (.int x3), none, none] rfl rfl)
 (U1 rfl (T1 (x_iload H rfl rfl) rfl
 (T1 (x_aload_n H rfl rfl) rfl
 ((x_getI H rfl).trans (gfI_c fun v1 =>
 U1 rfl ((x_icmp_ge H rfl (t := 43) (by decide)).trans (if_c
 (U2 [some (.ref a0), some (.int x1), some (.ref a2), some (.int x3), none, none] rfl rfl)
 (U1 rfl (T1 (x_iload_n H rfl rfl) rfl
 (T1 (x_aload_n H rfl rfl) rfl
 ((x_getR H rfl).trans (gfQ_c rfl fun b2 =>
 U1 rfl ((x_alen H rfl).trans (lnA_c fun v3 =>
 U1 rfl ((x_icmp_ge H rfl (t := 43) (by decide)).trans (if_c
 (U2 [some (.ref a0), some (.int x1), some (.ref a2), some (.int x3), none, none] rfl rfl)
 (U1 rfl (T2 [some (.ref a0), some (.int x1), some (.ref a2), some (.int (x3 + 1)), some (.int x4), none] (x_iinc H rfl ki_1 rfl rfl) rfl
 (T1 (x_aload_n H rfl rfl) rfl
 ((x_getR H rfl).trans (gfQ_c rfl fun b4 =>
 U1 rfl (T1 (x_iload H rfl rfl) rfl
 ((x_iaload H rfl).trans (ldI_c fun v5 =>
 U1 rfl (T2 [some (.ref a0), some (.int x1), some (.ref a2), some (.int (x3 + 1)), some (.int v5), none] (x_istore H rfl rfl) rfl
 (T2 [some (.ref a0), some (.int x1), some (.ref a2), some (.int (x3 + 1)), some (.int v5), none] (x_goto H rfl (t := 5) (by decide)) rfl rfl))))))))))))))))))))))))))))
theorem nd_52_43 {c : Ct} {dd : Bool} {ρ : Kt} (H : St c dd mt_52 ρ) (h : AH) (a0 : Nat) (x1 : Int32) (a2 : Nat) (x3 : Int32) : ρ 43 [some (.ref a0), some (.int x1), some (.ref a2), some (.int x3), none, none] [] h = pfV h a2 2 2 (.int x3) fun h1 => ρ 56 [some (.ref a0), none, some (.ref a2), none, some (.int x1), some (.int (x3 - 1))] [] h1 :=
 T1 (x_aload_n H rfl rfl) rfl
 (T1 (x_iload_n H rfl rfl) rfl
 ((x_putI H rfl).trans (pfV_c fun h1 =>
 U1 rfl (T1 (x_iload_n H rfl rfl) rfl
 (T2 [some (.ref a0), some (.int x1), some (.ref a2), some (.int x3), some (.int x1), none] (x_istore H rfl rfl) rfl
 (T1 (x_iload_n H rfl rfl) rfl
 (T1 (x_iconst H rfl ki_1) rfl
 (T1 (x_isub H rfl) rfl
 (T2 [some (.ref a0), none, some (.ref a2), none, some (.int x1), some (.int (x3 - 1))] (x_istore H rfl rfl) rfl rfl)))))))))
theorem nd_52_56 {c : Ct} {dd : Bool} {ρ : Kt} (H : St c dd mt_52 ρ) (h : AH) (a0 : Nat) (a2 : Nat) (x4 : Int32) (x5 : Int32) : ρ 56 [some (.ref a0), none, some (.ref a2), none, some (.int x4), some (.int x5)] [] h = if x5 < 0 then (ρ 122 [none, none, none, none, none, none] [] h) else (if x4 ≤ 0 then (ρ 122 [none, none, none, none, none, none] [] h) else (gfI h a0 5 4 fun v1 => if v1 ≤ x4 then (ρ 122 [none, none, none, none, none, none] [] h) else (gfQ h a2 2 0 none fun b2 => gfQ h a0 5 3 none fun b3 => ldI h b3 x4 fun v4 => stI h b2 x5 (v4 / 5) fun h5 => gfQ h5 a2 2 1 none fun b6 => gfQ h5 a0 5 3 none fun b7 => ldI h5 b7 x4 fun v8 => stI h5 b6 x5 (v8 - v8 / 5 * 5) fun h9 => gfQ h9 a0 5 2 none fun b10 => ldI h9 b10 x4 fun v11 => ρ 56 [some (.ref a0), none, some (.ref a2), none, some (.int v11), some (.int (x5 + (-1)))] [] h9))) :=
 T1 (x_iload H rfl rfl) rfl
 ((x_if_lt H rfl (t := 122) (by decide)).trans (if_c
 (U2 [none, none, none, none, none, none] rfl rfl)
 (U1 rfl (T1 (x_iload H rfl rfl) rfl
 ((x_if_le H rfl (t := 122) (by decide)).trans (if_c
 (U2 [none, none, none, none, none, none] rfl rfl)
 (U1 rfl (T1 (x_iload H rfl rfl) rfl
 (T1 (x_aload_n H rfl rfl) rfl
 ((x_getI H rfl).trans (gfI_c fun v1 =>
 U1 rfl ((x_icmp_ge H rfl (t := 122) (by decide)).trans (if_c
 (U2 [none, none, none, none, none, none] rfl rfl)
 (U1 rfl (T1 (x_aload_n H rfl rfl) rfl
 ((x_getR H rfl).trans (gfQ_c rfl fun b2 =>
 U1 rfl (T1 (x_iload H rfl rfl) rfl
 (T1 (x_aload_n H rfl rfl) rfl
 ((x_getR H rfl).trans (gfQ_c rfl fun b3 =>
 U1 rfl (T1 (x_iload H rfl rfl) rfl
 ((x_iaload H rfl).trans (ldI_c fun v4 =>
 U1 rfl (T1 (x_iconst H rfl ki_5) rfl
 (T1 (x_idiv H rfl (by decide)) rfl
 ((x_iastore H rfl).trans (stI_c fun h5 =>
 U1 rfl (T1 (x_aload_n H rfl rfl) rfl
 ((x_getR H rfl).trans (gfQ_c rfl fun b6 =>
 U1 rfl (T1 (x_iload H rfl rfl) rfl
 (T1 (x_aload_n H rfl rfl) rfl
 ((x_getR H rfl).trans (gfQ_c rfl fun b7 =>
 U1 rfl (T1 (x_iload H rfl rfl) rfl
 ((x_iaload H rfl).trans (ldI_c fun v8 =>
 U1 rfl (T1 (x_iconst H rfl ki_5) rfl
 (T1 (x_irem H rfl (by decide)) rfl
 ((x_iastore H rfl).trans (stI_c fun h9 =>
 U1 rfl (T1 (x_aload_n H rfl rfl) rfl
 ((x_getR H rfl).trans (gfQ_c rfl fun b10 =>
 U1 rfl (T1 (x_iload H rfl rfl) rfl
 ((x_iaload H rfl).trans (ldI_c fun v11 =>
 U1 rfl (T2 [some (.ref a0), none, some (.ref a2), none, some (.int v11), some (.int x5)] (x_istore H rfl rfl) rfl
 (T2 [some (.ref a0), none, some (.ref a2), none, some (.int v11), some (.int (x5 + (-1)))] (x_iinc H rfl ki_m1 rfl rfl) rfl
 (T2 [some (.ref a0), none, some (.ref a2), none, some (.int v11), some (.int (x5 + (-1)))] (x_goto H rfl (t := 56) (by decide)) rfl rfl)))))))))))))))))))))))))))))))))))))))))))))))))))
theorem nd_52_122 {c : Ct} {dd : Bool} {ρ : Kt} (H : St c dd mt_52 ρ) (h : AH)  : ρ 122 [none, none, none, none, none, none] [] h = some (none, h) :=
 x_return H rfl rfl
-- X5_giveNames (LNameRows$Machine;LNameRows$Machine;LNameRows$Row;)V: 53
theorem nd_53_0 {c : Ct} {dd : Bool} {ρ : Kt} (H : St c dd mt_53 ρ) (h : AH) (a0 : Nat) (a1 : Nat) (a2 : Nat) (a3 : Nat) : ρ 0 [some (.ref a0), some (.ref a1), some (.ref a2), some (.ref a3), none, none, none, none] [] h = gfQ h a0 5 16 none fun b1 => isO h b1 3 ((c 28 [.ref b1] h).bind fun q2 => rV q2 fun h3 => gfQ h3 a0 5 17 none fun b4 => isO h3 b4 3 ((c 28 [.ref b4] h3).bind fun q5 => rV q5 fun h6 => ρ 20 [some (.ref a0), some (.ref a1), some (.ref a2), some (.ref a3), some (.int 0), some (.int 0), none, none] [] h6)) :=
 T1 (x_aload_n H rfl rfl) rfl
 ((x_getR H rfl).trans (gfQ_c rfl fun b1 =>
 U1 rfl ((x_callV (ci := 3) H rfl [] rfl rfl rfl rfl).trans (isO_c (bi_c fun q2 => rV_c fun h3 =>
 U1 rfl (T1 (x_aload_n H rfl rfl) rfl
 ((x_getR H rfl).trans (gfQ_c rfl fun b4 =>
 U1 rfl ((x_callV (ci := 3) H rfl [] rfl rfl rfl rfl).trans (isO_c (bi_c fun q5 => rV_c fun h6 =>
 U1 rfl (T1 (x_iconst H rfl ki_0) rfl
 (T2 [some (.ref a0), some (.ref a1), some (.ref a2), some (.ref a3), some (.int 0), none, none, none] (x_istore H rfl rfl) rfl
 (T1 (x_iconst H rfl ki_0) rfl
 (T2 [some (.ref a0), some (.ref a1), some (.ref a2), some (.ref a3), some (.int 0), some (.int 0), none, none] (x_istore H rfl rfl) rfl rfl)))))))))))))))
theorem nd_53_20 {c : Ct} {dd : Bool} {ρ : Kt} (H : St c dd mt_53 ρ) (h : AH) (a0 : Nat) (a1 : Nat) (a2 : Nat) (a3 : Nat) (x4 : Int32) (x5 : Int32) : ρ 20 [some (.ref a0), some (.ref a1), some (.ref a2), some (.ref a3), some (.int x4), some (.int x5), none, none] [] h = gfI h a3 2 2 fun v1 => if v1 ≤ x5 then (some (none, h)) else (gfQ h a3 2 1 none fun b2 => ldI h b2 x5 fun v3 => if v3 < 0 then (ρ 68 [some (.ref a0), some (.ref a1), some (.ref a2), some (.ref a3), some (.int x4), some (.int x5), some (.int v3), some (.int x4)] [] h) else (if 2 ≤ v3 then (ρ 68 [some (.ref a0), some (.ref a1), some (.ref a2), some (.ref a3), some (.int x4), some (.int x5), some (.int v3), some (.int x4)] [] h) else (gfQ h a0 5 16 none fun b4 => gfQ h b4 3 1 none fun b5 => ldI h b5 v3 fun v6 => ρ 100 [some (.ref a0), some (.ref a1), some (.ref a2), some (.ref a3), some (.int x4), some (.int x5), none, some (.int v6)] [] h))) :=
 T1 (x_iload H rfl rfl) rfl
 (T1 (x_aload_n H rfl rfl) rfl
 ((x_getI H rfl).trans (gfI_c fun v1 =>
 U1 rfl ((x_icmp_ge H rfl (t := 149) (by decide)).trans (if_c
 (U1 rfl (x_return H rfl rfl))
 (U1 rfl (T1 (x_aload_n H rfl rfl) rfl
 ((x_getR H rfl).trans (gfQ_c rfl fun b2 =>
 U1 rfl (T1 (x_iload H rfl rfl) rfl
 ((x_iaload H rfl).trans (ldI_c fun v3 =>
 U1 rfl (T2 [some (.ref a0), some (.ref a1), some (.ref a2), some (.ref a3), some (.int x4), some (.int x5), some (.int v3), none] (x_istore H rfl rfl) rfl
 (T1 (x_iload H rfl rfl) rfl
 (T2 [some (.ref a0), some (.ref a1), some (.ref a2), some (.ref a3), some (.int x4), some (.int x5), some (.int v3), some (.int x4)] (x_istore H rfl rfl) rfl
 (T1 (x_iload H rfl rfl) rfl
 ((x_if_lt H rfl (t := 68) (by decide)).trans (if_c
 (U2 [some (.ref a0), some (.ref a1), some (.ref a2), some (.ref a3), some (.int x4), some (.int x5), some (.int v3), some (.int x4)] rfl rfl)
 (U1 rfl (T1 (x_iload H rfl rfl) rfl
 (T1 (x_iconst H rfl ki_2) rfl
 ((x_icmp_ge H rfl (t := 68) (by decide)).trans (if_c
 (U2 [some (.ref a0), some (.ref a1), some (.ref a2), some (.ref a3), some (.int x4), some (.int x5), some (.int v3), some (.int x4)] rfl rfl)
 (U1 rfl (T1 (x_aload_n H rfl rfl) rfl
 ((x_getR H rfl).trans (gfQ_c rfl fun b4 =>
 U1 rfl ((x_getR H rfl).trans (gfQ_c rfl fun b5 =>
 U1 rfl (T1 (x_iload H rfl rfl) rfl
 ((x_iaload H rfl).trans (ldI_c fun v6 =>
 U1 rfl (T2 [some (.ref a0), some (.ref a1), some (.ref a2), some (.ref a3), some (.int x4), some (.int x5), some (.int v3), some (.int v6)] (x_istore H rfl rfl) rfl
 (T2 [some (.ref a0), some (.ref a1), some (.ref a2), some (.ref a3), some (.int x4), some (.int x5), none, some (.int v6)] (x_goto H rfl (t := 100) (by decide)) rfl rfl))))))))))))))))))))))))))))))))))
theorem nd_53_68 {c : Ct} {dd : Bool} {ρ : Kt} (H : St c dd mt_53 ρ) (h : AH) (a0 : Nat) (a1 : Nat) (a2 : Nat) (a3 : Nat) (x4 : Int32) (x5 : Int32) (x6 : Int32) (x7 : Int32) : ρ 68 [some (.ref a0), some (.ref a1), some (.ref a2), some (.ref a3), some (.int x4), some (.int x5), some (.int x6), some (.int x7)] [] h = if x6 < 2 then (ρ 97 [some (.ref a0), some (.ref a1), some (.ref a2), some (.ref a3), some (.int x4), some (.int x5), none, some (.int x7)] [] h) else (if 4 ≤ x6 then (ρ 97 [some (.ref a0), some (.ref a1), some (.ref a2), some (.ref a3), some (.int x4), some (.int x5), none, some (.int x7)] [] h) else (gfQ h a0 5 17 none fun b1 => gfQ h b1 3 1 none fun b2 => ldI h b2 (x6 - 2) fun v3 => ρ 100 [some (.ref a0), some (.ref a1), some (.ref a2), some (.ref a3), some (.int x4), some (.int x5), none, some (.int v3)] [] h)) :=
 T1 (x_iload H rfl rfl) rfl
 (T1 (x_iconst H rfl ki_2) rfl
 ((x_icmp_lt H rfl (t := 97) (by decide)).trans (if_c
 (U2 [some (.ref a0), some (.ref a1), some (.ref a2), some (.ref a3), some (.int x4), some (.int x5), none, some (.int x7)] rfl rfl)
 (U1 rfl (T1 (x_iload H rfl rfl) rfl
 (T1 (x_iconst H rfl ki_4) rfl
 ((x_icmp_ge H rfl (t := 97) (by decide)).trans (if_c
 (U2 [some (.ref a0), some (.ref a1), some (.ref a2), some (.ref a3), some (.int x4), some (.int x5), none, some (.int x7)] rfl rfl)
 (U1 rfl (T1 (x_aload_n H rfl rfl) rfl
 ((x_getR H rfl).trans (gfQ_c rfl fun b1 =>
 U1 rfl ((x_getR H rfl).trans (gfQ_c rfl fun b2 =>
 U1 rfl (T1 (x_iload H rfl rfl) rfl
 (T1 (x_iconst H rfl ki_2) rfl
 (T1 (x_isub H rfl) rfl
 ((x_iaload H rfl).trans (ldI_c fun v3 =>
 U1 rfl (T2 [some (.ref a0), some (.ref a1), some (.ref a2), some (.ref a3), some (.int x4), some (.int x5), some (.int x6), some (.int v3)] (x_istore H rfl rfl) rfl
 (T2 [some (.ref a0), some (.ref a1), some (.ref a2), some (.ref a3), some (.int x4), some (.int x5), none, some (.int v3)] (x_goto H rfl (t := 100) (by decide)) rfl rfl)))))))))))))))))))))
theorem nd_53_100 {c : Ct} {dd : Bool} {ρ : Kt} (H : St c dd mt_53 ρ) (h : AH) (a0 : Nat) (a1 : Nat) (a2 : Nat) (a3 : Nat) (x4 : Int32) (x5 : Int32) (x7 : Int32) : ρ 100 [some (.ref a0), some (.ref a1), some (.ref a2), some (.ref a3), some (.int x4), some (.int x5), none, some (.int x7)] [] h = gfQ h a3 2 1 none fun b1 => stI h b1 x5 x7 fun h2 => gfQ h2 a0 5 16 none fun b3 => gfQ h2 a3 2 0 none fun b4 => ldI h2 b4 x5 fun v5 => isO h2 b3 3 ((c 29 [.ref b3, .ref a1, .int v5, .int x7] h2).bind fun q6 => rV q6 fun h7 => gfQ h7 a0 5 17 none fun b8 => gfQ h7 a3 2 0 none fun b9 => ldI h7 b9 x5 fun v10 => isO h7 b8 3 ((c 29 [.ref b8, .ref a2, .int v10, .int x7] h7).bind fun q11 => rV q11 fun h12 => ρ 20 [some (.ref a0), some (.ref a1), some (.ref a2), some (.ref a3), some (.int x4), some (.int (x5 + 1)), none, none] [] h12)) :=
 T1 (x_aload_n H rfl rfl) rfl
 ((x_getR H rfl).trans (gfQ_c rfl fun b1 =>
 U1 rfl (T1 (x_iload H rfl rfl) rfl
 (T1 (x_iload H rfl rfl) rfl
 ((x_iastore H rfl).trans (stI_c fun h2 =>
 U1 rfl (T1 (x_aload_n H rfl rfl) rfl
 ((x_getR H rfl).trans (gfQ_c rfl fun b3 =>
 U1 rfl (T1 (x_aload_n H rfl rfl) rfl
 (T1 (x_aload_n H rfl rfl) rfl
 ((x_getR H rfl).trans (gfQ_c rfl fun b4 =>
 U1 rfl (T1 (x_iload H rfl rfl) rfl
 ((x_iaload H rfl).trans (ldI_c fun v5 =>
 U1 rfl (T1 (x_iload H rfl rfl) rfl
 ((x_callV (ci := 3) H rfl [.ref a1, .int v5, .int x7] rfl rfl rfl rfl).trans (isO_c (bi_c fun q6 => rV_c fun h7 =>
 U1 rfl (T1 (x_aload_n H rfl rfl) rfl
 ((x_getR H rfl).trans (gfQ_c rfl fun b8 =>
 U1 rfl (T1 (x_aload_n H rfl rfl) rfl
 (T1 (x_aload_n H rfl rfl) rfl
 ((x_getR H rfl).trans (gfQ_c rfl fun b9 =>
 U1 rfl (T1 (x_iload H rfl rfl) rfl
 ((x_iaload H rfl).trans (ldI_c fun v10 =>
 U1 rfl (T1 (x_iload H rfl rfl) rfl
 ((x_callV (ci := 3) H rfl [.ref a2, .int v10, .int x7] rfl rfl rfl rfl).trans (isO_c (bi_c fun q11 => rV_c fun h12 =>
 U1 rfl (T2 [some (.ref a0), some (.ref a1), some (.ref a2), some (.ref a3), some (.int x4), some (.int (x5 + 1)), none, some (.int x7)] (x_iinc H rfl ki_1 rfl rfl) rfl
 (T2 [some (.ref a0), some (.ref a1), some (.ref a2), some (.ref a3), some (.int x4), some (.int (x5 + 1)), none, none] (x_goto H rfl (t := 20) (by decide)) rfl rfl))))))))))))))))))))))))))))))))))))
theorem nd_53_97 {c : Ct} {dd : Bool} {ρ : Kt} (H : St c dd mt_53 ρ) (h : AH) (a0 : Nat) (a1 : Nat) (a2 : Nat) (a3 : Nat) (x4 : Int32) (x5 : Int32) (x7 : Int32) : ρ 97 [some (.ref a0), some (.ref a1), some (.ref a2), some (.ref a3), some (.int x4), some (.int x5), none, some (.int x7)] [] h = ρ 100 [some (.ref a0), some (.ref a1), some (.ref a2), some (.ref a3), some (.int (x4 + 1)), some (.int x5), none, some (.int x7)] [] h :=
 T2 [some (.ref a0), some (.ref a1), some (.ref a2), some (.ref a3), some (.int (x4 + 1)), some (.int x5), none, some (.int x7)] (x_iinc H rfl ki_1 rfl rfl) rfl rfl
-- X5_survey (LNameRows$Machine;LNameRows$Machine;)V: 54
theorem nd_54_0 {c : Ct} {dd : Bool} {ρ : Kt} (H : St c dd mt_54 ρ) (h : AH) (a0 : Nat) (a1 : Nat) (a2 : Nat) : ρ 0 [some (.ref a0), some (.ref a1), some (.ref a2), none, none] [] h = isO h a0 5 ((c 41 [.ref a0, .ref a1, .ref a2, .int 0] h).bind fun q1 => rI q1 fun v3 h2 => ρ 10 [some (.ref a0), some (.ref a1), some (.ref a2), some (.int 0), none] [] h2) :=
 T1 (x_aload_n H rfl rfl) rfl
 (T1 (x_aload_n H rfl rfl) rfl
 (T1 (x_aload_n H rfl rfl) rfl
 (T1 (x_iconst H rfl ki_0) rfl
 ((x_callI (ci := 5) H rfl [.ref a1, .ref a2, .int 0] rfl rfl rfl rfl).trans (isO_c (bi_c fun q1 => rI_c fun v3 h2 =>
 U1 rfl (T1 (x_pop H rfl) rfl
 (T1 (x_iconst H rfl ki_0) rfl
 (T2 [some (.ref a0), some (.ref a1), some (.ref a2), some (.int 0), none] (x_istore_n H rfl rfl) rfl rfl)))))))))
theorem nd_54_10 {c : Ct} {dd : Bool} {ρ : Kt} (H : St c dd mt_54 ρ) (h : AH) (a0 : Nat) (a1 : Nat) (a2 : Nat) (x3 : Int32) : ρ 10 [some (.ref a0), some (.ref a1), some (.ref a2), some (.int x3), none] [] h = gfI h a0 5 4 fun v1 => if v1 ≤ x3 then (ρ 56 [some (.ref a0), some (.ref a1), none, none, none] [] h) else (if 30 ≤ x3 then (ρ 56 [some (.ref a0), some (.ref a1), none, none, none] [] h) else (isO h a0 5 ((c 45 [.ref a0, .int x3] h).bind fun q2 => rV q2 fun h3 => gfQ h3 a0 5 14 none fun b4 => gfI h3 a0 5 5 fun v5 => isO h3 a1 0 ((c 7 [.ref a1, .int v5] h3).bind fun q6 => rI q6 fun v8 h7 => stZ h7 b4 x3 v8 fun h9 => isO h9 a0 5 ((c 55 [.ref a0, .int x3, .ref a1, .ref a2] h9).bind fun q10 => rV q10 fun h11 => ρ 10 [some (.ref a0), some (.ref a1), some (.ref a2), some (.int (x3 + 1)), none] [] h11))))) :=
 T1 (x_iload_n H rfl rfl) rfl
 (T1 (x_aload_n H rfl rfl) rfl
 ((x_getI H rfl).trans (gfI_c fun v1 =>
 U1 rfl ((x_icmp_ge H rfl (t := 56) (by decide)).trans (if_c
 (U2 [some (.ref a0), some (.ref a1), none, none, none] rfl rfl)
 (U1 rfl (T1 (x_iload_n H rfl rfl) rfl
 (T1 (x_bipush H rfl kb_30) rfl
 ((x_icmp_ge H rfl (t := 56) (by decide)).trans (if_c
 (U2 [some (.ref a0), some (.ref a1), none, none, none] rfl rfl)
 (U1 rfl (T1 (x_aload_n H rfl rfl) rfl
 (T1 (x_iload_n H rfl rfl) rfl
 ((x_callV (ci := 5) H rfl [.int x3] rfl rfl rfl rfl).trans (isO_c (bi_c fun q2 => rV_c fun h3 =>
 U1 rfl (T1 (x_aload_n H rfl rfl) rfl
 ((x_getR H rfl).trans (gfQ_c rfl fun b4 =>
 U1 rfl (T1 (x_iload_n H rfl rfl) rfl
 (T1 (x_aload_n H rfl rfl) rfl
 (T1 (x_aload_n H rfl rfl) rfl
 ((x_getI H rfl).trans (gfI_c fun v5 =>
 U1 rfl ((x_callZ (ci := 0) H rfl [.int v5] rfl rfl rfl rfl).trans (isO_c (bi_c fun q6 => rI_c fun v8 h7 =>
 U1 rfl ((x_bastore H rfl).trans (stZ_c fun h9 =>
 U1 rfl (T1 (x_aload_n H rfl rfl) rfl
 (T1 (x_iload_n H rfl rfl) rfl
 (T1 (x_aload_n H rfl rfl) rfl
 (T1 (x_aload_n H rfl rfl) rfl
 ((x_callV (ci := 5) H rfl [.int x3, .ref a1, .ref a2] rfl rfl rfl rfl).trans (isO_c (bi_c fun q10 => rV_c fun h11 =>
 U1 rfl (T2 [some (.ref a0), some (.ref a1), some (.ref a2), some (.int (x3 + 1)), none] (x_iinc H rfl ki_1 rfl rfl) rfl
 (T2 [some (.ref a0), some (.ref a1), some (.ref a2), some (.int (x3 + 1)), none] (x_goto H rfl (t := 10) (by decide)) rfl rfl))))))))))))))))))))))))))))))))))))))
theorem nd_54_56 {c : Ct} {dd : Bool} {ρ : Kt} (H : St c dd mt_54 ρ) (h : AH) (a0 : Nat) (a1 : Nat) : ρ 56 [some (.ref a0), some (.ref a1), none, none, none] [] h = ρ 61 [some (.ref a0), some (.ref a1), none, some (.int 1), some (.int 0)] [] h :=
 T1 (x_iconst H rfl ki_1) rfl
 (T2 [some (.ref a0), some (.ref a1), none, some (.int 1), none] (x_istore_n H rfl rfl) rfl
 (T1 (x_iconst H rfl ki_0) rfl
 (T2 [some (.ref a0), some (.ref a1), none, some (.int 1), some (.int 0)] (x_istore H rfl rfl) rfl rfl)))
theorem nd_54_61 {c : Ct} {dd : Bool} {ρ : Kt} (H : St c dd mt_54 ρ) (h : AH) (a0 : Nat) (a1 : Nat) (x3 : Int32) (x4 : Int32) : ρ 61 [some (.ref a0), some (.ref a1), none, some (.int x3), some (.int x4)] [] h = if 30 ≤ x4 then (ρ 83 [some (.ref a0), some (.ref a1), none, none, none] [] h) else (if x3 = 0 then (ρ 83 [some (.ref a0), some (.ref a1), none, none, none] [] h) else (isO h a0 5 ((c 56 [.ref a0] h).bind fun q1 => rI q1 fun v3 h2 => ρ 61 [some (.ref a0), some (.ref a1), none, some (.int v3), some (.int (x4 + 1))] [] h2))) :=
 T1 (x_iload H rfl rfl) rfl
 (T1 (x_bipush H rfl kb_30) rfl
 ((x_icmp_ge H rfl (t := 83) (by decide)).trans (if_c
 (U2 [some (.ref a0), some (.ref a1), none, none, none] rfl rfl)
 (U1 rfl (T1 (x_iload_n H rfl rfl) rfl
 ((x_if_eq H rfl (t := 83) (by decide)).trans (if_c
 (U2 [some (.ref a0), some (.ref a1), none, none, none] rfl rfl)
 (U1 rfl (T1 (x_aload_n H rfl rfl) rfl
 ((x_callZ (ci := 5) H rfl [] rfl rfl rfl rfl).trans (isO_c (bi_c fun q1 => rI_c fun v3 h2 =>
 U1 rfl (T2 [some (.ref a0), some (.ref a1), none, some (.int v3), some (.int x4)] (x_istore_n H rfl rfl) rfl
 (T2 [some (.ref a0), some (.ref a1), none, some (.int v3), some (.int (x4 + 1))] (x_iinc H rfl ki_1 rfl rfl) rfl
 (T2 [some (.ref a0), some (.ref a1), none, some (.int v3), some (.int (x4 + 1))] (x_goto H rfl (t := 61) (by decide)) rfl rfl)))))))))))))))
theorem nd_54_83 {c : Ct} {dd : Bool} {ρ : Kt} (H : St c dd mt_54 ρ) (h : AH) (a0 : Nat) (a1 : Nat) : ρ 83 [some (.ref a0), some (.ref a1), none, none, none] [] h = isO h a1 0 ((c 10 [.ref a1] h).bind fun q1 => rV q1 fun h2 => ρ 90 [some (.ref a0), some (.ref a1), none, none, some (.int 0)] [] h2) :=
 T1 (x_aload_n H rfl rfl) rfl
 ((x_callV (ci := 0) H rfl [] rfl rfl rfl rfl).trans (isO_c (bi_c fun q1 => rV_c fun h2 =>
 U1 rfl (T1 (x_iconst H rfl ki_0) rfl
 (T2 [some (.ref a0), some (.ref a1), none, none, some (.int 0)] (x_istore H rfl rfl) rfl rfl)))))
theorem nd_54_90 {c : Ct} {dd : Bool} {ρ : Kt} (H : St c dd mt_54 ρ) (h : AH) (a0 : Nat) (a1 : Nat) (x4 : Int32) : ρ 90 [some (.ref a0), some (.ref a1), none, none, some (.int x4)] [] h = gfI h a0 5 4 fun v1 => if v1 ≤ x4 then (ρ 156 [none, some (.ref a1), none, none, none] [] h) else (if 30 ≤ x4 then (ρ 156 [none, some (.ref a1), none, none, none] [] h) else (isO h a0 5 ((c 45 [.ref a0, .int x4] h).bind fun q2 => rV q2 fun h3 => gfI h3 a0 5 5 fun v4 => gfQ h3 a0 5 8 none fun b5 => ldI h3 b5 0 fun v6 => gfQ h3 a0 5 8 none fun b7 => ldI h3 b7 1 fun v8 => (c 40 [.int v6, .int v8] h3).bind fun q9 => rI q9 fun v11 h10 => gfQ h10 a0 5 14 none fun b12 => ldZ h10 b12 x4 fun v13 => if v13 = 0 then (ρ 147 [some (.ref a0), some (.ref a1), none, none, some (.int x4)] [.int 2, .int v11, .int v4, .ref a1] h10) else (ρ 147 [some (.ref a0), some (.ref a1), none, none, some (.int x4)] [.int 1, .int v11, .int v4, .ref a1] h10)))) :=
 T1 (x_iload H rfl rfl) rfl
 (T1 (x_aload_n H rfl rfl) rfl
 ((x_getI H rfl).trans (gfI_c fun v1 =>
 U1 rfl ((x_icmp_ge H rfl (t := 156) (by decide)).trans (if_c
 (U2 [none, some (.ref a1), none, none, none] rfl rfl)
 (U1 rfl (T1 (x_iload H rfl rfl) rfl
 (T1 (x_bipush H rfl kb_30) rfl
 ((x_icmp_ge H rfl (t := 156) (by decide)).trans (if_c
 (U2 [none, some (.ref a1), none, none, none] rfl rfl)
 (U1 rfl (T1 (x_aload_n H rfl rfl) rfl
 (T1 (x_iload H rfl rfl) rfl
 ((x_callV (ci := 5) H rfl [.int x4] rfl rfl rfl rfl).trans (isO_c (bi_c fun q2 => rV_c fun h3 =>
 U1 rfl (T1 (x_aload_n H rfl rfl) rfl
 (T1 (x_aload_n H rfl rfl) rfl
 ((x_getI H rfl).trans (gfI_c fun v4 =>
 U1 rfl (T1 (x_aload_n H rfl rfl) rfl
 ((x_getR H rfl).trans (gfQ_c rfl fun b5 =>
 U1 rfl (T1 (x_iconst H rfl ki_0) rfl
 ((x_iaload H rfl).trans (ldI_c fun v6 =>
 U1 rfl (T1 (x_aload_n H rfl rfl) rfl
 ((x_getR H rfl).trans (gfQ_c rfl fun b7 =>
 U1 rfl (T1 (x_iconst H rfl ki_1) rfl
 ((x_iaload H rfl).trans (ldI_c fun v8 =>
 U1 rfl ((x_statI H rfl [.int v6, .int v8] rfl rfl rfl rfl rfl).trans (bi_c fun q9 => rI_c fun v11 h10 =>
 U1 rfl (T1 (x_aload_n H rfl rfl) rfl
 ((x_getR H rfl).trans (gfQ_c rfl fun b12 =>
 U1 rfl (T1 (x_iload H rfl rfl) rfl
 ((x_baload H rfl).trans (ldZ_c fun v13 =>
 U1 rfl ((x_if_eq H rfl (t := 146) (by decide)).trans (if_c
 (U1 rfl (T2 [some (.ref a0), some (.ref a1), none, none, some (.int x4)] (x_iconst H rfl ki_2) rfl rfl))
 (U1 rfl (T1 (x_iconst H rfl ki_1) rfl
 (T2 [some (.ref a0), some (.ref a1), none, none, some (.int x4)] (x_goto H rfl (t := 147) (by decide)) rfl rfl)))))))))))))))))))))))))))))))))))))))))))))
theorem nd_54_147 {c : Ct} {dd : Bool} {ρ : Kt} (H : St c dd mt_54 ρ) (h : AH) (a0 : Nat) (a1 : Nat) (x4 : Int32) (s0_ : Int32) (s1_ : Int32) (s2_ : Int32) (c3_ : Nat) : ρ 147 [some (.ref a0), some (.ref a1), none, none, some (.int x4)] [.int s0_, .int s1_, .int s2_, .ref c3_] h = isO h c3_ 0 ((c 11 [.ref c3_, .int s2_, .int s1_, .int s0_] h).bind fun q1 => rV q1 fun h2 => ρ 90 [some (.ref a0), some (.ref a1), none, none, some (.int (x4 + 1))] [] h2) :=
 (x_callV (ci := 0) H rfl [.int s2_, .int s1_, .int s0_] rfl rfl rfl rfl).trans (isO_c (bi_c fun q1 => rV_c fun h2 =>
 U1 rfl (T2 [some (.ref a0), some (.ref a1), none, none, some (.int (x4 + 1))] (x_iinc H rfl ki_1 rfl rfl) rfl
 (T2 [some (.ref a0), some (.ref a1), none, none, some (.int (x4 + 1))] (x_goto H rfl (t := 90) (by decide)) rfl rfl))))
theorem nd_54_156 {c : Ct} {dd : Bool} {ρ : Kt} (H : St c dd mt_54 ρ) (h : AH) (a1 : Nat) : ρ 156 [none, some (.ref a1), none, none, none] [] h = isZ 1 (pfV h a1 0 7 (.int 1) fun h1 => some (none, h1)) :=
 T1 (x_aload_n H rfl rfl) rfl
 (T1 (x_iconst H rfl ki_1) rfl
 ((x_putZ H rfl).trans (isZ_c (pfV_c fun h1 =>
 U1 rfl (x_return H rfl rfl)))))
-- X5_tellNext (ILNameRows$Machine;LNameRows$Machine;)V: 55
theorem nd_55_0 {c : Ct} {dd : Bool} {ρ : Kt} (H : St c dd mt_55 ρ) (h : AH) (a0 : Nat) (x1 : Int32) (a2 : Nat) (a3 : Nat) : ρ 0 [some (.ref a0), some (.int x1), some (.ref a2), some (.ref a3), none, none] [] h = ρ 3 [some (.ref a0), some (.int x1), some (.ref a2), some (.ref a3), some (.int 0), none] [] h :=
 T1 (x_iconst H rfl ki_0) rfl
 (T2 [some (.ref a0), some (.int x1), some (.ref a2), some (.ref a3), some (.int 0), none] (x_istore H rfl rfl) rfl rfl)
theorem nd_55_3 {c : Ct} {dd : Bool} {ρ : Kt} (H : St c dd mt_55 ρ) (h : AH) (a0 : Nat) (x1 : Int32) (a2 : Nat) (a3 : Nat) (x4 : Int32) : ρ 3 [some (.ref a0), some (.int x1), some (.ref a2), some (.ref a3), some (.int x4), none] [] h = if 15 ≤ x4 then (some (none, h)) else (isO h a0 5 ((c 46 [.ref a0, .ref a2, .ref a3, .int x4] h).bind fun q1 => rI q1 fun v3 h2 => gfQ h2 a0 5 15 none fun b4 => if v3 < 0 then (ρ 56 [some (.ref a0), some (.int x1), some (.ref a2), some (.ref a3), some (.int x4), none] [.int ((x1 * 15) + x4), .ref b4] h2) else (if 4320 ≤ v3 then (ρ 56 [some (.ref a0), some (.int x1), some (.ref a2), some (.ref a3), some (.int x4), none] [.int ((x1 * 15) + x4), .ref b4] h2) else (gfQ h2 a0 5 0 none fun b5 => ldI h2 b5 v3 fun v6 => ρ 58 [some (.ref a0), some (.int x1), some (.ref a2), some (.ref a3), some (.int x4), none] [.int (v6 - 1), .int ((x1 * 15) + x4), .ref b4] h2)))) :=
 T1 (x_iload H rfl rfl) rfl
 (T1 (x_bipush H rfl kb_15) rfl
 ((x_icmp_ge H rfl (t := 65) (by decide)).trans (if_c
 (U1 rfl (x_return H rfl rfl))
 (U1 rfl (T1 (x_aload_n H rfl rfl) rfl
 (T1 (x_aload_n H rfl rfl) rfl
 (T1 (x_aload_n H rfl rfl) rfl
 (T1 (x_iload H rfl rfl) rfl
 ((x_callI (ci := 5) H rfl [.ref a2, .ref a3, .int x4] rfl rfl rfl rfl).trans (isO_c (bi_c fun q1 => rI_c fun v3 h2 =>
 U1 rfl (T2 [some (.ref a0), some (.int x1), some (.ref a2), some (.ref a3), some (.int x4), some (.int v3)] (x_istore H rfl rfl) rfl
 (T1 (x_aload_n H rfl rfl) rfl
 ((x_getR H rfl).trans (gfQ_c rfl fun b4 =>
 U1 rfl (T1 (x_iload_n H rfl rfl) rfl
 (T1 (x_bipush H rfl kb_15) rfl
 (T1 (x_imul H rfl) rfl
 (T1 (x_iload H rfl rfl) rfl
 (T1 (x_iadd H rfl) rfl
 (T1 (x_iload H rfl rfl) rfl
 ((x_if_lt H rfl (t := 56) (by decide)).trans (if_c
 (U2 [some (.ref a0), some (.int x1), some (.ref a2), some (.ref a3), some (.int x4), none] rfl rfl)
 (U1 rfl (T1 (x_iload H rfl rfl) rfl
 (T1 (x_sipush H rfl ks_4320) rfl
 ((x_icmp_ge H rfl (t := 56) (by decide)).trans (if_c
 (U2 [some (.ref a0), some (.int x1), some (.ref a2), some (.ref a3), some (.int x4), none] rfl rfl)
 (U1 rfl (T1 (x_aload_n H rfl rfl) rfl
 ((x_getR H rfl).trans (gfQ_c rfl fun b5 =>
 U1 rfl (T1 (x_iload H rfl rfl) rfl
 ((x_iaload H rfl).trans (ldI_c fun v6 =>
 U1 rfl (T1 (x_iconst H rfl ki_1) rfl
 (T1 (x_isub H rfl) rfl
 (T2 [some (.ref a0), some (.int x1), some (.ref a2), some (.ref a3), some (.int x4), none] (x_goto H rfl (t := 58) (by decide)) rfl rfl))))))))))))))))))))))))))))))))))))))
theorem nd_55_56 {c : Ct} {dd : Bool} {ρ : Kt} (H : St c dd mt_55 ρ) (h : AH) (a0 : Nat) (x1 : Int32) (a2 : Nat) (a3 : Nat) (x4 : Int32) (s0_ : Int32) (c1_ : Nat) : ρ 56 [some (.ref a0), some (.int x1), some (.ref a2), some (.ref a3), some (.int x4), none] [.int s0_, .ref c1_] h = ρ 58 [some (.ref a0), some (.int x1), some (.ref a2), some (.ref a3), some (.int x4), none] [.int (-4), .int s0_, .ref c1_] h :=
 T2 [some (.ref a0), some (.int x1), some (.ref a2), some (.ref a3), some (.int x4), none] (x_bipush H rfl kb_m4) rfl rfl
theorem nd_55_58 {c : Ct} {dd : Bool} {ρ : Kt} (H : St c dd mt_55 ρ) (h : AH) (a0 : Nat) (x1 : Int32) (a2 : Nat) (a3 : Nat) (x4 : Int32) (s0_ : Int32) (s1_ : Int32) (c2_ : Nat) : ρ 58 [some (.ref a0), some (.int x1), some (.ref a2), some (.ref a3), some (.int x4), none] [.int s0_, .int s1_, .ref c2_] h = stI h c2_ s1_ s0_ fun h1 => ρ 3 [some (.ref a0), some (.int x1), some (.ref a2), some (.ref a3), some (.int (x4 + 1)), none] [] h1 :=
 (x_iastore H rfl).trans (stI_c fun h1 =>
 U1 rfl (T2 [some (.ref a0), some (.int x1), some (.ref a2), some (.ref a3), some (.int (x4 + 1)), none] (x_iinc H rfl ki_1 rfl rfl) rfl
 (T2 [some (.ref a0), some (.int x1), some (.ref a2), some (.ref a3), some (.int (x4 + 1)), none] (x_goto H rfl (t := 3) (by decide)) rfl rfl)))
-- X5_spreadLife ()Z: 56
theorem nd_56_0 {c : Ct} {dd : Bool} {ρ : Kt} (H : St c dd mt_56 ρ) (hd : dd = true) (h : AH) (a0 : Nat) : ρ 0 [some (.ref a0), none, none] [] h = gfI h a0 5 4 fun v1 => ρ 14 [some (.ref a0), some (.int 0), some (.int ((if 30 < v1 then 30 else v1) - 1))] [] h :=
 T1 (x_iconst H rfl ki_0) rfl
 (T2 [some (.ref a0), some (.int 0), none] (x_istore_n H rfl rfl) rfl
 (T1 (x_aload_n H rfl rfl) rfl
 ((x_getI H rfl).trans (gfI_c fun v1 =>
 U1 rfl (T1 (x_bipush H rfl kb_30) rfl
 (T1 (x_min H rfl (by rw [hd]; rfl)) rfl
 (T1 (x_iconst H rfl ki_1) rfl
 (T1 (x_isub H rfl) rfl
 (T2 [some (.ref a0), some (.int 0), some (.int ((if 30 < v1 then 30 else v1) - 1))] (x_istore_n H rfl rfl) rfl rfl)))))))))
theorem nd_56_14 {c : Ct} {dd : Bool} {ρ : Kt} (H : St c dd mt_56 ρ) (h : AH) (a0 : Nat) (x1 : Int32) (x2 : Int32) : ρ 14 [some (.ref a0), some (.int x1), some (.int x2)] [] h = if x2 < 0 then (isZ x1 (some (some (.int x1), h))) else (gfQ h a0 5 14 none fun b1 => ldZ h b1 x2 fun v2 => if v2 = 0 then (isO h a0 5 ((c 57 [.ref a0, .int x2] h).bind fun q3 => rI q3 fun v5 h4 => if v5 = 0 then (ρ 44 [some (.ref a0), some (.int x1), some (.int x2)] [] h4) else (gfQ h4 a0 5 14 none fun b6 => stZ h4 b6 x2 1 fun h7 => ρ 44 [some (.ref a0), some (.int 1), some (.int x2)] [] h7))) else (ρ 44 [some (.ref a0), some (.int x1), some (.int x2)] [] h)) :=
 T1 (x_iload_n H rfl rfl) rfl
 ((x_if_lt H rfl (t := 50) (by decide)).trans (if_c
 (U1 rfl (T1 (x_iload_n H rfl rfl) rfl
 (x_zreturn H rfl rfl)))
 (U1 rfl (T1 (x_aload_n H rfl rfl) rfl
 ((x_getR H rfl).trans (gfQ_c rfl fun b1 =>
 U1 rfl (T1 (x_iload_n H rfl rfl) rfl
 ((x_baload H rfl).trans (ldZ_c fun v2 =>
 U1 rfl ((x_if_ne H rfl (t := 44) (by decide)).trans (if_c
 (U1 rfl (T1 (x_aload_n H rfl rfl) rfl
 (T1 (x_iload_n H rfl rfl) rfl
 ((x_callZ (ci := 5) H rfl [.int x2] rfl rfl rfl rfl).trans (isO_c (bi_c fun q3 => rI_c fun v5 h4 =>
 U1 rfl ((x_if_eq H rfl (t := 44) (by decide)).trans (if_c
 (U2 [some (.ref a0), some (.int x1), some (.int x2)] rfl rfl)
 (U1 rfl (T1 (x_aload_n H rfl rfl) rfl
 ((x_getR H rfl).trans (gfQ_c rfl fun b6 =>
 U1 rfl (T1 (x_iload_n H rfl rfl) rfl
 (T1 (x_iconst H rfl ki_1) rfl
 ((x_bastore H rfl).trans (stZ_c fun h7 =>
 U1 rfl (T1 (x_iconst H rfl ki_1) rfl
 (T2 [some (.ref a0), some (.int 1), some (.int x2)] (x_istore_n H rfl rfl) rfl rfl))))))))))))))))))
 (U2 [some (.ref a0), some (.int x1), some (.int x2)] rfl rfl))))))))))))
theorem nd_56_44 {c : Ct} {dd : Bool} {ρ : Kt} (H : St c dd mt_56 ρ) (h : AH) (a0 : Nat) (x1 : Int32) (x2 : Int32) : ρ 44 [some (.ref a0), some (.int x1), some (.int x2)] [] h = ρ 14 [some (.ref a0), some (.int x1), some (.int (x2 + (-1)))] [] h :=
 T2 [some (.ref a0), some (.int x1), some (.int (x2 + (-1)))] (x_iinc H rfl ki_m1 rfl rfl) rfl
 (T2 [some (.ref a0), some (.int x1), some (.int (x2 + (-1)))] (x_goto H rfl (t := 14) (by decide)) rfl rfl)
-- X5_leadsToLife (I)Z: 57
theorem nd_57_0 {c : Ct} {dd : Bool} {ρ : Kt} (H : St c dd mt_57 ρ) (h : AH) (a0 : Nat) (x1 : Int32) : ρ 0 [some (.ref a0), some (.int x1), none, none] [] h = ρ 2 [some (.ref a0), some (.int x1), some (.int 0), none] [] h :=
 T1 (x_iconst H rfl ki_0) rfl
 (T2 [some (.ref a0), some (.int x1), some (.int 0), none] (x_istore_n H rfl rfl) rfl rfl)
theorem nd_57_2 {c : Ct} {dd : Bool} {ρ : Kt} (H : St c dd mt_57 ρ) (h : AH) (a0 : Nat) (x1 : Int32) (x2 : Int32) : ρ 2 [some (.ref a0), some (.int x1), some (.int x2), none] [] h = if 15 ≤ x2 then (isZ 0 (some (some (.int 0), h))) else (gfQ h a0 5 15 none fun b1 => ldI h b1 ((x1 * 15) + x2) fun v2 => if v2 < 0 then (ρ 41 [some (.ref a0), some (.int x1), some (.int x2), none] [] h) else (if 30 ≤ v2 then (ρ 41 [some (.ref a0), some (.int x1), some (.int x2), none] [] h) else (gfQ h a0 5 14 none fun b3 => ldZ h b3 v2 fun v4 => if v4 = 0 then (ρ 41 [some (.ref a0), some (.int x1), some (.int x2), none] [] h) else (isZ 1 (some (some (.int 1), h)))))) :=
 T1 (x_iload_n H rfl rfl) rfl
 (T1 (x_bipush H rfl kb_15) rfl
 ((x_icmp_ge H rfl (t := 47) (by decide)).trans (if_c
 (U1 rfl (T1 (x_iconst H rfl ki_0) rfl
 (x_zreturn H rfl rfl)))
 (U1 rfl (T1 (x_aload_n H rfl rfl) rfl
 ((x_getR H rfl).trans (gfQ_c rfl fun b1 =>
 U1 rfl (T1 (x_iload_n H rfl rfl) rfl
 (T1 (x_bipush H rfl kb_15) rfl
 (T1 (x_imul H rfl) rfl
 (T1 (x_iload_n H rfl rfl) rfl
 (T1 (x_iadd H rfl) rfl
 ((x_iaload H rfl).trans (ldI_c fun v2 =>
 U1 rfl (T2 [some (.ref a0), some (.int x1), some (.int x2), some (.int v2)] (x_istore_n H rfl rfl) rfl
 (T1 (x_iload_n H rfl rfl) rfl
 ((x_if_lt H rfl (t := 41) (by decide)).trans (if_c
 (U2 [some (.ref a0), some (.int x1), some (.int x2), none] rfl rfl)
 (U1 rfl (T1 (x_iload_n H rfl rfl) rfl
 (T1 (x_bipush H rfl kb_30) rfl
 ((x_icmp_ge H rfl (t := 41) (by decide)).trans (if_c
 (U2 [some (.ref a0), some (.int x1), some (.int x2), none] rfl rfl)
 (U1 rfl (T1 (x_aload_n H rfl rfl) rfl
 ((x_getR H rfl).trans (gfQ_c rfl fun b3 =>
 U1 rfl (T1 (x_iload_n H rfl rfl) rfl
 ((x_baload H rfl).trans (ldZ_c fun v4 =>
 U1 rfl ((x_if_eq H rfl (t := 41) (by decide)).trans (if_c
 (U2 [some (.ref a0), some (.int x1), some (.int x2), none] rfl rfl)
 (U1 rfl (T1 (x_iconst H rfl ki_1) rfl
 (x_zreturn H rfl rfl)))))))))))))))))))))))))))))))))))
theorem nd_57_41 {c : Ct} {dd : Bool} {ρ : Kt} (H : St c dd mt_57 ρ) (h : AH) (a0 : Nat) (x1 : Int32) (x2 : Int32) : ρ 41 [some (.ref a0), some (.int x1), some (.int x2), none] [] h = ρ 2 [some (.ref a0), some (.int x1), some (.int (x2 + 1)), none] [] h :=
 T2 [some (.ref a0), some (.int x1), some (.int (x2 + 1)), none] (x_iinc H rfl ki_1 rfl rfl) rfl
 (T2 [some (.ref a0), some (.int x1), some (.int (x2 + 1)), none] (x_goto H rfl (t := 2) (by decide)) rfl rfl)
