/-! ===== node equations: what each method does from a node to the next ===== -/
set_option maxHeartbeats 400000
set_option maxRecDepth 100000
-- X8_init ()V: 106
theorem nd_106_0 {c : Ct} {dd : Bool} {ρ : Kt} (H : St c dd mt_106 ρ) (hd : dd = true) (h : AH) (a0 : Nat) : ρ 0 [some (.ref a0), none] [] h = pfV (hN h (aI 0 40 fun _ => 0) 40) a0 8 1 (.ref h.2.1) fun h1 => pfV (hN h1 (aI 0 40 fun _ => 0) 40) a0 8 2 (.ref h1.2.1) fun h2 => pfV (hN h2 (aI 0 6 fun _ => 0) 6) a0 8 4 (.ref h2.2.1) fun h3 => pfV (hN h3 (aI 0 6 fun _ => 0) 6) a0 8 5 (.ref h3.2.1) fun h4 => pfV (hN h4 (aI 1 36 fun _ => 0) 36) a0 8 6 (.ref h4.2.1) fun h5 => pfV (hN h5 (aI 0 324 fun _ => 0) 324) a0 8 7 (.ref h5.2.1) fun h6 => pfV (hN h6 (aI 0 324 fun _ => 0) 324) a0 8 8 (.ref h6.2.1) fun h7 => pfV (hN h7 (aI 0 7 fun _ => 0) 7) a0 8 9 (.ref h7.2.1) fun h8 => pfV (hN h8 (aI 0 54 fun _ => 0) 54) a0 8 10 (.ref h8.2.1) fun h9 => pfV (hN h9 (aI 0 54 fun _ => 0) 54) a0 8 11 (.ref h9.2.1) fun h10 => pfV (hN h10 (aI 1 2 fun _ => 0) 2) a0 8 13 (.ref h10.2.1) fun h11 => pfV (hN h11 (aI 0 2 fun _ => 0) 2) a0 8 14 (.ref h11.2.1) fun h12 => pfV (hN h12 (aI 0 2 fun _ => 0) 2) a0 8 15 (.ref h12.2.1) fun h13 => pfV (hN h13 (aI 1 22500 fun _ => 0) 22500) a0 8 17 (.ref h13.2.1) fun h14 => pfV (hN h14 (aI 1 22500 fun _ => 0) 22500) a0 8 18 (.ref h14.2.1) fun h15 => pfV (hN h15 (aI 0 22500 fun _ => 0) 22500) a0 8 19 (.ref h15.2.1) fun h16 => pfV (hN h16 (aI 0 22500 fun _ => 0) 22500) a0 8 20 (.ref h16.2.1) fun h17 => pfV (hN h17 (aI 0 22500 fun _ => 0) 22500) a0 8 21 (.ref h17.2.1) fun h18 => pfV (hN h18 (aI 0 4 fun _ => 0) 4) a0 8 25 (.ref h18.2.1) fun h19 => pfV (hN h19 (aI 0 4 fun _ => 0) 4) a0 8 26 (.ref h19.2.1) fun h20 => pfV (hN h20 (aI 0 22500 fun _ => 0) 22500) a0 8 27 (.ref h20.2.1) fun h21 => pfV (hN h21 (aI 0 4 fun _ => 0) 4) a0 8 30 (.ref h21.2.1) fun h22 => pfV (hN h22 (aI 0 4 fun _ => 0) 4) a0 8 32 (.ref h22.2.1) fun h23 => pfV (hN h23 (aI 0 4 fun _ => 0) 4) a0 8 33 (.ref h23.2.1) fun h24 => pfV (hN h24 (aI 1 8 fun _ => 0) 8) a0 8 34 (.ref h24.2.1) fun h25 => pfV (hN h25 (aI 0 8 fun _ => 0) 8) a0 8 35 (.ref h25.2.1) fun h26 => pfV (hN h26 (aI 0 4 fun _ => 0) 4) a0 8 36 (.ref h26.2.1) fun h27 => pfV (hN h27 (aI 0 4 fun _ => 0) 4) a0 8 37 (.ref h27.2.1) fun h28 => pfV (hN h28 (aI 0 4 fun _ => 0) 4) a0 8 38 (.ref h28.2.1) fun h29 => pfV (hN h29 (aI 0 4 fun _ => 0) 4) a0 8 39 (.ref h29.2.1) fun h30 => pfV (hN h30 (aI 0 4 fun _ => 0) 4) a0 8 40 (.ref h30.2.1) fun h31 => pfV (hN h31 (aI 0 240 fun _ => 0) 240) a0 8 41 (.ref h31.2.1) fun h32 => ρ 258 [some (.ref a0), some (.int 0)] [] h32 :=
 T1 (x_aload_n H rfl rfl) rfl
 (T1 (x_oinit H rfl (by rw [hd]; rfl)) rfl
 (T1 (x_aload_n H rfl rfl) rfl
 (T1 (x_bipush H rfl kb_40) rfl
 (T1 (x_newi H rfl (by decide) (by decide)) rfl
 ((x_putR H rfl).trans (pfV_c fun h1 =>
 U1 rfl (T1 (x_aload_n H rfl rfl) rfl
 (T1 (x_bipush H rfl kb_40) rfl
 (T1 (x_newi H rfl (by decide) (by decide)) rfl
 ((x_putR H rfl).trans (pfV_c fun h2 =>
 U1 rfl (T1 (x_aload_n H rfl rfl) rfl
 (T1 (x_bipush H rfl kb_6) rfl
 (T1 (x_newi H rfl (by decide) (by decide)) rfl
 ((x_putR H rfl).trans (pfV_c fun h3 =>
 U1 rfl (T1 (x_aload_n H rfl rfl) rfl
 (T1 (x_bipush H rfl kb_6) rfl
 (T1 (x_newi H rfl (by decide) (by decide)) rfl
 ((x_putR H rfl).trans (pfV_c fun h4 =>
 U1 rfl (T1 (x_aload_n H rfl rfl) rfl
 (T1 (x_bipush H rfl kb_36) rfl
 (T1 (x_newz H rfl (by decide) (by decide)) rfl
 ((x_putR H rfl).trans (pfV_c fun h5 =>
 U1 rfl (T1 (x_aload_n H rfl rfl) rfl
 (T1 (x_sipush H rfl ks_324) rfl
 (T1 (x_newi H rfl (by decide) (by decide)) rfl
 ((x_putR H rfl).trans (pfV_c fun h6 =>
 U1 rfl (T1 (x_aload_n H rfl rfl) rfl
 (T1 (x_sipush H rfl ks_324) rfl
 (T1 (x_newi H rfl (by decide) (by decide)) rfl
 ((x_putR H rfl).trans (pfV_c fun h7 =>
 U1 rfl (T1 (x_aload_n H rfl rfl) rfl
 (T1 (x_bipush H rfl kb_7) rfl
 (T1 (x_newi H rfl (by decide) (by decide)) rfl
 ((x_putR H rfl).trans (pfV_c fun h8 =>
 U1 rfl (T1 (x_aload_n H rfl rfl) rfl
 (T1 (x_bipush H rfl kb_54) rfl
 (T1 (x_newi H rfl (by decide) (by decide)) rfl
 ((x_putR H rfl).trans (pfV_c fun h9 =>
 U1 rfl (T1 (x_aload_n H rfl rfl) rfl
 (T1 (x_bipush H rfl kb_54) rfl
 (T1 (x_newi H rfl (by decide) (by decide)) rfl
 ((x_putR H rfl).trans (pfV_c fun h10 =>
 U1 rfl (T1 (x_aload_n H rfl rfl) rfl
 (T1 (x_iconst H rfl ki_2) rfl
 (T1 (x_newz H rfl (by decide) (by decide)) rfl
 ((x_putR H rfl).trans (pfV_c fun h11 =>
 U1 rfl (T1 (x_aload_n H rfl rfl) rfl
 (T1 (x_iconst H rfl ki_2) rfl
 (T1 (x_newi H rfl (by decide) (by decide)) rfl
 ((x_putR H rfl).trans (pfV_c fun h12 =>
 U1 rfl (T1 (x_aload_n H rfl rfl) rfl
 (T1 (x_iconst H rfl ki_2) rfl
 (T1 (x_newi H rfl (by decide) (by decide)) rfl
 ((x_putR H rfl).trans (pfV_c fun h13 =>
 U1 rfl (T1 (x_aload_n H rfl rfl) rfl
 (T1 (x_sipush H rfl ks_22500) rfl
 (T1 (x_newz H rfl (by decide) (by decide)) rfl
 ((x_putR H rfl).trans (pfV_c fun h14 =>
 U1 rfl (T1 (x_aload_n H rfl rfl) rfl
 (T1 (x_sipush H rfl ks_22500) rfl
 (T1 (x_newz H rfl (by decide) (by decide)) rfl
 ((x_putR H rfl).trans (pfV_c fun h15 =>
 U1 rfl (T1 (x_aload_n H rfl rfl) rfl
 (T1 (x_sipush H rfl ks_22500) rfl
 (T1 (x_newi H rfl (by decide) (by decide)) rfl
 ((x_putR H rfl).trans (pfV_c fun h16 =>
 U1 rfl (T1 (x_aload_n H rfl rfl) rfl
 (T1 (x_sipush H rfl ks_22500) rfl
 (T1 (x_newi H rfl (by decide) (by decide)) rfl
 ((x_putR H rfl).trans (pfV_c fun h17 =>
 U1 rfl (T1 (x_aload_n H rfl rfl) rfl
 (T1 (x_sipush H rfl ks_22500) rfl
 (T1 (x_newi H rfl (by decide) (by decide)) rfl
 ((x_putR H rfl).trans (pfV_c fun h18 =>
 U1 rfl (T1 (x_aload_n H rfl rfl) rfl
 (T1 (x_iconst H rfl ki_4) rfl
 (T1 (x_newi H rfl (by decide) (by decide)) rfl
 ((x_putR H rfl).trans (pfV_c fun h19 =>
 U1 rfl (T1 (x_aload_n H rfl rfl) rfl
 (T1 (x_iconst H rfl ki_4) rfl
 (T1 (x_newi H rfl (by decide) (by decide)) rfl
 ((x_putR H rfl).trans (pfV_c fun h20 =>
 U1 rfl (T1 (x_aload_n H rfl rfl) rfl
 (T1 (x_sipush H rfl ks_22500) rfl
 (T1 (x_newi H rfl (by decide) (by decide)) rfl
 ((x_putR H rfl).trans (pfV_c fun h21 =>
 U1 rfl (T1 (x_aload_n H rfl rfl) rfl
 (T1 (x_iconst H rfl ki_4) rfl
 (T1 (x_newi H rfl (by decide) (by decide)) rfl
 ((x_putR H rfl).trans (pfV_c fun h22 =>
 U1 rfl (T1 (x_aload_n H rfl rfl) rfl
 (T1 (x_iconst H rfl ki_4) rfl
 (T1 (x_newi H rfl (by decide) (by decide)) rfl
 ((x_putR H rfl).trans (pfV_c fun h23 =>
 U1 rfl (T1 (x_aload_n H rfl rfl) rfl
 (T1 (x_iconst H rfl ki_4) rfl
 (T1 (x_newi H rfl (by decide) (by decide)) rfl
 ((x_putR H rfl).trans (pfV_c fun h24 =>
 U1 rfl (T1 (x_aload_n H rfl rfl) rfl
 (T1 (x_bipush H rfl kb_8) rfl
 (T1 (x_newz H rfl (by decide) (by decide)) rfl
 ((x_putR H rfl).trans (pfV_c fun h25 =>
 U1 rfl (T1 (x_aload_n H rfl rfl) rfl
 (T1 (x_bipush H rfl kb_8) rfl
 (T1 (x_newi H rfl (by decide) (by decide)) rfl
 ((x_putR H rfl).trans (pfV_c fun h26 =>
 U1 rfl (T1 (x_aload_n H rfl rfl) rfl
 (T1 (x_iconst H rfl ki_4) rfl
 (T1 (x_newi H rfl (by decide) (by decide)) rfl
 ((x_putR H rfl).trans (pfV_c fun h27 =>
 U1 rfl (T1 (x_aload_n H rfl rfl) rfl
 (T1 (x_iconst H rfl ki_4) rfl
 (T1 (x_newi H rfl (by decide) (by decide)) rfl
 ((x_putR H rfl).trans (pfV_c fun h28 =>
 U1 rfl (T1 (x_aload_n H rfl rfl) rfl
 (T1 (x_iconst H rfl ki_4) rfl
 (T1 (x_newi H rfl (by decide) (by decide)) rfl
 ((x_putR H rfl).trans (pfV_c fun h29 =>
 U1 rfl (T1 (x_aload_n H rfl rfl) rfl
 (T1 (x_iconst H rfl ki_4) rfl
 (T1 (x_newi H rfl (by decide) (by decide)) rfl
 ((x_putR H rfl).trans (pfV_c fun h30 =>
 U1 rfl (T1 (x_aload_n H rfl rfl) rfl
 (T1 (x_iconst H rfl ki_4) rfl
 (T1 (x_newi H rfl (by decide) (by decide)) rfl
 ((x_putR H rfl).trans (pfV_c fun h31 =>
 U1 rfl (T1 (x_aload_n H rfl rfl) rfl
 (T1 (x_sipush H rfl ks_240) rfl
 (T1 (x_newi H rfl (by decide) (by decide)) rfl
 ((x_putR H rfl).trans (pfV_c fun h32 =>
 U1 rfl (T1 (x_iconst H rfl ki_0) rfl
 (T2 [some (.ref a0), some (.int 0)] (x_istore_n H rfl rfl) rfl rfl)))))))))))))))))))))))))))))))))))))))))))))))))))))))))))))))))))))))))))))))))))))))))))))))))))))))))))))))))))))))))))))))))))))))))))))))))))))))))))))))))))
theorem nd_106_258 {c : Ct} {dd : Bool} {ρ : Kt} (H : St c dd mt_106 ρ) (h : AH) (a0 : Nat) (x1 : Int32) : ρ 258 [some (.ref a0), some (.int x1)] [] h = if 4 ≤ x1 then (some (none, h)) else (gfQ h a0 8 39 none fun b1 => stI h b1 x1 (-4) fun h2 => ρ 258 [some (.ref a0), some (.int (x1 + 1))] [] h2) :=
 T1 (x_iload_n H rfl rfl) rfl
 (T1 (x_iconst H rfl ki_4) rfl
 ((x_icmp_ge H rfl (t := 277) (by decide)).trans (if_c
 (U1 rfl (x_return H rfl rfl))
 (U1 rfl (T1 (x_aload_n H rfl rfl) rfl
 ((x_getR H rfl).trans (gfQ_c rfl fun b1 =>
 U1 rfl (T1 (x_iload_n H rfl rfl) rfl
 (T1 (x_bipush H rfl kb_m4) rfl
 ((x_iastore H rfl).trans (stI_c fun h2 =>
 U1 rfl (T2 [some (.ref a0), some (.int (x1 + 1))] (x_iinc H rfl ki_1 rfl rfl) rfl
 (T2 [some (.ref a0), some (.int (x1 + 1))] (x_goto H rfl (t := 258) (by decide)) rfl rfl)))))))))))))
-- X8_in (JJJ)Z: 107
theorem nd_107_0 {c : Ct} {dd : Bool} {ρ : Kt} (H : St c dd mt_107 ρ) (h : AH) (y0 : Int64) (y2 : Int64) (y4 : Int64) : ρ 0 [some (.long y0), none, some (.long y2), none, some (.long y4), none] [] h = if (lg_cmp y0 y2) < 0 then (ρ 17 [none, none, none, none, none, none] [] h) else (if 0 < (lg_cmp y0 y4) then (ρ 17 [none, none, none, none, none, none] [] h) else (ρ 18 [none, none, none, none, none, none] [.int 1] h)) :=
 T1 (x_lload_n H rfl rfl) rfl
 (T1 (x_lload_n H rfl rfl) rfl
 (T1 (x_lcmp H rfl) rfl
 ((x_if_lt H rfl (t := 17) (by decide)).trans (if_c
 (U2 [none, none, none, none, none, none] rfl rfl)
 (U1 rfl (T1 (x_lload_n H rfl rfl) rfl
 (T1 (x_lload H rfl rfl) rfl
 (T1 (x_lcmp H rfl) rfl
 ((x_if_gt H rfl (t := 17) (by decide)).trans (if_c
 (U2 [none, none, none, none, none, none] rfl rfl)
 (U1 rfl (T1 (x_iconst H rfl ki_1) rfl
 (T2 [none, none, none, none, none, none] (x_goto H rfl (t := 18) (by decide)) rfl rfl)))))))))))))
theorem nd_107_17 {c : Ct} {dd : Bool} {ρ : Kt} (H : St c dd mt_107 ρ) (h : AH)  : ρ 17 [none, none, none, none, none, none] [] h = ρ 18 [none, none, none, none, none, none] [.int 0] h :=
 T2 [none, none, none, none, none, none] (x_iconst H rfl ki_0) rfl rfl
theorem nd_107_18 {c : Ct} {dd : Bool} {ρ : Kt} (H : St c dd mt_107 ρ) (h : AH) (s0_ : Int32) : ρ 18 [none, none, none, none, none, none] [.int s0_] h = isZ s0_ (some (some (.int s0_), h)) :=
 x_zreturn H rfl rfl
-- X8_place (II)I: 108
theorem nd_108_0 {c : Ct} {dd : Bool} {ρ : Kt} (H : St c dd mt_108 ρ) (h : AH) (a0 : Nat) (x1 : Int32) (x2 : Int32) : ρ 0 [some (.ref a0), some (.int x1), some (.int x2)] [] h = (c 107 [.long (x1).toInt64, .long 0, .long 2] h).bind fun q1 => rI q1 fun v3 h2 => if v3 = 0 then (some (some (.int (-1)), h2)) else (gfI h2 a0 8 0 fun v4 => if v4 = 40 then (some (some (.int (-3)), h2)) else (gfQ h2 a0 8 1 none fun b5 => gfI h2 a0 8 0 fun v6 => stI h2 b5 v6 x1 fun h7 => gfQ h7 a0 8 2 none fun b8 => gfI h7 a0 8 0 fun v9 => stI h7 b8 v9 x2 fun h10 => gfI h10 a0 8 0 fun v11 => pfV h10 a0 8 0 (.int (v11 + 1)) fun h12 => gfI h12 a0 8 0 fun v13 => some (some (.int v13), h12))) :=
 T1 (x_iload_n H rfl rfl) rfl
 (T1 (x_i2l H rfl) rfl
 (T1 (x_lconst H rfl kl_0) rfl
 (T1 (x_ldc2 H rfl kl_2) rfl
 ((x_statZ H rfl [.long (x1).toInt64, .long 0, .long 2] rfl rfl rfl rfl rfl).trans (bi_c fun q1 => rI_c fun v3 h2 =>
 U1 rfl ((x_if_ne H rfl (t := 14) (by decide)).trans (if_c
 (U1 rfl (T1 (x_iconst H rfl ki_m1) rfl
 (x_ireturn H rfl rfl)))
 (U1 rfl (T1 (x_aload_n H rfl rfl) rfl
 ((x_getI H rfl).trans (gfI_c fun v4 =>
 U1 rfl (T1 (x_bipush H rfl kb_40) rfl
 ((x_icmp_ne H rfl (t := 26) (by decide)).trans (if_c
 (U1 rfl (T1 (x_bipush H rfl kb_m3) rfl
 (x_ireturn H rfl rfl)))
 (U1 rfl (T1 (x_aload_n H rfl rfl) rfl
 ((x_getR H rfl).trans (gfQ_c rfl fun b5 =>
 U1 rfl (T1 (x_aload_n H rfl rfl) rfl
 ((x_getI H rfl).trans (gfI_c fun v6 =>
 U1 rfl (T1 (x_iload_n H rfl rfl) rfl
 ((x_iastore H rfl).trans (stI_c fun h7 =>
 U1 rfl (T1 (x_aload_n H rfl rfl) rfl
 ((x_getR H rfl).trans (gfQ_c rfl fun b8 =>
 U1 rfl (T1 (x_aload_n H rfl rfl) rfl
 ((x_getI H rfl).trans (gfI_c fun v9 =>
 U1 rfl (T1 (x_iload_n H rfl rfl) rfl
 ((x_iastore H rfl).trans (stI_c fun h10 =>
 U1 rfl (T1 (x_aload_n H rfl rfl) rfl
 (T1 (x_dup H rfl) rfl
 ((x_getI H rfl).trans (gfI_c fun v11 =>
 U1 rfl (T1 (x_iconst H rfl ki_1) rfl
 (T1 (x_iadd H rfl) rfl
 ((x_putI H rfl).trans (pfV_c fun h12 =>
 U1 rfl (T1 (x_aload_n H rfl rfl) rfl
 ((x_getI H rfl).trans (gfI_c fun v13 =>
 U1 rfl (x_ireturn H rfl rfl)))))))))))))))))))))))))))))))))))))))))))))
-- X8_cut (I)I: 109
theorem nd_109_0 {c : Ct} {dd : Bool} {ρ : Kt} (H : St c dd mt_109 ρ) (h : AH) (a0 : Nat) (x1 : Int32) : ρ 0 [some (.ref a0), some (.int x1), none] [] h = gfI h a0 8 0 fun v1 => (c 107 [.long (x1).toInt64, .long 0, .long (v1).toInt64] h).bind fun q2 => rI q2 fun v4 h3 => if v4 = 0 then (some (some (.int (-1)), h3)) else (gfI h3 a0 8 0 fun v5 => pfV h3 a0 8 0 (.int x1) fun h6 => some (some (.int v5), h6)) :=
 T1 (x_iload_n H rfl rfl) rfl
 (T1 (x_i2l H rfl) rfl
 (T1 (x_lconst H rfl kl_0) rfl
 (T1 (x_aload_n H rfl rfl) rfl
 ((x_getI H rfl).trans (gfI_c fun v1 =>
 U1 rfl (T1 (x_i2l H rfl) rfl
 ((x_statZ H rfl [.long (x1).toInt64, .long 0, .long (v1).toInt64] rfl rfl rfl rfl rfl).trans (bi_c fun q2 => rI_c fun v4 h3 =>
 U1 rfl ((x_if_ne H rfl (t := 16) (by decide)).trans (if_c
 (U1 rfl (T1 (x_iconst H rfl ki_m1) rfl
 (x_ireturn H rfl rfl)))
 (U1 rfl (T1 (x_aload_n H rfl rfl) rfl
 ((x_getI H rfl).trans (gfI_c fun v5 =>
 U1 rfl (T2 [some (.ref a0), some (.int x1), some (.int v5)] (x_istore_n H rfl rfl) rfl
 (T1 (x_aload_n H rfl rfl) rfl
 (T1 (x_iload_n H rfl rfl) rfl
 ((x_putI H rfl).trans (pfV_c fun h6 =>
 U1 rfl (T1 (x_iload_n H rfl rfl) rfl
 (x_ireturn H rfl rfl)))))))))))))))))))))
-- X8_firstOf (I)I: 110
theorem nd_110_0 {c : Ct} {dd : Bool} {ρ : Kt} (H : St c dd mt_110 ρ) (h : AH) (a0 : Nat) (x1 : Int32) : ρ 0 [some (.ref a0), some (.int x1), none] [] h = ρ 2 [some (.ref a0), some (.int x1), some (.int 0)] [] h :=
 T1 (x_iconst H rfl ki_0) rfl
 (T2 [some (.ref a0), some (.int x1), some (.int 0)] (x_istore_n H rfl rfl) rfl rfl)
theorem nd_110_2 {c : Ct} {dd : Bool} {ρ : Kt} (H : St c dd mt_110 ρ) (h : AH) (a0 : Nat) (x1 : Int32) (x2 : Int32) : ρ 2 [some (.ref a0), some (.int x1), some (.int x2)] [] h = gfQ h a0 8 2 none fun b1 => ldI h b1 x2 fun v2 => gfQ h a0 8 2 none fun b3 => ldI h b3 x1 fun v4 => if v2 = v4 then (some (some (.int x2), h)) else (ρ 2 [some (.ref a0), some (.int x1), some (.int (x2 + 1))] [] h) :=
 T1 (x_aload_n H rfl rfl) rfl
 ((x_getR H rfl).trans (gfQ_c rfl fun b1 =>
 U1 rfl (T1 (x_iload_n H rfl rfl) rfl
 ((x_iaload H rfl).trans (ldI_c fun v2 =>
 U1 rfl (T1 (x_aload_n H rfl rfl) rfl
 ((x_getR H rfl).trans (gfQ_c rfl fun b3 =>
 U1 rfl (T1 (x_iload_n H rfl rfl) rfl
 ((x_iaload H rfl).trans (ldI_c fun v4 =>
 U1 rfl ((x_icmp_eq H rfl (t := 23) (by decide)).trans (if_c
 (U1 rfl (T1 (x_iload_n H rfl rfl) rfl
 (x_ireturn H rfl rfl)))
 (U1 rfl (T2 [some (.ref a0), some (.int x1), some (.int (x2 + 1))] (x_iinc H rfl ki_1 rfl rfl) rfl
 (T2 [some (.ref a0), some (.int x1), some (.int (x2 + 1))] (x_goto H rfl (t := 2) (by decide)) rfl rfl))))))))))))))))
-- X8_first (I)I: 111
theorem nd_111_0 {c : Ct} {dd : Bool} {ρ : Kt} (H : St c dd mt_111 ρ) (h : AH) (a0 : Nat) (x1 : Int32) : ρ 0 [some (.ref a0), some (.int x1)] [] h = gfI h a0 8 0 fun v1 => (c 107 [.long (x1).toInt64, .long 0, .long ((v1 - 1)).toInt64] h).bind fun q2 => rI q2 fun v4 h3 => if v4 = 0 then (ρ 25 [none, none] [.int (-1)] h3) else (isO h3 a0 8 ((c 110 [.ref a0, .int x1] h3).bind fun q5 => rI q5 fun v7 h6 => ρ 25 [none, none] [.int v7] h6)) :=
 T1 (x_iload_n H rfl rfl) rfl
 (T1 (x_i2l H rfl) rfl
 (T1 (x_lconst H rfl kl_0) rfl
 (T1 (x_aload_n H rfl rfl) rfl
 ((x_getI H rfl).trans (gfI_c fun v1 =>
 U1 rfl (T1 (x_iconst H rfl ki_1) rfl
 (T1 (x_isub H rfl) rfl
 (T1 (x_i2l H rfl) rfl
 ((x_statZ H rfl [.long (x1).toInt64, .long 0, .long ((v1 - 1)).toInt64] rfl rfl rfl rfl rfl).trans (bi_c fun q2 => rI_c fun v4 h3 =>
 U1 rfl ((x_if_eq H rfl (t := 24) (by decide)).trans (if_c
 (U1 rfl (T2 [none, none] (x_iconst H rfl ki_m1) rfl rfl))
 (U1 rfl (T1 (x_aload_n H rfl rfl) rfl
 (T1 (x_iload_n H rfl rfl) rfl
 ((x_callI (ci := 8) H rfl [.int x1] rfl rfl rfl rfl).trans (isO_c (bi_c fun q5 => rI_c fun v7 h6 =>
 U1 rfl (T2 [none, none] (x_goto H rfl (t := 25) (by decide)) rfl rfl)))))))))))))))))))
theorem nd_111_25 {c : Ct} {dd : Bool} {ρ : Kt} (H : St c dd mt_111 ρ) (h : AH) (s0_ : Int32) : ρ 25 [none, none] [.int s0_] h = some (some (.int s0_), h) :=
 x_ireturn H rfl rfl
-- X8_names ()I: 112
theorem nd_112_0 {c : Ct} {dd : Bool} {ρ : Kt} (H : St c dd mt_112 ρ) (h : AH) (a0 : Nat) : ρ 0 [some (.ref a0), none, none] [] h = ρ 4 [some (.ref a0), some (.int 0), some (.int 0)] [] h :=
 T1 (x_iconst H rfl ki_0) rfl
 (T2 [some (.ref a0), some (.int 0), none] (x_istore_n H rfl rfl) rfl
 (T1 (x_iconst H rfl ki_0) rfl
 (T2 [some (.ref a0), some (.int 0), some (.int 0)] (x_istore_n H rfl rfl) rfl rfl)))
theorem nd_112_4 {c : Ct} {dd : Bool} {ρ : Kt} (H : St c dd mt_112 ρ) (h : AH) (a0 : Nat) (x1 : Int32) (x2 : Int32) : ρ 4 [some (.ref a0), some (.int x1), some (.int x2)] [] h = gfI h a0 8 0 fun v1 => if v1 ≤ x2 then (some (some (.int x1), h)) else (isO h a0 8 ((c 110 [.ref a0, .int x2] h).bind fun q2 => rI q2 fun v4 h3 => if v4 = x2 then (ρ 27 [some (.ref a0), none, some (.int x2)] [.int 1, .int x1] h3) else (ρ 27 [some (.ref a0), none, some (.int x2)] [.int 0, .int x1] h3))) :=
 T1 (x_iload_n H rfl rfl) rfl
 (T1 (x_aload_n H rfl rfl) rfl
 ((x_getI H rfl).trans (gfI_c fun v1 =>
 U1 rfl ((x_icmp_ge H rfl (t := 35) (by decide)).trans (if_c
 (U1 rfl (T1 (x_iload_n H rfl rfl) rfl
 (x_ireturn H rfl rfl)))
 (U1 rfl (T1 (x_iload_n H rfl rfl) rfl
 (T1 (x_aload_n H rfl rfl) rfl
 (T1 (x_iload_n H rfl rfl) rfl
 ((x_callI (ci := 8) H rfl [.int x2] rfl rfl rfl rfl).trans (isO_c (bi_c fun q2 => rI_c fun v4 h3 =>
 U1 rfl (T1 (x_iload_n H rfl rfl) rfl
 ((x_icmp_ne H rfl (t := 26) (by decide)).trans (if_c
 (U1 rfl (T1 (x_iconst H rfl ki_1) rfl
 (T2 [some (.ref a0), none, some (.int x2)] (x_goto H rfl (t := 27) (by decide)) rfl rfl)))
 (U1 rfl (T2 [some (.ref a0), none, some (.int x2)] (x_iconst H rfl ki_0) rfl rfl)))))))))))))))))
theorem nd_112_27 {c : Ct} {dd : Bool} {ρ : Kt} (H : St c dd mt_112 ρ) (h : AH) (a0 : Nat) (x2 : Int32) (s0_ : Int32) (s1_ : Int32) : ρ 27 [some (.ref a0), none, some (.int x2)] [.int s0_, .int s1_] h = ρ 4 [some (.ref a0), some (.int (s1_ + s0_)), some (.int (x2 + 1))] [] h :=
 T1 (x_iadd H rfl) rfl
 (T2 [some (.ref a0), some (.int (s1_ + s0_)), some (.int x2)] (x_istore_n H rfl rfl) rfl
 (T2 [some (.ref a0), some (.int (s1_ + s0_)), some (.int (x2 + 1))] (x_iinc H rfl ki_1 rfl rfl) rfl
 (T2 [some (.ref a0), some (.int (s1_ + s0_)), some (.int (x2 + 1))] (x_goto H rfl (t := 4) (by decide)) rfl rfl)))
-- X8_isMachine (I)Z: 113
theorem nd_113_0 {c : Ct} {dd : Bool} {ρ : Kt} (H : St c dd mt_113 ρ) (h : AH) (a0 : Nat) (x1 : Int32) : ρ 0 [some (.ref a0), some (.int x1)] [] h = gfI h a0 8 3 fun v1 => (c 107 [.long (x1).toInt64, .long 0, .long ((v1 - 1)).toInt64] h).bind fun q2 => rI q2 fun v4 h3 => isZ v4 (some (some (.int v4), h3)) :=
 T1 (x_iload_n H rfl rfl) rfl
 (T1 (x_i2l H rfl) rfl
 (T1 (x_lconst H rfl kl_0) rfl
 (T1 (x_aload_n H rfl rfl) rfl
 ((x_getI H rfl).trans (gfI_c fun v1 =>
 U1 rfl (T1 (x_iconst H rfl ki_1) rfl
 (T1 (x_isub H rfl) rfl
 (T1 (x_i2l H rfl) rfl
 ((x_statZ H rfl [.long (x1).toInt64, .long 0, .long ((v1 - 1)).toInt64] rfl rfl rfl rfl rfl).trans (bi_c fun q2 => rI_c fun v4 h3 =>
 U1 rfl (x_zreturn H rfl rfl)))))))))))
-- X8_isState (II)Z: 114
theorem nd_114_0 {c : Ct} {dd : Bool} {ρ : Kt} (H : St c dd mt_114 ρ) (h : AH) (a0 : Nat) (x1 : Int32) (x2 : Int32) : ρ 0 [some (.ref a0), some (.int x1), some (.int x2)] [] h = isO h a0 8 ((c 113 [.ref a0, .int x1] h).bind fun q1 => rI q1 fun v3 h2 => if v3 = 0 then (ρ 30 [none, none, none] [] h2) else (gfQ h2 a0 8 4 none fun b4 => ldI h2 b4 x1 fun v5 => (c 107 [.long (x2).toInt64, .long 0, .long ((v5 - 1)).toInt64] h2).bind fun q6 => rI q6 fun v8 h7 => if v8 = 0 then (ρ 30 [none, none, none] [] h7) else (ρ 31 [none, none, none] [.int 1] h7))) :=
 T1 (x_aload_n H rfl rfl) rfl
 (T1 (x_iload_n H rfl rfl) rfl
 ((x_callZ (ci := 8) H rfl [.int x1] rfl rfl rfl rfl).trans (isO_c (bi_c fun q1 => rI_c fun v3 h2 =>
 U1 rfl ((x_if_eq H rfl (t := 30) (by decide)).trans (if_c
 (U2 [none, none, none] rfl rfl)
 (U1 rfl (T1 (x_iload_n H rfl rfl) rfl
 (T1 (x_i2l H rfl) rfl
 (T1 (x_lconst H rfl kl_0) rfl
 (T1 (x_aload_n H rfl rfl) rfl
 ((x_getR H rfl).trans (gfQ_c rfl fun b4 =>
 U1 rfl (T1 (x_iload_n H rfl rfl) rfl
 ((x_iaload H rfl).trans (ldI_c fun v5 =>
 U1 rfl (T1 (x_iconst H rfl ki_1) rfl
 (T1 (x_isub H rfl) rfl
 (T1 (x_i2l H rfl) rfl
 ((x_statZ H rfl [.long (x2).toInt64, .long 0, .long ((v5 - 1)).toInt64] rfl rfl rfl rfl rfl).trans (bi_c fun q6 => rI_c fun v8 h7 =>
 U1 rfl ((x_if_eq H rfl (t := 30) (by decide)).trans (if_c
 (U2 [none, none, none] rfl rfl)
 (U1 rfl (T1 (x_iconst H rfl ki_1) rfl
 (T2 [none, none, none] (x_goto H rfl (t := 31) (by decide)) rfl rfl))))))))))))))))))))))))))
theorem nd_114_30 {c : Ct} {dd : Bool} {ρ : Kt} (H : St c dd mt_114 ρ) (h : AH)  : ρ 30 [none, none, none] [] h = ρ 31 [none, none, none] [.int 0] h :=
 T2 [none, none, none] (x_iconst H rfl ki_0) rfl rfl
theorem nd_114_31 {c : Ct} {dd : Bool} {ρ : Kt} (H : St c dd mt_114 ρ) (h : AH) (s0_ : Int32) : ρ 31 [none, none, none] [.int s0_] h = isZ s0_ (some (some (.int s0_), h)) :=
 x_zreturn H rfl rfl
-- X8_stepAt (IIII)I: 115
theorem nd_115_0 {c : Ct} {dd : Bool} {ρ : Kt} (H : St c dd mt_115 ρ) (h : AH) (x0 : Int32) (x1 : Int32) (x2 : Int32) (x3 : Int32) : ρ 0 [some (.int x0), some (.int x1), some (.int x2), some (.int x3)] [] h = some (some (.int ((((54 * x0) + (9 * x1)) + (3 * x2)) + x3)), h) :=
 T1 (x_bipush H rfl kb_54) rfl
 (T1 (x_iload_n H rfl rfl) rfl
 (T1 (x_imul H rfl) rfl
 (T1 (x_bipush H rfl kb_9) rfl
 (T1 (x_iload_n H rfl rfl) rfl
 (T1 (x_imul H rfl) rfl
 (T1 (x_iadd H rfl) rfl
 (T1 (x_iconst H rfl ki_3) rfl
 (T1 (x_iload_n H rfl rfl) rfl
 (T1 (x_imul H rfl) rfl
 (T1 (x_iadd H rfl) rfl
 (T1 (x_iload_n H rfl rfl) rfl
 (T1 (x_iadd H rfl) rfl
 (x_ireturn H rfl rfl)))))))))))))
-- X8_isCase (II)Z: 116
theorem nd_116_0 {c : Ct} {dd : Bool} {ρ : Kt} (H : St c dd mt_116 ρ) (h : AH) (a0 : Nat) (x1 : Int32) (x2 : Int32) : ρ 0 [some (.ref a0), some (.int x1), some (.int x2)] [] h = if x2 = 2 then (ρ 23 [none, none, none] [] h) else (gfQ h a0 8 5 none fun b1 => ldI h b1 x1 fun v2 => (c 107 [.long (x2).toInt64, .long 0, .long ((v2 - 1)).toInt64] h).bind fun q3 => rI q3 fun v5 h4 => if v5 = 0 then (ρ 28 [none, none, none] [.int 0] h4) else (ρ 23 [none, none, none] [] h4)) :=
 T1 (x_iload_n H rfl rfl) rfl
 (T1 (x_iconst H rfl ki_2) rfl
 ((x_icmp_eq H rfl (t := 23) (by decide)).trans (if_c
 (U2 [none, none, none] rfl rfl)
 (U1 rfl (T1 (x_iload_n H rfl rfl) rfl
 (T1 (x_i2l H rfl) rfl
 (T1 (x_lconst H rfl kl_0) rfl
 (T1 (x_aload_n H rfl rfl) rfl
 ((x_getR H rfl).trans (gfQ_c rfl fun b1 =>
 U1 rfl (T1 (x_iload_n H rfl rfl) rfl
 ((x_iaload H rfl).trans (ldI_c fun v2 =>
 U1 rfl (T1 (x_iconst H rfl ki_1) rfl
 (T1 (x_isub H rfl) rfl
 (T1 (x_i2l H rfl) rfl
 ((x_statZ H rfl [.long (x2).toInt64, .long 0, .long ((v2 - 1)).toInt64] rfl rfl rfl rfl rfl).trans (bi_c fun q3 => rI_c fun v5 h4 =>
 U1 rfl ((x_if_eq H rfl (t := 27) (by decide)).trans (if_c
 (U1 rfl (T2 [none, none, none] (x_iconst H rfl ki_0) rfl rfl))
 (U2 [none, none, none] rfl rfl)))))))))))))))))))))
theorem nd_116_23 {c : Ct} {dd : Bool} {ρ : Kt} (H : St c dd mt_116 ρ) (h : AH)  : ρ 23 [none, none, none] [] h = ρ 28 [none, none, none] [.int 1] h :=
 T1 (x_iconst H rfl ki_1) rfl
 (T2 [none, none, none] (x_goto H rfl (t := 28) (by decide)) rfl rfl)
theorem nd_116_28 {c : Ct} {dd : Bool} {ρ : Kt} (H : St c dd mt_116 ρ) (h : AH) (s0_ : Int32) : ρ 28 [none, none, none] [.int s0_] h = isZ s0_ (some (some (.int s0_), h)) :=
 x_zreturn H rfl rfl
-- X8_isStep (IIII)Z: 117
theorem nd_117_0 {c : Ct} {dd : Bool} {ρ : Kt} (H : St c dd mt_117 ρ) (h : AH) (a0 : Nat) (x1 : Int32) (x2 : Int32) (x3 : Int32) (x4 : Int32) : ρ 0 [some (.ref a0), some (.int x1), some (.int x2), some (.int x3), some (.int x4)] [] h = isO h a0 8 ((c 114 [.ref a0, .int x1, .int x2] h).bind fun q1 => rI q1 fun v3 h2 => if v3 = 0 then (ρ 35 [none, none, none, none, none] [] h2) else ((c 107 [.long (x3).toInt64, .long 0, .long 2] h2).bind fun q4 => rI q4 fun v6 h5 => if v6 = 0 then (ρ 35 [none, none, none, none, none] [] h5) else (isO h5 a0 8 ((c 116 [.ref a0, .int x1, .int x4] h5).bind fun q7 => rI q7 fun v9 h8 => if v9 = 0 then (ρ 35 [none, none, none, none, none] [] h8) else (ρ 36 [none, none, none, none, none] [.int 1] h8))))) :=
 T1 (x_aload_n H rfl rfl) rfl
 (T1 (x_iload_n H rfl rfl) rfl
 (T1 (x_iload_n H rfl rfl) rfl
 ((x_callZ (ci := 8) H rfl [.int x1, .int x2] rfl rfl rfl rfl).trans (isO_c (bi_c fun q1 => rI_c fun v3 h2 =>
 U1 rfl ((x_if_eq H rfl (t := 35) (by decide)).trans (if_c
 (U2 [none, none, none, none, none] rfl rfl)
 (U1 rfl (T1 (x_iload_n H rfl rfl) rfl
 (T1 (x_i2l H rfl) rfl
 (T1 (x_lconst H rfl kl_0) rfl
 (T1 (x_ldc2 H rfl kl_2) rfl
 ((x_statZ H rfl [.long (x3).toInt64, .long 0, .long 2] rfl rfl rfl rfl rfl).trans (bi_c fun q4 => rI_c fun v6 h5 =>
 U1 rfl ((x_if_eq H rfl (t := 35) (by decide)).trans (if_c
 (U2 [none, none, none, none, none] rfl rfl)
 (U1 rfl (T1 (x_aload_n H rfl rfl) rfl
 (T1 (x_iload_n H rfl rfl) rfl
 (T1 (x_iload H rfl rfl) rfl
 ((x_callZ (ci := 8) H rfl [.int x1, .int x4] rfl rfl rfl rfl).trans (isO_c (bi_c fun q7 => rI_c fun v9 h8 =>
 U1 rfl ((x_if_eq H rfl (t := 35) (by decide)).trans (if_c
 (U2 [none, none, none, none, none] rfl rfl)
 (U1 rfl (T1 (x_iconst H rfl ki_1) rfl
 (T2 [none, none, none, none, none] (x_goto H rfl (t := 36) (by decide)) rfl rfl))))))))))))))))))))))))))))
theorem nd_117_35 {c : Ct} {dd : Bool} {ρ : Kt} (H : St c dd mt_117 ρ) (h : AH)  : ρ 35 [none, none, none, none, none] [] h = ρ 36 [none, none, none, none, none] [.int 0] h :=
 T2 [none, none, none, none, none] (x_iconst H rfl ki_0) rfl rfl
theorem nd_117_36 {c : Ct} {dd : Bool} {ρ : Kt} (H : St c dd mt_117 ρ) (h : AH) (s0_ : Int32) : ρ 36 [none, none, none, none, none] [.int s0_] h = isZ s0_ (some (some (.int s0_), h)) :=
 x_zreturn H rfl rfl
-- X8_begins (III)V: 118
theorem nd_118_0 {c : Ct} {dd : Bool} {ρ : Kt} (H : St c dd mt_118 ρ) (h : AH) (a0 : Nat) (x1 : Int32) (x2 : Int32) (x3 : Int32) : ρ 0 [some (.ref a0), some (.int x1), some (.int x2), some (.int x3), none, none] [] h = gfQ h a0 8 4 none fun b1 => stI h b1 x1 x2 fun h2 => gfQ h2 a0 8 5 none fun b3 => stI h2 b3 x1 x3 fun h4 => ρ 17 [some (.ref a0), some (.int x1), none, none, some (.int 0), none] [] h4 :=
 T1 (x_aload_n H rfl rfl) rfl
 ((x_getR H rfl).trans (gfQ_c rfl fun b1 =>
 U1 rfl (T1 (x_iload_n H rfl rfl) rfl
 (T1 (x_iload_n H rfl rfl) rfl
 ((x_iastore H rfl).trans (stI_c fun h2 =>
 U1 rfl (T1 (x_aload_n H rfl rfl) rfl
 ((x_getR H rfl).trans (gfQ_c rfl fun b3 =>
 U1 rfl (T1 (x_iload_n H rfl rfl) rfl
 (T1 (x_iload_n H rfl rfl) rfl
 ((x_iastore H rfl).trans (stI_c fun h4 =>
 U1 rfl (T1 (x_iconst H rfl ki_0) rfl
 (T2 [some (.ref a0), some (.int x1), none, none, some (.int 0), none] (x_istore H rfl rfl) rfl rfl)))))))))))))))
theorem nd_118_17 {c : Ct} {dd : Bool} {ρ : Kt} (H : St c dd mt_118 ρ) (h : AH) (a0 : Nat) (x1 : Int32) (x4 : Int32) : ρ 17 [some (.ref a0), some (.int x1), none, none, some (.int x4), none] [] h = if 6 ≤ x4 then (some (none, h)) else (gfQ h a0 8 6 none fun b1 => stZ h b1 ((6 * x1) + x4) 0 fun h2 => ρ 40 [some (.ref a0), some (.int x1), none, none, some (.int x4), some (.int 0)] [] h2) :=
 T1 (x_iload H rfl rfl) rfl
 (T1 (x_bipush H rfl kb_6) rfl
 ((x_icmp_ge H rfl (t := 99) (by decide)).trans (if_c
 (U1 rfl (x_return H rfl rfl))
 (U1 rfl (T1 (x_aload_n H rfl rfl) rfl
 ((x_getR H rfl).trans (gfQ_c rfl fun b1 =>
 U1 rfl (T1 (x_bipush H rfl kb_6) rfl
 (T1 (x_iload_n H rfl rfl) rfl
 (T1 (x_imul H rfl) rfl
 (T1 (x_iload H rfl rfl) rfl
 (T1 (x_iadd H rfl) rfl
 (T1 (x_iconst H rfl ki_0) rfl
 ((x_bastore H rfl).trans (stZ_c fun h2 =>
 U1 rfl (T1 (x_iconst H rfl ki_0) rfl
 (T2 [some (.ref a0), some (.int x1), none, none, some (.int x4), some (.int 0)] (x_istore H rfl rfl) rfl rfl)))))))))))))))))
theorem nd_118_40 {c : Ct} {dd : Bool} {ρ : Kt} (H : St c dd mt_118 ρ) (h : AH) (a0 : Nat) (x1 : Int32) (x4 : Int32) (x5 : Int32) : ρ 40 [some (.ref a0), some (.int x1), none, none, some (.int x4), some (.int x5)] [] h = if 9 ≤ x5 then (ρ 17 [some (.ref a0), some (.int x1), none, none, some (.int (x4 + 1)), none] [] h) else (gfQ h a0 8 7 none fun b1 => stI h b1 (((54 * x1) + (9 * x4)) + x5) x4 fun h2 => gfQ h2 a0 8 8 none fun b3 => stI h2 b3 (((54 * x1) + (9 * x4)) + x5) (-4) fun h4 => ρ 40 [some (.ref a0), some (.int x1), none, none, some (.int x4), some (.int (x5 + 1))] [] h4) :=
 T1 (x_iload H rfl rfl) rfl
 (T1 (x_bipush H rfl kb_9) rfl
 ((x_icmp_ge H rfl (t := 93) (by decide)).trans (if_c
 (U1 rfl (T2 [some (.ref a0), some (.int x1), none, none, some (.int (x4 + 1)), some (.int x5)] (x_iinc H rfl ki_1 rfl rfl) rfl
 (T2 [some (.ref a0), some (.int x1), none, none, some (.int (x4 + 1)), none] (x_goto H rfl (t := 17) (by decide)) rfl rfl)))
 (U1 rfl (T1 (x_aload_n H rfl rfl) rfl
 ((x_getR H rfl).trans (gfQ_c rfl fun b1 =>
 U1 rfl (T1 (x_bipush H rfl kb_54) rfl
 (T1 (x_iload_n H rfl rfl) rfl
 (T1 (x_imul H rfl) rfl
 (T1 (x_bipush H rfl kb_9) rfl
 (T1 (x_iload H rfl rfl) rfl
 (T1 (x_imul H rfl) rfl
 (T1 (x_iadd H rfl) rfl
 (T1 (x_iload H rfl rfl) rfl
 (T1 (x_iadd H rfl) rfl
 (T1 (x_iload H rfl rfl) rfl
 ((x_iastore H rfl).trans (stI_c fun h2 =>
 U1 rfl (T1 (x_aload_n H rfl rfl) rfl
 ((x_getR H rfl).trans (gfQ_c rfl fun b3 =>
 U1 rfl (T1 (x_bipush H rfl kb_54) rfl
 (T1 (x_iload_n H rfl rfl) rfl
 (T1 (x_imul H rfl) rfl
 (T1 (x_bipush H rfl kb_9) rfl
 (T1 (x_iload H rfl rfl) rfl
 (T1 (x_imul H rfl) rfl
 (T1 (x_iadd H rfl) rfl
 (T1 (x_iload H rfl rfl) rfl
 (T1 (x_iadd H rfl) rfl
 (T1 (x_bipush H rfl kb_m4) rfl
 ((x_iastore H rfl).trans (stI_c fun h4 =>
 U1 rfl (T2 [some (.ref a0), some (.int x1), none, none, some (.int x4), some (.int (x5 + 1))] (x_iinc H rfl ki_1 rfl rfl) rfl
 (T2 [some (.ref a0), some (.int x1), none, none, some (.int x4), some (.int (x5 + 1))] (x_goto H rfl (t := 40) (by decide)) rfl rfl))))))))))))))))))))))))))))))))))))
-- X8_machine (II)I: 119
theorem nd_119_0 {c : Ct} {dd : Bool} {ρ : Kt} (H : St c dd mt_119 ρ) (h : AH) (a0 : Nat) (x1 : Int32) (x2 : Int32) : ρ 0 [some (.ref a0), some (.int x1), some (.int x2)] [] h = (c 107 [.long (x1).toInt64, .long 1, .long 6] h).bind fun q1 => rI q1 fun v3 h2 => if v3 = 0 then (ρ 24 [none, none, none] [] h2) else ((c 107 [.long (x2).toInt64, .long 0, .long 2] h2).bind fun q4 => rI q4 fun v6 h5 => if v6 = 0 then (ρ 24 [none, none, none] [] h5) else (gfI h5 a0 8 3 fun v7 => if v7 = 6 then (some (some (.int (-3)), h5)) else (gfI h5 a0 8 3 fun v8 => isO h5 a0 8 ((c 118 [.ref a0, .int v8, .int x1, .int x2] h5).bind fun q9 => rV q9 fun h10 => gfI h10 a0 8 3 fun v11 => pfV h10 a0 8 3 (.int (v11 + 1)) fun h12 => gfI h12 a0 8 3 fun v13 => some (some (.int (v13 - 1)), h12))))) :=
 T1 (x_iload_n H rfl rfl) rfl
 (T1 (x_i2l H rfl) rfl
 (T1 (x_lconst H rfl kl_1) rfl
 (T1 (x_ldc2 H rfl kl_6) rfl
 ((x_statZ H rfl [.long (x1).toInt64, .long 1, .long 6] rfl rfl rfl rfl rfl).trans (bi_c fun q1 => rI_c fun v3 h2 =>
 U1 rfl ((x_if_eq H rfl (t := 24) (by decide)).trans (if_c
 (U2 [none, none, none] rfl rfl)
 (U1 rfl (T1 (x_iload_n H rfl rfl) rfl
 (T1 (x_i2l H rfl) rfl
 (T1 (x_lconst H rfl kl_0) rfl
 (T1 (x_ldc2 H rfl kl_2) rfl
 ((x_statZ H rfl [.long (x2).toInt64, .long 0, .long 2] rfl rfl rfl rfl rfl).trans (bi_c fun q4 => rI_c fun v6 h5 =>
 U1 rfl ((x_if_ne H rfl (t := 26) (by decide)).trans (if_c
 (U2 [none, none, none] rfl rfl)
 (U1 rfl (T1 (x_aload_n H rfl rfl) rfl
 ((x_getI H rfl).trans (gfI_c fun v7 =>
 U1 rfl (T1 (x_bipush H rfl kb_6) rfl
 ((x_icmp_ne H rfl (t := 38) (by decide)).trans (if_c
 (U1 rfl (T1 (x_bipush H rfl kb_m3) rfl
 (x_ireturn H rfl rfl)))
 (U1 rfl (T1 (x_aload_n H rfl rfl) rfl
 (T1 (x_aload_n H rfl rfl) rfl
 ((x_getI H rfl).trans (gfI_c fun v8 =>
 U1 rfl (T1 (x_iload_n H rfl rfl) rfl
 (T1 (x_iload_n H rfl rfl) rfl
 ((x_callV (ci := 8) H rfl [.int v8, .int x1, .int x2] rfl rfl rfl rfl).trans (isO_c (bi_c fun q9 => rV_c fun h10 =>
 U1 rfl (T1 (x_aload_n H rfl rfl) rfl
 (T1 (x_dup H rfl) rfl
 ((x_getI H rfl).trans (gfI_c fun v11 =>
 U1 rfl (T1 (x_iconst H rfl ki_1) rfl
 (T1 (x_iadd H rfl) rfl
 ((x_putI H rfl).trans (pfV_c fun h12 =>
 U1 rfl (T1 (x_aload_n H rfl rfl) rfl
 ((x_getI H rfl).trans (gfI_c fun v13 =>
 U1 rfl (T1 (x_iconst H rfl ki_1) rfl
 (T1 (x_isub H rfl) rfl
 (x_ireturn H rfl rfl)))))))))))))))))))))))))))))))))))))))))))))))
theorem nd_119_24 {c : Ct} {dd : Bool} {ρ : Kt} (H : St c dd mt_119 ρ) (h : AH)  : ρ 24 [none, none, none] [] h = some (some (.int (-1)), h) :=
 T1 (x_iconst H rfl ki_m1) rfl
 (x_ireturn H rfl rfl)
-- X8_isWatched (I)Z: 120
theorem nd_120_0 {c : Ct} {dd : Bool} {ρ : Kt} (H : St c dd mt_120 ρ) (h : AH) (a0 : Nat) (x1 : Int32) : ρ 0 [some (.ref a0), some (.int x1), none, none] [] h = ρ 4 [some (.ref a0), some (.int x1), some (.int 0), some (.int 0)] [] h :=
 T1 (x_iconst H rfl ki_0) rfl
 (T2 [some (.ref a0), some (.int x1), some (.int 0), none] (x_istore_n H rfl rfl) rfl
 (T1 (x_iconst H rfl ki_0) rfl
 (T2 [some (.ref a0), some (.int x1), some (.int 0), some (.int 0)] (x_istore_n H rfl rfl) rfl rfl)))
theorem nd_120_4 {c : Ct} {dd : Bool} {ρ : Kt} (H : St c dd mt_120 ρ) (h : AH) (a0 : Nat) (x1 : Int32) (x2 : Int32) (x3 : Int32) : ρ 4 [some (.ref a0), some (.int x1), some (.int x2), some (.int x3)] [] h = gfI h a0 8 31 fun v1 => if v1 ≤ x3 then (isZ x2 (some (some (.int x2), h))) else (if x2 = 0 then (gfQ h a0 8 32 none fun b2 => ldI h b2 x3 fun v3 => if v3 = x1 then (ρ 26 [some (.ref a0), some (.int x1), none, some (.int x3)] [] h) else (ρ 31 [some (.ref a0), some (.int x1), none, some (.int x3)] [.int 0] h)) else (ρ 26 [some (.ref a0), some (.int x1), none, some (.int x3)] [] h)) :=
 T1 (x_iload_n H rfl rfl) rfl
 (T1 (x_aload_n H rfl rfl) rfl
 ((x_getI H rfl).trans (gfI_c fun v1 =>
 U1 rfl ((x_icmp_ge H rfl (t := 38) (by decide)).trans (if_c
 (U1 rfl (T1 (x_iload_n H rfl rfl) rfl
 (x_zreturn H rfl rfl)))
 (U1 rfl (T1 (x_iload_n H rfl rfl) rfl
 ((x_if_ne H rfl (t := 26) (by decide)).trans (if_c
 (U1 rfl (T1 (x_aload_n H rfl rfl) rfl
 ((x_getR H rfl).trans (gfQ_c rfl fun b2 =>
 U1 rfl (T1 (x_iload_n H rfl rfl) rfl
 ((x_iaload H rfl).trans (ldI_c fun v3 =>
 U1 rfl (T1 (x_iload_n H rfl rfl) rfl
 ((x_icmp_ne H rfl (t := 30) (by decide)).trans (if_c
 (U2 [some (.ref a0), some (.int x1), none, some (.int x3)] rfl rfl)
 (U1 rfl (T2 [some (.ref a0), some (.int x1), none, some (.int x3)] (x_iconst H rfl ki_0) rfl rfl))))))))))))
 (U2 [some (.ref a0), some (.int x1), none, some (.int x3)] rfl rfl))))))))))
theorem nd_120_26 {c : Ct} {dd : Bool} {ρ : Kt} (H : St c dd mt_120 ρ) (h : AH) (a0 : Nat) (x1 : Int32) (x3 : Int32) : ρ 26 [some (.ref a0), some (.int x1), none, some (.int x3)] [] h = ρ 31 [some (.ref a0), some (.int x1), none, some (.int x3)] [.int 1] h :=
 T1 (x_iconst H rfl ki_1) rfl
 (T2 [some (.ref a0), some (.int x1), none, some (.int x3)] (x_goto H rfl (t := 31) (by decide)) rfl rfl)
theorem nd_120_31 {c : Ct} {dd : Bool} {ρ : Kt} (H : St c dd mt_120 ρ) (h : AH) (a0 : Nat) (x1 : Int32) (x3 : Int32) (s0_ : Int32) : ρ 31 [some (.ref a0), some (.int x1), none, some (.int x3)] [.int s0_] h = ρ 4 [some (.ref a0), some (.int x1), some (.int s0_), some (.int (x3 + 1))] [] h :=
 T2 [some (.ref a0), some (.int x1), some (.int s0_), some (.int x3)] (x_istore_n H rfl rfl) rfl
 (T2 [some (.ref a0), some (.int x1), some (.int s0_), some (.int (x3 + 1))] (x_iinc H rfl ki_1 rfl rfl) rfl
 (T2 [some (.ref a0), some (.int x1), some (.int s0_), some (.int (x3 + 1))] (x_goto H rfl (t := 4) (by decide)) rfl rfl))
-- X8_step (IIIIII)I: 121
theorem nd_121_0 {c : Ct} {dd : Bool} {ρ : Kt} (H : St c dd mt_121 ρ) (h : AH) (a0 : Nat) (x1 : Int32) (x2 : Int32) (x3 : Int32) (x4 : Int32) (x5 : Int32) (x6 : Int32) : ρ 0 [some (.ref a0), some (.int x1), some (.int x2), some (.int x3), some (.int x4), some (.int x5), some (.int x6)] [] h = isO h a0 8 ((c 117 [.ref a0, .int x1, .int x2, .int x3, .int x4] h).bind fun q1 => rI q1 fun v3 h2 => if v3 = 0 then (ρ 48 [none, none, none, none, none, none, none] [] h2) else (isO h2 a0 8 ((c 114 [.ref a0, .int x1, .int x5] h2).bind fun q4 => rI q4 fun v6 h5 => if v6 = 0 then (ρ 48 [none, none, none, none, none, none, none] [] h5) else (if x6 = (-4) then (ρ 50 [some (.ref a0), some (.int x1), some (.int x2), some (.int x3), some (.int x4), some (.int x5), some (.int x6)] [] h5) else (gfQ h5 a0 8 5 none fun b7 => ldI h5 b7 x1 fun v8 => (c 107 [.long (x6).toInt64, .long 0, .long ((v8 - 1)).toInt64] h5).bind fun q9 => rI q9 fun v11 h10 => if v11 = 0 then (ρ 48 [none, none, none, none, none, none, none] [] h10) else (ρ 50 [some (.ref a0), some (.int x1), some (.int x2), some (.int x3), some (.int x4), some (.int x5), some (.int x6)] [] h10)))))) :=
 T1 (x_aload_n H rfl rfl) rfl
 (T1 (x_iload_n H rfl rfl) rfl
 (T1 (x_iload_n H rfl rfl) rfl
 (T1 (x_iload_n H rfl rfl) rfl
 (T1 (x_iload H rfl rfl) rfl
 ((x_callZ (ci := 8) H rfl [.int x1, .int x2, .int x3, .int x4] rfl rfl rfl rfl).trans (isO_c (bi_c fun q1 => rI_c fun v3 h2 =>
 U1 rfl ((x_if_eq H rfl (t := 48) (by decide)).trans (if_c
 (U2 [none, none, none, none, none, none, none] rfl rfl)
 (U1 rfl (T1 (x_aload_n H rfl rfl) rfl
 (T1 (x_iload_n H rfl rfl) rfl
 (T1 (x_iload H rfl rfl) rfl
 ((x_callZ (ci := 8) H rfl [.int x1, .int x5] rfl rfl rfl rfl).trans (isO_c (bi_c fun q4 => rI_c fun v6 h5 =>
 U1 rfl ((x_if_eq H rfl (t := 48) (by decide)).trans (if_c
 (U2 [none, none, none, none, none, none, none] rfl rfl)
 (U1 rfl (T1 (x_iload H rfl rfl) rfl
 (T1 (x_bipush H rfl kb_m4) rfl
 ((x_icmp_eq H rfl (t := 50) (by decide)).trans (if_c
 (U2 [some (.ref a0), some (.int x1), some (.int x2), some (.int x3), some (.int x4), some (.int x5), some (.int x6)] rfl rfl)
 (U1 rfl (T1 (x_iload H rfl rfl) rfl
 (T1 (x_i2l H rfl) rfl
 (T1 (x_lconst H rfl kl_0) rfl
 (T1 (x_aload_n H rfl rfl) rfl
 ((x_getR H rfl).trans (gfQ_c rfl fun b7 =>
 U1 rfl (T1 (x_iload_n H rfl rfl) rfl
 ((x_iaload H rfl).trans (ldI_c fun v8 =>
 U1 rfl (T1 (x_iconst H rfl ki_1) rfl
 (T1 (x_isub H rfl) rfl
 (T1 (x_i2l H rfl) rfl
 ((x_statZ H rfl [.long (x6).toInt64, .long 0, .long ((v8 - 1)).toInt64] rfl rfl rfl rfl rfl).trans (bi_c fun q9 => rI_c fun v11 h10 =>
 U1 rfl ((x_if_ne H rfl (t := 50) (by decide)).trans (if_c
 (U2 [none, none, none, none, none, none, none] rfl rfl)
 (U2 [some (.ref a0), some (.int x1), some (.int x2), some (.int x3), some (.int x4), some (.int x5), some (.int x6)] rfl rfl)))))))))))))))))))))))))))))))))))))))))
theorem nd_121_48 {c : Ct} {dd : Bool} {ρ : Kt} (H : St c dd mt_121 ρ) (h : AH)  : ρ 48 [none, none, none, none, none, none, none] [] h = some (some (.int (-1)), h) :=
 T1 (x_iconst H rfl ki_m1) rfl
 (x_ireturn H rfl rfl)
theorem nd_121_50 {c : Ct} {dd : Bool} {ρ : Kt} (H : St c dd mt_121 ρ) (h : AH) (a0 : Nat) (x1 : Int32) (x2 : Int32) (x3 : Int32) (x4 : Int32) (x5 : Int32) (x6 : Int32) : ρ 50 [some (.ref a0), some (.int x1), some (.int x2), some (.int x3), some (.int x4), some (.int x5), some (.int x6)] [] h = isO h a0 8 ((c 120 [.ref a0, .int x1] h).bind fun q1 => rI q1 fun v3 h2 => if v3 = 0 then (gfQ h2 a0 8 7 none fun b4 => (c 115 [.int x1, .int x2, .int x3, .int x4] h2).bind fun q5 => rI q5 fun v7 h6 => stI h6 b4 v7 x5 fun h8 => gfQ h8 a0 8 8 none fun b9 => (c 115 [.int x1, .int x2, .int x3, .int x4] h8).bind fun q10 => rI q10 fun v12 h11 => stI h11 b9 v12 x6 fun h13 => some (some (.int 1), h13)) else (some (some (.int (-2)), h2))) :=
 T1 (x_aload_n H rfl rfl) rfl
 (T1 (x_iload_n H rfl rfl) rfl
 ((x_callZ (ci := 8) H rfl [.int x1] rfl rfl rfl rfl).trans (isO_c (bi_c fun q1 => rI_c fun v3 h2 =>
 U1 rfl ((x_if_eq H rfl (t := 61) (by decide)).trans (if_c
 (U1 rfl (T1 (x_aload_n H rfl rfl) rfl
 ((x_getR H rfl).trans (gfQ_c rfl fun b4 =>
 U1 rfl (T1 (x_iload_n H rfl rfl) rfl
 (T1 (x_iload_n H rfl rfl) rfl
 (T1 (x_iload_n H rfl rfl) rfl
 (T1 (x_iload H rfl rfl) rfl
 ((x_statI H rfl [.int x1, .int x2, .int x3, .int x4] rfl rfl rfl rfl rfl).trans (bi_c fun q5 => rI_c fun v7 h6 =>
 U1 rfl (T1 (x_iload H rfl rfl) rfl
 ((x_iastore H rfl).trans (stI_c fun h8 =>
 U1 rfl (T1 (x_aload_n H rfl rfl) rfl
 ((x_getR H rfl).trans (gfQ_c rfl fun b9 =>
 U1 rfl (T1 (x_iload_n H rfl rfl) rfl
 (T1 (x_iload_n H rfl rfl) rfl
 (T1 (x_iload_n H rfl rfl) rfl
 (T1 (x_iload H rfl rfl) rfl
 ((x_statI H rfl [.int x1, .int x2, .int x3, .int x4] rfl rfl rfl rfl rfl).trans (bi_c fun q10 => rI_c fun v12 h11 =>
 U1 rfl (T1 (x_iload H rfl rfl) rfl
 ((x_iastore H rfl).trans (stI_c fun h13 =>
 U1 rfl (T1 (x_iconst H rfl ki_1) rfl
 (x_ireturn H rfl rfl)))))))))))))))))))))))))))
 (U1 rfl (T1 (x_bipush H rfl kb_m2) rfl
 (x_ireturn H rfl rfl)))))))))
-- X8_good (IIZ)I: 122
theorem nd_122_0 {c : Ct} {dd : Bool} {ρ : Kt} (H : St c dd mt_122 ρ) (h : AH) (a0 : Nat) (x1 : Int32) (x2 : Int32) (x3 : Int32) : ρ 0 [some (.ref a0), some (.int x1), some (.int x2), some (.int x3), none] [] h = isO h a0 8 ((c 114 [.ref a0, .int x1, .int x2] h).bind fun q1 => rI q1 fun v3 h2 => if v3 = 0 then (some (some (.int (-1)), h2)) else (isO h2 a0 8 ((c 120 [.ref a0, .int x1] h2).bind fun q4 => rI q4 fun v6 h5 => if v6 = 0 then (gfQ h5 a0 8 6 none fun b7 => ldZ h5 b7 ((6 * x1) + x2) fun v8 => if v8 = 0 then (ρ 41 [some (.ref a0), some (.int x1), some (.int x2), some (.int x3), none] [.int 0] h5) else (ρ 41 [some (.ref a0), some (.int x1), some (.int x2), some (.int x3), none] [.int 1] h5)) else (some (some (.int (-2)), h5))))) :=
 T1 (x_aload_n H rfl rfl) rfl
 (T1 (x_iload_n H rfl rfl) rfl
 (T1 (x_iload_n H rfl rfl) rfl
 ((x_callZ (ci := 8) H rfl [.int x1, .int x2] rfl rfl rfl rfl).trans (isO_c (bi_c fun q1 => rI_c fun v3 h2 =>
 U1 rfl ((x_if_ne H rfl (t := 11) (by decide)).trans (if_c
 (U1 rfl (T1 (x_iconst H rfl ki_m1) rfl
 (x_ireturn H rfl rfl)))
 (U1 rfl (T1 (x_aload_n H rfl rfl) rfl
 (T1 (x_iload_n H rfl rfl) rfl
 ((x_callZ (ci := 8) H rfl [.int x1] rfl rfl rfl rfl).trans (isO_c (bi_c fun q4 => rI_c fun v6 h5 =>
 U1 rfl ((x_if_eq H rfl (t := 22) (by decide)).trans (if_c
 (U1 rfl (T1 (x_aload_n H rfl rfl) rfl
 ((x_getR H rfl).trans (gfQ_c rfl fun b7 =>
 U1 rfl (T1 (x_bipush H rfl kb_6) rfl
 (T1 (x_iload_n H rfl rfl) rfl
 (T1 (x_imul H rfl) rfl
 (T1 (x_iload_n H rfl rfl) rfl
 (T1 (x_iadd H rfl) rfl
 ((x_baload H rfl).trans (ldZ_c fun v8 =>
 U1 rfl ((x_if_eq H rfl (t := 40) (by decide)).trans (if_c
 (U1 rfl (T2 [some (.ref a0), some (.int x1), some (.int x2), some (.int x3), none] (x_iconst H rfl ki_0) rfl rfl))
 (U1 rfl (T1 (x_iconst H rfl ki_1) rfl
 (T2 [some (.ref a0), some (.int x1), some (.int x2), some (.int x3), none] (x_goto H rfl (t := 41) (by decide)) rfl rfl))))))))))))))))
 (U1 rfl (T1 (x_bipush H rfl kb_m2) rfl
 (x_ireturn H rfl rfl))))))))))))))))))
theorem nd_122_41 {c : Ct} {dd : Bool} {ρ : Kt} (H : St c dd mt_122 ρ) (h : AH) (a0 : Nat) (x1 : Int32) (x2 : Int32) (x3 : Int32) (s0_ : Int32) : ρ 41 [some (.ref a0), some (.int x1), some (.int x2), some (.int x3), none] [.int s0_] h = gfQ h a0 8 6 none fun b1 => stZ h b1 ((6 * x1) + x2) x3 fun h2 => some (some (.int s0_), h2) :=
 T2 [some (.ref a0), some (.int x1), some (.int x2), some (.int x3), some (.int s0_)] (x_istore H rfl rfl) rfl
 (T1 (x_aload_n H rfl rfl) rfl
 ((x_getR H rfl).trans (gfQ_c rfl fun b1 =>
 U1 rfl (T1 (x_bipush H rfl kb_6) rfl
 (T1 (x_iload_n H rfl rfl) rfl
 (T1 (x_imul H rfl) rfl
 (T1 (x_iload_n H rfl rfl) rfl
 (T1 (x_iadd H rfl) rfl
 (T1 (x_iload_n H rfl rfl) rfl
 ((x_bastore H rfl).trans (stZ_c fun h2 =>
 U1 rfl (T1 (x_iload H rfl rfl) rfl
 (x_ireturn H rfl rfl)))))))))))))
-- X8_told (II)I: 123
theorem nd_123_0 {c : Ct} {dd : Bool} {ρ : Kt} (H : St c dd mt_123 ρ) (h : AH) (a0 : Nat) (x1 : Int32) (x2 : Int32) : ρ 0 [some (.ref a0), some (.int x1), some (.int x2), none, none] [] h = isO h a0 8 ((c 113 [.ref a0, .int x1] h).bind fun q1 => rI q1 fun v3 h2 => if v3 = 0 then (ρ 20 [none, none, none, none, none] [] h2) else ((c 107 [.long (x2).toInt64, .long 0, .long 2] h2).bind fun q4 => rI q4 fun v6 h5 => if v6 = 0 then (ρ 20 [none, none, none, none, none] [] h5) else (ρ 27 [some (.ref a0), some (.int x1), some (.int x2), some (.int 0), some (.int 0)] [] h5))) :=
 T1 (x_aload_n H rfl rfl) rfl
 (T1 (x_iload_n H rfl rfl) rfl
 ((x_callZ (ci := 8) H rfl [.int x1] rfl rfl rfl rfl).trans (isO_c (bi_c fun q1 => rI_c fun v3 h2 =>
 U1 rfl ((x_if_eq H rfl (t := 20) (by decide)).trans (if_c
 (U2 [none, none, none, none, none] rfl rfl)
 (U1 rfl (T1 (x_iload_n H rfl rfl) rfl
 (T1 (x_i2l H rfl) rfl
 (T1 (x_lconst H rfl kl_0) rfl
 (T1 (x_ldc2 H rfl kl_2) rfl
 ((x_statZ H rfl [.long (x2).toInt64, .long 0, .long 2] rfl rfl rfl rfl rfl).trans (bi_c fun q4 => rI_c fun v6 h5 =>
 U1 rfl ((x_if_ne H rfl (t := 22) (by decide)).trans (if_c
 (U2 [none, none, none, none, none] rfl rfl)
 (U1 rfl (T1 (x_iconst H rfl ki_0) rfl
 (T2 [some (.ref a0), some (.int x1), some (.int x2), some (.int 0), none] (x_istore_n H rfl rfl) rfl
 (T1 (x_iconst H rfl ki_0) rfl
 (T2 [some (.ref a0), some (.int x1), some (.int x2), some (.int 0), some (.int 0)] (x_istore H rfl rfl) rfl rfl))))))))))))))))))))
theorem nd_123_20 {c : Ct} {dd : Bool} {ρ : Kt} (H : St c dd mt_123 ρ) (h : AH)  : ρ 20 [none, none, none, none, none] [] h = some (some (.int (-1)), h) :=
 T1 (x_iconst H rfl ki_m1) rfl
 (x_ireturn H rfl rfl)
theorem nd_123_27 {c : Ct} {dd : Bool} {ρ : Kt} (H : St c dd mt_123 ρ) (h : AH) (a0 : Nat) (x1 : Int32) (x2 : Int32) (x3 : Int32) (x4 : Int32) : ρ 27 [some (.ref a0), some (.int x1), some (.int x2), some (.int x3), some (.int x4)] [] h = gfQ h a0 8 4 none fun b1 => ldI h b1 x1 fun v2 => if v2 ≤ x4 then (if x2 = 0 then (gfQ h a0 8 4 none fun b5 => ldI h b5 x1 fun v6 => ρ 95 [none, none, none, none, none] [.int v6] h) else (if x2 = 1 then (gfQ h a0 8 5 none fun b3 => ldI h b3 x1 fun v4 => ρ 95 [none, none, none, none, none] [.int v4] h) else (ρ 95 [none, none, none, none, none] [.int x3] h))) else (gfQ h a0 8 6 none fun b7 => ldZ h b7 ((6 * x1) + x4) fun v8 => if v8 = 0 then (ρ 59 [some (.ref a0), some (.int x1), some (.int x2), none, some (.int x4)] [.int 0, .int x3] h) else (ρ 59 [some (.ref a0), some (.int x1), some (.int x2), none, some (.int x4)] [.int 1, .int x3] h)) :=
 T1 (x_iload H rfl rfl) rfl
 (T1 (x_aload_n H rfl rfl) rfl
 ((x_getR H rfl).trans (gfQ_c rfl fun b1 =>
 U1 rfl (T1 (x_iload_n H rfl rfl) rfl
 ((x_iaload H rfl).trans (ldI_c fun v2 =>
 U1 rfl ((x_icmp_ge H rfl (t := 67) (by decide)).trans (if_c
 (U1 rfl (T1 (x_iload_n H rfl rfl) rfl
 ((x_if_ne H rfl (t := 80) (by decide)).trans (if_c
 (U1 rfl (T1 (x_aload_n H rfl rfl) rfl
 ((x_getR H rfl).trans (gfQ_c rfl fun b5 =>
 U1 rfl (T1 (x_iload_n H rfl rfl) rfl
 ((x_iaload H rfl).trans (ldI_c fun v6 =>
 U1 rfl (T2 [none, none, none, none, none] (x_goto H rfl (t := 95) (by decide)) rfl rfl))))))))
 (U1 rfl (T1 (x_iload_n H rfl rfl) rfl
 (T1 (x_iconst H rfl ki_1) rfl
 ((x_icmp_ne H rfl (t := 94) (by decide)).trans (if_c
 (U1 rfl (T1 (x_aload_n H rfl rfl) rfl
 ((x_getR H rfl).trans (gfQ_c rfl fun b3 =>
 U1 rfl (T1 (x_iload_n H rfl rfl) rfl
 ((x_iaload H rfl).trans (ldI_c fun v4 =>
 U1 rfl (T2 [none, none, none, none, none] (x_goto H rfl (t := 95) (by decide)) rfl rfl))))))))
 (U1 rfl (T2 [none, none, none, none, none] (x_iload_n H rfl rfl) rfl rfl)))))))))))
 (U1 rfl (T1 (x_iload_n H rfl rfl) rfl
 (T1 (x_aload_n H rfl rfl) rfl
 ((x_getR H rfl).trans (gfQ_c rfl fun b7 =>
 U1 rfl (T1 (x_bipush H rfl kb_6) rfl
 (T1 (x_iload_n H rfl rfl) rfl
 (T1 (x_imul H rfl) rfl
 (T1 (x_iload H rfl rfl) rfl
 (T1 (x_iadd H rfl) rfl
 ((x_baload H rfl).trans (ldZ_c fun v8 =>
 U1 rfl ((x_if_eq H rfl (t := 58) (by decide)).trans (if_c
 (U1 rfl (T2 [some (.ref a0), some (.int x1), some (.int x2), none, some (.int x4)] (x_iconst H rfl ki_0) rfl rfl))
 (U1 rfl (T1 (x_iconst H rfl ki_1) rfl
 (T2 [some (.ref a0), some (.int x1), some (.int x2), none, some (.int x4)] (x_goto H rfl (t := 59) (by decide)) rfl rfl)))))))))))))))))))))))))
theorem nd_123_59 {c : Ct} {dd : Bool} {ρ : Kt} (H : St c dd mt_123 ρ) (h : AH) (a0 : Nat) (x1 : Int32) (x2 : Int32) (x4 : Int32) (s0_ : Int32) (s1_ : Int32) : ρ 59 [some (.ref a0), some (.int x1), some (.int x2), none, some (.int x4)] [.int s0_, .int s1_] h = ρ 27 [some (.ref a0), some (.int x1), some (.int x2), some (.int (s1_ + s0_)), some (.int (x4 + 1))] [] h :=
 T1 (x_iadd H rfl) rfl
 (T2 [some (.ref a0), some (.int x1), some (.int x2), some (.int (s1_ + s0_)), some (.int x4)] (x_istore_n H rfl rfl) rfl
 (T2 [some (.ref a0), some (.int x1), some (.int x2), some (.int (s1_ + s0_)), some (.int (x4 + 1))] (x_iinc H rfl ki_1 rfl rfl) rfl
 (T2 [some (.ref a0), some (.int x1), some (.int x2), some (.int (s1_ + s0_)), some (.int (x4 + 1))] (x_goto H rfl (t := 27) (by decide)) rfl rfl)))
theorem nd_123_95 {c : Ct} {dd : Bool} {ρ : Kt} (H : St c dd mt_123 ρ) (h : AH) (s0_ : Int32) : ρ 95 [none, none, none, none, none] [.int s0_] h = some (some (.int s0_), h) :=
 x_ireturn H rfl rfl
-- X8_stepOf (IIIII)I: 124
theorem nd_124_0 {c : Ct} {dd : Bool} {ρ : Kt} (H : St c dd mt_124 ρ) (h : AH) (a0 : Nat) (x1 : Int32) (x2 : Int32) (x3 : Int32) (x4 : Int32) (x5 : Int32) : ρ 0 [some (.ref a0), some (.int x1), some (.int x2), some (.int x3), some (.int x4), some (.int x5), none] [] h = isO h a0 8 ((c 117 [.ref a0, .int x1, .int x2, .int x3, .int x4] h).bind fun q1 => rI q1 fun v3 h2 => if v3 = 0 then (ρ 23 [none, none, none, none, none, none, none] [] h2) else ((c 107 [.long (x5).toInt64, .long 0, .long 1] h2).bind fun q4 => rI q4 fun v6 h5 => if v6 = 0 then (ρ 23 [none, none, none, none, none, none, none] [] h5) else ((c 115 [.int x1, .int x2, .int x3, .int x4] h5).bind fun q7 => rI q7 fun v9 h8 => if x5 = 0 then (gfQ h8 a0 8 7 none fun b12 => ldI h8 b12 v9 fun v13 => ρ 57 [none, none, none, none, none, none, none] [.int v13] h8) else (gfQ h8 a0 8 8 none fun b10 => ldI h8 b10 v9 fun v11 => ρ 57 [none, none, none, none, none, none, none] [.int v11] h8)))) :=
 T1 (x_aload_n H rfl rfl) rfl
 (T1 (x_iload_n H rfl rfl) rfl
 (T1 (x_iload_n H rfl rfl) rfl
 (T1 (x_iload_n H rfl rfl) rfl
 (T1 (x_iload H rfl rfl) rfl
 ((x_callZ (ci := 8) H rfl [.int x1, .int x2, .int x3, .int x4] rfl rfl rfl rfl).trans (isO_c (bi_c fun q1 => rI_c fun v3 h2 =>
 U1 rfl ((x_if_eq H rfl (t := 23) (by decide)).trans (if_c
 (U2 [none, none, none, none, none, none, none] rfl rfl)
 (U1 rfl (T1 (x_iload H rfl rfl) rfl
 (T1 (x_i2l H rfl) rfl
 (T1 (x_lconst H rfl kl_0) rfl
 (T1 (x_lconst H rfl kl_1) rfl
 ((x_statZ H rfl [.long (x5).toInt64, .long 0, .long 1] rfl rfl rfl rfl rfl).trans (bi_c fun q4 => rI_c fun v6 h5 =>
 U1 rfl ((x_if_ne H rfl (t := 25) (by decide)).trans (if_c
 (U2 [none, none, none, none, none, none, none] rfl rfl)
 (U1 rfl (T1 (x_iload_n H rfl rfl) rfl
 (T1 (x_iload_n H rfl rfl) rfl
 (T1 (x_iload_n H rfl rfl) rfl
 (T1 (x_iload H rfl rfl) rfl
 ((x_statI H rfl [.int x1, .int x2, .int x3, .int x4] rfl rfl rfl rfl rfl).trans (bi_c fun q7 => rI_c fun v9 h8 =>
 U1 rfl (T2 [some (.ref a0), some (.int x1), some (.int x2), some (.int x3), some (.int x4), some (.int x5), some (.int v9)] (x_istore H rfl rfl) rfl
 (T1 (x_iload H rfl rfl) rfl
 ((x_if_ne H rfl (t := 50) (by decide)).trans (if_c
 (U1 rfl (T1 (x_aload_n H rfl rfl) rfl
 ((x_getR H rfl).trans (gfQ_c rfl fun b12 =>
 U1 rfl (T1 (x_iload H rfl rfl) rfl
 ((x_iaload H rfl).trans (ldI_c fun v13 =>
 U1 rfl (T2 [none, none, none, none, none, none, none] (x_goto H rfl (t := 57) (by decide)) rfl rfl))))))))
 (U1 rfl (T1 (x_aload_n H rfl rfl) rfl
 ((x_getR H rfl).trans (gfQ_c rfl fun b10 =>
 U1 rfl (T1 (x_iload H rfl rfl) rfl
 ((x_iaload H rfl).trans (ldI_c fun v11 =>
 U2 [none, none, none, none, none, none, none] rfl rfl))))))))))))))))))))))))))))))))))))
theorem nd_124_23 {c : Ct} {dd : Bool} {ρ : Kt} (H : St c dd mt_124 ρ) (h : AH)  : ρ 23 [none, none, none, none, none, none, none] [] h = some (some (.int (-1)), h) :=
 T1 (x_iconst H rfl ki_m1) rfl
 (x_ireturn H rfl rfl)
theorem nd_124_57 {c : Ct} {dd : Bool} {ρ : Kt} (H : St c dd mt_124 ρ) (h : AH) (s0_ : Int32) : ρ 57 [none, none, none, none, none, none, none] [.int s0_] h = some (some (.int s0_), h) :=
 x_ireturn H rfl rfl
-- X8_drop ()I: 125
theorem nd_125_0 {c : Ct} {dd : Bool} {ρ : Kt} (H : St c dd mt_125 ρ) (h : AH) (a0 : Nat) : ρ 0 [some (.ref a0)] [] h = gfI h a0 8 3 fun v1 => if v1 = 0 then (some (some (.int (-4)), h)) else (gfI h a0 8 3 fun v2 => isO h a0 8 ((c 120 [.ref a0, .int (v2 - 1)] h).bind fun q3 => rI q3 fun v5 h4 => if v5 = 0 then (gfI h4 a0 8 3 fun v6 => pfV h4 a0 8 3 (.int (v6 - 1)) fun h7 => gfI h7 a0 8 3 fun v8 => some (some (.int v8), h7)) else (some (some (.int (-2)), h4)))) :=
 T1 (x_aload_n H rfl rfl) rfl
 ((x_getI H rfl).trans (gfI_c fun v1 =>
 U1 rfl ((x_if_ne H rfl (t := 10) (by decide)).trans (if_c
 (U1 rfl (T1 (x_bipush H rfl kb_m4) rfl
 (x_ireturn H rfl rfl)))
 (U1 rfl (T1 (x_aload_n H rfl rfl) rfl
 (T1 (x_aload_n H rfl rfl) rfl
 ((x_getI H rfl).trans (gfI_c fun v2 =>
 U1 rfl (T1 (x_iconst H rfl ki_1) rfl
 (T1 (x_isub H rfl) rfl
 ((x_callZ (ci := 8) H rfl [.int (v2 - 1)] rfl rfl rfl rfl).trans (isO_c (bi_c fun q3 => rI_c fun v5 h4 =>
 U1 rfl ((x_if_eq H rfl (t := 26) (by decide)).trans (if_c
 (U1 rfl (T1 (x_aload_n H rfl rfl) rfl
 (T1 (x_dup H rfl) rfl
 ((x_getI H rfl).trans (gfI_c fun v6 =>
 U1 rfl (T1 (x_iconst H rfl ki_1) rfl
 (T1 (x_isub H rfl) rfl
 ((x_putI H rfl).trans (pfV_c fun h7 =>
 U1 rfl (T1 (x_aload_n H rfl rfl) rfl
 ((x_getI H rfl).trans (gfI_c fun v8 =>
 U1 rfl (x_ireturn H rfl rfl)))))))))))))
 (U1 rfl (T1 (x_bipush H rfl kb_m2) rfl
 (x_ireturn H rfl rfl)))))))))))))))))))
-- X8_turned (I)I: 126
theorem nd_126_0 {c : Ct} {dd : Bool} {ρ : Kt} (H : St c dd mt_126 ρ) (h : AH) (a0 : Nat) (x1 : Int32) : ρ 0 [some (.ref a0), some (.int x1), none, none] [] h = isO h a0 8 ((c 113 [.ref a0, .int x1] h).bind fun q1 => rI q1 fun v3 h2 => if v3 = 0 then (some (some (.int (-1)), h2)) else (gfI h2 a0 8 3 fun v4 => if v4 = 6 then (some (some (.int (-3)), h2)) else (gfI h2 a0 8 3 fun v5 => gfQ h2 a0 8 4 none fun b6 => ldI h2 b6 x1 fun v7 => gfQ h2 a0 8 5 none fun b8 => ldI h2 b8 x1 fun v9 => isO h2 a0 8 ((c 118 [.ref a0, .int v5, .int v7, .int v9] h2).bind fun q10 => rV q10 fun h11 => ρ 46 [some (.ref a0), some (.int x1), some (.int v5), some (.int 0)] [] h11)))) :=
 T1 (x_aload_n H rfl rfl) rfl
 (T1 (x_iload_n H rfl rfl) rfl
 ((x_callZ (ci := 8) H rfl [.int x1] rfl rfl rfl rfl).trans (isO_c (bi_c fun q1 => rI_c fun v3 h2 =>
 U1 rfl ((x_if_ne H rfl (t := 10) (by decide)).trans (if_c
 (U1 rfl (T1 (x_iconst H rfl ki_m1) rfl
 (x_ireturn H rfl rfl)))
 (U1 rfl (T1 (x_aload_n H rfl rfl) rfl
 ((x_getI H rfl).trans (gfI_c fun v4 =>
 U1 rfl (T1 (x_bipush H rfl kb_6) rfl
 ((x_icmp_ne H rfl (t := 22) (by decide)).trans (if_c
 (U1 rfl (T1 (x_bipush H rfl kb_m3) rfl
 (x_ireturn H rfl rfl)))
 (U1 rfl (T1 (x_aload_n H rfl rfl) rfl
 ((x_getI H rfl).trans (gfI_c fun v5 =>
 U1 rfl (T2 [some (.ref a0), some (.int x1), some (.int v5), none] (x_istore_n H rfl rfl) rfl
 (T1 (x_aload_n H rfl rfl) rfl
 (T1 (x_iload_n H rfl rfl) rfl
 (T1 (x_aload_n H rfl rfl) rfl
 ((x_getR H rfl).trans (gfQ_c rfl fun b6 =>
 U1 rfl (T1 (x_iload_n H rfl rfl) rfl
 ((x_iaload H rfl).trans (ldI_c fun v7 =>
 U1 rfl (T1 (x_aload_n H rfl rfl) rfl
 ((x_getR H rfl).trans (gfQ_c rfl fun b8 =>
 U1 rfl (T1 (x_iload_n H rfl rfl) rfl
 ((x_iaload H rfl).trans (ldI_c fun v9 =>
 U1 rfl ((x_callV (ci := 8) H rfl [.int v5, .int v7, .int v9] rfl rfl rfl rfl).trans (isO_c (bi_c fun q10 => rV_c fun h11 =>
 U1 rfl (T1 (x_iconst H rfl ki_0) rfl
 (T2 [some (.ref a0), some (.int x1), some (.int v5), some (.int 0)] (x_istore_n H rfl rfl) rfl rfl)))))))))))))))))))))))))))))))))))))
theorem nd_126_46 {c : Ct} {dd : Bool} {ρ : Kt} (H : St c dd mt_126 ρ) (h : AH) (a0 : Nat) (x1 : Int32) (x2 : Int32) (x3 : Int32) : ρ 46 [some (.ref a0), some (.int x1), some (.int x2), some (.int x3)] [] h = gfQ h a0 8 4 none fun b1 => ldI h b1 x1 fun v2 => if v2 ≤ x3 then (ρ 94 [some (.ref a0), some (.int x1), some (.int x2), some (.int 0)] [] h) else (gfQ h a0 8 6 none fun b3 => gfQ h a0 8 6 none fun b4 => ldZ h b4 ((6 * x1) + x3) fun v5 => if v5 = 0 then (ρ 85 [some (.ref a0), some (.int x1), some (.int x2), some (.int x3)] [.int 1, .int ((6 * x2) + x3), .ref b3] h) else (ρ 85 [some (.ref a0), some (.int x1), some (.int x2), some (.int x3)] [.int 0, .int ((6 * x2) + x3), .ref b3] h)) :=
 T1 (x_iload_n H rfl rfl) rfl
 (T1 (x_aload_n H rfl rfl) rfl
 ((x_getR H rfl).trans (gfQ_c rfl fun b1 =>
 U1 rfl (T1 (x_iload_n H rfl rfl) rfl
 ((x_iaload H rfl).trans (ldI_c fun v2 =>
 U1 rfl ((x_icmp_ge H rfl (t := 92) (by decide)).trans (if_c
 (U1 rfl (T1 (x_iconst H rfl ki_0) rfl
 (T2 [some (.ref a0), some (.int x1), some (.int x2), some (.int 0)] (x_istore_n H rfl rfl) rfl rfl)))
 (U1 rfl (T1 (x_aload_n H rfl rfl) rfl
 ((x_getR H rfl).trans (gfQ_c rfl fun b3 =>
 U1 rfl (T1 (x_bipush H rfl kb_6) rfl
 (T1 (x_iload_n H rfl rfl) rfl
 (T1 (x_imul H rfl) rfl
 (T1 (x_iload_n H rfl rfl) rfl
 (T1 (x_iadd H rfl) rfl
 (T1 (x_aload_n H rfl rfl) rfl
 ((x_getR H rfl).trans (gfQ_c rfl fun b4 =>
 U1 rfl (T1 (x_bipush H rfl kb_6) rfl
 (T1 (x_iload_n H rfl rfl) rfl
 (T1 (x_imul H rfl) rfl
 (T1 (x_iload_n H rfl rfl) rfl
 (T1 (x_iadd H rfl) rfl
 ((x_baload H rfl).trans (ldZ_c fun v5 =>
 U1 rfl ((x_if_ne H rfl (t := 84) (by decide)).trans (if_c
 (U1 rfl (T1 (x_iconst H rfl ki_1) rfl
 (T2 [some (.ref a0), some (.int x1), some (.int x2), some (.int x3)] (x_goto H rfl (t := 85) (by decide)) rfl rfl)))
 (U1 rfl (T2 [some (.ref a0), some (.int x1), some (.int x2), some (.int x3)] (x_iconst H rfl ki_0) rfl rfl)))))))))))))))))))))))))))))))
theorem nd_126_85 {c : Ct} {dd : Bool} {ρ : Kt} (H : St c dd mt_126 ρ) (h : AH) (a0 : Nat) (x1 : Int32) (x2 : Int32) (x3 : Int32) (s0_ : Int32) (s1_ : Int32) (c2_ : Nat) : ρ 85 [some (.ref a0), some (.int x1), some (.int x2), some (.int x3)] [.int s0_, .int s1_, .ref c2_] h = stZ h c2_ s1_ s0_ fun h1 => ρ 46 [some (.ref a0), some (.int x1), some (.int x2), some (.int (x3 + 1))] [] h1 :=
 (x_bastore H rfl).trans (stZ_c fun h1 =>
 U1 rfl (T2 [some (.ref a0), some (.int x1), some (.int x2), some (.int (x3 + 1))] (x_iinc H rfl ki_1 rfl rfl) rfl
 (T2 [some (.ref a0), some (.int x1), some (.int x2), some (.int (x3 + 1))] (x_goto H rfl (t := 46) (by decide)) rfl rfl)))
theorem nd_126_94 {c : Ct} {dd : Bool} {ρ : Kt} (H : St c dd mt_126 ρ) (h : AH) (a0 : Nat) (x1 : Int32) (x2 : Int32) (x3 : Int32) : ρ 94 [some (.ref a0), some (.int x1), some (.int x2), some (.int x3)] [] h = if 54 ≤ x3 then (gfI h a0 8 3 fun v1 => pfV h a0 8 3 (.int (v1 + 1)) fun h2 => some (some (.int x2), h2)) else (gfQ h a0 8 7 none fun b3 => gfQ h a0 8 7 none fun b4 => ldI h b4 ((54 * x1) + x3) fun v5 => stI h b3 ((54 * x2) + x3) v5 fun h6 => gfQ h6 a0 8 8 none fun b7 => gfQ h6 a0 8 8 none fun b8 => ldI h6 b8 ((54 * x1) + x3) fun v9 => stI h6 b7 ((54 * x2) + x3) v9 fun h10 => ρ 94 [some (.ref a0), some (.int x1), some (.int x2), some (.int (x3 + 1))] [] h10) :=
 T1 (x_iload_n H rfl rfl) rfl
 (T1 (x_bipush H rfl kb_54) rfl
 ((x_icmp_ge H rfl (t := 150) (by decide)).trans (if_c
 (U1 rfl (T1 (x_aload_n H rfl rfl) rfl
 (T1 (x_dup H rfl) rfl
 ((x_getI H rfl).trans (gfI_c fun v1 =>
 U1 rfl (T1 (x_iconst H rfl ki_1) rfl
 (T1 (x_iadd H rfl) rfl
 ((x_putI H rfl).trans (pfV_c fun h2 =>
 U1 rfl (T1 (x_iload_n H rfl rfl) rfl
 (x_ireturn H rfl rfl)))))))))))
 (U1 rfl (T1 (x_aload_n H rfl rfl) rfl
 ((x_getR H rfl).trans (gfQ_c rfl fun b3 =>
 U1 rfl (T1 (x_bipush H rfl kb_54) rfl
 (T1 (x_iload_n H rfl rfl) rfl
 (T1 (x_imul H rfl) rfl
 (T1 (x_iload_n H rfl rfl) rfl
 (T1 (x_iadd H rfl) rfl
 (T1 (x_aload_n H rfl rfl) rfl
 ((x_getR H rfl).trans (gfQ_c rfl fun b4 =>
 U1 rfl (T1 (x_bipush H rfl kb_54) rfl
 (T1 (x_iload_n H rfl rfl) rfl
 (T1 (x_imul H rfl) rfl
 (T1 (x_iload_n H rfl rfl) rfl
 (T1 (x_iadd H rfl) rfl
 ((x_iaload H rfl).trans (ldI_c fun v5 =>
 U1 rfl ((x_iastore H rfl).trans (stI_c fun h6 =>
 U1 rfl (T1 (x_aload_n H rfl rfl) rfl
 ((x_getR H rfl).trans (gfQ_c rfl fun b7 =>
 U1 rfl (T1 (x_bipush H rfl kb_54) rfl
 (T1 (x_iload_n H rfl rfl) rfl
 (T1 (x_imul H rfl) rfl
 (T1 (x_iload_n H rfl rfl) rfl
 (T1 (x_iadd H rfl) rfl
 (T1 (x_aload_n H rfl rfl) rfl
 ((x_getR H rfl).trans (gfQ_c rfl fun b8 =>
 U1 rfl (T1 (x_bipush H rfl kb_54) rfl
 (T1 (x_iload_n H rfl rfl) rfl
 (T1 (x_imul H rfl) rfl
 (T1 (x_iload_n H rfl rfl) rfl
 (T1 (x_iadd H rfl) rfl
 ((x_iaload H rfl).trans (ldI_c fun v9 =>
 U1 rfl ((x_iastore H rfl).trans (stI_c fun h10 =>
 U1 rfl (T2 [some (.ref a0), some (.int x1), some (.int x2), some (.int (x3 + 1))] (x_iinc H rfl ki_1 rfl rfl) rfl
 (T2 [some (.ref a0), some (.int x1), some (.int x2), some (.int (x3 + 1))] (x_goto H rfl (t := 94) (by decide)) rfl rfl))))))))))))))))))))))))))))))))))))))))))))))
-- X8_pairAt (II)I: 127
theorem nd_127_0 {c : Ct} {dd : Bool} {ρ : Kt} (H : St c dd mt_127 ρ) (h : AH) (a0 : Nat) (x1 : Int32) (x2 : Int32) : ρ 0 [some (.ref a0), some (.int x1), some (.int x2), none] [] h = ρ 2 [some (.ref a0), some (.int x1), some (.int x2), some (.int 0)] [] h :=
 T1 (x_iconst H rfl ki_0) rfl
 (T2 [some (.ref a0), some (.int x1), some (.int x2), some (.int 0)] (x_istore_n H rfl rfl) rfl rfl)
theorem nd_127_2 {c : Ct} {dd : Bool} {ρ : Kt} (H : St c dd mt_127 ρ) (h : AH) (a0 : Nat) (x1 : Int32) (x2 : Int32) (x3 : Int32) : ρ 2 [some (.ref a0), some (.int x1), some (.int x2), some (.int x3)] [] h = if x2 ≤ x3 then (ρ 23 [none, none, none, some (.int x3)] [] h) else (gfQ h a0 8 9 none fun b1 => ldI h b1 x3 fun v2 => if v2 = x1 then (ρ 23 [none, none, none, some (.int x3)] [] h) else (ρ 2 [some (.ref a0), some (.int x1), some (.int x2), some (.int (x3 + 1))] [] h)) :=
 T1 (x_iload_n H rfl rfl) rfl
 (T1 (x_iload_n H rfl rfl) rfl
 ((x_icmp_ge H rfl (t := 23) (by decide)).trans (if_c
 (U2 [none, none, none, some (.int x3)] rfl rfl)
 (U1 rfl (T1 (x_aload_n H rfl rfl) rfl
 ((x_getR H rfl).trans (gfQ_c rfl fun b1 =>
 U1 rfl (T1 (x_iload_n H rfl rfl) rfl
 ((x_iaload H rfl).trans (ldI_c fun v2 =>
 U1 rfl (T1 (x_iload_n H rfl rfl) rfl
 ((x_icmp_eq H rfl (t := 23) (by decide)).trans (if_c
 (U2 [none, none, none, some (.int x3)] rfl rfl)
 (U1 rfl (T2 [some (.ref a0), some (.int x1), some (.int x2), some (.int (x3 + 1))] (x_iinc H rfl ki_1 rfl rfl) rfl
 (T2 [some (.ref a0), some (.int x1), some (.int x2), some (.int (x3 + 1))] (x_goto H rfl (t := 2) (by decide)) rfl rfl))))))))))))))))
theorem nd_127_23 {c : Ct} {dd : Bool} {ρ : Kt} (H : St c dd mt_127 ρ) (h : AH) (x3 : Int32) : ρ 23 [none, none, none, some (.int x3)] [] h = some (some (.int x3), h) :=
 T1 (x_iload_n H rfl rfl) rfl
 (x_ireturn H rfl rfl)
-- X8_both (III)I: 128
theorem nd_128_0 {c : Ct} {dd : Bool} {ρ : Kt} (H : St c dd mt_128 ρ) (h : AH) (a0 : Nat) (x1 : Int32) (x2 : Int32) (x3 : Int32) : ρ 0 [some (.ref a0), some (.int x1), some (.int x2), some (.int x3), none, none, none, none, none, none, none, none, none] [] h = isO h a0 8 ((c 113 [.ref a0, .int x1] h).bind fun q1 => rI q1 fun v3 h2 => if v3 = 0 then (ρ 28 [none, none, none, none, none, none, none, none, none, none, none, none, none] [] h2) else (isO h2 a0 8 ((c 113 [.ref a0, .int x2] h2).bind fun q4 => rI q4 fun v6 h5 => if v6 = 0 then (ρ 28 [none, none, none, none, none, none, none, none, none, none, none, none, none] [] h5) else ((c 107 [.long (x3).toInt64, .long 0, .long 2] h5).bind fun q7 => rI q7 fun v9 h8 => if v9 = 0 then (ρ 28 [none, none, none, none, none, none, none, none, none, none, none, none, none] [] h8) else (gfQ h8 a0 8 5 none fun b10 => ldI h8 b10 x1 fun v11 => if v11 ≤ 0 then (ρ 51 [some (.ref a0), some (.int x1), some (.int x2), some (.int x3), none, none, none, none, none, none, none, none, none] [] h8) else (gfQ h8 a0 8 5 none fun b12 => ldI h8 b12 x2 fun v13 => if v13 ≤ 0 then (ρ 51 [some (.ref a0), some (.int x1), some (.int x2), some (.int x3), none, none, none, none, none, none, none, none, none] [] h8) else (some (some (.int (-2)), h8)))))))) :=
 T1 (x_aload_n H rfl rfl) rfl
 (T1 (x_iload_n H rfl rfl) rfl
 ((x_callZ (ci := 8) H rfl [.int x1] rfl rfl rfl rfl).trans (isO_c (bi_c fun q1 => rI_c fun v3 h2 =>
 U1 rfl ((x_if_eq H rfl (t := 28) (by decide)).trans (if_c
 (U2 [none, none, none, none, none, none, none, none, none, none, none, none, none] rfl rfl)
 (U1 rfl (T1 (x_aload_n H rfl rfl) rfl
 (T1 (x_iload_n H rfl rfl) rfl
 ((x_callZ (ci := 8) H rfl [.int x2] rfl rfl rfl rfl).trans (isO_c (bi_c fun q4 => rI_c fun v6 h5 =>
 U1 rfl ((x_if_eq H rfl (t := 28) (by decide)).trans (if_c
 (U2 [none, none, none, none, none, none, none, none, none, none, none, none, none] rfl rfl)
 (U1 rfl (T1 (x_iload_n H rfl rfl) rfl
 (T1 (x_i2l H rfl) rfl
 (T1 (x_lconst H rfl kl_0) rfl
 (T1 (x_ldc2 H rfl kl_2) rfl
 ((x_statZ H rfl [.long (x3).toInt64, .long 0, .long 2] rfl rfl rfl rfl rfl).trans (bi_c fun q7 => rI_c fun v9 h8 =>
 U1 rfl ((x_if_ne H rfl (t := 30) (by decide)).trans (if_c
 (U2 [none, none, none, none, none, none, none, none, none, none, none, none, none] rfl rfl)
 (U1 rfl (T1 (x_aload_n H rfl rfl) rfl
 ((x_getR H rfl).trans (gfQ_c rfl fun b10 =>
 U1 rfl (T1 (x_iload_n H rfl rfl) rfl
 ((x_iaload H rfl).trans (ldI_c fun v11 =>
 U1 rfl ((x_if_le H rfl (t := 51) (by decide)).trans (if_c
 (U2 [some (.ref a0), some (.int x1), some (.int x2), some (.int x3), none, none, none, none, none, none, none, none, none] rfl rfl)
 (U1 rfl (T1 (x_aload_n H rfl rfl) rfl
 ((x_getR H rfl).trans (gfQ_c rfl fun b12 =>
 U1 rfl (T1 (x_iload_n H rfl rfl) rfl
 ((x_iaload H rfl).trans (ldI_c fun v13 =>
 U1 rfl ((x_if_le H rfl (t := 51) (by decide)).trans (if_c
 (U2 [some (.ref a0), some (.int x1), some (.int x2), some (.int x3), none, none, none, none, none, none, none, none, none] rfl rfl)
 (U1 rfl (T1 (x_bipush H rfl kb_m2) rfl
 (x_ireturn H rfl rfl))))))))))))))))))))))))))))))))))))))))))))
theorem nd_128_28 {c : Ct} {dd : Bool} {ρ : Kt} (H : St c dd mt_128 ρ) (h : AH)  : ρ 28 [none, none, none, none, none, none, none, none, none, none, none, none, none] [] h = some (some (.int (-1)), h) :=
 T1 (x_iconst H rfl ki_m1) rfl
 (x_ireturn H rfl rfl)
theorem nd_128_51 {c : Ct} {dd : Bool} {ρ : Kt} (H : St c dd mt_128 ρ) (h : AH) (a0 : Nat) (x1 : Int32) (x2 : Int32) (x3 : Int32) : ρ 51 [some (.ref a0), some (.int x1), some (.int x2), some (.int x3), none, none, none, none, none, none, none, none, none] [] h = gfQ h a0 8 5 none fun b1 => ldI h b1 x2 fun v2 => if v2 ≤ 0 then (ρ 65 [some (.ref a0), some (.int x1), some (.int x2), some (.int x3), none, none, none, none, none, none, none, none, none] [.int x1] h) else (ρ 65 [some (.ref a0), some (.int x1), some (.int x2), some (.int x3), none, none, none, none, none, none, none, none, none] [.int x2] h) :=
 T1 (x_aload_n H rfl rfl) rfl
 ((x_getR H rfl).trans (gfQ_c rfl fun b1 =>
 U1 rfl (T1 (x_iload_n H rfl rfl) rfl
 ((x_iaload H rfl).trans (ldI_c fun v2 =>
 U1 rfl ((x_if_le H rfl (t := 64) (by decide)).trans (if_c
 (U1 rfl (T2 [some (.ref a0), some (.int x1), some (.int x2), some (.int x3), none, none, none, none, none, none, none, none, none] (x_iload_n H rfl rfl) rfl rfl))
 (U1 rfl (T1 (x_iload_n H rfl rfl) rfl
 (T2 [some (.ref a0), some (.int x1), some (.int x2), some (.int x3), none, none, none, none, none, none, none, none, none] (x_goto H rfl (t := 65) (by decide)) rfl rfl))))))))))
theorem nd_128_65 {c : Ct} {dd : Bool} {ρ : Kt} (H : St c dd mt_128 ρ) (h : AH) (a0 : Nat) (x1 : Int32) (x2 : Int32) (x3 : Int32) (s0_ : Int32) : ρ 65 [some (.ref a0), some (.int x1), some (.int x2), some (.int x3), none, none, none, none, none, none, none, none, none] [.int s0_] h = gfQ h a0 8 9 none fun b1 => stI h b1 0 0 fun h2 => ρ 80 [some (.ref a0), some (.int x1), some (.int x2), some (.int x3), some (.int s0_), some (.int 1), some (.int 0), none, none, none, none, none, none] [] h2 :=
 T2 [some (.ref a0), some (.int x1), some (.int x2), some (.int x3), some (.int s0_), none, none, none, none, none, none, none, none] (x_istore H rfl rfl) rfl
 (T1 (x_aload_n H rfl rfl) rfl
 ((x_getR H rfl).trans (gfQ_c rfl fun b1 =>
 U1 rfl (T1 (x_iconst H rfl ki_0) rfl
 (T1 (x_iconst H rfl ki_0) rfl
 ((x_iastore H rfl).trans (stI_c fun h2 =>
 U1 rfl (T1 (x_iconst H rfl ki_1) rfl
 (T2 [some (.ref a0), some (.int x1), some (.int x2), some (.int x3), some (.int s0_), some (.int 1), none, none, none, none, none, none, none] (x_istore H rfl rfl) rfl
 (T1 (x_iconst H rfl ki_0) rfl
 (T2 [some (.ref a0), some (.int x1), some (.int x2), some (.int x3), some (.int s0_), some (.int 1), some (.int 0), none, none, none, none, none, none] (x_istore H rfl rfl) rfl rfl)))))))))))
theorem nd_128_80 {c : Ct} {dd : Bool} {ρ : Kt} (H : St c dd mt_128 ρ) (h : AH) (a0 : Nat) (x1 : Int32) (x2 : Int32) (x3 : Int32) (x4 : Int32) (x5 : Int32) (x6 : Int32) : ρ 80 [some (.ref a0), some (.int x1), some (.int x2), some (.int x3), some (.int x4), some (.int x5), some (.int x6), none, none, none, none, none, none] [] h = if x5 ≤ x6 then (gfI h a0 8 3 fun v1 => if v1 = 6 then (some (some (.int (-3)), h)) else (gfI h a0 8 3 fun v2 => gfQ h a0 8 5 none fun b3 => ldI h b3 x4 fun v4 => isO h a0 8 ((c 118 [.ref a0, .int v2, .int x5, .int v4] h).bind fun q5 => rV q5 fun h6 => ρ 336 [some (.ref a0), some (.int x1), some (.int x2), some (.int x3), some (.int x4), some (.int x5), some (.int v2), some (.int 0), none, none, none, none, none] [] h6))) else (ρ 90 [some (.ref a0), some (.int x1), some (.int x2), some (.int x3), some (.int x4), some (.int x5), some (.int x6), some (.int 0), none, none, none, none, none] [] h) :=
 T1 (x_iload H rfl rfl) rfl
 (T1 (x_iload H rfl rfl) rfl
 ((x_icmp_ge H rfl (t := 300) (by decide)).trans (if_c
 (U1 rfl (T1 (x_aload_n H rfl rfl) rfl
 ((x_getI H rfl).trans (gfI_c fun v1 =>
 U1 rfl (T1 (x_bipush H rfl kb_6) rfl
 ((x_icmp_ne H rfl (t := 312) (by decide)).trans (if_c
 (U1 rfl (T1 (x_bipush H rfl kb_m3) rfl
 (x_ireturn H rfl rfl)))
 (U1 rfl (T1 (x_aload_n H rfl rfl) rfl
 ((x_getI H rfl).trans (gfI_c fun v2 =>
 U1 rfl (T2 [some (.ref a0), some (.int x1), some (.int x2), some (.int x3), some (.int x4), some (.int x5), some (.int v2), none, none, none, none, none, none] (x_istore H rfl rfl) rfl
 (T1 (x_aload_n H rfl rfl) rfl
 (T1 (x_iload H rfl rfl) rfl
 (T1 (x_iload H rfl rfl) rfl
 (T1 (x_aload_n H rfl rfl) rfl
 ((x_getR H rfl).trans (gfQ_c rfl fun b3 =>
 U1 rfl (T1 (x_iload H rfl rfl) rfl
 ((x_iaload H rfl).trans (ldI_c fun v4 =>
 U1 rfl ((x_callV (ci := 8) H rfl [.int v2, .int x5, .int v4] rfl rfl rfl rfl).trans (isO_c (bi_c fun q5 => rV_c fun h6 =>
 U1 rfl (T1 (x_iconst H rfl ki_0) rfl
 (T2 [some (.ref a0), some (.int x1), some (.int x2), some (.int x3), some (.int x4), some (.int x5), some (.int v2), some (.int 0), none, none, none, none, none] (x_istore H rfl rfl) rfl rfl))))))))))))))))))))))))))
 (U1 rfl (T1 (x_iconst H rfl ki_0) rfl
 (T2 [some (.ref a0), some (.int x1), some (.int x2), some (.int x3), some (.int x4), some (.int x5), some (.int x6), some (.int 0), none, none, none, none, none] (x_istore H rfl rfl) rfl rfl))))))
theorem nd_128_90 {c : Ct} {dd : Bool} {ρ : Kt} (H : St c dd mt_128 ρ) (h : AH) (a0 : Nat) (x1 : Int32) (x2 : Int32) (x3 : Int32) (x4 : Int32) (x5 : Int32) (x6 : Int32) (x7 : Int32) : ρ 90 [some (.ref a0), some (.int x1), some (.int x2), some (.int x3), some (.int x4), some (.int x5), some (.int x6), some (.int x7), none, none, none, none, none] [] h = if 9 ≤ x7 then (ρ 80 [some (.ref a0), some (.int x1), some (.int x2), some (.int x3), some (.int x4), some (.int x5), some (.int (x6 + 1)), none, none, none, none, none, none] [] h) else (isO h a0 8 ((c 116 [.ref a0, .int x4, .int (x7 - x7 / 3 * 3)] h).bind fun q1 => rI q1 fun v3 h2 => if v3 = 0 then (ρ 288 [some (.ref a0), some (.int x1), some (.int x2), some (.int x3), some (.int x4), some (.int x5), some (.int x6), some (.int x7), none, none, none, none, none] [] h2) else (gfQ h2 a0 8 9 none fun b4 => ldI h2 b4 x6 fun v5 => if x4 = x1 then (ρ 141 [some (.ref a0), some (.int x1), some (.int x2), some (.int x3), some (.int x4), some (.int x5), some (.int x6), some (.int x7), some (.int (x7 - x7 / 3 * 3)), none, none, none, none] [.int (x7 - x7 / 3 * 3), .int (x7 / 3), .int (v5 / 6), .int x1] h2) else (ρ 141 [some (.ref a0), some (.int x1), some (.int x2), some (.int x3), some (.int x4), some (.int x5), some (.int x6), some (.int x7), some (.int (x7 - x7 / 3 * 3)), none, none, none, none] [.int 2, .int (x7 / 3), .int (v5 / 6), .int x1] h2)))) :=
 T1 (x_iload H rfl rfl) rfl
 (T1 (x_bipush H rfl kb_9) rfl
 ((x_icmp_ge H rfl (t := 294) (by decide)).trans (if_c
 (U1 rfl (T2 [some (.ref a0), some (.int x1), some (.int x2), some (.int x3), some (.int x4), some (.int x5), some (.int (x6 + 1)), some (.int x7), none, none, none, none, none] (x_iinc H rfl ki_1 rfl rfl) rfl
 (T2 [some (.ref a0), some (.int x1), some (.int x2), some (.int x3), some (.int x4), some (.int x5), some (.int (x6 + 1)), none, none, none, none, none, none] (x_goto H rfl (t := 80) (by decide)) rfl rfl)))
 (U1 rfl (T1 (x_iload H rfl rfl) rfl
 (T1 (x_iconst H rfl ki_3) rfl
 (T1 (x_irem H rfl (by decide)) rfl
 (T2 [some (.ref a0), some (.int x1), some (.int x2), some (.int x3), some (.int x4), some (.int x5), some (.int x6), some (.int x7), some (.int (x7 - x7 / 3 * 3)), none, none, none, none] (x_istore H rfl rfl) rfl
 (T1 (x_aload_n H rfl rfl) rfl
 (T1 (x_iload H rfl rfl) rfl
 (T1 (x_iload H rfl rfl) rfl
 ((x_callZ (ci := 8) H rfl [.int x4, .int (x7 - x7 / 3 * 3)] rfl rfl rfl rfl).trans (isO_c (bi_c fun q1 => rI_c fun v3 h2 =>
 U1 rfl ((x_if_eq H rfl (t := 288) (by decide)).trans (if_c
 (U2 [some (.ref a0), some (.int x1), some (.int x2), some (.int x3), some (.int x4), some (.int x5), some (.int x6), some (.int x7), none, none, none, none, none] rfl rfl)
 (U1 rfl (T1 (x_iload_n H rfl rfl) rfl
 (T1 (x_aload_n H rfl rfl) rfl
 ((x_getR H rfl).trans (gfQ_c rfl fun b4 =>
 U1 rfl (T1 (x_iload H rfl rfl) rfl
 ((x_iaload H rfl).trans (ldI_c fun v5 =>
 U1 rfl (T1 (x_bipush H rfl kb_6) rfl
 (T1 (x_idiv H rfl (by decide)) rfl
 (T1 (x_iload H rfl rfl) rfl
 (T1 (x_iconst H rfl ki_3) rfl
 (T1 (x_idiv H rfl (by decide)) rfl
 (T1 (x_iload H rfl rfl) rfl
 (T1 (x_iload_n H rfl rfl) rfl
 ((x_icmp_ne H rfl (t := 140) (by decide)).trans (if_c
 (U1 rfl (T1 (x_iload H rfl rfl) rfl
 (T2 [some (.ref a0), some (.int x1), some (.int x2), some (.int x3), some (.int x4), some (.int x5), some (.int x6), some (.int x7), some (.int (x7 - x7 / 3 * 3)), none, none, none, none] (x_goto H rfl (t := 141) (by decide)) rfl rfl)))
 (U1 rfl (T2 [some (.ref a0), some (.int x1), some (.int x2), some (.int x3), some (.int x4), some (.int x5), some (.int x6), some (.int x7), some (.int (x7 - x7 / 3 * 3)), none, none, none, none] (x_iconst H rfl ki_2) rfl rfl)))))))))))))))))))))))))))))))))))
theorem nd_128_336 {c : Ct} {dd : Bool} {ρ : Kt} (H : St c dd mt_128 ρ) (h : AH) (a0 : Nat) (x1 : Int32) (x2 : Int32) (x3 : Int32) (x4 : Int32) (x5 : Int32) (x6 : Int32) (x7 : Int32) : ρ 336 [some (.ref a0), some (.int x1), some (.int x2), some (.int x3), some (.int x4), some (.int x5), some (.int x6), some (.int x7), none, none, none, none, none] [] h = if x5 ≤ x7 then (gfI h a0 8 3 fun v1 => pfV h a0 8 3 (.int (v1 + 1)) fun h2 => some (some (.int x6), h2)) else (gfQ h a0 8 6 none fun b3 => gfQ h a0 8 9 none fun b4 => ldI h b4 x7 fun v5 => ldZ h b3 ((6 * x1) + (v5 / 6)) fun v6 => gfQ h a0 8 6 none fun b7 => gfQ h a0 8 9 none fun b8 => ldI h b8 x7 fun v9 => ldZ h b7 ((6 * x2) + (v9 - v9 / 6 * 6)) fun v10 => gfQ h a0 8 6 none fun b11 => if x3 = 0 then (if v6 = 0 then (ρ 417 [some (.ref a0), some (.int x1), some (.int x2), some (.int x3), some (.int x4), some (.int x5), some (.int x6), some (.int x7), none, none, none, none, none] [.int ((6 * x6) + x7), .ref b11] h) else (if v10 = 0 then (ρ 417 [some (.ref a0), some (.int x1), some (.int x2), some (.int x3), some (.int x4), some (.int x5), some (.int x6), some (.int x7), none, none, none, none, none] [.int ((6 * x6) + x7), .ref b11] h) else (ρ 456 [some (.ref a0), some (.int x1), some (.int x2), some (.int x3), some (.int x4), some (.int x5), some (.int x6), some (.int x7), none, none, none, none, none] [.int 1, .int ((6 * x6) + x7), .ref b11] h))) else (if x3 = 1 then (if v6 = 0 then (if v10 = 0 then (ρ 456 [some (.ref a0), some (.int x1), some (.int x2), some (.int x3), some (.int x4), some (.int x5), some (.int x6), some (.int x7), none, none, none, none, none] [.int 0, .int ((6 * x6) + x7), .ref b11] h) else (ρ 436 [some (.ref a0), some (.int x1), some (.int x2), some (.int x3), some (.int x4), some (.int x5), some (.int x6), some (.int x7), none, none, none, none, none] [.int ((6 * x6) + x7), .ref b11] h)) else (ρ 436 [some (.ref a0), some (.int x1), some (.int x2), some (.int x3), some (.int x4), some (.int x5), some (.int x6), some (.int x7), none, none, none, none, none] [.int ((6 * x6) + x7), .ref b11] h)) else (if v6 = v10 then (ρ 456 [some (.ref a0), some (.int x1), some (.int x2), some (.int x3), some (.int x4), some (.int x5), some (.int x6), some (.int x7), none, none, none, none, none] [.int 0, .int ((6 * x6) + x7), .ref b11] h) else (ρ 456 [some (.ref a0), some (.int x1), some (.int x2), some (.int x3), some (.int x4), some (.int x5), some (.int x6), some (.int x7), none, none, none, none, none] [.int 1, .int ((6 * x6) + x7), .ref b11] h)))) :=
 T1 (x_iload H rfl rfl) rfl
 (T1 (x_iload H rfl rfl) rfl
 ((x_icmp_ge H rfl (t := 556) (by decide)).trans (if_c
 (U1 rfl (T1 (x_aload_n H rfl rfl) rfl
 (T1 (x_dup H rfl) rfl
 ((x_getI H rfl).trans (gfI_c fun v1 =>
 U1 rfl (T1 (x_iconst H rfl ki_1) rfl
 (T1 (x_iadd H rfl) rfl
 ((x_putI H rfl).trans (pfV_c fun h2 =>
 U1 rfl (T1 (x_iload H rfl rfl) rfl
 (x_ireturn H rfl rfl)))))))))))
 (U1 rfl (T1 (x_aload_n H rfl rfl) rfl
 ((x_getR H rfl).trans (gfQ_c rfl fun b3 =>
 U1 rfl (T1 (x_bipush H rfl kb_6) rfl
 (T1 (x_iload_n H rfl rfl) rfl
 (T1 (x_imul H rfl) rfl
 (T1 (x_aload_n H rfl rfl) rfl
 ((x_getR H rfl).trans (gfQ_c rfl fun b4 =>
 U1 rfl (T1 (x_iload H rfl rfl) rfl
 ((x_iaload H rfl).trans (ldI_c fun v5 =>
 U1 rfl (T1 (x_bipush H rfl kb_6) rfl
 (T1 (x_idiv H rfl (by decide)) rfl
 (T1 (x_iadd H rfl) rfl
 ((x_baload H rfl).trans (ldZ_c fun v6 =>
 U1 rfl (T2 [some (.ref a0), some (.int x1), some (.int x2), some (.int x3), some (.int x4), some (.int x5), some (.int x6), some (.int x7), some (.int v6), none, none, none, none] (x_istore H rfl rfl) rfl
 (T1 (x_aload_n H rfl rfl) rfl
 ((x_getR H rfl).trans (gfQ_c rfl fun b7 =>
 U1 rfl (T1 (x_bipush H rfl kb_6) rfl
 (T1 (x_iload_n H rfl rfl) rfl
 (T1 (x_imul H rfl) rfl
 (T1 (x_aload_n H rfl rfl) rfl
 ((x_getR H rfl).trans (gfQ_c rfl fun b8 =>
 U1 rfl (T1 (x_iload H rfl rfl) rfl
 ((x_iaload H rfl).trans (ldI_c fun v9 =>
 U1 rfl (T1 (x_bipush H rfl kb_6) rfl
 (T1 (x_irem H rfl (by decide)) rfl
 (T1 (x_iadd H rfl) rfl
 ((x_baload H rfl).trans (ldZ_c fun v10 =>
 U1 rfl (T2 [some (.ref a0), some (.int x1), some (.int x2), some (.int x3), some (.int x4), some (.int x5), some (.int x6), some (.int x7), some (.int v6), some (.int v10), none, none, none] (x_istore H rfl rfl) rfl
 (T1 (x_aload_n H rfl rfl) rfl
 ((x_getR H rfl).trans (gfQ_c rfl fun b11 =>
 U1 rfl (T1 (x_bipush H rfl kb_6) rfl
 (T1 (x_iload H rfl rfl) rfl
 (T1 (x_imul H rfl) rfl
 (T1 (x_iload H rfl rfl) rfl
 (T1 (x_iadd H rfl) rfl
 (T1 (x_iload_n H rfl rfl) rfl
 ((x_if_ne H rfl (t := 421) (by decide)).trans (if_c
 (U1 rfl (T1 (x_iload H rfl rfl) rfl
 ((x_if_eq H rfl (t := 417) (by decide)).trans (if_c
 (U2 [some (.ref a0), some (.int x1), some (.int x2), some (.int x3), some (.int x4), some (.int x5), some (.int x6), some (.int x7), none, none, none, none, none] rfl rfl)
 (U1 rfl (T1 (x_iload H rfl rfl) rfl
 ((x_if_eq H rfl (t := 417) (by decide)).trans (if_c
 (U2 [some (.ref a0), some (.int x1), some (.int x2), some (.int x3), some (.int x4), some (.int x5), some (.int x6), some (.int x7), none, none, none, none, none] rfl rfl)
 (U1 rfl (T1 (x_iconst H rfl ki_1) rfl
 (T2 [some (.ref a0), some (.int x1), some (.int x2), some (.int x3), some (.int x4), some (.int x5), some (.int x6), some (.int x7), none, none, none, none, none] (x_goto H rfl (t := 456) (by decide)) rfl rfl)))))))))))
 (U1 rfl (T1 (x_iload_n H rfl rfl) rfl
 (T1 (x_iconst H rfl ki_1) rfl
 ((x_icmp_ne H rfl (t := 444) (by decide)).trans (if_c
 (U1 rfl (T1 (x_iload H rfl rfl) rfl
 ((x_if_ne H rfl (t := 436) (by decide)).trans (if_c
 (U1 rfl (T1 (x_iload H rfl rfl) rfl
 ((x_if_eq H rfl (t := 440) (by decide)).trans (if_c
 (U1 rfl (T1 (x_iconst H rfl ki_0) rfl
 (T2 [some (.ref a0), some (.int x1), some (.int x2), some (.int x3), some (.int x4), some (.int x5), some (.int x6), some (.int x7), none, none, none, none, none] (x_goto H rfl (t := 456) (by decide)) rfl rfl)))
 (U2 [some (.ref a0), some (.int x1), some (.int x2), some (.int x3), some (.int x4), some (.int x5), some (.int x6), some (.int x7), none, none, none, none, none] rfl rfl)))))
 (U2 [some (.ref a0), some (.int x1), some (.int x2), some (.int x3), some (.int x4), some (.int x5), some (.int x6), some (.int x7), none, none, none, none, none] rfl rfl)))))
 (U1 rfl (T1 (x_iload H rfl rfl) rfl
 (T1 (x_iload H rfl rfl) rfl
 ((x_icmp_eq H rfl (t := 455) (by decide)).trans (if_c
 (U1 rfl (T2 [some (.ref a0), some (.int x1), some (.int x2), some (.int x3), some (.int x4), some (.int x5), some (.int x6), some (.int x7), none, none, none, none, none] (x_iconst H rfl ki_0) rfl rfl))
 (U1 rfl (T1 (x_iconst H rfl ki_1) rfl
 (T2 [some (.ref a0), some (.int x1), some (.int x2), some (.int x3), some (.int x4), some (.int x5), some (.int x6), some (.int x7), none, none, none, none, none] (x_goto H rfl (t := 456) (by decide)) rfl rfl))))))))))))))))))))))))))))))))))))))))))))))))))))))))))))))))
theorem nd_128_141 {c : Ct} {dd : Bool} {ρ : Kt} (H : St c dd mt_128 ρ) (h : AH) (a0 : Nat) (x1 : Int32) (x2 : Int32) (x3 : Int32) (x4 : Int32) (x5 : Int32) (x6 : Int32) (x7 : Int32) (x8 : Int32) (s0_ : Int32) (s1_ : Int32) (s2_ : Int32) (s3_ : Int32) : ρ 141 [some (.ref a0), some (.int x1), some (.int x2), some (.int x3), some (.int x4), some (.int x5), some (.int x6), some (.int x7), some (.int x8), none, none, none, none] [.int s0_, .int s1_, .int s2_, .int s3_] h = (c 115 [.int s3_, .int s2_, .int s1_, .int s0_] h).bind fun q1 => rI q1 fun v3 h2 => gfQ h2 a0 8 9 none fun b4 => ldI h2 b4 x6 fun v5 => if x4 = x2 then (ρ 173 [some (.ref a0), some (.int x1), some (.int x2), some (.int x3), some (.int x4), some (.int x5), some (.int x6), some (.int x7), none, some (.int v3), none, none, none] [.int x8, .int (x7 / 3), .int (v5 - v5 / 6 * 6), .int x2] h2) else (ρ 173 [some (.ref a0), some (.int x1), some (.int x2), some (.int x3), some (.int x4), some (.int x5), some (.int x6), some (.int x7), none, some (.int v3), none, none, none] [.int 2, .int (x7 / 3), .int (v5 - v5 / 6 * 6), .int x2] h2) :=
 (x_statI H rfl [.int s3_, .int s2_, .int s1_, .int s0_] rfl rfl rfl rfl rfl).trans (bi_c fun q1 => rI_c fun v3 h2 =>
 U1 rfl (T2 [some (.ref a0), some (.int x1), some (.int x2), some (.int x3), some (.int x4), some (.int x5), some (.int x6), some (.int x7), some (.int x8), some (.int v3), none, none, none] (x_istore H rfl rfl) rfl
 (T1 (x_iload_n H rfl rfl) rfl
 (T1 (x_aload_n H rfl rfl) rfl
 ((x_getR H rfl).trans (gfQ_c rfl fun b4 =>
 U1 rfl (T1 (x_iload H rfl rfl) rfl
 ((x_iaload H rfl).trans (ldI_c fun v5 =>
 U1 rfl (T1 (x_bipush H rfl kb_6) rfl
 (T1 (x_irem H rfl (by decide)) rfl
 (T1 (x_iload H rfl rfl) rfl
 (T1 (x_iconst H rfl ki_3) rfl
 (T1 (x_idiv H rfl (by decide)) rfl
 (T1 (x_iload H rfl rfl) rfl
 (T1 (x_iload_n H rfl rfl) rfl
 ((x_icmp_ne H rfl (t := 172) (by decide)).trans (if_c
 (U1 rfl (T1 (x_iload H rfl rfl) rfl
 (T2 [some (.ref a0), some (.int x1), some (.int x2), some (.int x3), some (.int x4), some (.int x5), some (.int x6), some (.int x7), none, some (.int v3), none, none, none] (x_goto H rfl (t := 173) (by decide)) rfl rfl)))
 (U1 rfl (T2 [some (.ref a0), some (.int x1), some (.int x2), some (.int x3), some (.int x4), some (.int x5), some (.int x6), some (.int x7), none, some (.int v3), none, none, none] (x_iconst H rfl ki_2) rfl rfl))))))))))))))))))))
theorem nd_128_288 {c : Ct} {dd : Bool} {ρ : Kt} (H : St c dd mt_128 ρ) (h : AH) (a0 : Nat) (x1 : Int32) (x2 : Int32) (x3 : Int32) (x4 : Int32) (x5 : Int32) (x6 : Int32) (x7 : Int32) : ρ 288 [some (.ref a0), some (.int x1), some (.int x2), some (.int x3), some (.int x4), some (.int x5), some (.int x6), some (.int x7), none, none, none, none, none] [] h = ρ 90 [some (.ref a0), some (.int x1), some (.int x2), some (.int x3), some (.int x4), some (.int x5), some (.int x6), some (.int (x7 + 1)), none, none, none, none, none] [] h :=
 T2 [some (.ref a0), some (.int x1), some (.int x2), some (.int x3), some (.int x4), some (.int x5), some (.int x6), some (.int (x7 + 1)), none, none, none, none, none] (x_iinc H rfl ki_1 rfl rfl) rfl
 (T2 [some (.ref a0), some (.int x1), some (.int x2), some (.int x3), some (.int x4), some (.int x5), some (.int x6), some (.int (x7 + 1)), none, none, none, none, none] (x_goto H rfl (t := 90) (by decide)) rfl rfl)
theorem nd_128_417 {c : Ct} {dd : Bool} {ρ : Kt} (H : St c dd mt_128 ρ) (h : AH) (a0 : Nat) (x1 : Int32) (x2 : Int32) (x3 : Int32) (x4 : Int32) (x5 : Int32) (x6 : Int32) (x7 : Int32) (s0_ : Int32) (c1_ : Nat) : ρ 417 [some (.ref a0), some (.int x1), some (.int x2), some (.int x3), some (.int x4), some (.int x5), some (.int x6), some (.int x7), none, none, none, none, none] [.int s0_, .ref c1_] h = ρ 456 [some (.ref a0), some (.int x1), some (.int x2), some (.int x3), some (.int x4), some (.int x5), some (.int x6), some (.int x7), none, none, none, none, none] [.int 0, .int s0_, .ref c1_] h :=
 T1 (x_iconst H rfl ki_0) rfl
 (T2 [some (.ref a0), some (.int x1), some (.int x2), some (.int x3), some (.int x4), some (.int x5), some (.int x6), some (.int x7), none, none, none, none, none] (x_goto H rfl (t := 456) (by decide)) rfl rfl)
theorem nd_128_436 {c : Ct} {dd : Bool} {ρ : Kt} (H : St c dd mt_128 ρ) (h : AH) (a0 : Nat) (x1 : Int32) (x2 : Int32) (x3 : Int32) (x4 : Int32) (x5 : Int32) (x6 : Int32) (x7 : Int32) (s0_ : Int32) (c1_ : Nat) : ρ 436 [some (.ref a0), some (.int x1), some (.int x2), some (.int x3), some (.int x4), some (.int x5), some (.int x6), some (.int x7), none, none, none, none, none] [.int s0_, .ref c1_] h = ρ 456 [some (.ref a0), some (.int x1), some (.int x2), some (.int x3), some (.int x4), some (.int x5), some (.int x6), some (.int x7), none, none, none, none, none] [.int 1, .int s0_, .ref c1_] h :=
 T1 (x_iconst H rfl ki_1) rfl
 (T2 [some (.ref a0), some (.int x1), some (.int x2), some (.int x3), some (.int x4), some (.int x5), some (.int x6), some (.int x7), none, none, none, none, none] (x_goto H rfl (t := 456) (by decide)) rfl rfl)
theorem nd_128_456 {c : Ct} {dd : Bool} {ρ : Kt} (H : St c dd mt_128 ρ) (h : AH) (a0 : Nat) (x1 : Int32) (x2 : Int32) (x3 : Int32) (x4 : Int32) (x5 : Int32) (x6 : Int32) (x7 : Int32) (s0_ : Int32) (s1_ : Int32) (c2_ : Nat) : ρ 456 [some (.ref a0), some (.int x1), some (.int x2), some (.int x3), some (.int x4), some (.int x5), some (.int x6), some (.int x7), none, none, none, none, none] [.int s0_, .int s1_, .ref c2_] h = stZ h c2_ s1_ s0_ fun h1 => ρ 460 [some (.ref a0), some (.int x1), some (.int x2), some (.int x3), some (.int x4), some (.int x5), some (.int x6), some (.int x7), none, none, some (.int 0), none, none] [] h1 :=
 (x_bastore H rfl).trans (stZ_c fun h1 =>
 U1 rfl (T1 (x_iconst H rfl ki_0) rfl
 (T2 [some (.ref a0), some (.int x1), some (.int x2), some (.int x3), some (.int x4), some (.int x5), some (.int x6), some (.int x7), none, none, some (.int 0), none, none] (x_istore H rfl rfl) rfl rfl)))
theorem nd_128_173 {c : Ct} {dd : Bool} {ρ : Kt} (H : St c dd mt_128 ρ) (h : AH) (a0 : Nat) (x1 : Int32) (x2 : Int32) (x3 : Int32) (x4 : Int32) (x5 : Int32) (x6 : Int32) (x7 : Int32) (x9 : Int32) (s0_ : Int32) (s1_ : Int32) (s2_ : Int32) (s3_ : Int32) : ρ 173 [some (.ref a0), some (.int x1), some (.int x2), some (.int x3), some (.int x4), some (.int x5), some (.int x6), some (.int x7), none, some (.int x9), none, none, none] [.int s0_, .int s1_, .int s2_, .int s3_] h = (c 115 [.int s3_, .int s2_, .int s1_, .int s0_] h).bind fun q1 => rI q1 fun v3 h2 => gfQ h2 a0 8 7 none fun b4 => ldI h2 b4 x9 fun v5 => gfQ h2 a0 8 7 none fun b6 => ldI h2 b6 v3 fun v7 => isO h2 a0 8 ((c 127 [.ref a0, .int ((6 * v5) + v7), .int x5] h2).bind fun q8 => rI q8 fun v10 h9 => if v10 = 6 then (some (some (.int (-2)), h9)) else (if v10 = x5 then (gfQ h9 a0 8 9 none fun b11 => stI h9 b11 x5 ((6 * v5) + v7) fun h12 => ρ 237 [some (.ref a0), some (.int x1), some (.int x2), some (.int x3), some (.int x4), some (.int (x5 + 1)), some (.int x6), some (.int x7), none, some (.int x9), some (.int v3), none, some (.int v10)] [] h12) else (ρ 237 [some (.ref a0), some (.int x1), some (.int x2), some (.int x3), some (.int x4), some (.int x5), some (.int x6), some (.int x7), none, some (.int x9), some (.int v3), none, some (.int v10)] [] h9))) :=
 (x_statI H rfl [.int s3_, .int s2_, .int s1_, .int s0_] rfl rfl rfl rfl rfl).trans (bi_c fun q1 => rI_c fun v3 h2 =>
 U1 rfl (T2 [some (.ref a0), some (.int x1), some (.int x2), some (.int x3), some (.int x4), some (.int x5), some (.int x6), some (.int x7), none, some (.int x9), some (.int v3), none, none] (x_istore H rfl rfl) rfl
 (T1 (x_bipush H rfl kb_6) rfl
 (T1 (x_aload_n H rfl rfl) rfl
 ((x_getR H rfl).trans (gfQ_c rfl fun b4 =>
 U1 rfl (T1 (x_iload H rfl rfl) rfl
 ((x_iaload H rfl).trans (ldI_c fun v5 =>
 U1 rfl (T1 (x_imul H rfl) rfl
 (T1 (x_aload_n H rfl rfl) rfl
 ((x_getR H rfl).trans (gfQ_c rfl fun b6 =>
 U1 rfl (T1 (x_iload H rfl rfl) rfl
 ((x_iaload H rfl).trans (ldI_c fun v7 =>
 U1 rfl (T1 (x_iadd H rfl) rfl
 (T2 [some (.ref a0), some (.int x1), some (.int x2), some (.int x3), some (.int x4), some (.int x5), some (.int x6), some (.int x7), none, some (.int x9), some (.int v3), some (.int ((6 * v5) + v7)), none] (x_istore H rfl rfl) rfl
 (T1 (x_aload_n H rfl rfl) rfl
 (T1 (x_iload H rfl rfl) rfl
 (T1 (x_iload H rfl rfl) rfl
 ((x_callI (ci := 8) H rfl [.int ((6 * v5) + v7), .int x5] rfl rfl rfl rfl).trans (isO_c (bi_c fun q8 => rI_c fun v10 h9 =>
 U1 rfl (T2 [some (.ref a0), some (.int x1), some (.int x2), some (.int x3), some (.int x4), some (.int x5), some (.int x6), some (.int x7), none, some (.int x9), some (.int v3), some (.int ((6 * v5) + v7)), some (.int v10)] (x_istore H rfl rfl) rfl
 (T1 (x_iload H rfl rfl) rfl
 (T1 (x_bipush H rfl kb_6) rfl
 ((x_icmp_ne H rfl (t := 218) (by decide)).trans (if_c
 (U1 rfl (T1 (x_bipush H rfl kb_m2) rfl
 (x_ireturn H rfl rfl)))
 (U1 rfl (T1 (x_iload H rfl rfl) rfl
 (T1 (x_iload H rfl rfl) rfl
 ((x_icmp_ne H rfl (t := 237) (by decide)).trans (if_c
 (U1 rfl (T1 (x_aload_n H rfl rfl) rfl
 ((x_getR H rfl).trans (gfQ_c rfl fun b11 =>
 U1 rfl (T1 (x_iload H rfl rfl) rfl
 (T1 (x_iload H rfl rfl) rfl
 ((x_iastore H rfl).trans (stI_c fun h12 =>
 U1 rfl (T2 [some (.ref a0), some (.int x1), some (.int x2), some (.int x3), some (.int x4), some (.int (x5 + 1)), some (.int x6), some (.int x7), none, some (.int x9), some (.int v3), none, some (.int v10)] (x_iinc H rfl ki_1 rfl rfl) rfl rfl)))))))))
 (U2 [some (.ref a0), some (.int x1), some (.int x2), some (.int x3), some (.int x4), some (.int x5), some (.int x6), some (.int x7), none, some (.int x9), some (.int v3), none, some (.int v10)] rfl rfl)))))))))))))))))))))))))))))))))))
theorem nd_128_460 {c : Ct} {dd : Bool} {ρ : Kt} (H : St c dd mt_128 ρ) (h : AH) (a0 : Nat) (x1 : Int32) (x2 : Int32) (x3 : Int32) (x4 : Int32) (x5 : Int32) (x6 : Int32) (x7 : Int32) (x10 : Int32) : ρ 460 [some (.ref a0), some (.int x1), some (.int x2), some (.int x3), some (.int x4), some (.int x5), some (.int x6), some (.int x7), none, none, some (.int x10), none, none] [] h = if 9 ≤ x10 then (ρ 336 [some (.ref a0), some (.int x1), some (.int x2), some (.int x3), some (.int x4), some (.int x5), some (.int x6), some (.int (x7 + 1)), none, none, none, none, none] [] h) else (isO h a0 8 ((c 116 [.ref a0, .int x4, .int (x10 - x10 / 3 * 3)] h).bind fun q1 => rI q1 fun v3 h2 => if v3 = 0 then (ρ 544 [some (.ref a0), some (.int x1), some (.int x2), some (.int x3), some (.int x4), some (.int x5), some (.int x6), some (.int x7), none, none, some (.int x10), none, none] [] h2) else (gfQ h2 a0 8 7 none fun b4 => gfQ h2 a0 8 10 none fun b5 => ldI h2 b5 ((9 * x7) + x10) fun v6 => stI h2 b4 (((54 * x6) + (9 * x7)) + x10) v6 fun h7 => gfQ h7 a0 8 8 none fun b8 => gfQ h7 a0 8 11 none fun b9 => ldI h7 b9 ((9 * x7) + x10) fun v10 => stI h7 b8 (((54 * x6) + (9 * x7)) + x10) v10 fun h11 => ρ 544 [some (.ref a0), some (.int x1), some (.int x2), some (.int x3), some (.int x4), some (.int x5), some (.int x6), some (.int x7), none, none, some (.int x10), none, none] [] h11))) :=
 T1 (x_iload H rfl rfl) rfl
 (T1 (x_bipush H rfl kb_9) rfl
 ((x_icmp_ge H rfl (t := 550) (by decide)).trans (if_c
 (U1 rfl (T2 [some (.ref a0), some (.int x1), some (.int x2), some (.int x3), some (.int x4), some (.int x5), some (.int x6), some (.int (x7 + 1)), none, none, some (.int x10), none, none] (x_iinc H rfl ki_1 rfl rfl) rfl
 (T2 [some (.ref a0), some (.int x1), some (.int x2), some (.int x3), some (.int x4), some (.int x5), some (.int x6), some (.int (x7 + 1)), none, none, none, none, none] (x_goto H rfl (t := 336) (by decide)) rfl rfl)))
 (U1 rfl (T1 (x_aload_n H rfl rfl) rfl
 (T1 (x_iload H rfl rfl) rfl
 (T1 (x_iload H rfl rfl) rfl
 (T1 (x_iconst H rfl ki_3) rfl
 (T1 (x_irem H rfl (by decide)) rfl
 ((x_callZ (ci := 8) H rfl [.int x4, .int (x10 - x10 / 3 * 3)] rfl rfl rfl rfl).trans (isO_c (bi_c fun q1 => rI_c fun v3 h2 =>
 U1 rfl ((x_if_eq H rfl (t := 544) (by decide)).trans (if_c
 (U2 [some (.ref a0), some (.int x1), some (.int x2), some (.int x3), some (.int x4), some (.int x5), some (.int x6), some (.int x7), none, none, some (.int x10), none, none] rfl rfl)
 (U1 rfl (T1 (x_aload_n H rfl rfl) rfl
 ((x_getR H rfl).trans (gfQ_c rfl fun b4 =>
 U1 rfl (T1 (x_bipush H rfl kb_54) rfl
 (T1 (x_iload H rfl rfl) rfl
 (T1 (x_imul H rfl) rfl
 (T1 (x_bipush H rfl kb_9) rfl
 (T1 (x_iload H rfl rfl) rfl
 (T1 (x_imul H rfl) rfl
 (T1 (x_iadd H rfl) rfl
 (T1 (x_iload H rfl rfl) rfl
 (T1 (x_iadd H rfl) rfl
 (T1 (x_aload_n H rfl rfl) rfl
 ((x_getR H rfl).trans (gfQ_c rfl fun b5 =>
 U1 rfl (T1 (x_bipush H rfl kb_9) rfl
 (T1 (x_iload H rfl rfl) rfl
 (T1 (x_imul H rfl) rfl
 (T1 (x_iload H rfl rfl) rfl
 (T1 (x_iadd H rfl) rfl
 ((x_iaload H rfl).trans (ldI_c fun v6 =>
 U1 rfl ((x_iastore H rfl).trans (stI_c fun h7 =>
 U1 rfl (T1 (x_aload_n H rfl rfl) rfl
 ((x_getR H rfl).trans (gfQ_c rfl fun b8 =>
 U1 rfl (T1 (x_bipush H rfl kb_54) rfl
 (T1 (x_iload H rfl rfl) rfl
 (T1 (x_imul H rfl) rfl
 (T1 (x_bipush H rfl kb_9) rfl
 (T1 (x_iload H rfl rfl) rfl
 (T1 (x_imul H rfl) rfl
 (T1 (x_iadd H rfl) rfl
 (T1 (x_iload H rfl rfl) rfl
 (T1 (x_iadd H rfl) rfl
 (T1 (x_aload_n H rfl rfl) rfl
 ((x_getR H rfl).trans (gfQ_c rfl fun b9 =>
 U1 rfl (T1 (x_bipush H rfl kb_9) rfl
 (T1 (x_iload H rfl rfl) rfl
 (T1 (x_imul H rfl) rfl
 (T1 (x_iload H rfl rfl) rfl
 (T1 (x_iadd H rfl) rfl
 ((x_iaload H rfl).trans (ldI_c fun v10 =>
 U1 rfl ((x_iastore H rfl).trans (stI_c fun h11 =>
 U2 [some (.ref a0), some (.int x1), some (.int x2), some (.int x3), some (.int x4), some (.int x5), some (.int x6), some (.int x7), none, none, some (.int x10), none, none] rfl rfl)))))))))))))))))))))))))))))))))))))))))))))))))))))))))))))))
theorem nd_128_237 {c : Ct} {dd : Bool} {ρ : Kt} (H : St c dd mt_128 ρ) (h : AH) (a0 : Nat) (x1 : Int32) (x2 : Int32) (x3 : Int32) (x4 : Int32) (x5 : Int32) (x6 : Int32) (x7 : Int32) (x9 : Int32) (x10 : Int32) (x12 : Int32) : ρ 237 [some (.ref a0), some (.int x1), some (.int x2), some (.int x3), some (.int x4), some (.int x5), some (.int x6), some (.int x7), none, some (.int x9), some (.int x10), none, some (.int x12)] [] h = gfQ h a0 8 10 none fun b1 => stI h b1 ((9 * x6) + x7) x12 fun h2 => gfQ h2 a0 8 11 none fun b3 => if x4 = x1 then (gfQ h2 a0 8 8 none fun b6 => ldI h2 b6 x9 fun v7 => ρ 287 [some (.ref a0), some (.int x1), some (.int x2), some (.int x3), some (.int x4), some (.int x5), some (.int x6), some (.int x7), none, none, none, none, none] [.int v7, .int ((9 * x6) + x7), .ref b3] h2) else (gfQ h2 a0 8 8 none fun b4 => ldI h2 b4 x10 fun v5 => ρ 287 [some (.ref a0), some (.int x1), some (.int x2), some (.int x3), some (.int x4), some (.int x5), some (.int x6), some (.int x7), none, none, none, none, none] [.int v5, .int ((9 * x6) + x7), .ref b3] h2) :=
 T1 (x_aload_n H rfl rfl) rfl
 ((x_getR H rfl).trans (gfQ_c rfl fun b1 =>
 U1 rfl (T1 (x_bipush H rfl kb_9) rfl
 (T1 (x_iload H rfl rfl) rfl
 (T1 (x_imul H rfl) rfl
 (T1 (x_iload H rfl rfl) rfl
 (T1 (x_iadd H rfl) rfl
 (T1 (x_iload H rfl rfl) rfl
 ((x_iastore H rfl).trans (stI_c fun h2 =>
 U1 rfl (T1 (x_aload_n H rfl rfl) rfl
 ((x_getR H rfl).trans (gfQ_c rfl fun b3 =>
 U1 rfl (T1 (x_bipush H rfl kb_9) rfl
 (T1 (x_iload H rfl rfl) rfl
 (T1 (x_imul H rfl) rfl
 (T1 (x_iload H rfl rfl) rfl
 (T1 (x_iadd H rfl) rfl
 (T1 (x_iload H rfl rfl) rfl
 (T1 (x_iload_n H rfl rfl) rfl
 ((x_icmp_ne H rfl (t := 280) (by decide)).trans (if_c
 (U1 rfl (T1 (x_aload_n H rfl rfl) rfl
 ((x_getR H rfl).trans (gfQ_c rfl fun b6 =>
 U1 rfl (T1 (x_iload H rfl rfl) rfl
 ((x_iaload H rfl).trans (ldI_c fun v7 =>
 U1 rfl (T2 [some (.ref a0), some (.int x1), some (.int x2), some (.int x3), some (.int x4), some (.int x5), some (.int x6), some (.int x7), none, none, none, none, none] (x_goto H rfl (t := 287) (by decide)) rfl rfl))))))))
 (U1 rfl (T1 (x_aload_n H rfl rfl) rfl
 ((x_getR H rfl).trans (gfQ_c rfl fun b4 =>
 U1 rfl (T1 (x_iload H rfl rfl) rfl
 ((x_iaload H rfl).trans (ldI_c fun v5 =>
 U2 [some (.ref a0), some (.int x1), some (.int x2), some (.int x3), some (.int x4), some (.int x5), some (.int x6), some (.int x7), none, none, none, none, none] rfl rfl)))))))))))))))))))))))))))))
theorem nd_128_544 {c : Ct} {dd : Bool} {ρ : Kt} (H : St c dd mt_128 ρ) (h : AH) (a0 : Nat) (x1 : Int32) (x2 : Int32) (x3 : Int32) (x4 : Int32) (x5 : Int32) (x6 : Int32) (x7 : Int32) (x10 : Int32) : ρ 544 [some (.ref a0), some (.int x1), some (.int x2), some (.int x3), some (.int x4), some (.int x5), some (.int x6), some (.int x7), none, none, some (.int x10), none, none] [] h = ρ 460 [some (.ref a0), some (.int x1), some (.int x2), some (.int x3), some (.int x4), some (.int x5), some (.int x6), some (.int x7), none, none, some (.int (x10 + 1)), none, none] [] h :=
 T2 [some (.ref a0), some (.int x1), some (.int x2), some (.int x3), some (.int x4), some (.int x5), some (.int x6), some (.int x7), none, none, some (.int (x10 + 1)), none, none] (x_iinc H rfl ki_1 rfl rfl) rfl
 (T2 [some (.ref a0), some (.int x1), some (.int x2), some (.int x3), some (.int x4), some (.int x5), some (.int x6), some (.int x7), none, none, some (.int (x10 + 1)), none, none] (x_goto H rfl (t := 460) (by decide)) rfl rfl)
theorem nd_128_287 {c : Ct} {dd : Bool} {ρ : Kt} (H : St c dd mt_128 ρ) (h : AH) (a0 : Nat) (x1 : Int32) (x2 : Int32) (x3 : Int32) (x4 : Int32) (x5 : Int32) (x6 : Int32) (x7 : Int32) (s0_ : Int32) (s1_ : Int32) (c2_ : Nat) : ρ 287 [some (.ref a0), some (.int x1), some (.int x2), some (.int x3), some (.int x4), some (.int x5), some (.int x6), some (.int x7), none, none, none, none, none] [.int s0_, .int s1_, .ref c2_] h = stI h c2_ s1_ s0_ fun h1 => ρ 288 [some (.ref a0), some (.int x1), some (.int x2), some (.int x3), some (.int x4), some (.int x5), some (.int x6), some (.int x7), none, none, none, none, none] [] h1 :=
 (x_iastore H rfl).trans (stI_c fun h1 =>
 U2 [some (.ref a0), some (.int x1), some (.int x2), some (.int x3), some (.int x4), some (.int x5), some (.int x6), some (.int x7), none, none, none, none, none] rfl rfl)
-- X8_starts ()V: 129
theorem nd_129_0 {c : Ct} {dd : Bool} {ρ : Kt} (H : St c dd mt_129 ρ) (h : AH) (a0 : Nat) : ρ 0 [some (.ref a0), none] [] h = pfV h a0 8 12 (.int 0) fun h1 => pfV h1 a0 8 16 (.int (-4)) fun h2 => ρ 13 [some (.ref a0), some (.int 0)] [] h2 :=
 T1 (x_aload_n H rfl rfl) rfl
 (T1 (x_iconst H rfl ki_0) rfl
 ((x_putI H rfl).trans (pfV_c fun h1 =>
 U1 rfl (T1 (x_aload_n H rfl rfl) rfl
 (T1 (x_bipush H rfl kb_m4) rfl
 ((x_putI H rfl).trans (pfV_c fun h2 =>
 U1 rfl (T1 (x_iconst H rfl ki_0) rfl
 (T2 [some (.ref a0), some (.int 0)] (x_istore_n H rfl rfl) rfl rfl)))))))))
theorem nd_129_13 {c : Ct} {dd : Bool} {ρ : Kt} (H : St c dd mt_129 ρ) (h : AH) (a0 : Nat) (x1 : Int32) : ρ 13 [some (.ref a0), some (.int x1)] [] h = if 2 ≤ x1 then (some (none, h)) else (gfQ h a0 8 13 none fun b1 => stZ h b1 x1 0 fun h2 => gfQ h2 a0 8 15 none fun b3 => stI h2 b3 x1 (-4) fun h4 => ρ 13 [some (.ref a0), some (.int (x1 + 1))] [] h4) :=
 T1 (x_iload_n H rfl rfl) rfl
 (T1 (x_iconst H rfl ki_2) rfl
 ((x_icmp_ge H rfl (t := 39) (by decide)).trans (if_c
 (U1 rfl (x_return H rfl rfl))
 (U1 rfl (T1 (x_aload_n H rfl rfl) rfl
 ((x_getR H rfl).trans (gfQ_c rfl fun b1 =>
 U1 rfl (T1 (x_iload_n H rfl rfl) rfl
 (T1 (x_iconst H rfl ki_0) rfl
 ((x_bastore H rfl).trans (stZ_c fun h2 =>
 U1 rfl (T1 (x_aload_n H rfl rfl) rfl
 ((x_getR H rfl).trans (gfQ_c rfl fun b3 =>
 U1 rfl (T1 (x_iload_n H rfl rfl) rfl
 (T1 (x_bipush H rfl kb_m4) rfl
 ((x_iastore H rfl).trans (stI_c fun h4 =>
 U1 rfl (T2 [some (.ref a0), some (.int (x1 + 1))] (x_iinc H rfl ki_1 rfl rfl) rfl
 (T2 [some (.ref a0), some (.int (x1 + 1))] (x_goto H rfl (t := 13) (by decide)) rfl rfl))))))))))))))))))))
-- X8_goes (IIII)V: 130
theorem nd_130_0 {c : Ct} {dd : Bool} {ρ : Kt} (H : St c dd mt_130 ρ) (h : AH) (a0 : Nat) (x1 : Int32) (x2 : Int32) (x3 : Int32) (x4 : Int32) : ρ 0 [some (.ref a0), some (.int x1), some (.int x2), some (.int x3), some (.int x4), none] [] h = gfQ h a0 8 13 none fun b1 => ldZ h b1 0 fun v2 => if v2 = 0 then (ρ 24 [some (.ref a0), some (.int x1), some (.int x2), some (.int x3), some (.int x4), none] [.ref a0] h) else (gfQ h a0 8 14 none fun b3 => ldI h b3 0 fun v4 => if v4 = x3 then (ρ 48 [some (.ref a0), some (.int x1), some (.int x2), some (.int x3), some (.int x4), none] [.int 0, .ref a0] h) else (ρ 24 [some (.ref a0), some (.int x1), some (.int x2), some (.int x3), some (.int x4), none] [.ref a0] h)) :=
 T1 (x_aload_n H rfl rfl) rfl
 (T1 (x_aload_n H rfl rfl) rfl
 ((x_getR H rfl).trans (gfQ_c rfl fun b1 =>
 U1 rfl (T1 (x_iconst H rfl ki_0) rfl
 ((x_baload H rfl).trans (ldZ_c fun v2 =>
 U1 rfl ((x_if_eq H rfl (t := 24) (by decide)).trans (if_c
 (U2 [some (.ref a0), some (.int x1), some (.int x2), some (.int x3), some (.int x4), none] rfl rfl)
 (U1 rfl (T1 (x_aload_n H rfl rfl) rfl
 ((x_getR H rfl).trans (gfQ_c rfl fun b3 =>
 U1 rfl (T1 (x_iconst H rfl ki_0) rfl
 ((x_iaload H rfl).trans (ldI_c fun v4 =>
 U1 rfl (T1 (x_iload_n H rfl rfl) rfl
 ((x_icmp_ne H rfl (t := 24) (by decide)).trans (if_c
 (U1 rfl (T1 (x_iconst H rfl ki_0) rfl
 (T2 [some (.ref a0), some (.int x1), some (.int x2), some (.int x3), some (.int x4), none] (x_goto H rfl (t := 48) (by decide)) rfl rfl)))
 (U2 [some (.ref a0), some (.int x1), some (.int x2), some (.int x3), some (.int x4), none] rfl rfl)))))))))))))))))))
theorem nd_130_24 {c : Ct} {dd : Bool} {ρ : Kt} (H : St c dd mt_130 ρ) (h : AH) (a0 : Nat) (x1 : Int32) (x2 : Int32) (x3 : Int32) (x4 : Int32) (c0_ : Nat) : ρ 24 [some (.ref a0), some (.int x1), some (.int x2), some (.int x3), some (.int x4), none] [.ref c0_] h = gfQ h a0 8 13 none fun b1 => ldZ h b1 1 fun v2 => if v2 = 0 then (ρ 47 [some (.ref a0), some (.int x1), some (.int x2), some (.int x3), some (.int x4), none] [.ref c0_] h) else (gfQ h a0 8 14 none fun b3 => ldI h b3 1 fun v4 => if v4 = x3 then (ρ 48 [some (.ref a0), some (.int x1), some (.int x2), some (.int x3), some (.int x4), none] [.int 1, .ref c0_] h) else (ρ 47 [some (.ref a0), some (.int x1), some (.int x2), some (.int x3), some (.int x4), none] [.ref c0_] h)) :=
 T1 (x_aload_n H rfl rfl) rfl
 ((x_getR H rfl).trans (gfQ_c rfl fun b1 =>
 U1 rfl (T1 (x_iconst H rfl ki_1) rfl
 ((x_baload H rfl).trans (ldZ_c fun v2 =>
 U1 rfl ((x_if_eq H rfl (t := 47) (by decide)).trans (if_c
 (U2 [some (.ref a0), some (.int x1), some (.int x2), some (.int x3), some (.int x4), none] rfl rfl)
 (U1 rfl (T1 (x_aload_n H rfl rfl) rfl
 ((x_getR H rfl).trans (gfQ_c rfl fun b3 =>
 U1 rfl (T1 (x_iconst H rfl ki_1) rfl
 ((x_iaload H rfl).trans (ldI_c fun v4 =>
 U1 rfl (T1 (x_iload_n H rfl rfl) rfl
 ((x_icmp_ne H rfl (t := 47) (by decide)).trans (if_c
 (U1 rfl (T1 (x_iconst H rfl ki_1) rfl
 (T2 [some (.ref a0), some (.int x1), some (.int x2), some (.int x3), some (.int x4), none] (x_goto H rfl (t := 48) (by decide)) rfl rfl)))
 (U2 [some (.ref a0), some (.int x1), some (.int x2), some (.int x3), some (.int x4), none] rfl rfl))))))))))))))))))
theorem nd_130_48 {c : Ct} {dd : Bool} {ρ : Kt} (H : St c dd mt_130 ρ) (h : AH) (a0 : Nat) (x1 : Int32) (x2 : Int32) (x3 : Int32) (x4 : Int32) (s0_ : Int32) (c1_ : Nat) : ρ 48 [some (.ref a0), some (.int x1), some (.int x2), some (.int x3), some (.int x4), none] [.int s0_, .ref c1_] h = pfV h c1_ 8 16 (.int s0_) fun h1 => gfI h1 a0 8 12 fun v2 => gfI h1 a0 8 16 fun v3 => (c 115 [.int x1, .int v2, .int x2, .int v3] h1).bind fun q4 => rI q4 fun v6 h5 => gfQ h5 a0 8 7 none fun b7 => ldI h5 b7 v6 fun v8 => pfV h5 a0 8 12 (.int v8) fun h9 => gfQ h9 a0 8 8 none fun b10 => ldI h9 b10 v6 fun v11 => if v11 = (-4) then (ρ 129 [none, none, none, none, none, none] [] h9) else (gfQ h9 a0 8 13 none fun b12 => gfQ h9 a0 8 8 none fun b13 => ldI h9 b13 v6 fun v14 => stZ h9 b12 v14 1 fun h15 => gfQ h15 a0 8 14 none fun b16 => gfQ h15 a0 8 8 none fun b17 => ldI h15 b17 v6 fun v18 => stI h15 b16 v18 x3 fun h19 => gfQ h19 a0 8 15 none fun b20 => gfQ h19 a0 8 8 none fun b21 => ldI h19 b21 v6 fun v22 => stI h19 b20 v22 x4 fun h23 => ρ 129 [none, none, none, none, none, none] [] h23) :=
 (x_putI H rfl).trans (pfV_c fun h1 =>
 U1 rfl (T1 (x_iload_n H rfl rfl) rfl
 (T1 (x_aload_n H rfl rfl) rfl
 ((x_getI H rfl).trans (gfI_c fun v2 =>
 U1 rfl (T1 (x_iload_n H rfl rfl) rfl
 (T1 (x_aload_n H rfl rfl) rfl
 ((x_getI H rfl).trans (gfI_c fun v3 =>
 U1 rfl ((x_statI H rfl [.int x1, .int v2, .int x2, .int v3] rfl rfl rfl rfl rfl).trans (bi_c fun q4 => rI_c fun v6 h5 =>
 U1 rfl (T2 [some (.ref a0), some (.int x1), some (.int x2), some (.int x3), some (.int x4), some (.int v6)] (x_istore H rfl rfl) rfl
 (T1 (x_aload_n H rfl rfl) rfl
 (T1 (x_aload_n H rfl rfl) rfl
 ((x_getR H rfl).trans (gfQ_c rfl fun b7 =>
 U1 rfl (T1 (x_iload H rfl rfl) rfl
 ((x_iaload H rfl).trans (ldI_c fun v8 =>
 U1 rfl ((x_putI H rfl).trans (pfV_c fun h9 =>
 U1 rfl (T1 (x_aload_n H rfl rfl) rfl
 ((x_getR H rfl).trans (gfQ_c rfl fun b10 =>
 U1 rfl (T1 (x_iload H rfl rfl) rfl
 ((x_iaload H rfl).trans (ldI_c fun v11 =>
 U1 rfl (T1 (x_bipush H rfl kb_m4) rfl
 ((x_icmp_eq H rfl (t := 129) (by decide)).trans (if_c
 (U2 [none, none, none, none, none, none] rfl rfl)
 (U1 rfl (T1 (x_aload_n H rfl rfl) rfl
 ((x_getR H rfl).trans (gfQ_c rfl fun b12 =>
 U1 rfl (T1 (x_aload_n H rfl rfl) rfl
 ((x_getR H rfl).trans (gfQ_c rfl fun b13 =>
 U1 rfl (T1 (x_iload H rfl rfl) rfl
 ((x_iaload H rfl).trans (ldI_c fun v14 =>
 U1 rfl (T1 (x_iconst H rfl ki_1) rfl
 ((x_bastore H rfl).trans (stZ_c fun h15 =>
 U1 rfl (T1 (x_aload_n H rfl rfl) rfl
 ((x_getR H rfl).trans (gfQ_c rfl fun b16 =>
 U1 rfl (T1 (x_aload_n H rfl rfl) rfl
 ((x_getR H rfl).trans (gfQ_c rfl fun b17 =>
 U1 rfl (T1 (x_iload H rfl rfl) rfl
 ((x_iaload H rfl).trans (ldI_c fun v18 =>
 U1 rfl (T1 (x_iload_n H rfl rfl) rfl
 ((x_iastore H rfl).trans (stI_c fun h19 =>
 U1 rfl (T1 (x_aload_n H rfl rfl) rfl
 ((x_getR H rfl).trans (gfQ_c rfl fun b20 =>
 U1 rfl (T1 (x_aload_n H rfl rfl) rfl
 ((x_getR H rfl).trans (gfQ_c rfl fun b21 =>
 U1 rfl (T1 (x_iload H rfl rfl) rfl
 ((x_iaload H rfl).trans (ldI_c fun v22 =>
 U1 rfl (T1 (x_iload H rfl rfl) rfl
 ((x_iastore H rfl).trans (stI_c fun h23 =>
 U2 [none, none, none, none, none, none] rfl rfl)))))))))))))))))))))))))))))))))))))))))))))))))))))))))))))))))))
theorem nd_130_47 {c : Ct} {dd : Bool} {ρ : Kt} (H : St c dd mt_130 ρ) (h : AH) (a0 : Nat) (x1 : Int32) (x2 : Int32) (x3 : Int32) (x4 : Int32) (c0_ : Nat) : ρ 47 [some (.ref a0), some (.int x1), some (.int x2), some (.int x3), some (.int x4), none] [.ref c0_] h = ρ 48 [some (.ref a0), some (.int x1), some (.int x2), some (.int x3), some (.int x4), none] [.int 2, .ref c0_] h :=
 T2 [some (.ref a0), some (.int x1), some (.int x2), some (.int x3), some (.int x4), none] (x_iconst H rfl ki_2) rfl rfl
theorem nd_130_129 {c : Ct} {dd : Bool} {ρ : Kt} (H : St c dd mt_130 ρ) (h : AH)  : ρ 129 [none, none, none, none, none, none] [] h = some (none, h) :=
 x_return H rfl rfl
-- X8_runs (II)V: 131
theorem nd_131_0 {c : Ct} {dd : Bool} {ρ : Kt} (H : St c dd mt_131 ρ) (h : AH) (a0 : Nat) (x1 : Int32) (x2 : Int32) : ρ 0 [some (.ref a0), some (.int x1), some (.int x2), none] [] h = isO h a0 8 ((c 129 [.ref a0] h).bind fun q1 => rV q1 fun h2 => ρ 6 [some (.ref a0), some (.int x1), some (.int x2), some (.int 0)] [] h2) :=
 T1 (x_aload_n H rfl rfl) rfl
 ((x_callV (ci := 8) H rfl [] rfl rfl rfl rfl).trans (isO_c (bi_c fun q1 => rV_c fun h2 =>
 U1 rfl (T1 (x_iconst H rfl ki_0) rfl
 (T2 [some (.ref a0), some (.int x1), some (.int x2), some (.int 0)] (x_istore_n H rfl rfl) rfl rfl)))))
theorem nd_131_6 {c : Ct} {dd : Bool} {ρ : Kt} (H : St c dd mt_131 ρ) (h : AH) (a0 : Nat) (x1 : Int32) (x2 : Int32) (x3 : Int32) : ρ 6 [some (.ref a0), some (.int x1), some (.int x2), some (.int x3)] [] h = if x2 ≤ x3 then (some (none, h)) else (gfQ h a0 8 1 none fun b1 => ldI h b1 x3 fun v2 => gfQ h a0 8 2 none fun b3 => ldI h b3 x3 fun v4 => isO h a0 8 ((c 130 [.ref a0, .int x1, .int v2, .int v4, .int x3] h).bind fun q5 => rV q5 fun h6 => ρ 6 [some (.ref a0), some (.int x1), some (.int x2), some (.int (x3 + 1))] [] h6)) :=
 T1 (x_iload_n H rfl rfl) rfl
 (T1 (x_iload_n H rfl rfl) rfl
 ((x_icmp_ge H rfl (t := 35) (by decide)).trans (if_c
 (U1 rfl (x_return H rfl rfl))
 (U1 rfl (T1 (x_aload_n H rfl rfl) rfl
 (T1 (x_iload_n H rfl rfl) rfl
 (T1 (x_aload_n H rfl rfl) rfl
 ((x_getR H rfl).trans (gfQ_c rfl fun b1 =>
 U1 rfl (T1 (x_iload_n H rfl rfl) rfl
 ((x_iaload H rfl).trans (ldI_c fun v2 =>
 U1 rfl (T1 (x_aload_n H rfl rfl) rfl
 ((x_getR H rfl).trans (gfQ_c rfl fun b3 =>
 U1 rfl (T1 (x_iload_n H rfl rfl) rfl
 ((x_iaload H rfl).trans (ldI_c fun v4 =>
 U1 rfl (T1 (x_iload_n H rfl rfl) rfl
 ((x_callV (ci := 8) H rfl [.int x1, .int v2, .int v4, .int x3] rfl rfl rfl rfl).trans (isO_c (bi_c fun q5 => rV_c fun h6 =>
 U1 rfl (T2 [some (.ref a0), some (.int x1), some (.int x2), some (.int (x3 + 1))] (x_iinc H rfl ki_1 rfl rfl) rfl
 (T2 [some (.ref a0), some (.int x1), some (.int x2), some (.int (x3 + 1))] (x_goto H rfl (t := 6) (by decide)) rfl rfl))))))))))))))))))))))))
-- X8_takes (II)I: 132
theorem nd_132_0 {c : Ct} {dd : Bool} {ρ : Kt} (H : St c dd mt_132 ρ) (h : AH) (a0 : Nat) (x1 : Int32) (x2 : Int32) : ρ 0 [some (.ref a0), some (.int x1), some (.int x2)] [] h = isO h a0 8 ((c 113 [.ref a0, .int x1] h).bind fun q1 => rI q1 fun v3 h2 => if v3 = 0 then (ρ 22 [none, none, none] [] h2) else (gfI h2 a0 8 0 fun v4 => (c 107 [.long (x2).toInt64, .long 0, .long (v4).toInt64] h2).bind fun q5 => rI q5 fun v7 h6 => if v7 = 0 then (ρ 22 [none, none, none] [] h6) else (isO h6 a0 8 ((c 131 [.ref a0, .int x1, .int x2] h6).bind fun q8 => rV q8 fun h9 => gfQ h9 a0 8 6 none fun b10 => gfI h9 a0 8 12 fun v11 => ldZ h9 b10 ((6 * x1) + v11) fun v12 => if v12 = 0 then (ρ 52 [none, none, none] [.int 0] h9) else (ρ 52 [none, none, none] [.int 1] h9))))) :=
 T1 (x_aload_n H rfl rfl) rfl
 (T1 (x_iload_n H rfl rfl) rfl
 ((x_callZ (ci := 8) H rfl [.int x1] rfl rfl rfl rfl).trans (isO_c (bi_c fun q1 => rI_c fun v3 h2 =>
 U1 rfl ((x_if_eq H rfl (t := 22) (by decide)).trans (if_c
 (U2 [none, none, none] rfl rfl)
 (U1 rfl (T1 (x_iload_n H rfl rfl) rfl
 (T1 (x_i2l H rfl) rfl
 (T1 (x_lconst H rfl kl_0) rfl
 (T1 (x_aload_n H rfl rfl) rfl
 ((x_getI H rfl).trans (gfI_c fun v4 =>
 U1 rfl (T1 (x_i2l H rfl) rfl
 ((x_statZ H rfl [.long (x2).toInt64, .long 0, .long (v4).toInt64] rfl rfl rfl rfl rfl).trans (bi_c fun q5 => rI_c fun v7 h6 =>
 U1 rfl ((x_if_ne H rfl (t := 24) (by decide)).trans (if_c
 (U2 [none, none, none] rfl rfl)
 (U1 rfl (T1 (x_aload_n H rfl rfl) rfl
 (T1 (x_iload_n H rfl rfl) rfl
 (T1 (x_iload_n H rfl rfl) rfl
 ((x_callV (ci := 8) H rfl [.int x1, .int x2] rfl rfl rfl rfl).trans (isO_c (bi_c fun q8 => rV_c fun h9 =>
 U1 rfl (T1 (x_aload_n H rfl rfl) rfl
 ((x_getR H rfl).trans (gfQ_c rfl fun b10 =>
 U1 rfl (T1 (x_bipush H rfl kb_6) rfl
 (T1 (x_iload_n H rfl rfl) rfl
 (T1 (x_imul H rfl) rfl
 (T1 (x_aload_n H rfl rfl) rfl
 ((x_getI H rfl).trans (gfI_c fun v11 =>
 U1 rfl (T1 (x_iadd H rfl) rfl
 ((x_baload H rfl).trans (ldZ_c fun v12 =>
 U1 rfl ((x_if_eq H rfl (t := 51) (by decide)).trans (if_c
 (U1 rfl (T2 [none, none, none] (x_iconst H rfl ki_0) rfl rfl))
 (U1 rfl (T1 (x_iconst H rfl ki_1) rfl
 (T2 [none, none, none] (x_goto H rfl (t := 52) (by decide)) rfl rfl))))))))))))))))))))))))))))))))))))))))))
theorem nd_132_22 {c : Ct} {dd : Bool} {ρ : Kt} (H : St c dd mt_132 ρ) (h : AH)  : ρ 22 [none, none, none] [] h = some (some (.int (-1)), h) :=
 T1 (x_iconst H rfl ki_m1) rfl
 (x_ireturn H rfl rfl)
theorem nd_132_52 {c : Ct} {dd : Bool} {ρ : Kt} (H : St c dd mt_132 ρ) (h : AH) (s0_ : Int32) : ρ 52 [none, none, none] [.int s0_] h = some (some (.int s0_), h) :=
 x_ireturn H rfl rfl
-- X8_ran (III)I: 133
theorem nd_133_0 {c : Ct} {dd : Bool} {ρ : Kt} (H : St c dd mt_133 ρ) (h : AH) (a0 : Nat) (x1 : Int32) (x2 : Int32) (x3 : Int32) : ρ 0 [some (.ref a0), some (.int x1), some (.int x2), some (.int x3)] [] h = isO h a0 8 ((c 113 [.ref a0, .int x1] h).bind fun q1 => rI q1 fun v3 h2 => if v3 = 0 then (ρ 34 [none, none, none, none] [] h2) else (gfI h2 a0 8 0 fun v4 => (c 107 [.long (x2).toInt64, .long 0, .long (v4).toInt64] h2).bind fun q5 => rI q5 fun v7 h6 => if v7 = 0 then (ρ 34 [none, none, none, none] [] h6) else ((c 107 [.long (x3).toInt64, .long 0, .long 3] h6).bind fun q8 => rI q8 fun v10 h9 => if v10 = 0 then (ρ 34 [none, none, none, none] [] h9) else (isO h9 a0 8 ((c 131 [.ref a0, .int x1, .int x2] h9).bind fun q11 => rV q11 fun h12 => if x3 = 0 then (gfI h12 a0 8 12 fun v16 => ρ 73 [none, none, none, none] [.int v16] h12) else (if x3 = 3 then (gfI h12 a0 8 16 fun v15 => ρ 73 [none, none, none, none] [.int v15] h12) else (gfQ h12 a0 8 15 none fun b13 => ldI h12 b13 (x3 - 1) fun v14 => ρ 73 [none, none, none, none] [.int v14] h12))))))) :=
 T1 (x_aload_n H rfl rfl) rfl
 (T1 (x_iload_n H rfl rfl) rfl
 ((x_callZ (ci := 8) H rfl [.int x1] rfl rfl rfl rfl).trans (isO_c (bi_c fun q1 => rI_c fun v3 h2 =>
 U1 rfl ((x_if_eq H rfl (t := 34) (by decide)).trans (if_c
 (U2 [none, none, none, none] rfl rfl)
 (U1 rfl (T1 (x_iload_n H rfl rfl) rfl
 (T1 (x_i2l H rfl) rfl
 (T1 (x_lconst H rfl kl_0) rfl
 (T1 (x_aload_n H rfl rfl) rfl
 ((x_getI H rfl).trans (gfI_c fun v4 =>
 U1 rfl (T1 (x_i2l H rfl) rfl
 ((x_statZ H rfl [.long (x2).toInt64, .long 0, .long (v4).toInt64] rfl rfl rfl rfl rfl).trans (bi_c fun q5 => rI_c fun v7 h6 =>
 U1 rfl ((x_if_eq H rfl (t := 34) (by decide)).trans (if_c
 (U2 [none, none, none, none] rfl rfl)
 (U1 rfl (T1 (x_iload_n H rfl rfl) rfl
 (T1 (x_i2l H rfl) rfl
 (T1 (x_lconst H rfl kl_0) rfl
 (T1 (x_ldc2 H rfl kl_3) rfl
 ((x_statZ H rfl [.long (x3).toInt64, .long 0, .long 3] rfl rfl rfl rfl rfl).trans (bi_c fun q8 => rI_c fun v10 h9 =>
 U1 rfl ((x_if_ne H rfl (t := 36) (by decide)).trans (if_c
 (U2 [none, none, none, none] rfl rfl)
 (U1 rfl (T1 (x_aload_n H rfl rfl) rfl
 (T1 (x_iload_n H rfl rfl) rfl
 (T1 (x_iload_n H rfl rfl) rfl
 ((x_callV (ci := 8) H rfl [.int x1, .int x2] rfl rfl rfl rfl).trans (isO_c (bi_c fun q11 => rV_c fun h12 =>
 U1 rfl (T1 (x_iload_n H rfl rfl) rfl
 ((x_if_ne H rfl (t := 53) (by decide)).trans (if_c
 (U1 rfl (T1 (x_aload_n H rfl rfl) rfl
 ((x_getI H rfl).trans (gfI_c fun v16 =>
 U1 rfl (T2 [none, none, none, none] (x_goto H rfl (t := 73) (by decide)) rfl rfl)))))
 (U1 rfl (T1 (x_iload_n H rfl rfl) rfl
 (T1 (x_iconst H rfl ki_3) rfl
 ((x_icmp_ne H rfl (t := 65) (by decide)).trans (if_c
 (U1 rfl (T1 (x_aload_n H rfl rfl) rfl
 ((x_getI H rfl).trans (gfI_c fun v15 =>
 U1 rfl (T2 [none, none, none, none] (x_goto H rfl (t := 73) (by decide)) rfl rfl)))))
 (U1 rfl (T1 (x_aload_n H rfl rfl) rfl
 ((x_getR H rfl).trans (gfQ_c rfl fun b13 =>
 U1 rfl (T1 (x_iload_n H rfl rfl) rfl
 (T1 (x_iconst H rfl ki_1) rfl
 (T1 (x_isub H rfl) rfl
 ((x_iaload H rfl).trans (ldI_c fun v14 =>
 U2 [none, none, none, none] rfl rfl)))))))))))))))))))))))))))))))))))))))))))))))))))
theorem nd_133_34 {c : Ct} {dd : Bool} {ρ : Kt} (H : St c dd mt_133 ρ) (h : AH)  : ρ 34 [none, none, none, none] [] h = some (some (.int (-1)), h) :=
 T1 (x_iconst H rfl ki_m1) rfl
 (x_ireturn H rfl rfl)
theorem nd_133_73 {c : Ct} {dd : Bool} {ρ : Kt} (H : St c dd mt_133 ρ) (h : AH) (s0_ : Int32) : ρ 73 [none, none, none, none] [.int s0_] h = some (some (.int s0_), h) :=
 x_ireturn H rfl rfl
-- X8_apart (I)V: 134
theorem nd_134_0 {c : Ct} {dd : Bool} {ρ : Kt} (H : St c dd mt_134 ρ) (h : AH) (a0 : Nat) (x1 : Int32) : ρ 0 [some (.ref a0), some (.int x1), none, none] [] h = ρ 4 [some (.ref a0), none, some (.int x1), some (.int 3)] [] h :=
 T1 (x_iload_n H rfl rfl) rfl
 (T2 [some (.ref a0), some (.int x1), some (.int x1), none] (x_istore_n H rfl rfl) rfl
 (T1 (x_iconst H rfl ki_3) rfl
 (T2 [some (.ref a0), none, some (.int x1), some (.int 3)] (x_istore_n H rfl rfl) rfl rfl)))
theorem nd_134_4 {c : Ct} {dd : Bool} {ρ : Kt} (H : St c dd mt_134 ρ) (h : AH) (a0 : Nat) (x2 : Int32) (x3 : Int32) : ρ 4 [some (.ref a0), none, some (.int x2), some (.int x3)] [] h = if x3 < 0 then (pfV h a0 8 24 (.int (x2 - x2 / 6 * 6)) fun h1 => pfV h1 a0 8 23 (.int (x2 / 6)) fun h2 => some (none, h2)) else (gfQ h a0 8 25 none fun b3 => stI h b3 x3 (x2 - x2 / 5 * 5) fun h4 => ρ 4 [some (.ref a0), none, some (.int (x2 / 5)), some (.int (x3 + (-1)))] [] h4) :=
 T1 (x_iload_n H rfl rfl) rfl
 ((x_if_lt H rfl (t := 27) (by decide)).trans (if_c
 (U1 rfl (T1 (x_aload_n H rfl rfl) rfl
 (T1 (x_iload_n H rfl rfl) rfl
 (T1 (x_bipush H rfl kb_6) rfl
 (T1 (x_irem H rfl (by decide)) rfl
 ((x_putI H rfl).trans (pfV_c fun h1 =>
 U1 rfl (T1 (x_aload_n H rfl rfl) rfl
 (T1 (x_iload_n H rfl rfl) rfl
 (T1 (x_bipush H rfl kb_6) rfl
 (T1 (x_idiv H rfl (by decide)) rfl
 ((x_putI H rfl).trans (pfV_c fun h2 =>
 U1 rfl (x_return H rfl rfl))))))))))))))
 (U1 rfl (T1 (x_aload_n H rfl rfl) rfl
 ((x_getR H rfl).trans (gfQ_c rfl fun b3 =>
 U1 rfl (T1 (x_iload_n H rfl rfl) rfl
 (T1 (x_iload_n H rfl rfl) rfl
 (T1 (x_iconst H rfl ki_5) rfl
 (T1 (x_irem H rfl (by decide)) rfl
 ((x_iastore H rfl).trans (stI_c fun h4 =>
 U1 rfl (T1 (x_iload_n H rfl rfl) rfl
 (T1 (x_iconst H rfl ki_5) rfl
 (T1 (x_idiv H rfl (by decide)) rfl
 (T2 [some (.ref a0), none, some (.int (x2 / 5)), some (.int x3)] (x_istore_n H rfl rfl) rfl
 (T2 [some (.ref a0), none, some (.int (x2 / 5)), some (.int (x3 + (-1)))] (x_iinc H rfl ki_m1 rfl rfl) rfl
 (T2 [some (.ref a0), none, some (.int (x2 / 5)), some (.int (x3 + (-1)))] (x_goto H rfl (t := 4) (by decide)) rfl rfl))))))))))))))))))
-- X8_put ()I: 135
theorem nd_135_0 {c : Ct} {dd : Bool} {ρ : Kt} (H : St c dd mt_135 ρ) (h : AH) (a0 : Nat) : ρ 0 [some (.ref a0), none, none, none, none, none] [] h = gfI h a0 8 23 fun v1 => gfI h a0 8 24 fun v2 => ρ 17 [some (.ref a0), some (.int 1), some (.int ((6 * v1) + v2)), some (.int 0), none, none] [] h :=
 T1 (x_iconst H rfl ki_1) rfl
 (T2 [some (.ref a0), some (.int 1), none, none, none, none] (x_istore_n H rfl rfl) rfl
 (T1 (x_bipush H rfl kb_6) rfl
 (T1 (x_aload_n H rfl rfl) rfl
 ((x_getI H rfl).trans (gfI_c fun v1 =>
 U1 rfl (T1 (x_imul H rfl) rfl
 (T1 (x_aload_n H rfl rfl) rfl
 ((x_getI H rfl).trans (gfI_c fun v2 =>
 U1 rfl (T1 (x_iadd H rfl) rfl
 (T2 [some (.ref a0), some (.int 1), some (.int ((6 * v1) + v2)), none, none, none] (x_istore_n H rfl rfl) rfl
 (T1 (x_iconst H rfl ki_0) rfl
 (T2 [some (.ref a0), some (.int 1), some (.int ((6 * v1) + v2)), some (.int 0), none, none] (x_istore_n H rfl rfl) rfl rfl)))))))))))))
theorem nd_135_17 {c : Ct} {dd : Bool} {ρ : Kt} (H : St c dd mt_135 ρ) (h : AH) (a0 : Nat) (x1 : Int32) (x2 : Int32) (x3 : Int32) : ρ 17 [some (.ref a0), some (.int x1), some (.int x2), some (.int x3), none, none] [] h = if 4 ≤ x3 then (some (some (.int x2), h)) else (gfQ h a0 8 25 none fun b1 => ldI h b1 x3 fun v2 => if v2 ≤ 0 then (ρ 90 [some (.ref a0), some (.int x1), some (.int x2), some (.int x3), some (.int 0), none] [] h) else (ρ 37 [some (.ref a0), some (.int x1), some (.int x2), some (.int x3), some (.int 0), some (.int 0)] [] h)) :=
 T1 (x_iload_n H rfl rfl) rfl
 (T1 (x_iconst H rfl ki_4) rfl
 ((x_icmp_ge H rfl (t := 111) (by decide)).trans (if_c
 (U1 rfl (T1 (x_iload_n H rfl rfl) rfl
 (x_ireturn H rfl rfl)))
 (U1 rfl (T1 (x_iconst H rfl ki_0) rfl
 (T2 [some (.ref a0), some (.int x1), some (.int x2), some (.int x3), some (.int 0), none] (x_istore H rfl rfl) rfl
 (T1 (x_aload_n H rfl rfl) rfl
 ((x_getR H rfl).trans (gfQ_c rfl fun b1 =>
 U1 rfl (T1 (x_iload_n H rfl rfl) rfl
 ((x_iaload H rfl).trans (ldI_c fun v2 =>
 U1 rfl ((x_if_le H rfl (t := 90) (by decide)).trans (if_c
 (U2 [some (.ref a0), some (.int x1), some (.int x2), some (.int x3), some (.int 0), none] rfl rfl)
 (U1 rfl (T1 (x_iconst H rfl ki_0) rfl
 (T2 [some (.ref a0), some (.int x1), some (.int x2), some (.int x3), some (.int 0), some (.int 0)] (x_istore H rfl rfl) rfl rfl)))))))))))))))))
theorem nd_135_37 {c : Ct} {dd : Bool} {ρ : Kt} (H : St c dd mt_135 ρ) (h : AH) (a0 : Nat) (x1 : Int32) (x2 : Int32) (x3 : Int32) (x4 : Int32) (x5 : Int32) : ρ 37 [some (.ref a0), some (.int x1), some (.int x2), some (.int x3), some (.int x4), some (.int x5)] [] h = if x3 ≤ x5 then (if x4 = 0 then (ρ 90 [some (.ref a0), some (.int (x1 + 1)), some (.int x2), some (.int x3), some (.int x1), none] [] h) else (ρ 90 [some (.ref a0), some (.int x1), some (.int x2), some (.int x3), some (.int x4), none] [] h)) else (gfQ h a0 8 25 none fun b1 => ldI h b1 x5 fun v2 => gfQ h a0 8 25 none fun b3 => ldI h b3 x3 fun v4 => if v2 = v4 then (gfQ h a0 8 26 none fun b5 => ldI h b5 x5 fun v6 => ρ 71 [some (.ref a0), some (.int x1), some (.int x2), some (.int x3), none, some (.int x5)] [.int v6] h) else (ρ 71 [some (.ref a0), some (.int x1), some (.int x2), some (.int x3), none, some (.int x5)] [.int x4] h)) :=
 T1 (x_iload H rfl rfl) rfl
 (T1 (x_iload_n H rfl rfl) rfl
 ((x_icmp_ge H rfl (t := 79) (by decide)).trans (if_c
 (U1 rfl (T1 (x_iload H rfl rfl) rfl
 ((x_if_ne H rfl (t := 90) (by decide)).trans (if_c
 (U1 rfl (T1 (x_iload_n H rfl rfl) rfl
 (T2 [some (.ref a0), some (.int x1), some (.int x2), some (.int x3), some (.int x1), some (.int x5)] (x_istore H rfl rfl) rfl
 (T2 [some (.ref a0), some (.int (x1 + 1)), some (.int x2), some (.int x3), some (.int x1), none] (x_iinc H rfl ki_1 rfl rfl) rfl rfl))))
 (U2 [some (.ref a0), some (.int x1), some (.int x2), some (.int x3), some (.int x4), none] rfl rfl)))))
 (U1 rfl (T1 (x_aload_n H rfl rfl) rfl
 ((x_getR H rfl).trans (gfQ_c rfl fun b1 =>
 U1 rfl (T1 (x_iload H rfl rfl) rfl
 ((x_iaload H rfl).trans (ldI_c fun v2 =>
 U1 rfl (T1 (x_aload_n H rfl rfl) rfl
 ((x_getR H rfl).trans (gfQ_c rfl fun b3 =>
 U1 rfl (T1 (x_iload_n H rfl rfl) rfl
 ((x_iaload H rfl).trans (ldI_c fun v4 =>
 U1 rfl ((x_icmp_ne H rfl (t := 69) (by decide)).trans (if_c
 (U1 rfl (T1 (x_aload_n H rfl rfl) rfl
 ((x_getR H rfl).trans (gfQ_c rfl fun b5 =>
 U1 rfl (T1 (x_iload H rfl rfl) rfl
 ((x_iaload H rfl).trans (ldI_c fun v6 =>
 U1 rfl (T2 [some (.ref a0), some (.int x1), some (.int x2), some (.int x3), none, some (.int x5)] (x_goto H rfl (t := 71) (by decide)) rfl rfl))))))))
 (U1 rfl (T2 [some (.ref a0), some (.int x1), some (.int x2), some (.int x3), none, some (.int x5)] (x_iload H rfl rfl) rfl rfl))))))))))))))))))))
theorem nd_135_90 {c : Ct} {dd : Bool} {ρ : Kt} (H : St c dd mt_135 ρ) (h : AH) (a0 : Nat) (x1 : Int32) (x2 : Int32) (x3 : Int32) (x4 : Int32) : ρ 90 [some (.ref a0), some (.int x1), some (.int x2), some (.int x3), some (.int x4), none] [] h = gfQ h a0 8 26 none fun b1 => stI h b1 x3 x4 fun h2 => ρ 17 [some (.ref a0), some (.int x1), some (.int ((5 * x2) + x4)), some (.int (x3 + 1)), none, none] [] h2 :=
 T1 (x_aload_n H rfl rfl) rfl
 ((x_getR H rfl).trans (gfQ_c rfl fun b1 =>
 U1 rfl (T1 (x_iload_n H rfl rfl) rfl
 (T1 (x_iload H rfl rfl) rfl
 ((x_iastore H rfl).trans (stI_c fun h2 =>
 U1 rfl (T1 (x_iconst H rfl ki_5) rfl
 (T1 (x_iload_n H rfl rfl) rfl
 (T1 (x_imul H rfl) rfl
 (T1 (x_iload H rfl rfl) rfl
 (T1 (x_iadd H rfl) rfl
 (T2 [some (.ref a0), some (.int x1), some (.int ((5 * x2) + x4)), some (.int x3), some (.int x4), none] (x_istore_n H rfl rfl) rfl
 (T2 [some (.ref a0), some (.int x1), some (.int ((5 * x2) + x4)), some (.int (x3 + 1)), some (.int x4), none] (x_iinc H rfl ki_1 rfl rfl) rfl
 (T2 [some (.ref a0), some (.int x1), some (.int ((5 * x2) + x4)), some (.int (x3 + 1)), none, none] (x_goto H rfl (t := 17) (by decide)) rfl rfl))))))))))))))
theorem nd_135_71 {c : Ct} {dd : Bool} {ρ : Kt} (H : St c dd mt_135 ρ) (h : AH) (a0 : Nat) (x1 : Int32) (x2 : Int32) (x3 : Int32) (x5 : Int32) (s0_ : Int32) : ρ 71 [some (.ref a0), some (.int x1), some (.int x2), some (.int x3), none, some (.int x5)] [.int s0_] h = ρ 37 [some (.ref a0), some (.int x1), some (.int x2), some (.int x3), some (.int s0_), some (.int (x5 + 1))] [] h :=
 T2 [some (.ref a0), some (.int x1), some (.int x2), some (.int x3), some (.int s0_), some (.int x5)] (x_istore H rfl rfl) rfl
 (T2 [some (.ref a0), some (.int x1), some (.int x2), some (.int x3), some (.int s0_), some (.int (x5 + 1))] (x_iinc H rfl ki_1 rfl rfl) rfl
 (T2 [some (.ref a0), some (.int x1), some (.int x2), some (.int x3), some (.int s0_), some (.int (x5 + 1))] (x_goto H rfl (t := 37) (by decide)) rfl rfl))
-- X8_most ()I: 136
theorem nd_136_0 {c : Ct} {dd : Bool} {ρ : Kt} (H : St c dd mt_136 ρ) (h : AH) (a0 : Nat) : ρ 0 [some (.ref a0), none, none] [] h = ρ 4 [some (.ref a0), some (.int 0), some (.int 0)] [] h :=
 T1 (x_iconst H rfl ki_0) rfl
 (T2 [some (.ref a0), some (.int 0), none] (x_istore_n H rfl rfl) rfl
 (T1 (x_iconst H rfl ki_0) rfl
 (T2 [some (.ref a0), some (.int 0), some (.int 0)] (x_istore_n H rfl rfl) rfl rfl)))
theorem nd_136_4 {c : Ct} {dd : Bool} {ρ : Kt} (H : St c dd mt_136 ρ) (h : AH) (a0 : Nat) (x1 : Int32) (x2 : Int32) : ρ 4 [some (.ref a0), some (.int x1), some (.int x2)] [] h = if 4 ≤ x2 then (some (some (.int x1), h)) else (gfQ h a0 8 25 none fun b1 => ldI h b1 x2 fun v2 => if v2 ≤ x1 then (ρ 29 [some (.ref a0), none, some (.int x2)] [.int x1] h) else (gfQ h a0 8 25 none fun b3 => ldI h b3 x2 fun v4 => ρ 29 [some (.ref a0), none, some (.int x2)] [.int v4] h)) :=
 T1 (x_iload_n H rfl rfl) rfl
 (T1 (x_iconst H rfl ki_4) rfl
 ((x_icmp_ge H rfl (t := 36) (by decide)).trans (if_c
 (U1 rfl (T1 (x_iload_n H rfl rfl) rfl
 (x_ireturn H rfl rfl)))
 (U1 rfl (T1 (x_aload_n H rfl rfl) rfl
 ((x_getR H rfl).trans (gfQ_c rfl fun b1 =>
 U1 rfl (T1 (x_iload_n H rfl rfl) rfl
 ((x_iaload H rfl).trans (ldI_c fun v2 =>
 U1 rfl (T1 (x_iload_n H rfl rfl) rfl
 ((x_icmp_le H rfl (t := 28) (by decide)).trans (if_c
 (U1 rfl (T2 [some (.ref a0), none, some (.int x2)] (x_iload_n H rfl rfl) rfl rfl))
 (U1 rfl (T1 (x_aload_n H rfl rfl) rfl
 ((x_getR H rfl).trans (gfQ_c rfl fun b3 =>
 U1 rfl (T1 (x_iload_n H rfl rfl) rfl
 ((x_iaload H rfl).trans (ldI_c fun v4 =>
 U1 rfl (T2 [some (.ref a0), none, some (.int x2)] (x_goto H rfl (t := 29) (by decide)) rfl rfl)))))))))))))))))))))
theorem nd_136_29 {c : Ct} {dd : Bool} {ρ : Kt} (H : St c dd mt_136 ρ) (h : AH) (a0 : Nat) (x2 : Int32) (s0_ : Int32) : ρ 29 [some (.ref a0), none, some (.int x2)] [.int s0_] h = ρ 4 [some (.ref a0), some (.int s0_), some (.int (x2 + 1))] [] h :=
 T2 [some (.ref a0), some (.int s0_), some (.int x2)] (x_istore_n H rfl rfl) rfl
 (T2 [some (.ref a0), some (.int s0_), some (.int (x2 + 1))] (x_iinc H rfl ki_1 rfl rfl) rfl
 (T2 [some (.ref a0), some (.int s0_), some (.int (x2 + 1))] (x_goto H rfl (t := 4) (by decide)) rfl rfl))
-- X8_goesOn (IIIII)I: 137
theorem nd_137_0 {c : Ct} {dd : Bool} {ρ : Kt} (H : St c dd mt_137 ρ) (h : AH) (a0 : Nat) (x1 : Int32) (x2 : Int32) (x3 : Int32) (x4 : Int32) (x5 : Int32) : ρ 0 [some (.ref a0), some (.int x1), some (.int x2), some (.int x3), some (.int x4), some (.int x5), none, none] [] h = gfQ h a0 8 25 none fun b1 => ldI h b1 x3 fun v2 => if v2 = x5 then (ρ 33 [some (.ref a0), some (.int x1), some (.int x2), some (.int x3), some (.int x4), some (.int x5), none, none] [.int 0] h) else (gfQ h a0 8 25 none fun b3 => ldI h b3 (x3 + 1) fun v4 => if v4 = x5 then (ρ 33 [some (.ref a0), some (.int x1), some (.int x2), some (.int x3), some (.int x4), some (.int x5), none, none] [.int 1] h) else (ρ 33 [some (.ref a0), some (.int x1), some (.int x2), some (.int x3), some (.int x4), some (.int x5), none, none] [.int 2] h)) :=
 T1 (x_aload_n H rfl rfl) rfl
 ((x_getR H rfl).trans (gfQ_c rfl fun b1 =>
 U1 rfl (T1 (x_iload_n H rfl rfl) rfl
 ((x_iaload H rfl).trans (ldI_c fun v2 =>
 U1 rfl (T1 (x_iload H rfl rfl) rfl
 ((x_icmp_ne H rfl (t := 15) (by decide)).trans (if_c
 (U1 rfl (T1 (x_iconst H rfl ki_0) rfl
 (T2 [some (.ref a0), some (.int x1), some (.int x2), some (.int x3), some (.int x4), some (.int x5), none, none] (x_goto H rfl (t := 33) (by decide)) rfl rfl)))
 (U1 rfl (T1 (x_aload_n H rfl rfl) rfl
 ((x_getR H rfl).trans (gfQ_c rfl fun b3 =>
 U1 rfl (T1 (x_iload_n H rfl rfl) rfl
 (T1 (x_iconst H rfl ki_1) rfl
 (T1 (x_iadd H rfl) rfl
 ((x_iaload H rfl).trans (ldI_c fun v4 =>
 U1 rfl (T1 (x_iload H rfl rfl) rfl
 ((x_icmp_ne H rfl (t := 32) (by decide)).trans (if_c
 (U1 rfl (T1 (x_iconst H rfl ki_1) rfl
 (T2 [some (.ref a0), some (.int x1), some (.int x2), some (.int x3), some (.int x4), some (.int x5), none, none] (x_goto H rfl (t := 33) (by decide)) rfl rfl)))
 (U1 rfl (T2 [some (.ref a0), some (.int x1), some (.int x2), some (.int x3), some (.int x4), some (.int x5), none, none] (x_iconst H rfl ki_2) rfl rfl))))))))))))))))))))))
theorem nd_137_33 {c : Ct} {dd : Bool} {ρ : Kt} (H : St c dd mt_137 ρ) (h : AH) (a0 : Nat) (x1 : Int32) (x2 : Int32) (x3 : Int32) (x4 : Int32) (x5 : Int32) (s0_ : Int32) : ρ 33 [some (.ref a0), some (.int x1), some (.int x2), some (.int x3), some (.int x4), some (.int x5), none, none] [.int s0_] h = (c 115 [.int x1, .int x2, .int x4, .int s0_] h).bind fun q1 => rI q1 fun v3 h2 => gfQ h2 a0 8 8 none fun b4 => ldI h2 b4 v3 fun v5 => if v5 = (-4) then (ρ 74 [some (.ref a0), none, none, none, none, none, none, some (.int v3)] [] h2) else (gfQ h2 a0 8 25 none fun b6 => gfQ h2 a0 8 8 none fun b7 => ldI h2 b7 v3 fun v8 => stI h2 b6 (x3 + v8) x5 fun h9 => ρ 74 [some (.ref a0), none, none, none, none, none, none, some (.int v3)] [] h9) :=
 T2 [some (.ref a0), some (.int x1), some (.int x2), some (.int x3), some (.int x4), some (.int x5), some (.int s0_), none] (x_istore H rfl rfl) rfl
 (T1 (x_iload_n H rfl rfl) rfl
 (T1 (x_iload_n H rfl rfl) rfl
 (T1 (x_iload H rfl rfl) rfl
 (T1 (x_iload H rfl rfl) rfl
 ((x_statI H rfl [.int x1, .int x2, .int x4, .int s0_] rfl rfl rfl rfl rfl).trans (bi_c fun q1 => rI_c fun v3 h2 =>
 U1 rfl (T2 [some (.ref a0), some (.int x1), some (.int x2), some (.int x3), some (.int x4), some (.int x5), some (.int s0_), some (.int v3)] (x_istore H rfl rfl) rfl
 (T1 (x_aload_n H rfl rfl) rfl
 ((x_getR H rfl).trans (gfQ_c rfl fun b4 =>
 U1 rfl (T1 (x_iload H rfl rfl) rfl
 ((x_iaload H rfl).trans (ldI_c fun v5 =>
 U1 rfl (T1 (x_bipush H rfl kb_m4) rfl
 ((x_icmp_eq H rfl (t := 74) (by decide)).trans (if_c
 (U2 [some (.ref a0), none, none, none, none, none, none, some (.int v3)] rfl rfl)
 (U1 rfl (T1 (x_aload_n H rfl rfl) rfl
 ((x_getR H rfl).trans (gfQ_c rfl fun b6 =>
 U1 rfl (T1 (x_iload_n H rfl rfl) rfl
 (T1 (x_aload_n H rfl rfl) rfl
 ((x_getR H rfl).trans (gfQ_c rfl fun b7 =>
 U1 rfl (T1 (x_iload H rfl rfl) rfl
 ((x_iaload H rfl).trans (ldI_c fun v8 =>
 U1 rfl (T1 (x_iadd H rfl) rfl
 (T1 (x_iload H rfl rfl) rfl
 ((x_iastore H rfl).trans (stI_c fun h9 =>
 U2 [some (.ref a0), none, none, none, none, none, none, some (.int v3)] rfl rfl)))))))))))))))))))))))))))))))
theorem nd_137_74 {c : Ct} {dd : Bool} {ρ : Kt} (H : St c dd mt_137 ρ) (h : AH) (a0 : Nat) (x7 : Int32) : ρ 74 [some (.ref a0), none, none, none, none, none, none, some (.int x7)] [] h = gfQ h a0 8 7 none fun b1 => ldI h b1 x7 fun v2 => some (some (.int v2), h) :=
 T1 (x_aload_n H rfl rfl) rfl
 ((x_getR H rfl).trans (gfQ_c rfl fun b1 =>
 U1 rfl (T1 (x_iload H rfl rfl) rfl
 ((x_iaload H rfl).trans (ldI_c fun v2 =>
 U1 rfl (x_ireturn H rfl rfl))))))
-- X8_behind (IIII)I: 138
theorem nd_138_0 {c : Ct} {dd : Bool} {ρ : Kt} (H : St c dd mt_138 ρ) (h : AH) (a0 : Nat) (x1 : Int32) (x2 : Int32) (x3 : Int32) (x4 : Int32) : ρ 0 [some (.ref a0), some (.int x1), some (.int x2), some (.int x3), some (.int x4)] [] h = isO h a0 8 ((c 134 [.ref a0, .int x3] h).bind fun q1 => rV q1 fun h2 => gfI h2 a0 8 23 fun v3 => isO h2 a0 8 ((c 137 [.ref a0, .int x1, .int v3, .int 0, .int (x4 / 8), .int (x4 - x4 / 8 * 8)] h2).bind fun q4 => rI q4 fun v6 h5 => pfV h5 a0 8 23 (.int v6) fun h7 => if x2 = (-4) then (ρ 59 [some (.ref a0), none, none, none, none] [] h7) else (gfI h7 a0 8 24 fun v8 => isO h7 a0 8 ((c 137 [.ref a0, .int x2, .int v8, .int 2, .int (x4 / 8), .int (x4 - x4 / 8 * 8)] h7).bind fun q9 => rI q9 fun v11 h10 => pfV h10 a0 8 24 (.int v11) fun h12 => ρ 59 [some (.ref a0), none, none, none, none] [] h12)))) :=
 T1 (x_aload_n H rfl rfl) rfl
 (T1 (x_iload_n H rfl rfl) rfl
 ((x_callV (ci := 8) H rfl [.int x3] rfl rfl rfl rfl).trans (isO_c (bi_c fun q1 => rV_c fun h2 =>
 U1 rfl (T1 (x_aload_n H rfl rfl) rfl
 (T1 (x_aload_n H rfl rfl) rfl
 (T1 (x_iload_n H rfl rfl) rfl
 (T1 (x_aload_n H rfl rfl) rfl
 ((x_getI H rfl).trans (gfI_c fun v3 =>
 U1 rfl (T1 (x_iconst H rfl ki_0) rfl
 (T1 (x_iload H rfl rfl) rfl
 (T1 (x_bipush H rfl kb_8) rfl
 (T1 (x_idiv H rfl (by decide)) rfl
 (T1 (x_iload H rfl rfl) rfl
 (T1 (x_bipush H rfl kb_8) rfl
 (T1 (x_irem H rfl (by decide)) rfl
 ((x_callI (ci := 8) H rfl [.int x1, .int v3, .int 0, .int (x4 / 8), .int (x4 - x4 / 8 * 8)] rfl rfl rfl rfl).trans (isO_c (bi_c fun q4 => rI_c fun v6 h5 =>
 U1 rfl ((x_putI H rfl).trans (pfV_c fun h7 =>
 U1 rfl (T1 (x_iload_n H rfl rfl) rfl
 (T1 (x_bipush H rfl kb_m4) rfl
 ((x_icmp_eq H rfl (t := 59) (by decide)).trans (if_c
 (U2 [some (.ref a0), none, none, none, none] rfl rfl)
 (U1 rfl (T1 (x_aload_n H rfl rfl) rfl
 (T1 (x_aload_n H rfl rfl) rfl
 (T1 (x_iload_n H rfl rfl) rfl
 (T1 (x_aload_n H rfl rfl) rfl
 ((x_getI H rfl).trans (gfI_c fun v8 =>
 U1 rfl (T1 (x_iconst H rfl ki_2) rfl
 (T1 (x_iload H rfl rfl) rfl
 (T1 (x_bipush H rfl kb_8) rfl
 (T1 (x_idiv H rfl (by decide)) rfl
 (T1 (x_iload H rfl rfl) rfl
 (T1 (x_bipush H rfl kb_8) rfl
 (T1 (x_irem H rfl (by decide)) rfl
 ((x_callI (ci := 8) H rfl [.int x2, .int v8, .int 2, .int (x4 / 8), .int (x4 - x4 / 8 * 8)] rfl rfl rfl rfl).trans (isO_c (bi_c fun q9 => rI_c fun v11 h10 =>
 U1 rfl ((x_putI H rfl).trans (pfV_c fun h12 =>
 U2 [some (.ref a0), none, none, none, none] rfl rfl)))))))))))))))))))))))))))))))))))))))))))))
theorem nd_138_59 {c : Ct} {dd : Bool} {ρ : Kt} (H : St c dd mt_138 ρ) (h : AH) (a0 : Nat) : ρ 59 [some (.ref a0), none, none, none, none] [] h = isO h a0 8 ((c 135 [.ref a0] h).bind fun q1 => rI q1 fun v3 h2 => some (some (.int v3), h2)) :=
 T1 (x_aload_n H rfl rfl) rfl
 ((x_callI (ci := 8) H rfl [] rfl rfl rfl rfl).trans (isO_c (bi_c fun q1 => rI_c fun v3 h2 =>
 U1 rfl (x_ireturn H rfl rfl))))
-- X8_labelsIn (I)I: 139
theorem nd_139_0 {c : Ct} {dd : Bool} {ρ : Kt} (H : St c dd mt_139 ρ) (h : AH) (a0 : Nat) (x1 : Int32) : ρ 0 [some (.ref a0), some (.int x1)] [] h = isO h a0 8 ((c 134 [.ref a0, .int x1] h).bind fun q1 => rV q1 fun h2 => isO h2 a0 8 ((c 136 [.ref a0] h2).bind fun q3 => rI q3 fun v5 h4 => some (some (.int v5), h4))) :=
 T1 (x_aload_n H rfl rfl) rfl
 (T1 (x_iload_n H rfl rfl) rfl
 ((x_callV (ci := 8) H rfl [.int x1] rfl rfl rfl rfl).trans (isO_c (bi_c fun q1 => rV_c fun h2 =>
 U1 rfl (T1 (x_aload_n H rfl rfl) rfl
 ((x_callI (ci := 8) H rfl [] rfl rfl rfl rfl).trans (isO_c (bi_c fun q3 => rI_c fun v5 h4 =>
 U1 rfl (x_ireturn H rfl rfl)))))))))
-- X8_explores (II)V: 140
theorem nd_140_0 {c : Ct} {dd : Bool} {ρ : Kt} (H : St c dd mt_140 ρ) (h : AH) (a0 : Nat) (x1 : Int32) (x2 : Int32) : ρ 0 [some (.ref a0), some (.int x1), some (.int x2), none, none, none, none, none] [] h = ρ 2 [some (.ref a0), some (.int x1), some (.int x2), some (.int 0), none, none, none, none] [] h :=
 T1 (x_iconst H rfl ki_0) rfl
 (T2 [some (.ref a0), some (.int x1), some (.int x2), some (.int 0), none, none, none, none] (x_istore_n H rfl rfl) rfl rfl)
theorem nd_140_2 {c : Ct} {dd : Bool} {ρ : Kt} (H : St c dd mt_140 ρ) (h : AH) (a0 : Nat) (x1 : Int32) (x2 : Int32) (x3 : Int32) : ρ 2 [some (.ref a0), some (.int x1), some (.int x2), some (.int x3), none, none, none, none] [] h = if 22500 ≤ x3 then (gfQ h a0 8 17 none fun b1 => stZ h b1 0 1 fun h2 => gfQ h2 a0 8 19 none fun b3 => stI h2 b3 0 0 fun h4 => gfQ h4 a0 8 20 none fun b5 => stI h4 b5 0 (-4) fun h6 => pfV h6 a0 8 22 (.int 1) fun h7 => ρ 51 [some (.ref a0), some (.int x1), some (.int x2), some (.int 0), none, none, none, none] [] h7) else (gfQ h a0 8 17 none fun b8 => stZ h b8 x3 0 fun h9 => ρ 2 [some (.ref a0), some (.int x1), some (.int x2), some (.int (x3 + 1)), none, none, none, none] [] h9) :=
 T1 (x_iload_n H rfl rfl) rfl
 (T1 (x_sipush H rfl ks_22500) rfl
 ((x_icmp_ge H rfl (t := 22) (by decide)).trans (if_c
 (U1 rfl (T1 (x_aload_n H rfl rfl) rfl
 ((x_getR H rfl).trans (gfQ_c rfl fun b1 =>
 U1 rfl (T1 (x_iconst H rfl ki_0) rfl
 (T1 (x_iconst H rfl ki_1) rfl
 ((x_bastore H rfl).trans (stZ_c fun h2 =>
 U1 rfl (T1 (x_aload_n H rfl rfl) rfl
 ((x_getR H rfl).trans (gfQ_c rfl fun b3 =>
 U1 rfl (T1 (x_iconst H rfl ki_0) rfl
 (T1 (x_iconst H rfl ki_0) rfl
 ((x_iastore H rfl).trans (stI_c fun h4 =>
 U1 rfl (T1 (x_aload_n H rfl rfl) rfl
 ((x_getR H rfl).trans (gfQ_c rfl fun b5 =>
 U1 rfl (T1 (x_iconst H rfl ki_0) rfl
 (T1 (x_bipush H rfl kb_m4) rfl
 ((x_iastore H rfl).trans (stI_c fun h6 =>
 U1 rfl (T1 (x_aload_n H rfl rfl) rfl
 (T1 (x_iconst H rfl ki_1) rfl
 ((x_putI H rfl).trans (pfV_c fun h7 =>
 U1 rfl (T1 (x_iconst H rfl ki_0) rfl
 (T2 [some (.ref a0), some (.int x1), some (.int x2), some (.int 0), none, none, none, none] (x_istore_n H rfl rfl) rfl rfl))))))))))))))))))))))))))))
 (U1 rfl (T1 (x_aload_n H rfl rfl) rfl
 ((x_getR H rfl).trans (gfQ_c rfl fun b8 =>
 U1 rfl (T1 (x_iload_n H rfl rfl) rfl
 (T1 (x_iconst H rfl ki_0) rfl
 ((x_bastore H rfl).trans (stZ_c fun h9 =>
 U1 rfl (T2 [some (.ref a0), some (.int x1), some (.int x2), some (.int (x3 + 1)), none, none, none, none] (x_iinc H rfl ki_1 rfl rfl) rfl
 (T2 [some (.ref a0), some (.int x1), some (.int x2), some (.int (x3 + 1)), none, none, none, none] (x_goto H rfl (t := 2) (by decide)) rfl rfl)))))))))))))
theorem nd_140_51 {c : Ct} {dd : Bool} {ρ : Kt} (H : St c dd mt_140 ρ) (h : AH) (a0 : Nat) (x1 : Int32) (x2 : Int32) (x3 : Int32) : ρ 51 [some (.ref a0), some (.int x1), some (.int x2), some (.int x3), none, none, none, none] [] h = gfI h a0 8 22 fun v1 => if v1 ≤ x3 then (some (none, h)) else (gfQ h a0 8 19 none fun b2 => ldI h b2 x3 fun v3 => isO h a0 8 ((c 139 [.ref a0, .int v3] h).bind fun q4 => rI q4 fun v6 h5 => ρ 74 [some (.ref a0), some (.int x1), some (.int x2), some (.int x3), some (.int v6), some (.int 0), none, none] [] h5)) :=
 T1 (x_iload_n H rfl rfl) rfl
 (T1 (x_aload_n H rfl rfl) rfl
 ((x_getI H rfl).trans (gfI_c fun v1 =>
 U1 rfl ((x_icmp_ge H rfl (t := 198) (by decide)).trans (if_c
 (U1 rfl (x_return H rfl rfl))
 (U1 rfl (T1 (x_aload_n H rfl rfl) rfl
 (T1 (x_aload_n H rfl rfl) rfl
 ((x_getR H rfl).trans (gfQ_c rfl fun b2 =>
 U1 rfl (T1 (x_iload_n H rfl rfl) rfl
 ((x_iaload H rfl).trans (ldI_c fun v3 =>
 U1 rfl ((x_callI (ci := 8) H rfl [.int v3] rfl rfl rfl rfl).trans (isO_c (bi_c fun q4 => rI_c fun v6 h5 =>
 U1 rfl (T2 [some (.ref a0), some (.int x1), some (.int x2), some (.int x3), some (.int v6), none, none, none] (x_istore H rfl rfl) rfl
 (T1 (x_iconst H rfl ki_0) rfl
 (T2 [some (.ref a0), some (.int x1), some (.int x2), some (.int x3), some (.int v6), some (.int 0), none, none] (x_istore H rfl rfl) rfl rfl)))))))))))))))))))
theorem nd_140_74 {c : Ct} {dd : Bool} {ρ : Kt} (H : St c dd mt_140 ρ) (h : AH) (a0 : Nat) (x1 : Int32) (x2 : Int32) (x3 : Int32) (x4 : Int32) (x5 : Int32) : ρ 74 [some (.ref a0), some (.int x1), some (.int x2), some (.int x3), some (.int x4), some (.int x5), none, none] [] h = if 3 ≤ x5 then (ρ 51 [some (.ref a0), some (.int x1), some (.int x2), some (.int (x3 + 1)), none, none, none, none] [] h) else (ρ 83 [some (.ref a0), some (.int x1), some (.int x2), some (.int x3), some (.int x4), some (.int x5), some (.int 1), none] [] h) :=
 T1 (x_iload H rfl rfl) rfl
 (T1 (x_iconst H rfl ki_3) rfl
 ((x_icmp_ge H rfl (t := 192) (by decide)).trans (if_c
 (U1 rfl (T2 [some (.ref a0), some (.int x1), some (.int x2), some (.int (x3 + 1)), some (.int x4), some (.int x5), none, none] (x_iinc H rfl ki_1 rfl rfl) rfl
 (T2 [some (.ref a0), some (.int x1), some (.int x2), some (.int (x3 + 1)), none, none, none, none] (x_goto H rfl (t := 51) (by decide)) rfl rfl)))
 (U1 rfl (T1 (x_iconst H rfl ki_1) rfl
 (T2 [some (.ref a0), some (.int x1), some (.int x2), some (.int x3), some (.int x4), some (.int x5), some (.int 1), none] (x_istore H rfl rfl) rfl rfl))))))
theorem nd_140_83 {c : Ct} {dd : Bool} {ρ : Kt} (H : St c dd mt_140 ρ) (h : AH) (a0 : Nat) (x1 : Int32) (x2 : Int32) (x3 : Int32) (x4 : Int32) (x5 : Int32) (x6 : Int32) : ρ 83 [some (.ref a0), some (.int x1), some (.int x2), some (.int x3), some (.int x4), some (.int x5), some (.int x6), none] [] h = if (x4 + 1) < x6 then (ρ 74 [some (.ref a0), some (.int x1), some (.int x2), some (.int x3), some (.int x4), some (.int (x5 + 1)), none, none] [] h) else (gfQ h a0 8 19 none fun b1 => ldI h b1 x3 fun v2 => isO h a0 8 ((c 138 [.ref a0, .int x1, .int x2, .int v2, .int ((8 * x5) + x6)] h).bind fun q3 => rI q3 fun v5 h4 => gfQ h4 a0 8 17 none fun b6 => ldZ h4 b6 v5 fun v7 => if v7 = 0 then (gfQ h4 a0 8 17 none fun b8 => stZ h4 b8 v5 1 fun h9 => gfQ h9 a0 8 19 none fun b10 => gfI h9 a0 8 22 fun v11 => stI h9 b10 v11 v5 fun h12 => gfQ h12 a0 8 20 none fun b13 => gfI h12 a0 8 22 fun v14 => stI h12 b13 v14 x3 fun h15 => gfQ h15 a0 8 21 none fun b16 => gfI h15 a0 8 22 fun v17 => stI h15 b16 v17 ((8 * x5) + x6) fun h18 => gfI h18 a0 8 22 fun v19 => pfV h18 a0 8 22 (.int (v19 + 1)) fun h20 => ρ 180 [some (.ref a0), some (.int x1), some (.int x2), some (.int x3), some (.int x4), some (.int x5), some (.int x6), none] [] h20) else (ρ 180 [some (.ref a0), some (.int x1), some (.int x2), some (.int x3), some (.int x4), some (.int x5), some (.int x6), none] [] h4))) :=
 T1 (x_iload H rfl rfl) rfl
 (T1 (x_iload H rfl rfl) rfl
 (T1 (x_iconst H rfl ki_1) rfl
 (T1 (x_iadd H rfl) rfl
 ((x_icmp_gt H rfl (t := 186) (by decide)).trans (if_c
 (U1 rfl (T2 [some (.ref a0), some (.int x1), some (.int x2), some (.int x3), some (.int x4), some (.int (x5 + 1)), some (.int x6), none] (x_iinc H rfl ki_1 rfl rfl) rfl
 (T2 [some (.ref a0), some (.int x1), some (.int x2), some (.int x3), some (.int x4), some (.int (x5 + 1)), none, none] (x_goto H rfl (t := 74) (by decide)) rfl rfl)))
 (U1 rfl (T1 (x_aload_n H rfl rfl) rfl
 (T1 (x_iload_n H rfl rfl) rfl
 (T1 (x_iload_n H rfl rfl) rfl
 (T1 (x_aload_n H rfl rfl) rfl
 ((x_getR H rfl).trans (gfQ_c rfl fun b1 =>
 U1 rfl (T1 (x_iload_n H rfl rfl) rfl
 ((x_iaload H rfl).trans (ldI_c fun v2 =>
 U1 rfl (T1 (x_bipush H rfl kb_8) rfl
 (T1 (x_iload H rfl rfl) rfl
 (T1 (x_imul H rfl) rfl
 (T1 (x_iload H rfl rfl) rfl
 (T1 (x_iadd H rfl) rfl
 ((x_callI (ci := 8) H rfl [.int x1, .int x2, .int v2, .int ((8 * x5) + x6)] rfl rfl rfl rfl).trans (isO_c (bi_c fun q3 => rI_c fun v5 h4 =>
 U1 rfl (T2 [some (.ref a0), some (.int x1), some (.int x2), some (.int x3), some (.int x4), some (.int x5), some (.int x6), some (.int v5)] (x_istore H rfl rfl) rfl
 (T1 (x_aload_n H rfl rfl) rfl
 ((x_getR H rfl).trans (gfQ_c rfl fun b6 =>
 U1 rfl (T1 (x_iload H rfl rfl) rfl
 ((x_baload H rfl).trans (ldZ_c fun v7 =>
 U1 rfl ((x_if_ne H rfl (t := 180) (by decide)).trans (if_c
 (U1 rfl (T1 (x_aload_n H rfl rfl) rfl
 ((x_getR H rfl).trans (gfQ_c rfl fun b8 =>
 U1 rfl (T1 (x_iload H rfl rfl) rfl
 (T1 (x_iconst H rfl ki_1) rfl
 ((x_bastore H rfl).trans (stZ_c fun h9 =>
 U1 rfl (T1 (x_aload_n H rfl rfl) rfl
 ((x_getR H rfl).trans (gfQ_c rfl fun b10 =>
 U1 rfl (T1 (x_aload_n H rfl rfl) rfl
 ((x_getI H rfl).trans (gfI_c fun v11 =>
 U1 rfl (T1 (x_iload H rfl rfl) rfl
 ((x_iastore H rfl).trans (stI_c fun h12 =>
 U1 rfl (T1 (x_aload_n H rfl rfl) rfl
 ((x_getR H rfl).trans (gfQ_c rfl fun b13 =>
 U1 rfl (T1 (x_aload_n H rfl rfl) rfl
 ((x_getI H rfl).trans (gfI_c fun v14 =>
 U1 rfl (T1 (x_iload_n H rfl rfl) rfl
 ((x_iastore H rfl).trans (stI_c fun h15 =>
 U1 rfl (T1 (x_aload_n H rfl rfl) rfl
 ((x_getR H rfl).trans (gfQ_c rfl fun b16 =>
 U1 rfl (T1 (x_aload_n H rfl rfl) rfl
 ((x_getI H rfl).trans (gfI_c fun v17 =>
 U1 rfl (T1 (x_bipush H rfl kb_8) rfl
 (T1 (x_iload H rfl rfl) rfl
 (T1 (x_imul H rfl) rfl
 (T1 (x_iload H rfl rfl) rfl
 (T1 (x_iadd H rfl) rfl
 ((x_iastore H rfl).trans (stI_c fun h18 =>
 U1 rfl (T1 (x_aload_n H rfl rfl) rfl
 (T1 (x_dup H rfl) rfl
 ((x_getI H rfl).trans (gfI_c fun v19 =>
 U1 rfl (T1 (x_iconst H rfl ki_1) rfl
 (T1 (x_iadd H rfl) rfl
 ((x_putI H rfl).trans (pfV_c fun h20 =>
 U2 [some (.ref a0), some (.int x1), some (.int x2), some (.int x3), some (.int x4), some (.int x5), some (.int x6), none] rfl rfl)))))))))))))))))))))))))))))))))))))))))))))))
 (U2 [some (.ref a0), some (.int x1), some (.int x2), some (.int x3), some (.int x4), some (.int x5), some (.int x6), none] rfl rfl)))))))))))))))))))))))))))))))))
theorem nd_140_180 {c : Ct} {dd : Bool} {ρ : Kt} (H : St c dd mt_140 ρ) (h : AH) (a0 : Nat) (x1 : Int32) (x2 : Int32) (x3 : Int32) (x4 : Int32) (x5 : Int32) (x6 : Int32) : ρ 180 [some (.ref a0), some (.int x1), some (.int x2), some (.int x3), some (.int x4), some (.int x5), some (.int x6), none] [] h = ρ 83 [some (.ref a0), some (.int x1), some (.int x2), some (.int x3), some (.int x4), some (.int x5), some (.int (x6 + 1)), none] [] h :=
 T2 [some (.ref a0), some (.int x1), some (.int x2), some (.int x3), some (.int x4), some (.int x5), some (.int (x6 + 1)), none] (x_iinc H rfl ki_1 rfl rfl) rfl
 (T2 [some (.ref a0), some (.int x1), some (.int x2), some (.int x3), some (.int x4), some (.int x5), some (.int (x6 + 1)), none] (x_goto H rfl (t := 83) (by decide)) rfl rfl)
-- X8_isGoodA (II)Z: 141
theorem nd_141_0 {c : Ct} {dd : Bool} {ρ : Kt} (H : St c dd mt_141 ρ) (h : AH) (a0 : Nat) (x1 : Int32) (x2 : Int32) : ρ 0 [some (.ref a0), some (.int x1), some (.int x2)] [] h = isO h a0 8 ((c 134 [.ref a0, .int x2] h).bind fun q1 => rV q1 fun h2 => gfQ h2 a0 8 6 none fun b3 => gfI h2 a0 8 23 fun v4 => ldZ h2 b3 ((6 * x1) + v4) fun v5 => isZ v5 (some (some (.int v5), h2))) :=
 T1 (x_aload_n H rfl rfl) rfl
 (T1 (x_iload_n H rfl rfl) rfl
 ((x_callV (ci := 8) H rfl [.int x2] rfl rfl rfl rfl).trans (isO_c (bi_c fun q1 => rV_c fun h2 =>
 U1 rfl (T1 (x_aload_n H rfl rfl) rfl
 ((x_getR H rfl).trans (gfQ_c rfl fun b3 =>
 U1 rfl (T1 (x_bipush H rfl kb_6) rfl
 (T1 (x_iload_n H rfl rfl) rfl
 (T1 (x_imul H rfl) rfl
 (T1 (x_aload_n H rfl rfl) rfl
 ((x_getI H rfl).trans (gfI_c fun v4 =>
 U1 rfl (T1 (x_iadd H rfl) rfl
 ((x_baload H rfl).trans (ldZ_c fun v5 =>
 U1 rfl (x_zreturn H rfl rfl)))))))))))))))))
-- X8_isGoodB (II)Z: 142
theorem nd_142_0 {c : Ct} {dd : Bool} {ρ : Kt} (H : St c dd mt_142 ρ) (h : AH) (a0 : Nat) (x1 : Int32) (x2 : Int32) : ρ 0 [some (.ref a0), some (.int x1), some (.int x2)] [] h = isO h a0 8 ((c 134 [.ref a0, .int x2] h).bind fun q1 => rV q1 fun h2 => gfQ h2 a0 8 6 none fun b3 => gfI h2 a0 8 24 fun v4 => ldZ h2 b3 ((6 * x1) + v4) fun v5 => isZ v5 (some (some (.int v5), h2))) :=
 T1 (x_aload_n H rfl rfl) rfl
 (T1 (x_iload_n H rfl rfl) rfl
 ((x_callV (ci := 8) H rfl [.int x2] rfl rfl rfl rfl).trans (isO_c (bi_c fun q1 => rV_c fun h2 =>
 U1 rfl (T1 (x_aload_n H rfl rfl) rfl
 ((x_getR H rfl).trans (gfQ_c rfl fun b3 =>
 U1 rfl (T1 (x_bipush H rfl kb_6) rfl
 (T1 (x_iload_n H rfl rfl) rfl
 (T1 (x_imul H rfl) rfl
 (T1 (x_aload_n H rfl rfl) rfl
 ((x_getI H rfl).trans (gfI_c fun v4 =>
 U1 rfl (T1 (x_iadd H rfl) rfl
 ((x_baload H rfl).trans (ldZ_c fun v5 =>
 U1 rfl (x_zreturn H rfl rfl)))))))))))))))))
-- X8_wanted (II)I: 143
theorem nd_143_0 {c : Ct} {dd : Bool} {ρ : Kt} (H : St c dd mt_143 ρ) (h : AH) (a0 : Nat) (x1 : Int32) (x2 : Int32) : ρ 0 [some (.ref a0), some (.int x1), some (.int x2), none] [] h = isO h a0 8 ((c 140 [.ref a0, .int x1, .int x2] h).bind fun q1 => rV q1 fun h2 => ρ 8 [some (.ref a0), some (.int x1), some (.int x2), some (.int 0)] [] h2) :=
 T1 (x_aload_n H rfl rfl) rfl
 (T1 (x_iload_n H rfl rfl) rfl
 (T1 (x_iload_n H rfl rfl) rfl
 ((x_callV (ci := 8) H rfl [.int x1, .int x2] rfl rfl rfl rfl).trans (isO_c (bi_c fun q1 => rV_c fun h2 =>
 U1 rfl (T1 (x_iconst H rfl ki_0) rfl
 (T2 [some (.ref a0), some (.int x1), some (.int x2), some (.int 0)] (x_istore_n H rfl rfl) rfl rfl)))))))
theorem nd_143_8 {c : Ct} {dd : Bool} {ρ : Kt} (H : St c dd mt_143 ρ) (h : AH) (a0 : Nat) (x1 : Int32) (x2 : Int32) (x3 : Int32) : ρ 8 [some (.ref a0), some (.int x1), some (.int x2), some (.int x3)] [] h = gfI h a0 8 22 fun v1 => if v1 ≤ x3 then (some (some (.int (-4)), h)) else (if x2 = (-4) then (gfQ h a0 8 19 none fun b12 => ldI h b12 x3 fun v13 => isO h a0 8 ((c 141 [.ref a0, .int x1, .int v13] h).bind fun q14 => rI q14 fun v16 h15 => if v16 = 0 then (ρ 66 [some (.ref a0), some (.int x1), some (.int x2), some (.int x3)] [] h15) else (ρ 64 [none, none, none, some (.int x3)] [] h15))) else (gfQ h a0 8 19 none fun b2 => ldI h b2 x3 fun v3 => isO h a0 8 ((c 141 [.ref a0, .int x1, .int v3] h).bind fun q4 => rI q4 fun v6 h5 => gfQ h5 a0 8 19 none fun b7 => ldI h5 b7 x3 fun v8 => isO h5 a0 8 ((c 142 [.ref a0, .int x2, .int v8] h5).bind fun q9 => rI q9 fun v11 h10 => if v6 = v11 then (ρ 66 [some (.ref a0), some (.int x1), some (.int x2), some (.int x3)] [] h10) else (ρ 64 [none, none, none, some (.int x3)] [] h10))))) :=
 T1 (x_iload_n H rfl rfl) rfl
 (T1 (x_aload_n H rfl rfl) rfl
 ((x_getI H rfl).trans (gfI_c fun v1 =>
 U1 rfl ((x_icmp_ge H rfl (t := 72) (by decide)).trans (if_c
 (U1 rfl (T1 (x_bipush H rfl kb_m4) rfl
 (x_ireturn H rfl rfl)))
 (U1 rfl (T1 (x_iload_n H rfl rfl) rfl
 (T1 (x_bipush H rfl kb_m4) rfl
 ((x_icmp_ne H rfl (t := 39) (by decide)).trans (if_c
 (U1 rfl (T1 (x_aload_n H rfl rfl) rfl
 (T1 (x_iload_n H rfl rfl) rfl
 (T1 (x_aload_n H rfl rfl) rfl
 ((x_getR H rfl).trans (gfQ_c rfl fun b12 =>
 U1 rfl (T1 (x_iload_n H rfl rfl) rfl
 ((x_iaload H rfl).trans (ldI_c fun v13 =>
 U1 rfl ((x_callZ (ci := 8) H rfl [.int x1, .int v13] rfl rfl rfl rfl).trans (isO_c (bi_c fun q14 => rI_c fun v16 h15 =>
 U1 rfl ((x_if_eq H rfl (t := 66) (by decide)).trans (if_c
 (U2 [some (.ref a0), some (.int x1), some (.int x2), some (.int x3)] rfl rfl)
 (U1 rfl (T2 [none, none, none, some (.int x3)] (x_goto H rfl (t := 64) (by decide)) rfl rfl))))))))))))))))
 (U1 rfl (T1 (x_aload_n H rfl rfl) rfl
 (T1 (x_iload_n H rfl rfl) rfl
 (T1 (x_aload_n H rfl rfl) rfl
 ((x_getR H rfl).trans (gfQ_c rfl fun b2 =>
 U1 rfl (T1 (x_iload_n H rfl rfl) rfl
 ((x_iaload H rfl).trans (ldI_c fun v3 =>
 U1 rfl ((x_callZ (ci := 8) H rfl [.int x1, .int v3] rfl rfl rfl rfl).trans (isO_c (bi_c fun q4 => rI_c fun v6 h5 =>
 U1 rfl (T1 (x_aload_n H rfl rfl) rfl
 (T1 (x_iload_n H rfl rfl) rfl
 (T1 (x_aload_n H rfl rfl) rfl
 ((x_getR H rfl).trans (gfQ_c rfl fun b7 =>
 U1 rfl (T1 (x_iload_n H rfl rfl) rfl
 ((x_iaload H rfl).trans (ldI_c fun v8 =>
 U1 rfl ((x_callZ (ci := 8) H rfl [.int x2, .int v8] rfl rfl rfl rfl).trans (isO_c (bi_c fun q9 => rI_c fun v11 h10 =>
 U1 rfl ((x_icmp_eq H rfl (t := 66) (by decide)).trans (if_c
 (U2 [some (.ref a0), some (.int x1), some (.int x2), some (.int x3)] rfl rfl)
 (U2 [none, none, none, some (.int x3)] rfl rfl))))))))))))))))))))))))))))))))))))
theorem nd_143_64 {c : Ct} {dd : Bool} {ρ : Kt} (H : St c dd mt_143 ρ) (h : AH) (x3 : Int32) : ρ 64 [none, none, none, some (.int x3)] [] h = some (some (.int x3), h) :=
 T1 (x_iload_n H rfl rfl) rfl
 (x_ireturn H rfl rfl)
theorem nd_143_66 {c : Ct} {dd : Bool} {ρ : Kt} (H : St c dd mt_143 ρ) (h : AH) (a0 : Nat) (x1 : Int32) (x2 : Int32) (x3 : Int32) : ρ 66 [some (.ref a0), some (.int x1), some (.int x2), some (.int x3)] [] h = ρ 8 [some (.ref a0), some (.int x1), some (.int x2), some (.int (x3 + 1))] [] h :=
 T2 [some (.ref a0), some (.int x1), some (.int x2), some (.int (x3 + 1))] (x_iinc H rfl ki_1 rfl rfl) rfl
 (T2 [some (.ref a0), some (.int x1), some (.int x2), some (.int (x3 + 1))] (x_goto H rfl (t := 8) (by decide)) rfl rfl)
-- X8_lines (I)I: 144
theorem nd_144_0 {c : Ct} {dd : Bool} {ρ : Kt} (H : St c dd mt_144 ρ) (h : AH) (a0 : Nat) (x1 : Int32) : ρ 0 [some (.ref a0), some (.int x1), none, none, none] [] h = ρ 4 [some (.ref a0), some (.int x1), some (.int 0), some (.int x1), none] [] h :=
 T1 (x_iconst H rfl ki_0) rfl
 (T2 [some (.ref a0), some (.int x1), some (.int 0), none, none] (x_istore_n H rfl rfl) rfl
 (T1 (x_iload_n H rfl rfl) rfl
 (T2 [some (.ref a0), some (.int x1), some (.int 0), some (.int x1), none] (x_istore_n H rfl rfl) rfl rfl)))
theorem nd_144_4 {c : Ct} {dd : Bool} {ρ : Kt} (H : St c dd mt_144 ρ) (h : AH) (a0 : Nat) (x1 : Int32) (x2 : Int32) (x3 : Int32) : ρ 4 [some (.ref a0), some (.int x1), some (.int x2), some (.int x3), none] [] h = gfQ h a0 8 20 none fun b1 => ldI h b1 x3 fun v2 => if v2 = (-4) then (ρ 33 [some (.ref a0), none, some (.int x2), some (.int x2), some (.int x1)] [] h) else (gfQ h a0 8 20 none fun b3 => ldI h b3 x3 fun v4 => ρ 4 [some (.ref a0), some (.int x1), some (.int (x2 + 1)), some (.int v4), none] [] h) :=
 T1 (x_aload_n H rfl rfl) rfl
 ((x_getR H rfl).trans (gfQ_c rfl fun b1 =>
 U1 rfl (T1 (x_iload_n H rfl rfl) rfl
 ((x_iaload H rfl).trans (ldI_c fun v2 =>
 U1 rfl (T1 (x_bipush H rfl kb_m4) rfl
 ((x_icmp_eq H rfl (t := 28) (by decide)).trans (if_c
 (U1 rfl (T1 (x_iload_n H rfl rfl) rfl
 (T2 [some (.ref a0), some (.int x1), some (.int x2), some (.int x2), none] (x_istore_n H rfl rfl) rfl
 (T1 (x_iload_n H rfl rfl) rfl
 (T2 [some (.ref a0), none, some (.int x2), some (.int x2), some (.int x1)] (x_istore H rfl rfl) rfl rfl)))))
 (U1 rfl (T2 [some (.ref a0), some (.int x1), some (.int (x2 + 1)), some (.int x3), none] (x_iinc H rfl ki_1 rfl rfl) rfl
 (T1 (x_aload_n H rfl rfl) rfl
 ((x_getR H rfl).trans (gfQ_c rfl fun b3 =>
 U1 rfl (T1 (x_iload_n H rfl rfl) rfl
 ((x_iaload H rfl).trans (ldI_c fun v4 =>
 U1 rfl (T2 [some (.ref a0), some (.int x1), some (.int (x2 + 1)), some (.int v4), none] (x_istore_n H rfl rfl) rfl
 (T2 [some (.ref a0), some (.int x1), some (.int (x2 + 1)), some (.int v4), none] (x_goto H rfl (t := 4) (by decide)) rfl rfl))))))))))))))))))
theorem nd_144_33 {c : Ct} {dd : Bool} {ρ : Kt} (H : St c dd mt_144 ρ) (h : AH) (a0 : Nat) (x2 : Int32) (x3 : Int32) (x4 : Int32) : ρ 33 [some (.ref a0), none, some (.int x2), some (.int x3), some (.int x4)] [] h = gfQ h a0 8 20 none fun b1 => ldI h b1 x4 fun v2 => if v2 = (-4) then (some (some (.int x2), h)) else (gfQ h a0 8 27 none fun b3 => stI h b3 (x3 + (-1)) x4 fun h4 => gfQ h4 a0 8 20 none fun b5 => ldI h4 b5 x4 fun v6 => ρ 33 [some (.ref a0), none, some (.int x2), some (.int (x3 + (-1))), some (.int v6)] [] h4) :=
 T1 (x_aload_n H rfl rfl) rfl
 ((x_getR H rfl).trans (gfQ_c rfl fun b1 =>
 U1 rfl (T1 (x_iload H rfl rfl) rfl
 ((x_iaload H rfl).trans (ldI_c fun v2 =>
 U1 rfl (T1 (x_bipush H rfl kb_m4) rfl
 ((x_icmp_eq H rfl (t := 68) (by decide)).trans (if_c
 (U1 rfl (T1 (x_iload_n H rfl rfl) rfl
 (x_ireturn H rfl rfl)))
 (U1 rfl (T2 [some (.ref a0), none, some (.int x2), some (.int (x3 + (-1))), some (.int x4)] (x_iinc H rfl ki_m1 rfl rfl) rfl
 (T1 (x_aload_n H rfl rfl) rfl
 ((x_getR H rfl).trans (gfQ_c rfl fun b3 =>
 U1 rfl (T1 (x_iload_n H rfl rfl) rfl
 (T1 (x_iload H rfl rfl) rfl
 ((x_iastore H rfl).trans (stI_c fun h4 =>
 U1 rfl (T1 (x_aload_n H rfl rfl) rfl
 ((x_getR H rfl).trans (gfQ_c rfl fun b5 =>
 U1 rfl (T1 (x_iload H rfl rfl) rfl
 ((x_iaload H rfl).trans (ldI_c fun v6 =>
 U1 rfl (T2 [some (.ref a0), none, some (.int x2), some (.int (x3 + (-1))), some (.int v6)] (x_istore H rfl rfl) rfl
 (T2 [some (.ref a0), none, some (.int x2), some (.int (x3 + (-1))), some (.int v6)] (x_goto H rfl (t := 33) (by decide)) rfl rfl)))))))))))))))))))))))))
-- X8_tells (III)V: 145
theorem nd_145_0 {c : Ct} {dd : Bool} {ρ : Kt} (H : St c dd mt_145 ρ) (h : AH) (a0 : Nat) (x1 : Int32) (x2 : Int32) (x3 : Int32) : ρ 0 [some (.ref a0), some (.int x1), some (.int x2), some (.int x3), none, none, none, none, none, none] [] h = ρ 6 [some (.ref a0), some (.int x1), some (.int x2), some (.int x3), some (.int 0), some (.int 0), none, none, none, none] [] h :=
 T1 (x_iconst H rfl ki_0) rfl
 (T2 [some (.ref a0), some (.int x1), some (.int x2), some (.int x3), some (.int 0), none, none, none, none, none] (x_istore H rfl rfl) rfl
 (T1 (x_iconst H rfl ki_0) rfl
 (T2 [some (.ref a0), some (.int x1), some (.int x2), some (.int x3), some (.int 0), some (.int 0), none, none, none, none] (x_istore H rfl rfl) rfl rfl)))
theorem nd_145_6 {c : Ct} {dd : Bool} {ρ : Kt} (H : St c dd mt_145 ρ) (h : AH) (a0 : Nat) (x1 : Int32) (x2 : Int32) (x3 : Int32) (x4 : Int32) (x5 : Int32) : ρ 6 [some (.ref a0), some (.int x1), some (.int x2), some (.int x3), some (.int x4), some (.int x5), none, none, none, none] [] h = if x3 < x5 then (some (none, h)) else (gfQ h a0 8 21 none fun b1 => gfQ h a0 8 27 none fun b2 => ldI h b2 x5 fun v3 => ldI h b1 v3 fun v4 => gfQ h a0 8 19 none fun b5 => gfQ h a0 8 20 none fun b6 => gfQ h a0 8 27 none fun b7 => ldI h b7 x5 fun v8 => ldI h b6 v8 fun v9 => ldI h b5 v9 fun v10 => pfV h a0 8 28 (.int (v4 / 8)) fun h11 => isO h11 a0 8 ((c 134 [.ref a0, .int v10] h11).bind fun q12 => rV q12 fun h13 => pfV h13 a0 8 29 (.int (-4)) fun h14 => ρ 76 [some (.ref a0), some (.int x1), some (.int x2), some (.int x3), some (.int x4), some (.int x5), none, some (.int v10), some (.int (v4 - v4 / 8 * 8)), some (.int 0)] [] h14)) :=
 T1 (x_iload H rfl rfl) rfl
 (T1 (x_iload_n H rfl rfl) rfl
 ((x_icmp_gt H rfl (t := 178) (by decide)).trans (if_c
 (U1 rfl (x_return H rfl rfl))
 (U1 rfl (T1 (x_aload_n H rfl rfl) rfl
 ((x_getR H rfl).trans (gfQ_c rfl fun b1 =>
 U1 rfl (T1 (x_aload_n H rfl rfl) rfl
 ((x_getR H rfl).trans (gfQ_c rfl fun b2 =>
 U1 rfl (T1 (x_iload H rfl rfl) rfl
 ((x_iaload H rfl).trans (ldI_c fun v3 =>
 U1 rfl ((x_iaload H rfl).trans (ldI_c fun v4 =>
 U1 rfl (T2 [some (.ref a0), some (.int x1), some (.int x2), some (.int x3), some (.int x4), some (.int x5), some (.int v4), none, none, none] (x_istore H rfl rfl) rfl
 (T1 (x_aload_n H rfl rfl) rfl
 ((x_getR H rfl).trans (gfQ_c rfl fun b5 =>
 U1 rfl (T1 (x_aload_n H rfl rfl) rfl
 ((x_getR H rfl).trans (gfQ_c rfl fun b6 =>
 U1 rfl (T1 (x_aload_n H rfl rfl) rfl
 ((x_getR H rfl).trans (gfQ_c rfl fun b7 =>
 U1 rfl (T1 (x_iload H rfl rfl) rfl
 ((x_iaload H rfl).trans (ldI_c fun v8 =>
 U1 rfl ((x_iaload H rfl).trans (ldI_c fun v9 =>
 U1 rfl ((x_iaload H rfl).trans (ldI_c fun v10 =>
 U1 rfl (T2 [some (.ref a0), some (.int x1), some (.int x2), some (.int x3), some (.int x4), some (.int x5), some (.int v4), some (.int v10), none, none] (x_istore H rfl rfl) rfl
 (T1 (x_iload H rfl rfl) rfl
 (T1 (x_bipush H rfl kb_8) rfl
 (T1 (x_irem H rfl (by decide)) rfl
 (T2 [some (.ref a0), some (.int x1), some (.int x2), some (.int x3), some (.int x4), some (.int x5), some (.int v4), some (.int v10), some (.int (v4 - v4 / 8 * 8)), none] (x_istore H rfl rfl) rfl
 (T1 (x_aload_n H rfl rfl) rfl
 (T1 (x_iload H rfl rfl) rfl
 (T1 (x_bipush H rfl kb_8) rfl
 (T1 (x_idiv H rfl (by decide)) rfl
 ((x_putI H rfl).trans (pfV_c fun h11 =>
 U1 rfl (T1 (x_aload_n H rfl rfl) rfl
 (T1 (x_iload H rfl rfl) rfl
 ((x_callV (ci := 8) H rfl [.int v10] rfl rfl rfl rfl).trans (isO_c (bi_c fun q12 => rV_c fun h13 =>
 U1 rfl (T1 (x_aload_n H rfl rfl) rfl
 (T1 (x_bipush H rfl kb_m4) rfl
 ((x_putI H rfl).trans (pfV_c fun h14 =>
 U1 rfl (T1 (x_iconst H rfl ki_0) rfl
 (T2 [some (.ref a0), some (.int x1), some (.int x2), some (.int x3), some (.int x4), some (.int x5), none, some (.int v10), some (.int (v4 - v4 / 8 * 8)), some (.int 0)] (x_istore H rfl rfl) rfl rfl))))))))))))))))))))))))))))))))))))))))))))))))))))))
theorem nd_145_76 {c : Ct} {dd : Bool} {ρ : Kt} (H : St c dd mt_145 ρ) (h : AH) (a0 : Nat) (x1 : Int32) (x2 : Int32) (x3 : Int32) (x4 : Int32) (x5 : Int32) (x7 : Int32) (x8 : Int32) (x9 : Int32) : ρ 76 [some (.ref a0), some (.int x1), some (.int x2), some (.int x3), some (.int x4), some (.int x5), none, some (.int x7), some (.int x8), some (.int x9)] [] h = if 4 ≤ x9 then (gfI h a0 8 29 fun v1 => if v1 = (-4) then (pfV h a0 8 29 (.int x4) fun h2 => ρ 136 [some (.ref a0), some (.int x1), some (.int x2), some (.int x3), some (.int (x4 + 1)), some (.int x5), none, some (.int x7), some (.int x8), none] [] h2) else (ρ 136 [some (.ref a0), some (.int x1), some (.int x2), some (.int x3), some (.int x4), some (.int x5), none, some (.int x7), some (.int x8), none] [] h)) else (gfQ h a0 8 25 none fun b3 => ldI h b3 x9 fun v4 => if v4 = x8 then (gfQ h a0 8 30 none fun b6 => ldI h b6 x9 fun v7 => ρ 109 [some (.ref a0), some (.int x1), some (.int x2), some (.int x3), some (.int x4), some (.int x5), none, some (.int x7), some (.int x8), some (.int x9)] [.int v7, .ref a0] h) else (gfI h a0 8 29 fun v5 => ρ 109 [some (.ref a0), some (.int x1), some (.int x2), some (.int x3), some (.int x4), some (.int x5), none, some (.int x7), some (.int x8), some (.int x9)] [.int v5, .ref a0] h)) :=
 T1 (x_iload H rfl rfl) rfl
 (T1 (x_iconst H rfl ki_4) rfl
 ((x_icmp_ge H rfl (t := 118) (by decide)).trans (if_c
 (U1 rfl (T1 (x_aload_n H rfl rfl) rfl
 ((x_getI H rfl).trans (gfI_c fun v1 =>
 U1 rfl (T1 (x_bipush H rfl kb_m4) rfl
 ((x_icmp_ne H rfl (t := 136) (by decide)).trans (if_c
 (U1 rfl (T1 (x_aload_n H rfl rfl) rfl
 (T1 (x_iload H rfl rfl) rfl
 ((x_putI H rfl).trans (pfV_c fun h2 =>
 U1 rfl (T2 [some (.ref a0), some (.int x1), some (.int x2), some (.int x3), some (.int (x4 + 1)), some (.int x5), none, some (.int x7), some (.int x8), none] (x_iinc H rfl ki_1 rfl rfl) rfl rfl))))))
 (U2 [some (.ref a0), some (.int x1), some (.int x2), some (.int x3), some (.int x4), some (.int x5), none, some (.int x7), some (.int x8), none] rfl rfl))))))))
 (U1 rfl (T1 (x_aload_n H rfl rfl) rfl
 (T1 (x_aload_n H rfl rfl) rfl
 ((x_getR H rfl).trans (gfQ_c rfl fun b3 =>
 U1 rfl (T1 (x_iload H rfl rfl) rfl
 ((x_iaload H rfl).trans (ldI_c fun v4 =>
 U1 rfl (T1 (x_iload H rfl rfl) rfl
 ((x_icmp_ne H rfl (t := 105) (by decide)).trans (if_c
 (U1 rfl (T1 (x_aload_n H rfl rfl) rfl
 ((x_getR H rfl).trans (gfQ_c rfl fun b6 =>
 U1 rfl (T1 (x_iload H rfl rfl) rfl
 ((x_iaload H rfl).trans (ldI_c fun v7 =>
 U1 rfl (T2 [some (.ref a0), some (.int x1), some (.int x2), some (.int x3), some (.int x4), some (.int x5), none, some (.int x7), some (.int x8), some (.int x9)] (x_goto H rfl (t := 109) (by decide)) rfl rfl))))))))
 (U1 rfl (T1 (x_aload_n H rfl rfl) rfl
 ((x_getI H rfl).trans (gfI_c fun v5 =>
 U2 [some (.ref a0), some (.int x1), some (.int x2), some (.int x3), some (.int x4), some (.int x5), none, some (.int x7), some (.int x8), some (.int x9)] rfl rfl))))))))))))))))))
theorem nd_145_109 {c : Ct} {dd : Bool} {ρ : Kt} (H : St c dd mt_145 ρ) (h : AH) (a0 : Nat) (x1 : Int32) (x2 : Int32) (x3 : Int32) (x4 : Int32) (x5 : Int32) (x7 : Int32) (x8 : Int32) (x9 : Int32) (s0_ : Int32) (c1_ : Nat) : ρ 109 [some (.ref a0), some (.int x1), some (.int x2), some (.int x3), some (.int x4), some (.int x5), none, some (.int x7), some (.int x8), some (.int x9)] [.int s0_, .ref c1_] h = pfV h c1_ 8 29 (.int s0_) fun h1 => ρ 76 [some (.ref a0), some (.int x1), some (.int x2), some (.int x3), some (.int x4), some (.int x5), none, some (.int x7), some (.int x8), some (.int (x9 + 1))] [] h1 :=
 (x_putI H rfl).trans (pfV_c fun h1 =>
 U1 rfl (T2 [some (.ref a0), some (.int x1), some (.int x2), some (.int x3), some (.int x4), some (.int x5), none, some (.int x7), some (.int x8), some (.int (x9 + 1))] (x_iinc H rfl ki_1 rfl rfl) rfl
 (T2 [some (.ref a0), some (.int x1), some (.int x2), some (.int x3), some (.int x4), some (.int x5), none, some (.int x7), some (.int x8), some (.int (x9 + 1))] (x_goto H rfl (t := 76) (by decide)) rfl rfl)))
theorem nd_145_136 {c : Ct} {dd : Bool} {ρ : Kt} (H : St c dd mt_145 ρ) (h : AH) (a0 : Nat) (x1 : Int32) (x2 : Int32) (x3 : Int32) (x4 : Int32) (x5 : Int32) (x7 : Int32) (x8 : Int32) : ρ 136 [some (.ref a0), some (.int x1), some (.int x2), some (.int x3), some (.int x4), some (.int x5), none, some (.int x7), some (.int x8), none] [] h = gfI h a0 8 23 fun v1 => isO h a0 8 ((c 146 [.ref a0, .int x1, .int v1, .int 0, .int x8] h).bind fun q2 => rV q2 fun h3 => if x2 = (-4) then (ρ 172 [some (.ref a0), some (.int x1), some (.int x2), some (.int x3), some (.int x4), some (.int x5), none, none, none, none] [] h3) else (isO h3 a0 8 ((c 134 [.ref a0, .int x7] h3).bind fun q4 => rV q4 fun h5 => gfI h5 a0 8 24 fun v6 => isO h5 a0 8 ((c 146 [.ref a0, .int x2, .int v6, .int 2, .int x8] h5).bind fun q7 => rV q7 fun h8 => ρ 172 [some (.ref a0), some (.int x1), some (.int x2), some (.int x3), some (.int x4), some (.int x5), none, none, none, none] [] h8)))) :=
 T1 (x_aload_n H rfl rfl) rfl
 (T1 (x_iload_n H rfl rfl) rfl
 (T1 (x_aload_n H rfl rfl) rfl
 ((x_getI H rfl).trans (gfI_c fun v1 =>
 U1 rfl (T1 (x_iconst H rfl ki_0) rfl
 (T1 (x_iload H rfl rfl) rfl
 ((x_callV (ci := 8) H rfl [.int x1, .int v1, .int 0, .int x8] rfl rfl rfl rfl).trans (isO_c (bi_c fun q2 => rV_c fun h3 =>
 U1 rfl (T1 (x_iload_n H rfl rfl) rfl
 (T1 (x_bipush H rfl kb_m4) rfl
 ((x_icmp_eq H rfl (t := 172) (by decide)).trans (if_c
 (U2 [some (.ref a0), some (.int x1), some (.int x2), some (.int x3), some (.int x4), some (.int x5), none, none, none, none] rfl rfl)
 (U1 rfl (T1 (x_aload_n H rfl rfl) rfl
 (T1 (x_iload H rfl rfl) rfl
 ((x_callV (ci := 8) H rfl [.int x7] rfl rfl rfl rfl).trans (isO_c (bi_c fun q4 => rV_c fun h5 =>
 U1 rfl (T1 (x_aload_n H rfl rfl) rfl
 (T1 (x_iload_n H rfl rfl) rfl
 (T1 (x_aload_n H rfl rfl) rfl
 ((x_getI H rfl).trans (gfI_c fun v6 =>
 U1 rfl (T1 (x_iconst H rfl ki_2) rfl
 (T1 (x_iload H rfl rfl) rfl
 ((x_callV (ci := 8) H rfl [.int x2, .int v6, .int 2, .int x8] rfl rfl rfl rfl).trans (isO_c (bi_c fun q7 => rV_c fun h8 =>
 U2 [some (.ref a0), some (.int x1), some (.int x2), some (.int x3), some (.int x4), some (.int x5), none, none, none, none] rfl rfl)))))))))))))))))))))))))))))
theorem nd_145_172 {c : Ct} {dd : Bool} {ρ : Kt} (H : St c dd mt_145 ρ) (h : AH) (a0 : Nat) (x1 : Int32) (x2 : Int32) (x3 : Int32) (x4 : Int32) (x5 : Int32) : ρ 172 [some (.ref a0), some (.int x1), some (.int x2), some (.int x3), some (.int x4), some (.int x5), none, none, none, none] [] h = ρ 6 [some (.ref a0), some (.int x1), some (.int x2), some (.int x3), some (.int x4), some (.int (x5 + 1)), none, none, none, none] [] h :=
 T2 [some (.ref a0), some (.int x1), some (.int x2), some (.int x3), some (.int x4), some (.int (x5 + 1)), none, none, none, none] (x_iinc H rfl ki_1 rfl rfl) rfl
 (T2 [some (.ref a0), some (.int x1), some (.int x2), some (.int x3), some (.int x4), some (.int (x5 + 1)), none, none, none, none] (x_goto H rfl (t := 6) (by decide)) rfl rfl)
-- X8_keepsReal (IIII)V: 146
theorem nd_146_0 {c : Ct} {dd : Bool} {ρ : Kt} (H : St c dd mt_146 ρ) (h : AH) (a0 : Nat) (x1 : Int32) (x2 : Int32) (x3 : Int32) (x4 : Int32) : ρ 0 [some (.ref a0), some (.int x1), some (.int x2), some (.int x3), some (.int x4), none, none] [] h = gfQ h a0 8 25 none fun b1 => ldI h b1 x3 fun v2 => if v2 = x4 then (ρ 33 [some (.ref a0), some (.int x1), some (.int x2), some (.int x3), none, none, none] [.int 0] h) else (gfQ h a0 8 25 none fun b3 => ldI h b3 (x3 + 1) fun v4 => if v4 = x4 then (ρ 33 [some (.ref a0), some (.int x1), some (.int x2), some (.int x3), none, none, none] [.int 1] h) else (ρ 33 [some (.ref a0), some (.int x1), some (.int x2), some (.int x3), none, none, none] [.int 2] h)) :=
 T1 (x_aload_n H rfl rfl) rfl
 ((x_getR H rfl).trans (gfQ_c rfl fun b1 =>
 U1 rfl (T1 (x_iload_n H rfl rfl) rfl
 ((x_iaload H rfl).trans (ldI_c fun v2 =>
 U1 rfl (T1 (x_iload H rfl rfl) rfl
 ((x_icmp_ne H rfl (t := 15) (by decide)).trans (if_c
 (U1 rfl (T1 (x_iconst H rfl ki_0) rfl
 (T2 [some (.ref a0), some (.int x1), some (.int x2), some (.int x3), none, none, none] (x_goto H rfl (t := 33) (by decide)) rfl rfl)))
 (U1 rfl (T1 (x_aload_n H rfl rfl) rfl
 ((x_getR H rfl).trans (gfQ_c rfl fun b3 =>
 U1 rfl (T1 (x_iload_n H rfl rfl) rfl
 (T1 (x_iconst H rfl ki_1) rfl
 (T1 (x_iadd H rfl) rfl
 ((x_iaload H rfl).trans (ldI_c fun v4 =>
 U1 rfl (T1 (x_iload H rfl rfl) rfl
 ((x_icmp_ne H rfl (t := 32) (by decide)).trans (if_c
 (U1 rfl (T1 (x_iconst H rfl ki_1) rfl
 (T2 [some (.ref a0), some (.int x1), some (.int x2), some (.int x3), none, none, none] (x_goto H rfl (t := 33) (by decide)) rfl rfl)))
 (U1 rfl (T2 [some (.ref a0), some (.int x1), some (.int x2), some (.int x3), none, none, none] (x_iconst H rfl ki_2) rfl rfl))))))))))))))))))))))
theorem nd_146_33 {c : Ct} {dd : Bool} {ρ : Kt} (H : St c dd mt_146 ρ) (h : AH) (a0 : Nat) (x1 : Int32) (x2 : Int32) (x3 : Int32) (s0_ : Int32) : ρ 33 [some (.ref a0), some (.int x1), some (.int x2), some (.int x3), none, none, none] [.int s0_] h = gfQ h a0 8 8 none fun b1 => gfI h a0 8 28 fun v2 => (c 115 [.int x1, .int x2, .int v2, .int s0_] h).bind fun q3 => rI q3 fun v5 h4 => ldI h4 b1 v5 fun v6 => if v6 = (-4) then (ρ 73 [none, none, none, none, none, none, none] [] h4) else (gfQ h4 a0 8 30 none fun b7 => gfI h4 a0 8 29 fun v8 => stI h4 b7 (x3 + v6) v8 fun h9 => ρ 73 [none, none, none, none, none, none, none] [] h9) :=
 T2 [some (.ref a0), some (.int x1), some (.int x2), some (.int x3), none, some (.int s0_), none] (x_istore H rfl rfl) rfl
 (T1 (x_aload_n H rfl rfl) rfl
 ((x_getR H rfl).trans (gfQ_c rfl fun b1 =>
 U1 rfl (T1 (x_iload_n H rfl rfl) rfl
 (T1 (x_iload_n H rfl rfl) rfl
 (T1 (x_aload_n H rfl rfl) rfl
 ((x_getI H rfl).trans (gfI_c fun v2 =>
 U1 rfl (T1 (x_iload H rfl rfl) rfl
 ((x_statI H rfl [.int x1, .int x2, .int v2, .int s0_] rfl rfl rfl rfl rfl).trans (bi_c fun q3 => rI_c fun v5 h4 =>
 U1 rfl ((x_iaload H rfl).trans (ldI_c fun v6 =>
 U1 rfl (T2 [some (.ref a0), some (.int x1), some (.int x2), some (.int x3), none, some (.int s0_), some (.int v6)] (x_istore H rfl rfl) rfl
 (T1 (x_iload H rfl rfl) rfl
 (T1 (x_bipush H rfl kb_m4) rfl
 ((x_icmp_eq H rfl (t := 73) (by decide)).trans (if_c
 (U2 [none, none, none, none, none, none, none] rfl rfl)
 (U1 rfl (T1 (x_aload_n H rfl rfl) rfl
 ((x_getR H rfl).trans (gfQ_c rfl fun b7 =>
 U1 rfl (T1 (x_iload_n H rfl rfl) rfl
 (T1 (x_iload H rfl rfl) rfl
 (T1 (x_iadd H rfl) rfl
 (T1 (x_aload_n H rfl rfl) rfl
 ((x_getI H rfl).trans (gfI_c fun v8 =>
 U1 rfl ((x_iastore H rfl).trans (stI_c fun h9 =>
 U2 [none, none, none, none, none, none, none] rfl rfl))))))))))))))))))))))))))))))
theorem nd_146_73 {c : Ct} {dd : Bool} {ρ : Kt} (H : St c dd mt_146 ρ) (h : AH)  : ρ 73 [none, none, none, none, none, none, none] [] h = some (none, h) :=
 x_return H rfl rfl
-- X8_lengthOf (II)I: 147
theorem nd_147_0 {c : Ct} {dd : Bool} {ρ : Kt} (H : St c dd mt_147 ρ) (h : AH) (a0 : Nat) (x1 : Int32) (x2 : Int32) : ρ 0 [some (.ref a0), some (.int x1), some (.int x2), none] [] h = isO h a0 8 ((c 143 [.ref a0, .int x1, .int x2] h).bind fun q1 => rI q1 fun v3 h2 => if v3 = (-4) then (ρ 23 [none, none, none, none] [.int (-4)] h2) else (isO h2 a0 8 ((c 144 [.ref a0, .int v3] h2).bind fun q4 => rI q4 fun v6 h5 => ρ 23 [none, none, none, none] [.int v6] h5))) :=
 T1 (x_aload_n H rfl rfl) rfl
 (T1 (x_iload_n H rfl rfl) rfl
 (T1 (x_iload_n H rfl rfl) rfl
 ((x_callI (ci := 8) H rfl [.int x1, .int x2] rfl rfl rfl rfl).trans (isO_c (bi_c fun q1 => rI_c fun v3 h2 =>
 U1 rfl (T2 [some (.ref a0), some (.int x1), some (.int x2), some (.int v3)] (x_istore_n H rfl rfl) rfl
 (T1 (x_iload_n H rfl rfl) rfl
 (T1 (x_bipush H rfl kb_m4) rfl
 ((x_icmp_ne H rfl (t := 18) (by decide)).trans (if_c
 (U1 rfl (T1 (x_bipush H rfl kb_m4) rfl
 (T2 [none, none, none, none] (x_goto H rfl (t := 23) (by decide)) rfl rfl)))
 (U1 rfl (T1 (x_aload_n H rfl rfl) rfl
 (T1 (x_iload_n H rfl rfl) rfl
 ((x_callI (ci := 8) H rfl [.int v3] rfl rfl rfl rfl).trans (isO_c (bi_c fun q4 => rI_c fun v6 h5 =>
 U2 [none, none, none, none] rfl rfl))))))))))))))))
theorem nd_147_23 {c : Ct} {dd : Bool} {ρ : Kt} (H : St c dd mt_147 ρ) (h : AH) (s0_ : Int32) : ρ 23 [none, none, none, none] [.int s0_] h = some (some (.int s0_), h) :=
 x_ireturn H rfl rfl
-- X8_atOf (IIII)I: 148
theorem nd_148_0 {c : Ct} {dd : Bool} {ρ : Kt} (H : St c dd mt_148 ρ) (h : AH) (a0 : Nat) (x1 : Int32) (x2 : Int32) (x3 : Int32) (x4 : Int32) : ρ 0 [some (.ref a0), some (.int x1), some (.int x2), some (.int x3), some (.int x4), none] [] h = isO h a0 8 ((c 147 [.ref a0, .int x1, .int x2] h).bind fun q1 => rI q1 fun v3 h2 => (c 107 [.long (x3).toInt64, .long 0, .long ((v3 - 1)).toInt64] h2).bind fun q4 => rI q4 fun v6 h5 => if v6 = 0 then (ρ 33 [none, none, none, none, none, none] [] h5) else ((c 107 [.long (x4).toInt64, .long 0, .long 1] h5).bind fun q7 => rI q7 fun v9 h8 => if v9 = 0 then (ρ 33 [none, none, none, none, none, none] [] h8) else (isO h8 a0 8 ((c 145 [.ref a0, .int x1, .int x2, .int x3] h8).bind fun q10 => rV q10 fun h11 => if x4 = 0 then (gfI h11 a0 8 28 fun v13 => ρ 58 [none, none, none, none, none, none] [.int v13] h11) else (gfI h11 a0 8 29 fun v12 => ρ 58 [none, none, none, none, none, none] [.int v12] h11))))) :=
 T1 (x_aload_n H rfl rfl) rfl
 (T1 (x_iload_n H rfl rfl) rfl
 (T1 (x_iload_n H rfl rfl) rfl
 ((x_callI (ci := 8) H rfl [.int x1, .int x2] rfl rfl rfl rfl).trans (isO_c (bi_c fun q1 => rI_c fun v3 h2 =>
 U1 rfl (T2 [some (.ref a0), some (.int x1), some (.int x2), some (.int x3), some (.int x4), some (.int v3)] (x_istore H rfl rfl) rfl
 (T1 (x_iload_n H rfl rfl) rfl
 (T1 (x_i2l H rfl) rfl
 (T1 (x_lconst H rfl kl_0) rfl
 (T1 (x_iload H rfl rfl) rfl
 (T1 (x_iconst H rfl ki_1) rfl
 (T1 (x_isub H rfl) rfl
 (T1 (x_i2l H rfl) rfl
 ((x_statZ H rfl [.long (x3).toInt64, .long 0, .long ((v3 - 1)).toInt64] rfl rfl rfl rfl rfl).trans (bi_c fun q4 => rI_c fun v6 h5 =>
 U1 rfl ((x_if_eq H rfl (t := 33) (by decide)).trans (if_c
 (U2 [none, none, none, none, none, none] rfl rfl)
 (U1 rfl (T1 (x_iload H rfl rfl) rfl
 (T1 (x_i2l H rfl) rfl
 (T1 (x_lconst H rfl kl_0) rfl
 (T1 (x_lconst H rfl kl_1) rfl
 ((x_statZ H rfl [.long (x4).toInt64, .long 0, .long 1] rfl rfl rfl rfl rfl).trans (bi_c fun q7 => rI_c fun v9 h8 =>
 U1 rfl ((x_if_ne H rfl (t := 35) (by decide)).trans (if_c
 (U2 [none, none, none, none, none, none] rfl rfl)
 (U1 rfl (T1 (x_aload_n H rfl rfl) rfl
 (T1 (x_iload_n H rfl rfl) rfl
 (T1 (x_iload_n H rfl rfl) rfl
 (T1 (x_iload_n H rfl rfl) rfl
 ((x_callV (ci := 8) H rfl [.int x1, .int x2, .int x3] rfl rfl rfl rfl).trans (isO_c (bi_c fun q10 => rV_c fun h11 =>
 U1 rfl (T1 (x_iload H rfl rfl) rfl
 ((x_if_ne H rfl (t := 54) (by decide)).trans (if_c
 (U1 rfl (T1 (x_aload_n H rfl rfl) rfl
 ((x_getI H rfl).trans (gfI_c fun v13 =>
 U1 rfl (T2 [none, none, none, none, none, none] (x_goto H rfl (t := 58) (by decide)) rfl rfl)))))
 (U1 rfl (T1 (x_aload_n H rfl rfl) rfl
 ((x_getI H rfl).trans (gfI_c fun v12 =>
 U2 [none, none, none, none, none, none] rfl rfl)))))))))))))))))))))))))))))))))))))))))
theorem nd_148_33 {c : Ct} {dd : Bool} {ρ : Kt} (H : St c dd mt_148 ρ) (h : AH)  : ρ 33 [none, none, none, none, none, none] [] h = some (some (.int (-1)), h) :=
 T1 (x_iconst H rfl ki_m1) rfl
 (x_ireturn H rfl rfl)
theorem nd_148_58 {c : Ct} {dd : Bool} {ρ : Kt} (H : St c dd mt_148 ρ) (h : AH) (s0_ : Int32) : ρ 58 [none, none, none, none, none, none] [.int s0_] h = some (some (.int s0_), h) :=
 x_ireturn H rfl rfl
-- X8_findAlive (I)V: 149
theorem nd_149_0 {c : Ct} {dd : Bool} {ρ : Kt} (H : St c dd mt_149 ρ) (h : AH) (a0 : Nat) (x1 : Int32) : ρ 0 [some (.ref a0), some (.int x1), none, none] [] h = isO h a0 8 ((c 140 [.ref a0, .int x1, .int (-4)] h).bind fun q1 => rV q1 fun h2 => ρ 9 [some (.ref a0), some (.int x1), some (.int 0), none] [] h2) :=
 T1 (x_aload_n H rfl rfl) rfl
 (T1 (x_iload_n H rfl rfl) rfl
 (T1 (x_bipush H rfl kb_m4) rfl
 ((x_callV (ci := 8) H rfl [.int x1, .int (-4)] rfl rfl rfl rfl).trans (isO_c (bi_c fun q1 => rV_c fun h2 =>
 U1 rfl (T1 (x_iconst H rfl ki_0) rfl
 (T2 [some (.ref a0), some (.int x1), some (.int 0), none] (x_istore_n H rfl rfl) rfl rfl)))))))
theorem nd_149_9 {c : Ct} {dd : Bool} {ρ : Kt} (H : St c dd mt_149 ρ) (h : AH) (a0 : Nat) (x1 : Int32) (x2 : Int32) : ρ 9 [some (.ref a0), some (.int x1), some (.int x2), none] [] h = gfI h a0 8 22 fun v1 => if v1 ≤ x2 then (ρ 47 [some (.ref a0), some (.int x1), some (.int 1), none] [] h) else (gfQ h a0 8 18 none fun b2 => gfQ h a0 8 19 none fun b3 => ldI h b3 x2 fun v4 => gfQ h a0 8 19 none fun b5 => ldI h b5 x2 fun v6 => isO h a0 8 ((c 141 [.ref a0, .int x1, .int v6] h).bind fun q7 => rI q7 fun v9 h8 => stZ h8 b2 v4 v9 fun h10 => ρ 9 [some (.ref a0), some (.int x1), some (.int (x2 + 1)), none] [] h10)) :=
 T1 (x_iload_n H rfl rfl) rfl
 (T1 (x_aload_n H rfl rfl) rfl
 ((x_getI H rfl).trans (gfI_c fun v1 =>
 U1 rfl ((x_icmp_ge H rfl (t := 45) (by decide)).trans (if_c
 (U1 rfl (T1 (x_iconst H rfl ki_1) rfl
 (T2 [some (.ref a0), some (.int x1), some (.int 1), none] (x_istore_n H rfl rfl) rfl rfl)))
 (U1 rfl (T1 (x_aload_n H rfl rfl) rfl
 ((x_getR H rfl).trans (gfQ_c rfl fun b2 =>
 U1 rfl (T1 (x_aload_n H rfl rfl) rfl
 ((x_getR H rfl).trans (gfQ_c rfl fun b3 =>
 U1 rfl (T1 (x_iload_n H rfl rfl) rfl
 ((x_iaload H rfl).trans (ldI_c fun v4 =>
 U1 rfl (T1 (x_aload_n H rfl rfl) rfl
 (T1 (x_iload_n H rfl rfl) rfl
 (T1 (x_aload_n H rfl rfl) rfl
 ((x_getR H rfl).trans (gfQ_c rfl fun b5 =>
 U1 rfl (T1 (x_iload_n H rfl rfl) rfl
 ((x_iaload H rfl).trans (ldI_c fun v6 =>
 U1 rfl ((x_callZ (ci := 8) H rfl [.int x1, .int v6] rfl rfl rfl rfl).trans (isO_c (bi_c fun q7 => rI_c fun v9 h8 =>
 U1 rfl ((x_bastore H rfl).trans (stZ_c fun h10 =>
 U1 rfl (T2 [some (.ref a0), some (.int x1), some (.int (x2 + 1)), none] (x_iinc H rfl ki_1 rfl rfl) rfl
 (T2 [some (.ref a0), some (.int x1), some (.int (x2 + 1)), none] (x_goto H rfl (t := 9) (by decide)) rfl rfl))))))))))))))))))))))))))))))
theorem nd_149_47 {c : Ct} {dd : Bool} {ρ : Kt} (H : St c dd mt_149 ρ) (h : AH) (a0 : Nat) (x1 : Int32) (x2 : Int32) : ρ 47 [some (.ref a0), some (.int x1), some (.int x2), none] [] h = if x2 = 0 then (some (none, h)) else (ρ 55 [some (.ref a0), some (.int x1), some (.int 0), some (.int 0)] [] h) :=
 T1 (x_iload_n H rfl rfl) rfl
 ((x_if_eq H rfl (t := 114) (by decide)).trans (if_c
 (U1 rfl (x_return H rfl rfl))
 (U1 rfl (T1 (x_iconst H rfl ki_0) rfl
 (T2 [some (.ref a0), some (.int x1), some (.int 0), none] (x_istore_n H rfl rfl) rfl
 (T1 (x_iconst H rfl ki_0) rfl
 (T2 [some (.ref a0), some (.int x1), some (.int 0), some (.int 0)] (x_istore_n H rfl rfl) rfl rfl)))))))
theorem nd_149_55 {c : Ct} {dd : Bool} {ρ : Kt} (H : St c dd mt_149 ρ) (h : AH) (a0 : Nat) (x1 : Int32) (x2 : Int32) (x3 : Int32) : ρ 55 [some (.ref a0), some (.int x1), some (.int x2), some (.int x3)] [] h = gfI h a0 8 22 fun v1 => if v1 ≤ x3 then (ρ 47 [some (.ref a0), some (.int x1), some (.int x2), none] [] h) else (gfQ h a0 8 18 none fun b2 => gfQ h a0 8 19 none fun b3 => ldI h b3 x3 fun v4 => ldZ h b2 v4 fun v5 => if v5 = 0 then (gfQ h a0 8 19 none fun b6 => ldI h b6 x3 fun v7 => isO h a0 8 ((c 150 [.ref a0, .int x1, .int v7] h).bind fun q8 => rI q8 fun v10 h9 => if v10 = 0 then (ρ 105 [some (.ref a0), some (.int x1), some (.int x2), some (.int x3)] [] h9) else (gfQ h9 a0 8 18 none fun b11 => gfQ h9 a0 8 19 none fun b12 => ldI h9 b12 x3 fun v13 => stZ h9 b11 v13 1 fun h14 => ρ 105 [some (.ref a0), some (.int x1), some (.int 1), some (.int x3)] [] h14))) else (ρ 105 [some (.ref a0), some (.int x1), some (.int x2), some (.int x3)] [] h)) :=
 T1 (x_iload_n H rfl rfl) rfl
 (T1 (x_aload_n H rfl rfl) rfl
 ((x_getI H rfl).trans (gfI_c fun v1 =>
 U1 rfl ((x_icmp_ge H rfl (t := 111) (by decide)).trans (if_c
 (U1 rfl (T2 [some (.ref a0), some (.int x1), some (.int x2), none] (x_goto H rfl (t := 47) (by decide)) rfl rfl))
 (U1 rfl (T1 (x_aload_n H rfl rfl) rfl
 ((x_getR H rfl).trans (gfQ_c rfl fun b2 =>
 U1 rfl (T1 (x_aload_n H rfl rfl) rfl
 ((x_getR H rfl).trans (gfQ_c rfl fun b3 =>
 U1 rfl (T1 (x_iload_n H rfl rfl) rfl
 ((x_iaload H rfl).trans (ldI_c fun v4 =>
 U1 rfl ((x_baload H rfl).trans (ldZ_c fun v5 =>
 U1 rfl ((x_if_ne H rfl (t := 105) (by decide)).trans (if_c
 (U1 rfl (T1 (x_aload_n H rfl rfl) rfl
 (T1 (x_iload_n H rfl rfl) rfl
 (T1 (x_aload_n H rfl rfl) rfl
 ((x_getR H rfl).trans (gfQ_c rfl fun b6 =>
 U1 rfl (T1 (x_iload_n H rfl rfl) rfl
 ((x_iaload H rfl).trans (ldI_c fun v7 =>
 U1 rfl ((x_callZ (ci := 8) H rfl [.int x1, .int v7] rfl rfl rfl rfl).trans (isO_c (bi_c fun q8 => rI_c fun v10 h9 =>
 U1 rfl ((x_if_eq H rfl (t := 105) (by decide)).trans (if_c
 (U2 [some (.ref a0), some (.int x1), some (.int x2), some (.int x3)] rfl rfl)
 (U1 rfl (T1 (x_aload_n H rfl rfl) rfl
 ((x_getR H rfl).trans (gfQ_c rfl fun b11 =>
 U1 rfl (T1 (x_aload_n H rfl rfl) rfl
 ((x_getR H rfl).trans (gfQ_c rfl fun b12 =>
 U1 rfl (T1 (x_iload_n H rfl rfl) rfl
 ((x_iaload H rfl).trans (ldI_c fun v13 =>
 U1 rfl (T1 (x_iconst H rfl ki_1) rfl
 ((x_bastore H rfl).trans (stZ_c fun h14 =>
 U1 rfl (T1 (x_iconst H rfl ki_1) rfl
 (T2 [some (.ref a0), some (.int x1), some (.int 1), some (.int x3)] (x_istore_n H rfl rfl) rfl rfl)))))))))))))))))))))))))))))
 (U2 [some (.ref a0), some (.int x1), some (.int x2), some (.int x3)] rfl rfl))))))))))))))))))))
theorem nd_149_105 {c : Ct} {dd : Bool} {ρ : Kt} (H : St c dd mt_149 ρ) (h : AH) (a0 : Nat) (x1 : Int32) (x2 : Int32) (x3 : Int32) : ρ 105 [some (.ref a0), some (.int x1), some (.int x2), some (.int x3)] [] h = ρ 55 [some (.ref a0), some (.int x1), some (.int x2), some (.int (x3 + 1))] [] h :=
 T2 [some (.ref a0), some (.int x1), some (.int x2), some (.int (x3 + 1))] (x_iinc H rfl ki_1 rfl rfl) rfl
 (T2 [some (.ref a0), some (.int x1), some (.int x2), some (.int (x3 + 1))] (x_goto H rfl (t := 55) (by decide)) rfl rfl)
-- X8_leadsOn (II)Z: 150
theorem nd_150_0 {c : Ct} {dd : Bool} {ρ : Kt} (H : St c dd mt_150 ρ) (h : AH) (a0 : Nat) (x1 : Int32) (x2 : Int32) : ρ 0 [some (.ref a0), some (.int x1), some (.int x2), none, none, none, none] [] h = isO h a0 8 ((c 139 [.ref a0, .int x2] h).bind fun q1 => rI q1 fun v3 h2 => ρ 12 [some (.ref a0), some (.int x1), some (.int x2), some (.int v3), some (.int 0), some (.int 0), none] [] h2) :=
 T1 (x_aload_n H rfl rfl) rfl
 (T1 (x_iload_n H rfl rfl) rfl
 ((x_callI (ci := 8) H rfl [.int x2] rfl rfl rfl rfl).trans (isO_c (bi_c fun q1 => rI_c fun v3 h2 =>
 U1 rfl (T2 [some (.ref a0), some (.int x1), some (.int x2), some (.int v3), none, none, none] (x_istore_n H rfl rfl) rfl
 (T1 (x_iconst H rfl ki_0) rfl
 (T2 [some (.ref a0), some (.int x1), some (.int x2), some (.int v3), some (.int 0), none, none] (x_istore H rfl rfl) rfl
 (T1 (x_iconst H rfl ki_0) rfl
 (T2 [some (.ref a0), some (.int x1), some (.int x2), some (.int v3), some (.int 0), some (.int 0), none] (x_istore H rfl rfl) rfl rfl)))))))))
theorem nd_150_12 {c : Ct} {dd : Bool} {ρ : Kt} (H : St c dd mt_150 ρ) (h : AH) (a0 : Nat) (x1 : Int32) (x2 : Int32) (x3 : Int32) (x4 : Int32) (x5 : Int32) : ρ 12 [some (.ref a0), some (.int x1), some (.int x2), some (.int x3), some (.int x4), some (.int x5), none] [] h = if 3 ≤ x5 then (isZ x4 (some (some (.int x4), h))) else (ρ 21 [some (.ref a0), some (.int x1), some (.int x2), some (.int x3), some (.int x4), some (.int x5), some (.int 1)] [] h) :=
 T1 (x_iload H rfl rfl) rfl
 (T1 (x_iconst H rfl ki_3) rfl
 ((x_icmp_ge H rfl (t := 77) (by decide)).trans (if_c
 (U1 rfl (T1 (x_iload H rfl rfl) rfl
 (x_zreturn H rfl rfl)))
 (U1 rfl (T1 (x_iconst H rfl ki_1) rfl
 (T2 [some (.ref a0), some (.int x1), some (.int x2), some (.int x3), some (.int x4), some (.int x5), some (.int 1)] (x_istore H rfl rfl) rfl rfl))))))
theorem nd_150_21 {c : Ct} {dd : Bool} {ρ : Kt} (H : St c dd mt_150 ρ) (h : AH) (a0 : Nat) (x1 : Int32) (x2 : Int32) (x3 : Int32) (x4 : Int32) (x5 : Int32) (x6 : Int32) : ρ 21 [some (.ref a0), some (.int x1), some (.int x2), some (.int x3), some (.int x4), some (.int x5), some (.int x6)] [] h = if (x3 + 1) < x6 then (ρ 12 [some (.ref a0), some (.int x1), some (.int x2), some (.int x3), some (.int x4), some (.int (x5 + 1)), none] [] h) else (if x4 = 0 then (gfQ h a0 8 18 none fun b1 => isO h a0 8 ((c 138 [.ref a0, .int x1, .int (-4), .int x2, .int ((8 * x5) + x6)] h).bind fun q2 => rI q2 fun v4 h3 => ldZ h3 b1 v4 fun v5 => if v5 = 0 then (ρ 63 [some (.ref a0), some (.int x1), some (.int x2), some (.int x3), none, some (.int x5), some (.int x6)] [.int 0] h3) else (ρ 58 [some (.ref a0), some (.int x1), some (.int x2), some (.int x3), none, some (.int x5), some (.int x6)] [] h3))) else (ρ 58 [some (.ref a0), some (.int x1), some (.int x2), some (.int x3), none, some (.int x5), some (.int x6)] [] h)) :=
 T1 (x_iload H rfl rfl) rfl
 (T1 (x_iload_n H rfl rfl) rfl
 (T1 (x_iconst H rfl ki_1) rfl
 (T1 (x_iadd H rfl) rfl
 ((x_icmp_gt H rfl (t := 71) (by decide)).trans (if_c
 (U1 rfl (T2 [some (.ref a0), some (.int x1), some (.int x2), some (.int x3), some (.int x4), some (.int (x5 + 1)), some (.int x6)] (x_iinc H rfl ki_1 rfl rfl) rfl
 (T2 [some (.ref a0), some (.int x1), some (.int x2), some (.int x3), some (.int x4), some (.int (x5 + 1)), none] (x_goto H rfl (t := 12) (by decide)) rfl rfl)))
 (U1 rfl (T1 (x_iload H rfl rfl) rfl
 ((x_if_ne H rfl (t := 58) (by decide)).trans (if_c
 (U1 rfl (T1 (x_aload_n H rfl rfl) rfl
 ((x_getR H rfl).trans (gfQ_c rfl fun b1 =>
 U1 rfl (T1 (x_aload_n H rfl rfl) rfl
 (T1 (x_iload_n H rfl rfl) rfl
 (T1 (x_bipush H rfl kb_m4) rfl
 (T1 (x_iload_n H rfl rfl) rfl
 (T1 (x_bipush H rfl kb_8) rfl
 (T1 (x_iload H rfl rfl) rfl
 (T1 (x_imul H rfl) rfl
 (T1 (x_iload H rfl rfl) rfl
 (T1 (x_iadd H rfl) rfl
 ((x_callI (ci := 8) H rfl [.int x1, .int (-4), .int x2, .int ((8 * x5) + x6)] rfl rfl rfl rfl).trans (isO_c (bi_c fun q2 => rI_c fun v4 h3 =>
 U1 rfl ((x_baload H rfl).trans (ldZ_c fun v5 =>
 U1 rfl ((x_if_eq H rfl (t := 62) (by decide)).trans (if_c
 (U1 rfl (T2 [some (.ref a0), some (.int x1), some (.int x2), some (.int x3), none, some (.int x5), some (.int x6)] (x_iconst H rfl ki_0) rfl rfl))
 (U2 [some (.ref a0), some (.int x1), some (.int x2), some (.int x3), none, some (.int x5), some (.int x6)] rfl rfl)))))))))))))))))))))
 (U2 [some (.ref a0), some (.int x1), some (.int x2), some (.int x3), none, some (.int x5), some (.int x6)] rfl rfl))))))))))
theorem nd_150_58 {c : Ct} {dd : Bool} {ρ : Kt} (H : St c dd mt_150 ρ) (h : AH) (a0 : Nat) (x1 : Int32) (x2 : Int32) (x3 : Int32) (x5 : Int32) (x6 : Int32) : ρ 58 [some (.ref a0), some (.int x1), some (.int x2), some (.int x3), none, some (.int x5), some (.int x6)] [] h = ρ 63 [some (.ref a0), some (.int x1), some (.int x2), some (.int x3), none, some (.int x5), some (.int x6)] [.int 1] h :=
 T1 (x_iconst H rfl ki_1) rfl
 (T2 [some (.ref a0), some (.int x1), some (.int x2), some (.int x3), none, some (.int x5), some (.int x6)] (x_goto H rfl (t := 63) (by decide)) rfl rfl)
theorem nd_150_63 {c : Ct} {dd : Bool} {ρ : Kt} (H : St c dd mt_150 ρ) (h : AH) (a0 : Nat) (x1 : Int32) (x2 : Int32) (x3 : Int32) (x5 : Int32) (x6 : Int32) (s0_ : Int32) : ρ 63 [some (.ref a0), some (.int x1), some (.int x2), some (.int x3), none, some (.int x5), some (.int x6)] [.int s0_] h = ρ 21 [some (.ref a0), some (.int x1), some (.int x2), some (.int x3), some (.int s0_), some (.int x5), some (.int (x6 + 1))] [] h :=
 T2 [some (.ref a0), some (.int x1), some (.int x2), some (.int x3), some (.int s0_), some (.int x5), some (.int x6)] (x_istore H rfl rfl) rfl
 (T2 [some (.ref a0), some (.int x1), some (.int x2), some (.int x3), some (.int s0_), some (.int x5), some (.int (x6 + 1))] (x_iinc H rfl ki_1 rfl rfl) rfl
 (T2 [some (.ref a0), some (.int x1), some (.int x2), some (.int x3), some (.int s0_), some (.int x5), some (.int (x6 + 1))] (x_goto H rfl (t := 21) (by decide)) rfl rfl))
-- X8_orbitOf (IZIZI)I: 151
theorem nd_151_0 {c : Ct} {dd : Bool} {ρ : Kt} (H : St c dd mt_151 ρ) (h : AH) (a0 : Nat) (x1 : Int32) (x2 : Int32) (x3 : Int32) (x4 : Int32) (x5 : Int32) : ρ 0 [some (.ref a0), some (.int x1), some (.int x2), some (.int x3), some (.int x4), some (.int x5)] [] h = pfV h a0 8 23 (.int x1) fun h1 => pfV h1 a0 8 24 (.int 0) fun h2 => gfQ h2 a0 8 25 none fun b3 => if x2 = 0 then (ρ 24 [some (.ref a0), none, some (.int x2), some (.int x3), some (.int x4), some (.int x5)] [.int 0, .int 0, .ref b3] h2) else (ρ 24 [some (.ref a0), none, some (.int x2), some (.int x3), some (.int x4), some (.int x5)] [.int 1, .int 0, .ref b3] h2) :=
 T1 (x_aload_n H rfl rfl) rfl
 (T1 (x_iload_n H rfl rfl) rfl
 ((x_putI H rfl).trans (pfV_c fun h1 =>
 U1 rfl (T1 (x_aload_n H rfl rfl) rfl
 (T1 (x_iconst H rfl ki_0) rfl
 ((x_putI H rfl).trans (pfV_c fun h2 =>
 U1 rfl (T1 (x_aload_n H rfl rfl) rfl
 ((x_getR H rfl).trans (gfQ_c rfl fun b3 =>
 U1 rfl (T1 (x_iconst H rfl ki_0) rfl
 (T1 (x_iload_n H rfl rfl) rfl
 ((x_if_eq H rfl (t := 23) (by decide)).trans (if_c
 (U1 rfl (T2 [some (.ref a0), none, some (.int x2), some (.int x3), some (.int x4), some (.int x5)] (x_iconst H rfl ki_0) rfl rfl))
 (U1 rfl (T1 (x_iconst H rfl ki_1) rfl
 (T2 [some (.ref a0), none, some (.int x2), some (.int x3), some (.int x4), some (.int x5)] (x_goto H rfl (t := 24) (by decide)) rfl rfl)))))))))))))))))
theorem nd_151_24 {c : Ct} {dd : Bool} {ρ : Kt} (H : St c dd mt_151 ρ) (h : AH) (a0 : Nat) (x2 : Int32) (x3 : Int32) (x4 : Int32) (x5 : Int32) (s0_ : Int32) (s1_ : Int32) (c2_ : Nat) : ρ 24 [some (.ref a0), none, some (.int x2), some (.int x3), some (.int x4), some (.int x5)] [.int s0_, .int s1_, .ref c2_] h = stI h c2_ s1_ s0_ fun h1 => gfQ h1 a0 8 25 none fun b2 => if x4 = 0 then (ρ 54 [some (.ref a0), none, none, none, none, none] [.int 0, .int 1, .ref b2] h1) else (if x2 = 0 then (ρ 53 [some (.ref a0), none, none, none, none, none] [.int 1, .ref b2] h1) else (if x3 = x5 then (ρ 54 [some (.ref a0), none, none, none, none, none] [.int 1, .int 1, .ref b2] h1) else (ρ 53 [some (.ref a0), none, none, none, none, none] [.int 1, .ref b2] h1))) :=
 (x_iastore H rfl).trans (stI_c fun h1 =>
 U1 rfl (T1 (x_aload_n H rfl rfl) rfl
 ((x_getR H rfl).trans (gfQ_c rfl fun b2 =>
 U1 rfl (T1 (x_iconst H rfl ki_1) rfl
 (T1 (x_iload H rfl rfl) rfl
 ((x_if_ne H rfl (t := 39) (by decide)).trans (if_c
 (U1 rfl (T1 (x_iconst H rfl ki_0) rfl
 (T2 [some (.ref a0), none, none, none, none, none] (x_goto H rfl (t := 54) (by decide)) rfl rfl)))
 (U1 rfl (T1 (x_iload_n H rfl rfl) rfl
 ((x_if_eq H rfl (t := 53) (by decide)).trans (if_c
 (U2 [some (.ref a0), none, none, none, none, none] rfl rfl)
 (U1 rfl (T1 (x_iload_n H rfl rfl) rfl
 (T1 (x_iload H rfl rfl) rfl
 ((x_icmp_ne H rfl (t := 53) (by decide)).trans (if_c
 (U1 rfl (T1 (x_iconst H rfl ki_1) rfl
 (T2 [some (.ref a0), none, none, none, none, none] (x_goto H rfl (t := 54) (by decide)) rfl rfl)))
 (U2 [some (.ref a0), none, none, none, none, none] rfl rfl))))))))))))))))))
theorem nd_151_53 {c : Ct} {dd : Bool} {ρ : Kt} (H : St c dd mt_151 ρ) (h : AH) (a0 : Nat) (s0_ : Int32) (c1_ : Nat) : ρ 53 [some (.ref a0), none, none, none, none, none] [.int s0_, .ref c1_] h = ρ 54 [some (.ref a0), none, none, none, none, none] [.int 2, .int s0_, .ref c1_] h :=
 T2 [some (.ref a0), none, none, none, none, none] (x_iconst H rfl ki_2) rfl rfl
theorem nd_151_54 {c : Ct} {dd : Bool} {ρ : Kt} (H : St c dd mt_151 ρ) (h : AH) (a0 : Nat) (s0_ : Int32) (s1_ : Int32) (c2_ : Nat) : ρ 54 [some (.ref a0), none, none, none, none, none] [.int s0_, .int s1_, .ref c2_] h = stI h c2_ s1_ s0_ fun h1 => gfQ h1 a0 8 25 none fun b2 => stI h1 b2 2 0 fun h3 => gfQ h3 a0 8 25 none fun b4 => stI h3 b4 3 0 fun h5 => isO h5 a0 8 ((c 135 [.ref a0] h5).bind fun q6 => rI q6 fun v8 h7 => some (some (.int v8), h7)) :=
 (x_iastore H rfl).trans (stI_c fun h1 =>
 U1 rfl (T1 (x_aload_n H rfl rfl) rfl
 ((x_getR H rfl).trans (gfQ_c rfl fun b2 =>
 U1 rfl (T1 (x_iconst H rfl ki_2) rfl
 (T1 (x_iconst H rfl ki_0) rfl
 ((x_iastore H rfl).trans (stI_c fun h3 =>
 U1 rfl (T1 (x_aload_n H rfl rfl) rfl
 ((x_getR H rfl).trans (gfQ_c rfl fun b4 =>
 U1 rfl (T1 (x_iconst H rfl ki_3) rfl
 (T1 (x_iconst H rfl ki_0) rfl
 ((x_iastore H rfl).trans (stI_c fun h5 =>
 U1 rfl (T1 (x_aload_n H rfl rfl) rfl
 ((x_callI (ci := 8) H rfl [] rfl rfl rfl rfl).trans (isO_c (bi_c fun q6 => rI_c fun v8 h7 =>
 U1 rfl (x_ireturn H rfl rfl))))))))))))))))))))
-- X8_doomed (I)I: 152
theorem nd_152_0 {c : Ct} {dd : Bool} {ρ : Kt} (H : St c dd mt_152 ρ) (h : AH) (a0 : Nat) (x1 : Int32) : ρ 0 [some (.ref a0), some (.int x1), none] [] h = isO h a0 8 ((c 113 [.ref a0, .int x1] h).bind fun q1 => rI q1 fun v3 h2 => if v3 = 0 then (some (some (.int (-1)), h2)) else (isO h2 a0 8 ((c 149 [.ref a0, .int x1] h2).bind fun q4 => rV q4 fun h5 => isO h5 a0 8 ((c 129 [.ref a0] h5).bind fun q6 => rV q6 fun h7 => ρ 21 [some (.ref a0), some (.int x1), some (.int 0)] [] h7)))) :=
 T1 (x_aload_n H rfl rfl) rfl
 (T1 (x_iload_n H rfl rfl) rfl
 ((x_callZ (ci := 8) H rfl [.int x1] rfl rfl rfl rfl).trans (isO_c (bi_c fun q1 => rI_c fun v3 h2 =>
 U1 rfl ((x_if_ne H rfl (t := 10) (by decide)).trans (if_c
 (U1 rfl (T1 (x_iconst H rfl ki_m1) rfl
 (x_ireturn H rfl rfl)))
 (U1 rfl (T1 (x_aload_n H rfl rfl) rfl
 (T1 (x_iload_n H rfl rfl) rfl
 ((x_callV (ci := 8) H rfl [.int x1] rfl rfl rfl rfl).trans (isO_c (bi_c fun q4 => rV_c fun h5 =>
 U1 rfl (T1 (x_aload_n H rfl rfl) rfl
 ((x_callV (ci := 8) H rfl [] rfl rfl rfl rfl).trans (isO_c (bi_c fun q6 => rV_c fun h7 =>
 U1 rfl (T1 (x_iconst H rfl ki_0) rfl
 (T2 [some (.ref a0), some (.int x1), some (.int 0)] (x_istore_n H rfl rfl) rfl rfl))))))))))))))))))
theorem nd_152_21 {c : Ct} {dd : Bool} {ρ : Kt} (H : St c dd mt_152 ρ) (h : AH) (a0 : Nat) (x1 : Int32) (x2 : Int32) : ρ 21 [some (.ref a0), some (.int x1), some (.int x2)] [] h = gfI h a0 8 0 fun v1 => if v1 < x2 then (some (some (.int (-4)), h)) else (gfQ h a0 8 18 none fun b2 => gfI h a0 8 12 fun v3 => gfQ h a0 8 13 none fun b4 => ldZ h b4 0 fun v5 => gfQ h a0 8 14 none fun b6 => ldI h b6 0 fun v7 => gfQ h a0 8 13 none fun b8 => ldZ h b8 1 fun v9 => gfQ h a0 8 14 none fun b10 => ldI h b10 1 fun v11 => isO h a0 8 ((c 151 [.ref a0, .int v3, .int v5, .int v7, .int v9, .int v11] h).bind fun q12 => rI q12 fun v14 h13 => ldZ h13 b2 v14 fun v15 => if v15 = 0 then (some (some (.int x2), h13)) else (gfI h13 a0 8 0 fun v16 => if v16 ≤ x2 then (ρ 97 [some (.ref a0), some (.int x1), some (.int x2)] [] h13) else (gfQ h13 a0 8 1 none fun b17 => ldI h13 b17 x2 fun v18 => gfQ h13 a0 8 2 none fun b19 => ldI h13 b19 x2 fun v20 => isO h13 a0 8 ((c 130 [.ref a0, .int x1, .int v18, .int v20, .int x2] h13).bind fun q21 => rV q21 fun h22 => ρ 97 [some (.ref a0), some (.int x1), some (.int x2)] [] h22))))) :=
 T1 (x_iload_n H rfl rfl) rfl
 (T1 (x_aload_n H rfl rfl) rfl
 ((x_getI H rfl).trans (gfI_c fun v1 =>
 U1 rfl ((x_icmp_gt H rfl (t := 103) (by decide)).trans (if_c
 (U1 rfl (T1 (x_bipush H rfl kb_m4) rfl
 (x_ireturn H rfl rfl)))
 (U1 rfl (T1 (x_aload_n H rfl rfl) rfl
 ((x_getR H rfl).trans (gfQ_c rfl fun b2 =>
 U1 rfl (T1 (x_aload_n H rfl rfl) rfl
 (T1 (x_aload_n H rfl rfl) rfl
 ((x_getI H rfl).trans (gfI_c fun v3 =>
 U1 rfl (T1 (x_aload_n H rfl rfl) rfl
 ((x_getR H rfl).trans (gfQ_c rfl fun b4 =>
 U1 rfl (T1 (x_iconst H rfl ki_0) rfl
 ((x_baload H rfl).trans (ldZ_c fun v5 =>
 U1 rfl (T1 (x_aload_n H rfl rfl) rfl
 ((x_getR H rfl).trans (gfQ_c rfl fun b6 =>
 U1 rfl (T1 (x_iconst H rfl ki_0) rfl
 ((x_iaload H rfl).trans (ldI_c fun v7 =>
 U1 rfl (T1 (x_aload_n H rfl rfl) rfl
 ((x_getR H rfl).trans (gfQ_c rfl fun b8 =>
 U1 rfl (T1 (x_iconst H rfl ki_1) rfl
 ((x_baload H rfl).trans (ldZ_c fun v9 =>
 U1 rfl (T1 (x_aload_n H rfl rfl) rfl
 ((x_getR H rfl).trans (gfQ_c rfl fun b10 =>
 U1 rfl (T1 (x_iconst H rfl ki_1) rfl
 ((x_iaload H rfl).trans (ldI_c fun v11 =>
 U1 rfl ((x_callI (ci := 8) H rfl [.int v3, .int v5, .int v7, .int v9, .int v11] rfl rfl rfl rfl).trans (isO_c (bi_c fun q12 => rI_c fun v14 h13 =>
 U1 rfl ((x_baload H rfl).trans (ldZ_c fun v15 =>
 U1 rfl ((x_if_ne H rfl (t := 71) (by decide)).trans (if_c
 (U1 rfl (T1 (x_iload_n H rfl rfl) rfl
 (x_ireturn H rfl rfl)))
 (U1 rfl (T1 (x_iload_n H rfl rfl) rfl
 (T1 (x_aload_n H rfl rfl) rfl
 ((x_getI H rfl).trans (gfI_c fun v16 =>
 U1 rfl ((x_icmp_ge H rfl (t := 97) (by decide)).trans (if_c
 (U2 [some (.ref a0), some (.int x1), some (.int x2)] rfl rfl)
 (U1 rfl (T1 (x_aload_n H rfl rfl) rfl
 (T1 (x_iload_n H rfl rfl) rfl
 (T1 (x_aload_n H rfl rfl) rfl
 ((x_getR H rfl).trans (gfQ_c rfl fun b17 =>
 U1 rfl (T1 (x_iload_n H rfl rfl) rfl
 ((x_iaload H rfl).trans (ldI_c fun v18 =>
 U1 rfl (T1 (x_aload_n H rfl rfl) rfl
 ((x_getR H rfl).trans (gfQ_c rfl fun b19 =>
 U1 rfl (T1 (x_iload_n H rfl rfl) rfl
 ((x_iaload H rfl).trans (ldI_c fun v20 =>
 U1 rfl (T1 (x_iload_n H rfl rfl) rfl
 ((x_callV (ci := 8) H rfl [.int x1, .int v18, .int v20, .int x2] rfl rfl rfl rfl).trans (isO_c (bi_c fun q21 => rV_c fun h22 =>
 U2 [some (.ref a0), some (.int x1), some (.int x2)] rfl rfl))))))))))))))))))))))))))))))))))))))))))))))))))))))))))))))))))))))
theorem nd_152_97 {c : Ct} {dd : Bool} {ρ : Kt} (H : St c dd mt_152 ρ) (h : AH) (a0 : Nat) (x1 : Int32) (x2 : Int32) : ρ 97 [some (.ref a0), some (.int x1), some (.int x2)] [] h = ρ 21 [some (.ref a0), some (.int x1), some (.int (x2 + 1))] [] h :=
 T2 [some (.ref a0), some (.int x1), some (.int (x2 + 1))] (x_iinc H rfl ki_1 rfl rfl) rfl
 (T2 [some (.ref a0), some (.int x1), some (.int (x2 + 1))] (x_goto H rfl (t := 21) (by decide)) rfl rfl)
-- X8_orbits (II)I: 153
theorem nd_153_0 {c : Ct} {dd : Bool} {ρ : Kt} (H : St c dd mt_153 ρ) (h : AH) (a0 : Nat) (x1 : Int32) (x2 : Int32) : ρ 0 [some (.ref a0), some (.int x1), some (.int x2), none, none, none, none] [] h = isO h a0 8 ((c 113 [.ref a0, .int x1] h).bind fun q1 => rI q1 fun v3 h2 => if v3 = 0 then (ρ 20 [none, none, none, none, none, none, none] [] h2) else ((c 107 [.long (x2).toInt64, .long 0, .long 2] h2).bind fun q4 => rI q4 fun v6 h5 => if v6 = 0 then (ρ 20 [none, none, none, none, none, none, none] [] h5) else (isO h5 a0 8 ((c 149 [.ref a0, .int x1] h5).bind fun q7 => rV q7 fun h8 => ρ 35 [some (.ref a0), none, some (.int x2), some (.int 0), some (.int 0), some (.int 0), none] [] h8)))) :=
 T1 (x_aload_n H rfl rfl) rfl
 (T1 (x_iload_n H rfl rfl) rfl
 ((x_callZ (ci := 8) H rfl [.int x1] rfl rfl rfl rfl).trans (isO_c (bi_c fun q1 => rI_c fun v3 h2 =>
 U1 rfl ((x_if_eq H rfl (t := 20) (by decide)).trans (if_c
 (U2 [none, none, none, none, none, none, none] rfl rfl)
 (U1 rfl (T1 (x_iload_n H rfl rfl) rfl
 (T1 (x_i2l H rfl) rfl
 (T1 (x_lconst H rfl kl_0) rfl
 (T1 (x_ldc2 H rfl kl_2) rfl
 ((x_statZ H rfl [.long (x2).toInt64, .long 0, .long 2] rfl rfl rfl rfl rfl).trans (bi_c fun q4 => rI_c fun v6 h5 =>
 U1 rfl ((x_if_ne H rfl (t := 22) (by decide)).trans (if_c
 (U2 [none, none, none, none, none, none, none] rfl rfl)
 (U1 rfl (T1 (x_aload_n H rfl rfl) rfl
 (T1 (x_iload_n H rfl rfl) rfl
 ((x_callV (ci := 8) H rfl [.int x1] rfl rfl rfl rfl).trans (isO_c (bi_c fun q7 => rV_c fun h8 =>
 U1 rfl (T1 (x_iconst H rfl ki_0) rfl
 (T2 [some (.ref a0), some (.int x1), some (.int x2), some (.int 0), none, none, none] (x_istore_n H rfl rfl) rfl
 (T1 (x_iconst H rfl ki_0) rfl
 (T2 [some (.ref a0), some (.int x1), some (.int x2), some (.int 0), some (.int 0), none, none] (x_istore H rfl rfl) rfl
 (T1 (x_iconst H rfl ki_0) rfl
 (T2 [some (.ref a0), none, some (.int x2), some (.int 0), some (.int 0), some (.int 0), none] (x_istore H rfl rfl) rfl rfl)))))))))))))))))))))))))))
theorem nd_153_20 {c : Ct} {dd : Bool} {ρ : Kt} (H : St c dd mt_153 ρ) (h : AH)  : ρ 20 [none, none, none, none, none, none, none] [] h = some (some (.int (-1)), h) :=
 T1 (x_iconst H rfl ki_m1) rfl
 (x_ireturn H rfl rfl)
theorem nd_153_35 {c : Ct} {dd : Bool} {ρ : Kt} (H : St c dd mt_153 ρ) (h : AH) (a0 : Nat) (x2 : Int32) (x3 : Int32) (x4 : Int32) (x5 : Int32) : ρ 35 [some (.ref a0), none, some (.int x2), some (.int x3), some (.int x4), some (.int x5), none] [] h = gfI h a0 8 22 fun v1 => if v1 ≤ x5 then (ρ 101 [some (.ref a0), none, some (.int x2), some (.int x3), some (.int x4), some (.int 0), some (.int 0)] [] h) else (gfQ h a0 8 18 none fun b2 => gfQ h a0 8 19 none fun b3 => ldI h b3 x5 fun v4 => ldZ h b2 v4 fun v5 => if v5 = 0 then (ρ 65 [some (.ref a0), none, some (.int x2), none, some (.int x4), some (.int x5), none] [.int 1, .int x3] h) else (ρ 65 [some (.ref a0), none, some (.int x2), none, some (.int x4), some (.int x5), none] [.int 0, .int x3] h)) :=
 T1 (x_iload H rfl rfl) rfl
 (T1 (x_aload_n H rfl rfl) rfl
 ((x_getI H rfl).trans (gfI_c fun v1 =>
 U1 rfl ((x_icmp_ge H rfl (t := 95) (by decide)).trans (if_c
 (U1 rfl (T1 (x_iconst H rfl ki_0) rfl
 (T2 [some (.ref a0), none, some (.int x2), some (.int x3), some (.int x4), some (.int 0), none] (x_istore H rfl rfl) rfl
 (T1 (x_iconst H rfl ki_0) rfl
 (T2 [some (.ref a0), none, some (.int x2), some (.int x3), some (.int x4), some (.int 0), some (.int 0)] (x_istore H rfl rfl) rfl rfl)))))
 (U1 rfl (T1 (x_iload_n H rfl rfl) rfl
 (T1 (x_aload_n H rfl rfl) rfl
 ((x_getR H rfl).trans (gfQ_c rfl fun b2 =>
 U1 rfl (T1 (x_aload_n H rfl rfl) rfl
 ((x_getR H rfl).trans (gfQ_c rfl fun b3 =>
 U1 rfl (T1 (x_iload H rfl rfl) rfl
 ((x_iaload H rfl).trans (ldI_c fun v4 =>
 U1 rfl ((x_baload H rfl).trans (ldZ_c fun v5 =>
 U1 rfl ((x_if_eq H rfl (t := 64) (by decide)).trans (if_c
 (U1 rfl (T2 [some (.ref a0), none, some (.int x2), none, some (.int x4), some (.int x5), none] (x_iconst H rfl ki_1) rfl rfl))
 (U1 rfl (T1 (x_iconst H rfl ki_0) rfl
 (T2 [some (.ref a0), none, some (.int x2), none, some (.int x4), some (.int x5), none] (x_goto H rfl (t := 65) (by decide)) rfl rfl)))))))))))))))))))))))
theorem nd_153_65 {c : Ct} {dd : Bool} {ρ : Kt} (H : St c dd mt_153 ρ) (h : AH) (a0 : Nat) (x2 : Int32) (x4 : Int32) (x5 : Int32) (s0_ : Int32) (s1_ : Int32) : ρ 65 [some (.ref a0), none, some (.int x2), none, some (.int x4), some (.int x5), none] [.int s0_, .int s1_] h = gfQ h a0 8 19 none fun b1 => ldI h b1 x5 fun v2 => isO h a0 8 ((c 134 [.ref a0, .int v2] h).bind fun q3 => rV q3 fun h4 => gfI h4 a0 8 23 fun v5 => ρ 35 [some (.ref a0), none, some (.int x2), some (.int (s1_ + s0_)), some (.int (x4 ||| (1 <<< (v5 &&& 31)))), some (.int (x5 + 1)), none] [] h4) :=
 T1 (x_iadd H rfl) rfl
 (T2 [some (.ref a0), none, some (.int x2), some (.int (s1_ + s0_)), some (.int x4), some (.int x5), none] (x_istore_n H rfl rfl) rfl
 (T1 (x_aload_n H rfl rfl) rfl
 (T1 (x_aload_n H rfl rfl) rfl
 ((x_getR H rfl).trans (gfQ_c rfl fun b1 =>
 U1 rfl (T1 (x_iload H rfl rfl) rfl
 ((x_iaload H rfl).trans (ldI_c fun v2 =>
 U1 rfl ((x_callV (ci := 8) H rfl [.int v2] rfl rfl rfl rfl).trans (isO_c (bi_c fun q3 => rV_c fun h4 =>
 U1 rfl (T1 (x_iload H rfl rfl) rfl
 (T1 (x_iconst H rfl ki_1) rfl
 (T1 (x_aload_n H rfl rfl) rfl
 ((x_getI H rfl).trans (gfI_c fun v5 =>
 U1 rfl (T1 (x_ishl H rfl) rfl
 (T1 (x_ior H rfl) rfl
 (T2 [some (.ref a0), none, some (.int x2), some (.int (s1_ + s0_)), some (.int (x4 ||| (1 <<< (v5 &&& 31)))), some (.int x5), none] (x_istore H rfl rfl) rfl
 (T2 [some (.ref a0), none, some (.int x2), some (.int (s1_ + s0_)), some (.int (x4 ||| (1 <<< (v5 &&& 31)))), some (.int (x5 + 1)), none] (x_iinc H rfl ki_1 rfl rfl) rfl
 (T2 [some (.ref a0), none, some (.int x2), some (.int (s1_ + s0_)), some (.int (x4 ||| (1 <<< (v5 &&& 31)))), some (.int (x5 + 1)), none] (x_goto H rfl (t := 35) (by decide)) rfl rfl)))))))))))))))))))))
theorem nd_153_101 {c : Ct} {dd : Bool} {ρ : Kt} (H : St c dd mt_153 ρ) (h : AH) (a0 : Nat) (x2 : Int32) (x3 : Int32) (x4 : Int32) (x5 : Int32) (x6 : Int32) : ρ 101 [some (.ref a0), none, some (.int x2), some (.int x3), some (.int x4), some (.int x5), some (.int x6)] [] h = if 6 ≤ x6 then (if x2 = 0 then (gfI h a0 8 22 fun v1 => ρ 148 [none, none, none, none, none, none, none] [.int v1] h) else (if x2 = 1 then (ρ 148 [none, none, none, none, none, none, none] [.int x3] h) else (ρ 148 [none, none, none, none, none, none, none] [.int x5] h))) else (ρ 101 [some (.ref a0), none, some (.int x2), some (.int x3), some (.int x4), some (.int (x5 + ((x4 >>> (x6 &&& 31)) &&& 1))), some (.int (x6 + 1))] [] h) :=
 T1 (x_iload H rfl rfl) rfl
 (T1 (x_bipush H rfl kb_6) rfl
 ((x_icmp_ge H rfl (t := 126) (by decide)).trans (if_c
 (U1 rfl (T1 (x_iload_n H rfl rfl) rfl
 ((x_if_ne H rfl (t := 137) (by decide)).trans (if_c
 (U1 rfl (T1 (x_aload_n H rfl rfl) rfl
 ((x_getI H rfl).trans (gfI_c fun v1 =>
 U1 rfl (T2 [none, none, none, none, none, none, none] (x_goto H rfl (t := 148) (by decide)) rfl rfl)))))
 (U1 rfl (T1 (x_iload_n H rfl rfl) rfl
 (T1 (x_iconst H rfl ki_1) rfl
 ((x_icmp_ne H rfl (t := 146) (by decide)).trans (if_c
 (U1 rfl (T1 (x_iload_n H rfl rfl) rfl
 (T2 [none, none, none, none, none, none, none] (x_goto H rfl (t := 148) (by decide)) rfl rfl)))
 (U1 rfl (T2 [none, none, none, none, none, none, none] (x_iload H rfl rfl) rfl rfl)))))))))))
 (U1 rfl (T1 (x_iload H rfl rfl) rfl
 (T1 (x_iload H rfl rfl) rfl
 (T1 (x_iload H rfl rfl) rfl
 (T1 (x_ishr H rfl) rfl
 (T1 (x_iconst H rfl ki_1) rfl
 (T1 (x_iand H rfl) rfl
 (T1 (x_iadd H rfl) rfl
 (T2 [some (.ref a0), none, some (.int x2), some (.int x3), some (.int x4), some (.int (x5 + ((x4 >>> (x6 &&& 31)) &&& 1))), some (.int x6)] (x_istore H rfl rfl) rfl
 (T2 [some (.ref a0), none, some (.int x2), some (.int x3), some (.int x4), some (.int (x5 + ((x4 >>> (x6 &&& 31)) &&& 1))), some (.int (x6 + 1))] (x_iinc H rfl ki_1 rfl rfl) rfl
 (T2 [some (.ref a0), none, some (.int x2), some (.int x3), some (.int x4), some (.int (x5 + ((x4 >>> (x6 &&& 31)) &&& 1))), some (.int (x6 + 1))] (x_goto H rfl (t := 101) (by decide)) rfl rfl))))))))))))))
theorem nd_153_148 {c : Ct} {dd : Bool} {ρ : Kt} (H : St c dd mt_153 ρ) (h : AH) (s0_ : Int32) : ρ 148 [none, none, none, none, none, none, none] [.int s0_] h = some (some (.int s0_), h) :=
 x_ireturn H rfl rfl
-- X8_shortest (I)I: 154
theorem nd_154_0 {c : Ct} {dd : Bool} {ρ : Kt} (H : St c dd mt_154 ρ) (h : AH) (a0 : Nat) (x1 : Int32) : ρ 0 [some (.ref a0), some (.int x1)] [] h = isO h a0 8 ((c 113 [.ref a0, .int x1] h).bind fun q1 => rI q1 fun v3 h2 => if v3 = 0 then (ρ 19 [none, none] [.int (-1)] h2) else (isO h2 a0 8 ((c 147 [.ref a0, .int x1, .int (-4)] h2).bind fun q4 => rI q4 fun v6 h5 => ρ 19 [none, none] [.int v6] h5))) :=
 T1 (x_aload_n H rfl rfl) rfl
 (T1 (x_iload_n H rfl rfl) rfl
 ((x_callZ (ci := 8) H rfl [.int x1] rfl rfl rfl rfl).trans (isO_c (bi_c fun q1 => rI_c fun v3 h2 =>
 U1 rfl ((x_if_eq H rfl (t := 18) (by decide)).trans (if_c
 (U1 rfl (T2 [none, none] (x_iconst H rfl ki_m1) rfl rfl))
 (U1 rfl (T1 (x_aload_n H rfl rfl) rfl
 (T1 (x_iload_n H rfl rfl) rfl
 (T1 (x_bipush H rfl kb_m4) rfl
 ((x_callI (ci := 8) H rfl [.int x1, .int (-4)] rfl rfl rfl rfl).trans (isO_c (bi_c fun q4 => rI_c fun v6 h5 =>
 U1 rfl (T2 [none, none] (x_goto H rfl (t := 19) (by decide)) rfl rfl))))))))))))))
theorem nd_154_19 {c : Ct} {dd : Bool} {ρ : Kt} (H : St c dd mt_154 ρ) (h : AH) (s0_ : Int32) : ρ 19 [none, none] [.int s0_] h = some (some (.int s0_), h) :=
 x_ireturn H rfl rfl
-- X8_shortestAt (III)I: 155
theorem nd_155_0 {c : Ct} {dd : Bool} {ρ : Kt} (H : St c dd mt_155 ρ) (h : AH) (a0 : Nat) (x1 : Int32) (x2 : Int32) (x3 : Int32) : ρ 0 [some (.ref a0), some (.int x1), some (.int x2), some (.int x3)] [] h = isO h a0 8 ((c 113 [.ref a0, .int x1] h).bind fun q1 => rI q1 fun v3 h2 => if v3 = 0 then (ρ 21 [none, none, none, none] [.int (-1)] h2) else (isO h2 a0 8 ((c 148 [.ref a0, .int x1, .int (-4), .int x2, .int x3] h2).bind fun q4 => rI q4 fun v6 h5 => ρ 21 [none, none, none, none] [.int v6] h5))) :=
 T1 (x_aload_n H rfl rfl) rfl
 (T1 (x_iload_n H rfl rfl) rfl
 ((x_callZ (ci := 8) H rfl [.int x1] rfl rfl rfl rfl).trans (isO_c (bi_c fun q1 => rI_c fun v3 h2 =>
 U1 rfl ((x_if_eq H rfl (t := 20) (by decide)).trans (if_c
 (U1 rfl (T2 [none, none, none, none] (x_iconst H rfl ki_m1) rfl rfl))
 (U1 rfl (T1 (x_aload_n H rfl rfl) rfl
 (T1 (x_iload_n H rfl rfl) rfl
 (T1 (x_bipush H rfl kb_m4) rfl
 (T1 (x_iload_n H rfl rfl) rfl
 (T1 (x_iload_n H rfl rfl) rfl
 ((x_callI (ci := 8) H rfl [.int x1, .int (-4), .int x2, .int x3] rfl rfl rfl rfl).trans (isO_c (bi_c fun q4 => rI_c fun v6 h5 =>
 U1 rfl (T2 [none, none, none, none] (x_goto H rfl (t := 21) (by decide)) rfl rfl))))))))))))))))
theorem nd_155_21 {c : Ct} {dd : Bool} {ρ : Kt} (H : St c dd mt_155 ρ) (h : AH) (s0_ : Int32) : ρ 21 [none, none, none, none] [.int s0_] h = some (some (.int s0_), h) :=
 x_ireturn H rfl rfl
-- X8_parts (II)I: 156
theorem nd_156_0 {c : Ct} {dd : Bool} {ρ : Kt} (H : St c dd mt_156 ρ) (h : AH) (a0 : Nat) (x1 : Int32) (x2 : Int32) : ρ 0 [some (.ref a0), some (.int x1), some (.int x2)] [] h = isO h a0 8 ((c 113 [.ref a0, .int x1] h).bind fun q1 => rI q1 fun v3 h2 => if v3 = 0 then (ρ 25 [none, none, none] [] h2) else (isO h2 a0 8 ((c 113 [.ref a0, .int x2] h2).bind fun q4 => rI q4 fun v6 h5 => if v6 = 0 then (ρ 25 [none, none, none] [] h5) else (isO h5 a0 8 ((c 147 [.ref a0, .int x1, .int x2] h5).bind fun q7 => rI q7 fun v9 h8 => ρ 26 [none, none, none] [.int v9] h8))))) :=
 T1 (x_aload_n H rfl rfl) rfl
 (T1 (x_iload_n H rfl rfl) rfl
 ((x_callZ (ci := 8) H rfl [.int x1] rfl rfl rfl rfl).trans (isO_c (bi_c fun q1 => rI_c fun v3 h2 =>
 U1 rfl ((x_if_eq H rfl (t := 25) (by decide)).trans (if_c
 (U2 [none, none, none] rfl rfl)
 (U1 rfl (T1 (x_aload_n H rfl rfl) rfl
 (T1 (x_iload_n H rfl rfl) rfl
 ((x_callZ (ci := 8) H rfl [.int x2] rfl rfl rfl rfl).trans (isO_c (bi_c fun q4 => rI_c fun v6 h5 =>
 U1 rfl ((x_if_eq H rfl (t := 25) (by decide)).trans (if_c
 (U2 [none, none, none] rfl rfl)
 (U1 rfl (T1 (x_aload_n H rfl rfl) rfl
 (T1 (x_iload_n H rfl rfl) rfl
 (T1 (x_iload_n H rfl rfl) rfl
 ((x_callI (ci := 8) H rfl [.int x1, .int x2] rfl rfl rfl rfl).trans (isO_c (bi_c fun q7 => rI_c fun v9 h8 =>
 U1 rfl (T2 [none, none, none] (x_goto H rfl (t := 26) (by decide)) rfl rfl))))))))))))))))))))))
theorem nd_156_25 {c : Ct} {dd : Bool} {ρ : Kt} (H : St c dd mt_156 ρ) (h : AH)  : ρ 25 [none, none, none] [] h = ρ 26 [none, none, none] [.int (-1)] h :=
 T2 [none, none, none] (x_iconst H rfl ki_m1) rfl rfl
theorem nd_156_26 {c : Ct} {dd : Bool} {ρ : Kt} (H : St c dd mt_156 ρ) (h : AH) (s0_ : Int32) : ρ 26 [none, none, none] [.int s0_] h = some (some (.int s0_), h) :=
 x_ireturn H rfl rfl
-- X8_partsAt (IIII)I: 157
theorem nd_157_0 {c : Ct} {dd : Bool} {ρ : Kt} (H : St c dd mt_157 ρ) (h : AH) (a0 : Nat) (x1 : Int32) (x2 : Int32) (x3 : Int32) (x4 : Int32) : ρ 0 [some (.ref a0), some (.int x1), some (.int x2), some (.int x3), some (.int x4)] [] h = isO h a0 8 ((c 113 [.ref a0, .int x1] h).bind fun q1 => rI q1 fun v3 h2 => if v3 = 0 then (ρ 28 [none, none, none, none, none] [] h2) else (isO h2 a0 8 ((c 113 [.ref a0, .int x2] h2).bind fun q4 => rI q4 fun v6 h5 => if v6 = 0 then (ρ 28 [none, none, none, none, none] [] h5) else (isO h5 a0 8 ((c 148 [.ref a0, .int x1, .int x2, .int x3, .int x4] h5).bind fun q7 => rI q7 fun v9 h8 => ρ 29 [none, none, none, none, none] [.int v9] h8))))) :=
 T1 (x_aload_n H rfl rfl) rfl
 (T1 (x_iload_n H rfl rfl) rfl
 ((x_callZ (ci := 8) H rfl [.int x1] rfl rfl rfl rfl).trans (isO_c (bi_c fun q1 => rI_c fun v3 h2 =>
 U1 rfl ((x_if_eq H rfl (t := 28) (by decide)).trans (if_c
 (U2 [none, none, none, none, none] rfl rfl)
 (U1 rfl (T1 (x_aload_n H rfl rfl) rfl
 (T1 (x_iload_n H rfl rfl) rfl
 ((x_callZ (ci := 8) H rfl [.int x2] rfl rfl rfl rfl).trans (isO_c (bi_c fun q4 => rI_c fun v6 h5 =>
 U1 rfl ((x_if_eq H rfl (t := 28) (by decide)).trans (if_c
 (U2 [none, none, none, none, none] rfl rfl)
 (U1 rfl (T1 (x_aload_n H rfl rfl) rfl
 (T1 (x_iload_n H rfl rfl) rfl
 (T1 (x_iload_n H rfl rfl) rfl
 (T1 (x_iload_n H rfl rfl) rfl
 (T1 (x_iload H rfl rfl) rfl
 ((x_callI (ci := 8) H rfl [.int x1, .int x2, .int x3, .int x4] rfl rfl rfl rfl).trans (isO_c (bi_c fun q7 => rI_c fun v9 h8 =>
 U1 rfl (T2 [none, none, none, none, none] (x_goto H rfl (t := 29) (by decide)) rfl rfl))))))))))))))))))))))))
theorem nd_157_28 {c : Ct} {dd : Bool} {ρ : Kt} (H : St c dd mt_157 ρ) (h : AH)  : ρ 28 [none, none, none, none, none] [] h = ρ 29 [none, none, none, none, none] [.int (-1)] h :=
 T2 [none, none, none, none, none] (x_iconst H rfl ki_m1) rfl rfl
theorem nd_157_29 {c : Ct} {dd : Bool} {ρ : Kt} (H : St c dd mt_157 ρ) (h : AH) (s0_ : Int32) : ρ 29 [none, none, none, none, none] [.int s0_] h = some (some (.int s0_), h) :=
 x_ireturn H rfl rfl
-- X8_within (II)I: 158
theorem nd_158_0 {c : Ct} {dd : Bool} {ρ : Kt} (H : St c dd mt_158 ρ) (h : AH) (a0 : Nat) (x1 : Int32) (x2 : Int32) : ρ 0 [some (.ref a0), some (.int x1), some (.int x2), none, none] [] h = isO h a0 8 ((c 113 [.ref a0, .int x1] h).bind fun q1 => rI q1 fun v3 h2 => if v3 = 0 then (ρ 16 [none, none, none, none, none] [] h2) else (isO h2 a0 8 ((c 113 [.ref a0, .int x2] h2).bind fun q4 => rI q4 fun v6 h5 => if v6 = 0 then (ρ 16 [none, none, none, none, none] [] h5) else (isO h5 a0 8 ((c 140 [.ref a0, .int x1, .int x2] h5).bind fun q7 => rV q7 fun h8 => ρ 29 [some (.ref a0), some (.int x1), some (.int x2), some (.int 1), some (.int 0)] [] h8))))) :=
 T1 (x_aload_n H rfl rfl) rfl
 (T1 (x_iload_n H rfl rfl) rfl
 ((x_callZ (ci := 8) H rfl [.int x1] rfl rfl rfl rfl).trans (isO_c (bi_c fun q1 => rI_c fun v3 h2 =>
 U1 rfl ((x_if_eq H rfl (t := 16) (by decide)).trans (if_c
 (U2 [none, none, none, none, none] rfl rfl)
 (U1 rfl (T1 (x_aload_n H rfl rfl) rfl
 (T1 (x_iload_n H rfl rfl) rfl
 ((x_callZ (ci := 8) H rfl [.int x2] rfl rfl rfl rfl).trans (isO_c (bi_c fun q4 => rI_c fun v6 h5 =>
 U1 rfl ((x_if_ne H rfl (t := 18) (by decide)).trans (if_c
 (U2 [none, none, none, none, none] rfl rfl)
 (U1 rfl (T1 (x_aload_n H rfl rfl) rfl
 (T1 (x_iload_n H rfl rfl) rfl
 (T1 (x_iload_n H rfl rfl) rfl
 ((x_callV (ci := 8) H rfl [.int x1, .int x2] rfl rfl rfl rfl).trans (isO_c (bi_c fun q7 => rV_c fun h8 =>
 U1 rfl (T1 (x_iconst H rfl ki_1) rfl
 (T2 [some (.ref a0), some (.int x1), some (.int x2), some (.int 1), none] (x_istore_n H rfl rfl) rfl
 (T1 (x_iconst H rfl ki_0) rfl
 (T2 [some (.ref a0), some (.int x1), some (.int x2), some (.int 1), some (.int 0)] (x_istore H rfl rfl) rfl rfl)))))))))))))))))))))))))
theorem nd_158_16 {c : Ct} {dd : Bool} {ρ : Kt} (H : St c dd mt_158 ρ) (h : AH)  : ρ 16 [none, none, none, none, none] [] h = some (some (.int (-1)), h) :=
 T1 (x_iconst H rfl ki_m1) rfl
 (x_ireturn H rfl rfl)
theorem nd_158_29 {c : Ct} {dd : Bool} {ρ : Kt} (H : St c dd mt_158 ρ) (h : AH) (a0 : Nat) (x1 : Int32) (x2 : Int32) (x3 : Int32) (x4 : Int32) : ρ 29 [some (.ref a0), some (.int x1), some (.int x2), some (.int x3), some (.int x4)] [] h = gfI h a0 8 22 fun v1 => if v1 ≤ x4 then (if x3 = 0 then (ρ 93 [none, none, none, none, none] [.int 0] h) else (ρ 93 [none, none, none, none, none] [.int 1] h)) else (if x3 = 0 then (ρ 76 [some (.ref a0), some (.int x1), some (.int x2), none, some (.int x4)] [] h) else (gfQ h a0 8 19 none fun b2 => ldI h b2 x4 fun v3 => isO h a0 8 ((c 141 [.ref a0, .int x1, .int v3] h).bind fun q4 => rI q4 fun v6 h5 => if v6 = 0 then (ρ 72 [some (.ref a0), some (.int x1), some (.int x2), none, some (.int x4)] [] h5) else (gfQ h5 a0 8 19 none fun b7 => ldI h5 b7 x4 fun v8 => isO h5 a0 8 ((c 142 [.ref a0, .int x2, .int v8] h5).bind fun q9 => rI q9 fun v11 h10 => if v11 = 0 then (ρ 76 [some (.ref a0), some (.int x1), some (.int x2), none, some (.int x4)] [] h10) else (ρ 72 [some (.ref a0), some (.int x1), some (.int x2), none, some (.int x4)] [] h10)))))) :=
 T1 (x_iload H rfl rfl) rfl
 (T1 (x_aload_n H rfl rfl) rfl
 ((x_getI H rfl).trans (gfI_c fun v1 =>
 U1 rfl ((x_icmp_ge H rfl (t := 84) (by decide)).trans (if_c
 (U1 rfl (T1 (x_iload_n H rfl rfl) rfl
 ((x_if_eq H rfl (t := 92) (by decide)).trans (if_c
 (U1 rfl (T2 [none, none, none, none, none] (x_iconst H rfl ki_0) rfl rfl))
 (U1 rfl (T1 (x_iconst H rfl ki_1) rfl
 (T2 [none, none, none, none, none] (x_goto H rfl (t := 93) (by decide)) rfl rfl)))))))
 (U1 rfl (T1 (x_iload_n H rfl rfl) rfl
 ((x_if_eq H rfl (t := 76) (by decide)).trans (if_c
 (U2 [some (.ref a0), some (.int x1), some (.int x2), none, some (.int x4)] rfl rfl)
 (U1 rfl (T1 (x_aload_n H rfl rfl) rfl
 (T1 (x_iload_n H rfl rfl) rfl
 (T1 (x_aload_n H rfl rfl) rfl
 ((x_getR H rfl).trans (gfQ_c rfl fun b2 =>
 U1 rfl (T1 (x_iload H rfl rfl) rfl
 ((x_iaload H rfl).trans (ldI_c fun v3 =>
 U1 rfl ((x_callZ (ci := 8) H rfl [.int x1, .int v3] rfl rfl rfl rfl).trans (isO_c (bi_c fun q4 => rI_c fun v6 h5 =>
 U1 rfl ((x_if_eq H rfl (t := 72) (by decide)).trans (if_c
 (U2 [some (.ref a0), some (.int x1), some (.int x2), none, some (.int x4)] rfl rfl)
 (U1 rfl (T1 (x_aload_n H rfl rfl) rfl
 (T1 (x_iload_n H rfl rfl) rfl
 (T1 (x_aload_n H rfl rfl) rfl
 ((x_getR H rfl).trans (gfQ_c rfl fun b7 =>
 U1 rfl (T1 (x_iload H rfl rfl) rfl
 ((x_iaload H rfl).trans (ldI_c fun v8 =>
 U1 rfl ((x_callZ (ci := 8) H rfl [.int x2, .int v8] rfl rfl rfl rfl).trans (isO_c (bi_c fun q9 => rI_c fun v11 h10 =>
 U1 rfl ((x_if_eq H rfl (t := 76) (by decide)).trans (if_c
 (U2 [some (.ref a0), some (.int x1), some (.int x2), none, some (.int x4)] rfl rfl)
 (U2 [some (.ref a0), some (.int x1), some (.int x2), none, some (.int x4)] rfl rfl))))))))))))))))))))))))))))))))))))))
theorem nd_158_72 {c : Ct} {dd : Bool} {ρ : Kt} (H : St c dd mt_158 ρ) (h : AH) (a0 : Nat) (x1 : Int32) (x2 : Int32) (x4 : Int32) : ρ 72 [some (.ref a0), some (.int x1), some (.int x2), none, some (.int x4)] [] h = ρ 77 [some (.ref a0), some (.int x1), some (.int x2), none, some (.int x4)] [.int 1] h :=
 T1 (x_iconst H rfl ki_1) rfl
 (T2 [some (.ref a0), some (.int x1), some (.int x2), none, some (.int x4)] (x_goto H rfl (t := 77) (by decide)) rfl rfl)
theorem nd_158_76 {c : Ct} {dd : Bool} {ρ : Kt} (H : St c dd mt_158 ρ) (h : AH) (a0 : Nat) (x1 : Int32) (x2 : Int32) (x4 : Int32) : ρ 76 [some (.ref a0), some (.int x1), some (.int x2), none, some (.int x4)] [] h = ρ 77 [some (.ref a0), some (.int x1), some (.int x2), none, some (.int x4)] [.int 0] h :=
 T2 [some (.ref a0), some (.int x1), some (.int x2), none, some (.int x4)] (x_iconst H rfl ki_0) rfl rfl
theorem nd_158_93 {c : Ct} {dd : Bool} {ρ : Kt} (H : St c dd mt_158 ρ) (h : AH) (s0_ : Int32) : ρ 93 [none, none, none, none, none] [.int s0_] h = some (some (.int s0_), h) :=
 x_ireturn H rfl rfl
theorem nd_158_77 {c : Ct} {dd : Bool} {ρ : Kt} (H : St c dd mt_158 ρ) (h : AH) (a0 : Nat) (x1 : Int32) (x2 : Int32) (x4 : Int32) (s0_ : Int32) : ρ 77 [some (.ref a0), some (.int x1), some (.int x2), none, some (.int x4)] [.int s0_] h = ρ 29 [some (.ref a0), some (.int x1), some (.int x2), some (.int s0_), some (.int (x4 + 1))] [] h :=
 T2 [some (.ref a0), some (.int x1), some (.int x2), some (.int s0_), some (.int x4)] (x_istore_n H rfl rfl) rfl
 (T2 [some (.ref a0), some (.int x1), some (.int x2), some (.int s0_), some (.int (x4 + 1))] (x_iinc H rfl ki_1 rfl rfl) rfl
 (T2 [some (.ref a0), some (.int x1), some (.int x2), some (.int s0_), some (.int (x4 + 1))] (x_goto H rfl (t := 29) (by decide)) rfl rfl))
-- X8_show (II)I: 159
theorem nd_159_0 {c : Ct} {dd : Bool} {ρ : Kt} (H : St c dd mt_159 ρ) (h : AH) (a0 : Nat) (x1 : Int32) (x2 : Int32) : ρ 0 [some (.ref a0), some (.int x1), some (.int x2), none, none] [] h = isO h a0 8 ((c 113 [.ref a0, .int x1] h).bind fun q1 => rI q1 fun v3 h2 => if v3 = 0 then (ρ 22 [none, none, none, none, none] [] h2) else (if x2 = (-4) then (ρ 24 [some (.ref a0), some (.int x1), some (.int x2), none, none] [] h2) else (isO h2 a0 8 ((c 113 [.ref a0, .int x2] h2).bind fun q4 => rI q4 fun v6 h5 => if v6 = 0 then (ρ 22 [none, none, none, none, none] [] h5) else (ρ 24 [some (.ref a0), some (.int x1), some (.int x2), none, none] [] h5))))) :=
 T1 (x_aload_n H rfl rfl) rfl
 (T1 (x_iload_n H rfl rfl) rfl
 ((x_callZ (ci := 8) H rfl [.int x1] rfl rfl rfl rfl).trans (isO_c (bi_c fun q1 => rI_c fun v3 h2 =>
 U1 rfl ((x_if_eq H rfl (t := 22) (by decide)).trans (if_c
 (U2 [none, none, none, none, none] rfl rfl)
 (U1 rfl (T1 (x_iload_n H rfl rfl) rfl
 (T1 (x_bipush H rfl kb_m4) rfl
 ((x_icmp_eq H rfl (t := 24) (by decide)).trans (if_c
 (U2 [some (.ref a0), some (.int x1), some (.int x2), none, none] rfl rfl)
 (U1 rfl (T1 (x_aload_n H rfl rfl) rfl
 (T1 (x_iload_n H rfl rfl) rfl
 ((x_callZ (ci := 8) H rfl [.int x2] rfl rfl rfl rfl).trans (isO_c (bi_c fun q4 => rI_c fun v6 h5 =>
 U1 rfl ((x_if_ne H rfl (t := 24) (by decide)).trans (if_c
 (U2 [none, none, none, none, none] rfl rfl)
 (U2 [some (.ref a0), some (.int x1), some (.int x2), none, none] rfl rfl))))))))))))))))))))
theorem nd_159_22 {c : Ct} {dd : Bool} {ρ : Kt} (H : St c dd mt_159 ρ) (h : AH)  : ρ 22 [none, none, none, none, none] [] h = some (some (.int (-1)), h) :=
 T1 (x_iconst H rfl ki_m1) rfl
 (x_ireturn H rfl rfl)
theorem nd_159_24 {c : Ct} {dd : Bool} {ρ : Kt} (H : St c dd mt_159 ρ) (h : AH) (a0 : Nat) (x1 : Int32) (x2 : Int32) : ρ 24 [some (.ref a0), some (.int x1), some (.int x2), none, none] [] h = isO h a0 8 ((c 147 [.ref a0, .int x1, .int x2] h).bind fun q1 => rI q1 fun v3 h2 => if v3 = (-4) then (some (some (.int (-4)), h2)) else (if v3 ≤ 40 then (ρ 52 [some (.ref a0), some (.int x1), some (.int x2), some (.int v3), some (.int 0)] [] h2) else (some (some (.int (-3)), h2)))) :=
 T1 (x_aload_n H rfl rfl) rfl
 (T1 (x_iload_n H rfl rfl) rfl
 (T1 (x_iload_n H rfl rfl) rfl
 ((x_callI (ci := 8) H rfl [.int x1, .int x2] rfl rfl rfl rfl).trans (isO_c (bi_c fun q1 => rI_c fun v3 h2 =>
 U1 rfl (T2 [some (.ref a0), some (.int x1), some (.int x2), some (.int v3), none] (x_istore_n H rfl rfl) rfl
 (T1 (x_iload_n H rfl rfl) rfl
 (T1 (x_bipush H rfl kb_m4) rfl
 ((x_icmp_ne H rfl (t := 40) (by decide)).trans (if_c
 (U1 rfl (T1 (x_bipush H rfl kb_m4) rfl
 (x_ireturn H rfl rfl)))
 (U1 rfl (T1 (x_iload_n H rfl rfl) rfl
 (T1 (x_bipush H rfl kb_40) rfl
 ((x_icmp_le H rfl (t := 49) (by decide)).trans (if_c
 (U1 rfl (T1 (x_iconst H rfl ki_0) rfl
 (T2 [some (.ref a0), some (.int x1), some (.int x2), some (.int v3), some (.int 0)] (x_istore H rfl rfl) rfl rfl)))
 (U1 rfl (T1 (x_bipush H rfl kb_m3) rfl
 (x_ireturn H rfl rfl))))))))))))))))))
theorem nd_159_52 {c : Ct} {dd : Bool} {ρ : Kt} (H : St c dd mt_159 ρ) (h : AH) (a0 : Nat) (x1 : Int32) (x2 : Int32) (x3 : Int32) (x4 : Int32) : ρ 52 [some (.ref a0), some (.int x1), some (.int x2), some (.int x3), some (.int x4)] [] h = if x3 ≤ x4 then (pfV h a0 8 0 (.int x3) fun h1 => some (some (.int x3), h1)) else (isO h a0 8 ((c 145 [.ref a0, .int x1, .int x2, .int x4] h).bind fun q2 => rV q2 fun h3 => gfQ h3 a0 8 1 none fun b4 => gfI h3 a0 8 28 fun v5 => stI h3 b4 x4 v5 fun h6 => gfQ h6 a0 8 2 none fun b7 => gfI h6 a0 8 29 fun v8 => stI h6 b7 x4 v8 fun h9 => ρ 52 [some (.ref a0), some (.int x1), some (.int x2), some (.int x3), some (.int (x4 + 1))] [] h9)) :=
 T1 (x_iload H rfl rfl) rfl
 (T1 (x_iload_n H rfl rfl) rfl
 ((x_icmp_ge H rfl (t := 94) (by decide)).trans (if_c
 (U1 rfl (T1 (x_aload_n H rfl rfl) rfl
 (T1 (x_iload_n H rfl rfl) rfl
 ((x_putI H rfl).trans (pfV_c fun h1 =>
 U1 rfl (T1 (x_iload_n H rfl rfl) rfl
 (x_ireturn H rfl rfl)))))))
 (U1 rfl (T1 (x_aload_n H rfl rfl) rfl
 (T1 (x_iload_n H rfl rfl) rfl
 (T1 (x_iload_n H rfl rfl) rfl
 (T1 (x_iload H rfl rfl) rfl
 ((x_callV (ci := 8) H rfl [.int x1, .int x2, .int x4] rfl rfl rfl rfl).trans (isO_c (bi_c fun q2 => rV_c fun h3 =>
 U1 rfl (T1 (x_aload_n H rfl rfl) rfl
 ((x_getR H rfl).trans (gfQ_c rfl fun b4 =>
 U1 rfl (T1 (x_iload H rfl rfl) rfl
 (T1 (x_aload_n H rfl rfl) rfl
 ((x_getI H rfl).trans (gfI_c fun v5 =>
 U1 rfl ((x_iastore H rfl).trans (stI_c fun h6 =>
 U1 rfl (T1 (x_aload_n H rfl rfl) rfl
 ((x_getR H rfl).trans (gfQ_c rfl fun b7 =>
 U1 rfl (T1 (x_iload H rfl rfl) rfl
 (T1 (x_aload_n H rfl rfl) rfl
 ((x_getI H rfl).trans (gfI_c fun v8 =>
 U1 rfl ((x_iastore H rfl).trans (stI_c fun h9 =>
 U1 rfl (T2 [some (.ref a0), some (.int x1), some (.int x2), some (.int x3), some (.int (x4 + 1))] (x_iinc H rfl ki_1 rfl rfl) rfl
 (T2 [some (.ref a0), some (.int x1), some (.int x2), some (.int x3), some (.int (x4 + 1))] (x_goto H rfl (t := 52) (by decide)) rfl rfl)))))))))))))))))))))))))))))))
-- X8_isDead (I)Z: 160
theorem nd_160_0 {c : Ct} {dd : Bool} {ρ : Kt} (H : St c dd mt_160 ρ) (h : AH) (a0 : Nat) (x1 : Int32) : ρ 0 [some (.ref a0), some (.int x1)] [] h = gfQ h a0 8 32 none fun b1 => ldI h b1 x1 fun v2 => isO h a0 8 ((c 149 [.ref a0, .int v2] h).bind fun q3 => rV q3 fun h4 => gfQ h4 a0 8 18 none fun b5 => gfQ h4 a0 8 33 none fun b6 => ldI h4 b6 x1 fun v7 => gfQ h4 a0 8 34 none fun b8 => ldZ h4 b8 (2 * x1) fun v9 => gfQ h4 a0 8 35 none fun b10 => ldI h4 b10 (2 * x1) fun v11 => gfQ h4 a0 8 34 none fun b12 => ldZ h4 b12 ((2 * x1) + 1) fun v13 => gfQ h4 a0 8 35 none fun b14 => ldI h4 b14 ((2 * x1) + 1) fun v15 => isO h4 a0 8 ((c 151 [.ref a0, .int v7, .int v9, .int v11, .int v13, .int v15] h4).bind fun q16 => rI q16 fun v18 h17 => ldZ h17 b5 v18 fun v19 => if v19 = 0 then (ρ 69 [none, none] [.int 1] h17) else (ρ 69 [none, none] [.int 0] h17))) :=
 T1 (x_aload_n H rfl rfl) rfl
 (T1 (x_aload_n H rfl rfl) rfl
 ((x_getR H rfl).trans (gfQ_c rfl fun b1 =>
 U1 rfl (T1 (x_iload_n H rfl rfl) rfl
 ((x_iaload H rfl).trans (ldI_c fun v2 =>
 U1 rfl ((x_callV (ci := 8) H rfl [.int v2] rfl rfl rfl rfl).trans (isO_c (bi_c fun q3 => rV_c fun h4 =>
 U1 rfl (T1 (x_aload_n H rfl rfl) rfl
 ((x_getR H rfl).trans (gfQ_c rfl fun b5 =>
 U1 rfl (T1 (x_aload_n H rfl rfl) rfl
 (T1 (x_aload_n H rfl rfl) rfl
 ((x_getR H rfl).trans (gfQ_c rfl fun b6 =>
 U1 rfl (T1 (x_iload_n H rfl rfl) rfl
 ((x_iaload H rfl).trans (ldI_c fun v7 =>
 U1 rfl (T1 (x_aload_n H rfl rfl) rfl
 ((x_getR H rfl).trans (gfQ_c rfl fun b8 =>
 U1 rfl (T1 (x_iconst H rfl ki_2) rfl
 (T1 (x_iload_n H rfl rfl) rfl
 (T1 (x_imul H rfl) rfl
 ((x_baload H rfl).trans (ldZ_c fun v9 =>
 U1 rfl (T1 (x_aload_n H rfl rfl) rfl
 ((x_getR H rfl).trans (gfQ_c rfl fun b10 =>
 U1 rfl (T1 (x_iconst H rfl ki_2) rfl
 (T1 (x_iload_n H rfl rfl) rfl
 (T1 (x_imul H rfl) rfl
 ((x_iaload H rfl).trans (ldI_c fun v11 =>
 U1 rfl (T1 (x_aload_n H rfl rfl) rfl
 ((x_getR H rfl).trans (gfQ_c rfl fun b12 =>
 U1 rfl (T1 (x_iconst H rfl ki_2) rfl
 (T1 (x_iload_n H rfl rfl) rfl
 (T1 (x_imul H rfl) rfl
 (T1 (x_iconst H rfl ki_1) rfl
 (T1 (x_iadd H rfl) rfl
 ((x_baload H rfl).trans (ldZ_c fun v13 =>
 U1 rfl (T1 (x_aload_n H rfl rfl) rfl
 ((x_getR H rfl).trans (gfQ_c rfl fun b14 =>
 U1 rfl (T1 (x_iconst H rfl ki_2) rfl
 (T1 (x_iload_n H rfl rfl) rfl
 (T1 (x_imul H rfl) rfl
 (T1 (x_iconst H rfl ki_1) rfl
 (T1 (x_iadd H rfl) rfl
 ((x_iaload H rfl).trans (ldI_c fun v15 =>
 U1 rfl ((x_callI (ci := 8) H rfl [.int v7, .int v9, .int v11, .int v13, .int v15] rfl rfl rfl rfl).trans (isO_c (bi_c fun q16 => rI_c fun v18 h17 =>
 U1 rfl ((x_baload H rfl).trans (ldZ_c fun v19 =>
 U1 rfl ((x_if_ne H rfl (t := 68) (by decide)).trans (if_c
 (U1 rfl (T1 (x_iconst H rfl ki_1) rfl
 (T2 [none, none] (x_goto H rfl (t := 69) (by decide)) rfl rfl)))
 (U1 rfl (T2 [none, none] (x_iconst H rfl ki_0) rfl rfl))))))))))))))))))))))))))))))))))))))))))))))))))))))))))))))))
theorem nd_160_69 {c : Ct} {dd : Bool} {ρ : Kt} (H : St c dd mt_160 ρ) (h : AH) (s0_ : Int32) : ρ 69 [none, none] [.int s0_] h = isZ s0_ (some (some (.int s0_), h)) :=
 x_zreturn H rfl rfl
-- X8_watch (I)I: 161
theorem nd_161_0 {c : Ct} {dd : Bool} {ρ : Kt} (H : St c dd mt_161 ρ) (h : AH) (a0 : Nat) (x1 : Int32) : ρ 0 [some (.ref a0), some (.int x1), none] [] h = isO h a0 8 ((c 113 [.ref a0, .int x1] h).bind fun q1 => rI q1 fun v3 h2 => if v3 = 0 then (some (some (.int (-1)), h2)) else (gfI h2 a0 8 31 fun v4 => if v4 = 4 then (some (some (.int (-3)), h2)) else (gfI h2 a0 8 31 fun v5 => gfQ h2 a0 8 32 none fun b6 => stI h2 b6 v5 x1 fun h7 => gfQ h7 a0 8 33 none fun b8 => stI h7 b8 v5 0 fun h9 => gfQ h9 a0 8 34 none fun b10 => stZ h9 b10 (2 * v5) 0 fun h11 => gfQ h11 a0 8 34 none fun b12 => stZ h11 b12 ((2 * v5) + 1) 0 fun h13 => gfQ h13 a0 8 36 none fun b14 => stI h13 b14 v5 0 fun h15 => gfQ h15 a0 8 37 none fun b16 => stI h15 b16 v5 0 fun h17 => gfI h17 a0 8 31 fun v18 => pfV h17 a0 8 31 (.int (v18 + 1)) fun h19 => gfQ h19 a0 8 38 none fun b20 => isO h19 a0 8 ((c 160 [.ref a0, .int v5] h19).bind fun q21 => rI q21 fun v23 h22 => if v23 = 0 then (ρ 103 [none, none, some (.int v5)] [.int (-4), .int v5, .ref b20] h22) else (ρ 103 [none, none, some (.int v5)] [.int 0, .int v5, .ref b20] h22))))) :=
 T1 (x_aload_n H rfl rfl) rfl
 (T1 (x_iload_n H rfl rfl) rfl
 ((x_callZ (ci := 8) H rfl [.int x1] rfl rfl rfl rfl).trans (isO_c (bi_c fun q1 => rI_c fun v3 h2 =>
 U1 rfl ((x_if_ne H rfl (t := 10) (by decide)).trans (if_c
 (U1 rfl (T1 (x_iconst H rfl ki_m1) rfl
 (x_ireturn H rfl rfl)))
 (U1 rfl (T1 (x_aload_n H rfl rfl) rfl
 ((x_getI H rfl).trans (gfI_c fun v4 =>
 U1 rfl (T1 (x_iconst H rfl ki_4) rfl
 ((x_icmp_ne H rfl (t := 21) (by decide)).trans (if_c
 (U1 rfl (T1 (x_bipush H rfl kb_m3) rfl
 (x_ireturn H rfl rfl)))
 (U1 rfl (T1 (x_aload_n H rfl rfl) rfl
 ((x_getI H rfl).trans (gfI_c fun v5 =>
 U1 rfl (T2 [some (.ref a0), some (.int x1), some (.int v5)] (x_istore_n H rfl rfl) rfl
 (T1 (x_aload_n H rfl rfl) rfl
 ((x_getR H rfl).trans (gfQ_c rfl fun b6 =>
 U1 rfl (T1 (x_iload_n H rfl rfl) rfl
 (T1 (x_iload_n H rfl rfl) rfl
 ((x_iastore H rfl).trans (stI_c fun h7 =>
 U1 rfl (T1 (x_aload_n H rfl rfl) rfl
 ((x_getR H rfl).trans (gfQ_c rfl fun b8 =>
 U1 rfl (T1 (x_iload_n H rfl rfl) rfl
 (T1 (x_iconst H rfl ki_0) rfl
 ((x_iastore H rfl).trans (stI_c fun h9 =>
 U1 rfl (T1 (x_aload_n H rfl rfl) rfl
 ((x_getR H rfl).trans (gfQ_c rfl fun b10 =>
 U1 rfl (T1 (x_iconst H rfl ki_2) rfl
 (T1 (x_iload_n H rfl rfl) rfl
 (T1 (x_imul H rfl) rfl
 (T1 (x_iconst H rfl ki_0) rfl
 ((x_bastore H rfl).trans (stZ_c fun h11 =>
 U1 rfl (T1 (x_aload_n H rfl rfl) rfl
 ((x_getR H rfl).trans (gfQ_c rfl fun b12 =>
 U1 rfl (T1 (x_iconst H rfl ki_2) rfl
 (T1 (x_iload_n H rfl rfl) rfl
 (T1 (x_imul H rfl) rfl
 (T1 (x_iconst H rfl ki_1) rfl
 (T1 (x_iadd H rfl) rfl
 (T1 (x_iconst H rfl ki_0) rfl
 ((x_bastore H rfl).trans (stZ_c fun h13 =>
 U1 rfl (T1 (x_aload_n H rfl rfl) rfl
 ((x_getR H rfl).trans (gfQ_c rfl fun b14 =>
 U1 rfl (T1 (x_iload_n H rfl rfl) rfl
 (T1 (x_iconst H rfl ki_0) rfl
 ((x_iastore H rfl).trans (stI_c fun h15 =>
 U1 rfl (T1 (x_aload_n H rfl rfl) rfl
 ((x_getR H rfl).trans (gfQ_c rfl fun b16 =>
 U1 rfl (T1 (x_iload_n H rfl rfl) rfl
 (T1 (x_iconst H rfl ki_0) rfl
 ((x_iastore H rfl).trans (stI_c fun h17 =>
 U1 rfl (T1 (x_aload_n H rfl rfl) rfl
 (T1 (x_dup H rfl) rfl
 ((x_getI H rfl).trans (gfI_c fun v18 =>
 U1 rfl (T1 (x_iconst H rfl ki_1) rfl
 (T1 (x_iadd H rfl) rfl
 ((x_putI H rfl).trans (pfV_c fun h19 =>
 U1 rfl (T1 (x_aload_n H rfl rfl) rfl
 ((x_getR H rfl).trans (gfQ_c rfl fun b20 =>
 U1 rfl (T1 (x_iload_n H rfl rfl) rfl
 (T1 (x_aload_n H rfl rfl) rfl
 (T1 (x_iload_n H rfl rfl) rfl
 ((x_callZ (ci := 8) H rfl [.int v5] rfl rfl rfl rfl).trans (isO_c (bi_c fun q21 => rI_c fun v23 h22 =>
 U1 rfl ((x_if_eq H rfl (t := 101) (by decide)).trans (if_c
 (U1 rfl (T2 [none, none, some (.int v5)] (x_bipush H rfl kb_m4) rfl rfl))
 (U1 rfl (T1 (x_iconst H rfl ki_0) rfl
 (T2 [none, none, some (.int v5)] (x_goto H rfl (t := 103) (by decide)) rfl rfl))))))))))))))))))))))))))))))))))))))))))))))))))))))))))))))))))))))))))))))))))))))))
theorem nd_161_103 {c : Ct} {dd : Bool} {ρ : Kt} (H : St c dd mt_161 ρ) (h : AH) (x2 : Int32) (s0_ : Int32) (s1_ : Int32) (c2_ : Nat) : ρ 103 [none, none, some (.int x2)] [.int s0_, .int s1_, .ref c2_] h = stI h c2_ s1_ s0_ fun h1 => some (some (.int x2), h1) :=
 (x_iastore H rfl).trans (stI_c fun h1 =>
 U1 rfl (T1 (x_iload_n H rfl rfl) rfl
 (x_ireturn H rfl rfl)))
-- X8_see (III)I: 162
theorem nd_162_0 {c : Ct} {dd : Bool} {ρ : Kt} (H : St c dd mt_162 ρ) (h : AH) (a0 : Nat) (x1 : Int32) (x2 : Int32) (x3 : Int32) : ρ 0 [some (.ref a0), some (.int x1), some (.int x2), some (.int x3), none] [] h = gfI h a0 8 31 fun v1 => (c 107 [.long (x1).toInt64, .long 0, .long ((v1 - 1)).toInt64] h).bind fun q2 => rI q2 fun v4 h3 => if v4 = 0 then (ρ 28 [none, none, none, none, none] [] h3) else ((c 107 [.long (x2).toInt64, .long 0, .long 2] h3).bind fun q5 => rI q5 fun v7 h6 => if v7 = 0 then (ρ 28 [none, none, none, none, none] [] h6) else (gfQ h6 a0 8 38 none fun b8 => ldI h6 b8 x1 fun v9 => if v9 = (-4) then (gfQ h6 a0 8 33 none fun b10 => ldI h6 b10 x1 fun v11 => pfV h6 a0 8 12 (.int v11) fun h12 => ρ 57 [some (.ref a0), some (.int x1), some (.int x2), some (.int x3), some (.int 0)] [] h12) else (some (some (.int (-5)), h6)))) :=
 T1 (x_iload_n H rfl rfl) rfl
 (T1 (x_i2l H rfl) rfl
 (T1 (x_lconst H rfl kl_0) rfl
 (T1 (x_aload_n H rfl rfl) rfl
 ((x_getI H rfl).trans (gfI_c fun v1 =>
 U1 rfl (T1 (x_iconst H rfl ki_1) rfl
 (T1 (x_isub H rfl) rfl
 (T1 (x_i2l H rfl) rfl
 ((x_statZ H rfl [.long (x1).toInt64, .long 0, .long ((v1 - 1)).toInt64] rfl rfl rfl rfl rfl).trans (bi_c fun q2 => rI_c fun v4 h3 =>
 U1 rfl ((x_if_eq H rfl (t := 28) (by decide)).trans (if_c
 (U2 [none, none, none, none, none] rfl rfl)
 (U1 rfl (T1 (x_iload_n H rfl rfl) rfl
 (T1 (x_i2l H rfl) rfl
 (T1 (x_lconst H rfl kl_0) rfl
 (T1 (x_ldc2 H rfl kl_2) rfl
 ((x_statZ H rfl [.long (x2).toInt64, .long 0, .long 2] rfl rfl rfl rfl rfl).trans (bi_c fun q5 => rI_c fun v7 h6 =>
 U1 rfl ((x_if_ne H rfl (t := 30) (by decide)).trans (if_c
 (U2 [none, none, none, none, none] rfl rfl)
 (U1 rfl (T1 (x_aload_n H rfl rfl) rfl
 ((x_getR H rfl).trans (gfQ_c rfl fun b8 =>
 U1 rfl (T1 (x_iload_n H rfl rfl) rfl
 ((x_iaload H rfl).trans (ldI_c fun v9 =>
 U1 rfl (T1 (x_bipush H rfl kb_m4) rfl
 ((x_icmp_eq H rfl (t := 44) (by decide)).trans (if_c
 (U1 rfl (T1 (x_aload_n H rfl rfl) rfl
 (T1 (x_aload_n H rfl rfl) rfl
 ((x_getR H rfl).trans (gfQ_c rfl fun b10 =>
 U1 rfl (T1 (x_iload_n H rfl rfl) rfl
 ((x_iaload H rfl).trans (ldI_c fun v11 =>
 U1 rfl ((x_putI H rfl).trans (pfV_c fun h12 =>
 U1 rfl (T1 (x_iconst H rfl ki_0) rfl
 (T2 [some (.ref a0), some (.int x1), some (.int x2), some (.int x3), some (.int 0)] (x_istore H rfl rfl) rfl rfl))))))))))))
 (U1 rfl (T1 (x_bipush H rfl kb_m5) rfl
 (x_ireturn H rfl rfl))))))))))))))))))))))))))))))))))
theorem nd_162_28 {c : Ct} {dd : Bool} {ρ : Kt} (H : St c dd mt_162 ρ) (h : AH)  : ρ 28 [none, none, none, none, none] [] h = some (some (.int (-1)), h) :=
 T1 (x_iconst H rfl ki_m1) rfl
 (x_ireturn H rfl rfl)
theorem nd_162_57 {c : Ct} {dd : Bool} {ρ : Kt} (H : St c dd mt_162 ρ) (h : AH) (a0 : Nat) (x1 : Int32) (x2 : Int32) (x3 : Int32) (x4 : Int32) : ρ 57 [some (.ref a0), some (.int x1), some (.int x2), some (.int x3), some (.int x4)] [] h = if 2 ≤ x4 then (gfQ h a0 8 32 none fun b1 => ldI h b1 x1 fun v2 => isO h a0 8 ((c 130 [.ref a0, .int v2, .int x2, .int x3, .int 0] h).bind fun q3 => rV q3 fun h4 => gfQ h4 a0 8 33 none fun b5 => gfI h4 a0 8 12 fun v6 => stI h4 b5 x1 v6 fun h7 => ρ 131 [some (.ref a0), some (.int x1), none, none, some (.int 0)] [] h7)) else (gfQ h a0 8 13 none fun b8 => gfQ h a0 8 34 none fun b9 => ldZ h b9 ((2 * x1) + x4) fun v10 => stZ h b8 x4 v10 fun h11 => gfQ h11 a0 8 14 none fun b12 => gfQ h11 a0 8 35 none fun b13 => ldI h11 b13 ((2 * x1) + x4) fun v14 => stI h11 b12 x4 v14 fun h15 => ρ 57 [some (.ref a0), some (.int x1), some (.int x2), some (.int x3), some (.int (x4 + 1))] [] h15) :=
 T1 (x_iload H rfl rfl) rfl
 (T1 (x_iconst H rfl ki_2) rfl
 ((x_icmp_ge H rfl (t := 105) (by decide)).trans (if_c
 (U1 rfl (T1 (x_aload_n H rfl rfl) rfl
 (T1 (x_aload_n H rfl rfl) rfl
 ((x_getR H rfl).trans (gfQ_c rfl fun b1 =>
 U1 rfl (T1 (x_iload_n H rfl rfl) rfl
 ((x_iaload H rfl).trans (ldI_c fun v2 =>
 U1 rfl (T1 (x_iload_n H rfl rfl) rfl
 (T1 (x_iload_n H rfl rfl) rfl
 (T1 (x_iconst H rfl ki_0) rfl
 ((x_callV (ci := 8) H rfl [.int v2, .int x2, .int x3, .int 0] rfl rfl rfl rfl).trans (isO_c (bi_c fun q3 => rV_c fun h4 =>
 U1 rfl (T1 (x_aload_n H rfl rfl) rfl
 ((x_getR H rfl).trans (gfQ_c rfl fun b5 =>
 U1 rfl (T1 (x_iload_n H rfl rfl) rfl
 (T1 (x_aload_n H rfl rfl) rfl
 ((x_getI H rfl).trans (gfI_c fun v6 =>
 U1 rfl ((x_iastore H rfl).trans (stI_c fun h7 =>
 U1 rfl (T1 (x_iconst H rfl ki_0) rfl
 (T2 [some (.ref a0), some (.int x1), none, none, some (.int 0)] (x_istore H rfl rfl) rfl rfl)))))))))))))))))))))))))
 (U1 rfl (T1 (x_aload_n H rfl rfl) rfl
 ((x_getR H rfl).trans (gfQ_c rfl fun b8 =>
 U1 rfl (T1 (x_iload H rfl rfl) rfl
 (T1 (x_aload_n H rfl rfl) rfl
 ((x_getR H rfl).trans (gfQ_c rfl fun b9 =>
 U1 rfl (T1 (x_iconst H rfl ki_2) rfl
 (T1 (x_iload_n H rfl rfl) rfl
 (T1 (x_imul H rfl) rfl
 (T1 (x_iload H rfl rfl) rfl
 (T1 (x_iadd H rfl) rfl
 ((x_baload H rfl).trans (ldZ_c fun v10 =>
 U1 rfl ((x_bastore H rfl).trans (stZ_c fun h11 =>
 U1 rfl (T1 (x_aload_n H rfl rfl) rfl
 ((x_getR H rfl).trans (gfQ_c rfl fun b12 =>
 U1 rfl (T1 (x_iload H rfl rfl) rfl
 (T1 (x_aload_n H rfl rfl) rfl
 ((x_getR H rfl).trans (gfQ_c rfl fun b13 =>
 U1 rfl (T1 (x_iconst H rfl ki_2) rfl
 (T1 (x_iload_n H rfl rfl) rfl
 (T1 (x_imul H rfl) rfl
 (T1 (x_iload H rfl rfl) rfl
 (T1 (x_iadd H rfl) rfl
 ((x_iaload H rfl).trans (ldI_c fun v14 =>
 U1 rfl ((x_iastore H rfl).trans (stI_c fun h15 =>
 U1 rfl (T2 [some (.ref a0), some (.int x1), some (.int x2), some (.int x3), some (.int (x4 + 1))] (x_iinc H rfl ki_1 rfl rfl) rfl
 (T2 [some (.ref a0), some (.int x1), some (.int x2), some (.int x3), some (.int (x4 + 1))] (x_goto H rfl (t := 57) (by decide)) rfl rfl))))))))))))))))))))))))))))))))))))))
theorem nd_162_131 {c : Ct} {dd : Bool} {ρ : Kt} (H : St c dd mt_162 ρ) (h : AH) (a0 : Nat) (x1 : Int32) (x4 : Int32) : ρ 131 [some (.ref a0), some (.int x1), none, none, some (.int x4)] [] h = if 2 ≤ x4 then (gfQ h a0 8 36 none fun b1 => ldI h b1 x1 fun v2 => stI h b1 x1 (v2 + 1) fun h3 => gfQ h3 a0 8 6 none fun b4 => gfQ h3 a0 8 32 none fun b5 => ldI h3 b5 x1 fun v6 => gfI h3 a0 8 12 fun v7 => ldZ h3 b4 ((6 * v6) + v7) fun v8 => gfQ h3 a0 8 37 none fun b9 => ldI h3 b9 x1 fun v10 => if v8 = 0 then (ρ 227 [some (.ref a0), some (.int x1), none, none, some (.int v8)] [.int 0, .int v10, .int x1, .ref b9] h3) else (ρ 227 [some (.ref a0), some (.int x1), none, none, some (.int v8)] [.int 1, .int v10, .int x1, .ref b9] h3)) else (gfQ h a0 8 34 none fun b11 => gfQ h a0 8 13 none fun b12 => ldZ h b12 x4 fun v13 => stZ h b11 ((2 * x1) + x4) v13 fun h14 => gfQ h14 a0 8 35 none fun b15 => gfQ h14 a0 8 14 none fun b16 => ldI h14 b16 x4 fun v17 => stI h14 b15 ((2 * x1) + x4) v17 fun h18 => ρ 131 [some (.ref a0), some (.int x1), none, none, some (.int (x4 + 1))] [] h18) :=
 T1 (x_iload H rfl rfl) rfl
 (T1 (x_iconst H rfl ki_2) rfl
 ((x_icmp_ge H rfl (t := 179) (by decide)).trans (if_c
 (U1 rfl (T1 (x_aload_n H rfl rfl) rfl
 ((x_getR H rfl).trans (gfQ_c rfl fun b1 =>
 U1 rfl (T1 (x_iload_n H rfl rfl) rfl
 (T1 (x_dup2 H rfl) rfl
 ((x_iaload H rfl).trans (ldI_c fun v2 =>
 U1 rfl (T1 (x_iconst H rfl ki_1) rfl
 (T1 (x_iadd H rfl) rfl
 ((x_iastore H rfl).trans (stI_c fun h3 =>
 U1 rfl (T1 (x_aload_n H rfl rfl) rfl
 ((x_getR H rfl).trans (gfQ_c rfl fun b4 =>
 U1 rfl (T1 (x_bipush H rfl kb_6) rfl
 (T1 (x_aload_n H rfl rfl) rfl
 ((x_getR H rfl).trans (gfQ_c rfl fun b5 =>
 U1 rfl (T1 (x_iload_n H rfl rfl) rfl
 ((x_iaload H rfl).trans (ldI_c fun v6 =>
 U1 rfl (T1 (x_imul H rfl) rfl
 (T1 (x_aload_n H rfl rfl) rfl
 ((x_getI H rfl).trans (gfI_c fun v7 =>
 U1 rfl (T1 (x_iadd H rfl) rfl
 ((x_baload H rfl).trans (ldZ_c fun v8 =>
 U1 rfl (T2 [some (.ref a0), some (.int x1), none, none, some (.int v8)] (x_istore H rfl rfl) rfl
 (T1 (x_aload_n H rfl rfl) rfl
 ((x_getR H rfl).trans (gfQ_c rfl fun b9 =>
 U1 rfl (T1 (x_iload_n H rfl rfl) rfl
 (T1 (x_dup2 H rfl) rfl
 ((x_iaload H rfl).trans (ldI_c fun v10 =>
 U1 rfl (T1 (x_iload H rfl rfl) rfl
 ((x_if_eq H rfl (t := 226) (by decide)).trans (if_c
 (U1 rfl (T2 [some (.ref a0), some (.int x1), none, none, some (.int v8)] (x_iconst H rfl ki_0) rfl rfl))
 (U1 rfl (T1 (x_iconst H rfl ki_1) rfl
 (T2 [some (.ref a0), some (.int x1), none, none, some (.int v8)] (x_goto H rfl (t := 227) (by decide)) rfl rfl)))))))))))))))))))))))))))))))))))))))))))
 (U1 rfl (T1 (x_aload_n H rfl rfl) rfl
 ((x_getR H rfl).trans (gfQ_c rfl fun b11 =>
 U1 rfl (T1 (x_iconst H rfl ki_2) rfl
 (T1 (x_iload_n H rfl rfl) rfl
 (T1 (x_imul H rfl) rfl
 (T1 (x_iload H rfl rfl) rfl
 (T1 (x_iadd H rfl) rfl
 (T1 (x_aload_n H rfl rfl) rfl
 ((x_getR H rfl).trans (gfQ_c rfl fun b12 =>
 U1 rfl (T1 (x_iload H rfl rfl) rfl
 ((x_baload H rfl).trans (ldZ_c fun v13 =>
 U1 rfl ((x_bastore H rfl).trans (stZ_c fun h14 =>
 U1 rfl (T1 (x_aload_n H rfl rfl) rfl
 ((x_getR H rfl).trans (gfQ_c rfl fun b15 =>
 U1 rfl (T1 (x_iconst H rfl ki_2) rfl
 (T1 (x_iload_n H rfl rfl) rfl
 (T1 (x_imul H rfl) rfl
 (T1 (x_iload H rfl rfl) rfl
 (T1 (x_iadd H rfl) rfl
 (T1 (x_aload_n H rfl rfl) rfl
 ((x_getR H rfl).trans (gfQ_c rfl fun b16 =>
 U1 rfl (T1 (x_iload H rfl rfl) rfl
 ((x_iaload H rfl).trans (ldI_c fun v17 =>
 U1 rfl ((x_iastore H rfl).trans (stI_c fun h18 =>
 U1 rfl (T2 [some (.ref a0), some (.int x1), none, none, some (.int (x4 + 1))] (x_iinc H rfl ki_1 rfl rfl) rfl
 (T2 [some (.ref a0), some (.int x1), none, none, some (.int (x4 + 1))] (x_goto H rfl (t := 131) (by decide)) rfl rfl))))))))))))))))))))))))))))))))))))))
theorem nd_162_227 {c : Ct} {dd : Bool} {ρ : Kt} (H : St c dd mt_162 ρ) (h : AH) (a0 : Nat) (x1 : Int32) (x4 : Int32) (s0_ : Int32) (s1_ : Int32) (s2_ : Int32) (c3_ : Nat) : ρ 227 [some (.ref a0), some (.int x1), none, none, some (.int x4)] [.int s0_, .int s1_, .int s2_, .ref c3_] h = stI h c3_ s2_ (s1_ + s0_) fun h1 => isO h1 a0 8 ((c 160 [.ref a0, .int x1] h1).bind fun q2 => rI q2 fun v4 h3 => if v4 = 0 then (if x4 = 0 then (ρ 262 [none, none, none, none, none] [.int 0] h3) else (ρ 262 [none, none, none, none, none] [.int 1] h3)) else (gfQ h3 a0 8 38 none fun b5 => gfQ h3 a0 8 36 none fun b6 => ldI h3 b6 x1 fun v7 => stI h3 b5 x1 v7 fun h8 => some (some (.int (-5)), h8))) :=
 T1 (x_iadd H rfl) rfl
 ((x_iastore H rfl).trans (stI_c fun h1 =>
 U1 rfl (T1 (x_aload_n H rfl rfl) rfl
 (T1 (x_iload_n H rfl rfl) rfl
 ((x_callZ (ci := 8) H rfl [.int x1] rfl rfl rfl rfl).trans (isO_c (bi_c fun q2 => rI_c fun v4 h3 =>
 U1 rfl ((x_if_eq H rfl (t := 252) (by decide)).trans (if_c
 (U1 rfl (T1 (x_iload H rfl rfl) rfl
 ((x_if_eq H rfl (t := 261) (by decide)).trans (if_c
 (U1 rfl (T2 [none, none, none, none, none] (x_iconst H rfl ki_0) rfl rfl))
 (U1 rfl (T1 (x_iconst H rfl ki_1) rfl
 (T2 [none, none, none, none, none] (x_goto H rfl (t := 262) (by decide)) rfl rfl)))))))
 (U1 rfl (T1 (x_aload_n H rfl rfl) rfl
 ((x_getR H rfl).trans (gfQ_c rfl fun b5 =>
 U1 rfl (T1 (x_iload_n H rfl rfl) rfl
 (T1 (x_aload_n H rfl rfl) rfl
 ((x_getR H rfl).trans (gfQ_c rfl fun b6 =>
 U1 rfl (T1 (x_iload_n H rfl rfl) rfl
 ((x_iaload H rfl).trans (ldI_c fun v7 =>
 U1 rfl ((x_iastore H rfl).trans (stI_c fun h8 =>
 U1 rfl (T1 (x_bipush H rfl kb_m5) rfl
 (x_ireturn H rfl rfl))))))))))))))))))))))))
theorem nd_162_262 {c : Ct} {dd : Bool} {ρ : Kt} (H : St c dd mt_162 ρ) (h : AH) (s0_ : Int32) : ρ 262 [none, none, none, none, none] [.int s0_] h = some (some (.int s0_), h) :=
 x_ireturn H rfl rfl
-- X8_seen (II)I: 163
theorem nd_163_0 {c : Ct} {dd : Bool} {ρ : Kt} (H : St c dd mt_163 ρ) (h : AH) (a0 : Nat) (x1 : Int32) (x2 : Int32) : ρ 0 [some (.ref a0), some (.int x1), some (.int x2)] [] h = gfI h a0 8 31 fun v1 => (c 107 [.long (x1).toInt64, .long 0, .long ((v1 - 1)).toInt64] h).bind fun q2 => rI q2 fun v4 h3 => if v4 = 0 then (ρ 28 [none, none, none] [] h3) else ((c 107 [.long (x2).toInt64, .long 0, .long 3] h3).bind fun q5 => rI q5 fun v7 h6 => if v7 = 0 then (ρ 28 [none, none, none] [] h6) else (if x2 = 0 then (gfQ h6 a0 8 36 none fun b14 => ldI h6 b14 x1 fun v15 => ρ 79 [none, none, none] [.int v15] h6) else (if x2 = 1 then (gfQ h6 a0 8 33 none fun b12 => ldI h6 b12 x1 fun v13 => ρ 79 [none, none, none] [.int v13] h6) else (if x2 = 2 then (gfQ h6 a0 8 37 none fun b10 => ldI h6 b10 x1 fun v11 => ρ 79 [none, none, none] [.int v11] h6) else (gfQ h6 a0 8 38 none fun b8 => ldI h6 b8 x1 fun v9 => ρ 79 [none, none, none] [.int v9] h6))))) :=
 T1 (x_iload_n H rfl rfl) rfl
 (T1 (x_i2l H rfl) rfl
 (T1 (x_lconst H rfl kl_0) rfl
 (T1 (x_aload_n H rfl rfl) rfl
 ((x_getI H rfl).trans (gfI_c fun v1 =>
 U1 rfl (T1 (x_iconst H rfl ki_1) rfl
 (T1 (x_isub H rfl) rfl
 (T1 (x_i2l H rfl) rfl
 ((x_statZ H rfl [.long (x1).toInt64, .long 0, .long ((v1 - 1)).toInt64] rfl rfl rfl rfl rfl).trans (bi_c fun q2 => rI_c fun v4 h3 =>
 U1 rfl ((x_if_eq H rfl (t := 28) (by decide)).trans (if_c
 (U2 [none, none, none] rfl rfl)
 (U1 rfl (T1 (x_iload_n H rfl rfl) rfl
 (T1 (x_i2l H rfl) rfl
 (T1 (x_lconst H rfl kl_0) rfl
 (T1 (x_ldc2 H rfl kl_3) rfl
 ((x_statZ H rfl [.long (x2).toInt64, .long 0, .long 3] rfl rfl rfl rfl rfl).trans (bi_c fun q5 => rI_c fun v7 h6 =>
 U1 rfl ((x_if_ne H rfl (t := 32) (by decide)).trans (if_c
 (U2 [none, none, none] rfl rfl)
 (U1 rfl (T1 (x_iload_n H rfl rfl) rfl
 ((x_if_ne H rfl (t := 45) (by decide)).trans (if_c
 (U1 rfl (T1 (x_aload_n H rfl rfl) rfl
 ((x_getR H rfl).trans (gfQ_c rfl fun b14 =>
 U1 rfl (T1 (x_iload_n H rfl rfl) rfl
 ((x_iaload H rfl).trans (ldI_c fun v15 =>
 U1 rfl (T2 [none, none, none] (x_goto H rfl (t := 79) (by decide)) rfl rfl))))))))
 (U1 rfl (T1 (x_iload_n H rfl rfl) rfl
 (T1 (x_iconst H rfl ki_1) rfl
 ((x_icmp_ne H rfl (t := 59) (by decide)).trans (if_c
 (U1 rfl (T1 (x_aload_n H rfl rfl) rfl
 ((x_getR H rfl).trans (gfQ_c rfl fun b12 =>
 U1 rfl (T1 (x_iload_n H rfl rfl) rfl
 ((x_iaload H rfl).trans (ldI_c fun v13 =>
 U1 rfl (T2 [none, none, none] (x_goto H rfl (t := 79) (by decide)) rfl rfl))))))))
 (U1 rfl (T1 (x_iload_n H rfl rfl) rfl
 (T1 (x_iconst H rfl ki_2) rfl
 ((x_icmp_ne H rfl (t := 73) (by decide)).trans (if_c
 (U1 rfl (T1 (x_aload_n H rfl rfl) rfl
 ((x_getR H rfl).trans (gfQ_c rfl fun b10 =>
 U1 rfl (T1 (x_iload_n H rfl rfl) rfl
 ((x_iaload H rfl).trans (ldI_c fun v11 =>
 U1 rfl (T2 [none, none, none] (x_goto H rfl (t := 79) (by decide)) rfl rfl))))))))
 (U1 rfl (T1 (x_aload_n H rfl rfl) rfl
 ((x_getR H rfl).trans (gfQ_c rfl fun b8 =>
 U1 rfl (T1 (x_iload_n H rfl rfl) rfl
 ((x_iaload H rfl).trans (ldI_c fun v9 =>
 U2 [none, none, none] rfl rfl))))))))))))))))))))))))))))))))))))))))))
theorem nd_163_28 {c : Ct} {dd : Bool} {ρ : Kt} (H : St c dd mt_163 ρ) (h : AH)  : ρ 28 [none, none, none] [] h = ρ 79 [none, none, none] [.int (-1)] h :=
 T1 (x_iconst H rfl ki_m1) rfl
 (T2 [none, none, none] (x_goto H rfl (t := 79) (by decide)) rfl rfl)
theorem nd_163_79 {c : Ct} {dd : Bool} {ρ : Kt} (H : St c dd mt_163 ρ) (h : AH) (s0_ : Int32) : ρ 79 [none, none, none] [.int s0_] h = some (some (.int s0_), h) :=
 x_ireturn H rfl rfl
-- X8_isSheet (II)Z: 164
theorem nd_164_0 {c : Ct} {dd : Bool} {ρ : Kt} (H : St c dd mt_164 ρ) (h : AH) (x0 : Int32) (x1 : Int32) : ρ 0 [some (.int x0), some (.int x1)] [] h = (c 107 [.long (x0).toInt64, .long 0, .long 3] h).bind fun q1 => rI q1 fun v3 h2 => if v3 = 0 then (ρ 28 [none, none] [] h2) else ((c 107 [.long (x1).toInt64, .long 0, .long 2] h2).bind fun q4 => rI q4 fun v6 h5 => if v6 = 0 then (ρ 28 [none, none] [] h5) else (ρ 29 [none, none] [.int 1] h5)) :=
 T1 (x_iload_n H rfl rfl) rfl
 (T1 (x_i2l H rfl) rfl
 (T1 (x_lconst H rfl kl_0) rfl
 (T1 (x_ldc2 H rfl kl_3) rfl
 ((x_statZ H rfl [.long (x0).toInt64, .long 0, .long 3] rfl rfl rfl rfl rfl).trans (bi_c fun q1 => rI_c fun v3 h2 =>
 U1 rfl ((x_if_eq H rfl (t := 28) (by decide)).trans (if_c
 (U2 [none, none] rfl rfl)
 (U1 rfl (T1 (x_iload_n H rfl rfl) rfl
 (T1 (x_i2l H rfl) rfl
 (T1 (x_lconst H rfl kl_0) rfl
 (T1 (x_ldc2 H rfl kl_2) rfl
 ((x_statZ H rfl [.long (x1).toInt64, .long 0, .long 2] rfl rfl rfl rfl rfl).trans (bi_c fun q4 => rI_c fun v6 h5 =>
 U1 rfl ((x_if_eq H rfl (t := 28) (by decide)).trans (if_c
 (U2 [none, none] rfl rfl)
 (U1 rfl (T1 (x_iconst H rfl ki_1) rfl
 (T2 [none, none] (x_goto H rfl (t := 29) (by decide)) rfl rfl)))))))))))))))))))
theorem nd_164_28 {c : Ct} {dd : Bool} {ρ : Kt} (H : St c dd mt_164 ρ) (h : AH)  : ρ 28 [none, none] [] h = ρ 29 [none, none] [.int 0] h :=
 T2 [none, none] (x_iconst H rfl ki_0) rfl rfl
theorem nd_164_29 {c : Ct} {dd : Bool} {ρ : Kt} (H : St c dd mt_164 ρ) (h : AH) (s0_ : Int32) : ρ 29 [none, none] [.int s0_] h = isZ s0_ (some (some (.int s0_), h)) :=
 x_zreturn H rfl rfl
-- X8_sheet (III)I: 165
theorem nd_165_0 {c : Ct} {dd : Bool} {ρ : Kt} (H : St c dd mt_165 ρ) (h : AH) (a0 : Nat) (x1 : Int32) (x2 : Int32) (x3 : Int32) : ρ 0 [some (.ref a0), some (.int x1), some (.int x2), some (.int x3), none] [] h = (c 164 [.int x1, .int x2] h).bind fun q1 => rI q1 fun v3 h2 => if v3 = 0 then (ρ 14 [none, none, none, none, none] [] h2) else (if x3 ≤ 60 then (if 0 ≤ x3 then (gfQ h2 a0 8 39 none fun b4 => stI h2 b4 x1 x2 fun h5 => gfQ h5 a0 8 40 none fun b6 => stI h5 b6 x1 x3 fun h7 => ρ 40 [some (.ref a0), some (.int x1), none, none, some (.int 0)] [] h7) else (some (some (.int (-14)), h2))) else (ρ 14 [none, none, none, none, none] [] h2)) :=
 T1 (x_iload_n H rfl rfl) rfl
 (T1 (x_iload_n H rfl rfl) rfl
 ((x_statZ H rfl [.int x1, .int x2] rfl rfl rfl rfl rfl).trans (bi_c fun q1 => rI_c fun v3 h2 =>
 U1 rfl ((x_if_eq H rfl (t := 14) (by decide)).trans (if_c
 (U2 [none, none, none, none, none] rfl rfl)
 (U1 rfl (T1 (x_iload_n H rfl rfl) rfl
 (T1 (x_bipush H rfl kb_60) rfl
 ((x_icmp_le H rfl (t := 16) (by decide)).trans (if_c
 (U1 rfl (T1 (x_iload_n H rfl rfl) rfl
 ((x_if_ge H rfl (t := 23) (by decide)).trans (if_c
 (U1 rfl (T1 (x_aload_n H rfl rfl) rfl
 ((x_getR H rfl).trans (gfQ_c rfl fun b4 =>
 U1 rfl (T1 (x_iload_n H rfl rfl) rfl
 (T1 (x_iload_n H rfl rfl) rfl
 ((x_iastore H rfl).trans (stI_c fun h5 =>
 U1 rfl (T1 (x_aload_n H rfl rfl) rfl
 ((x_getR H rfl).trans (gfQ_c rfl fun b6 =>
 U1 rfl (T1 (x_iload_n H rfl rfl) rfl
 (T1 (x_iload_n H rfl rfl) rfl
 ((x_iastore H rfl).trans (stI_c fun h7 =>
 U1 rfl (T1 (x_iconst H rfl ki_0) rfl
 (T2 [some (.ref a0), some (.int x1), none, none, some (.int 0)] (x_istore H rfl rfl) rfl rfl)))))))))))))))))
 (U1 rfl (T1 (x_bipush H rfl kb_m14) rfl
 (x_ireturn H rfl rfl)))))))
 (U2 [none, none, none, none, none] rfl rfl)))))))))))
theorem nd_165_14 {c : Ct} {dd : Bool} {ρ : Kt} (H : St c dd mt_165 ρ) (h : AH)  : ρ 14 [none, none, none, none, none] [] h = some (some (.int (-1)), h) :=
 T1 (x_iconst H rfl ki_m1) rfl
 (x_ireturn H rfl rfl)
theorem nd_165_40 {c : Ct} {dd : Bool} {ρ : Kt} (H : St c dd mt_165 ρ) (h : AH) (a0 : Nat) (x1 : Int32) (x4 : Int32) : ρ 40 [some (.ref a0), some (.int x1), none, none, some (.int x4)] [] h = if 60 ≤ x4 then (some (some (.int 1), h)) else (gfQ h a0 8 41 none fun b1 => stI h b1 ((60 * x1) + x4) 0 fun h2 => ρ 40 [some (.ref a0), some (.int x1), none, none, some (.int (x4 + 1))] [] h2) :=
 T1 (x_iload H rfl rfl) rfl
 (T1 (x_bipush H rfl kb_60) rfl
 ((x_icmp_ge H rfl (t := 66) (by decide)).trans (if_c
 (U1 rfl (T1 (x_iconst H rfl ki_1) rfl
 (x_ireturn H rfl rfl)))
 (U1 rfl (T1 (x_aload_n H rfl rfl) rfl
 ((x_getR H rfl).trans (gfQ_c rfl fun b1 =>
 U1 rfl (T1 (x_bipush H rfl kb_60) rfl
 (T1 (x_iload_n H rfl rfl) rfl
 (T1 (x_imul H rfl) rfl
 (T1 (x_iload H rfl rfl) rfl
 (T1 (x_iadd H rfl) rfl
 (T1 (x_iconst H rfl ki_0) rfl
 ((x_iastore H rfl).trans (stI_c fun h2 =>
 U1 rfl (T2 [some (.ref a0), some (.int x1), none, none, some (.int (x4 + 1))] (x_iinc H rfl ki_1 rfl rfl) rfl
 (T2 [some (.ref a0), some (.int x1), none, none, some (.int (x4 + 1))] (x_goto H rfl (t := 40) (by decide)) rfl rfl)))))))))))))))))
-- X8_lay (III)I: 166
theorem nd_166_0 {c : Ct} {dd : Bool} {ρ : Kt} (H : St c dd mt_166 ρ) (h : AH) (a0 : Nat) (x1 : Int32) (x2 : Int32) (x3 : Int32) : ρ 0 [some (.ref a0), some (.int x1), some (.int x2), some (.int x3)] [] h = (c 164 [.int x1, .int 0] h).bind fun q1 => rI q1 fun v3 h2 => if v3 = 0 then (some (some (.int (-1)), h2)) else (gfQ h2 a0 8 39 none fun b4 => ldI h2 b4 x1 fun v5 => if v5 = (-4) then (some (some (.int (-11)), h2)) else (gfQ h2 a0 8 40 none fun b6 => ldI h2 b6 x1 fun v7 => (c 107 [.long (x2).toInt64, .long 0, .long ((v7 - 1)).toInt64] h2).bind fun q8 => rI q8 fun v10 h9 => if v10 = 0 then (some (some (.int (-12)), h9)) else (gfQ h9 a0 8 41 none fun b11 => gfQ h9 a0 8 39 none fun b12 => ldI h9 b12 x1 fun v13 => if v13 = 0 then (ρ 85 [none, none, none, none] [.int (x3).toInt8.toInt32, .int ((60 * x1) + x2), .ref b11] h9) else (gfQ h9 a0 8 39 none fun b14 => ldI h9 b14 x1 fun v15 => if v15 = 1 then (ρ 85 [none, none, none, none] [.int (x3).toInt16.toInt32, .int ((60 * x1) + x2), .ref b11] h9) else (ρ 85 [none, none, none, none] [.int x3, .int ((60 * x1) + x2), .ref b11] h9))))) :=
 T1 (x_iload_n H rfl rfl) rfl
 (T1 (x_iconst H rfl ki_0) rfl
 ((x_statZ H rfl [.int x1, .int 0] rfl rfl rfl rfl rfl).trans (bi_c fun q1 => rI_c fun v3 h2 =>
 U1 rfl ((x_if_ne H rfl (t := 10) (by decide)).trans (if_c
 (U1 rfl (T1 (x_iconst H rfl ki_m1) rfl
 (x_ireturn H rfl rfl)))
 (U1 rfl (T1 (x_aload_n H rfl rfl) rfl
 ((x_getR H rfl).trans (gfQ_c rfl fun b4 =>
 U1 rfl (T1 (x_iload_n H rfl rfl) rfl
 ((x_iaload H rfl).trans (ldI_c fun v5 =>
 U1 rfl (T1 (x_bipush H rfl kb_m4) rfl
 ((x_icmp_ne H rfl (t := 24) (by decide)).trans (if_c
 (U1 rfl (T1 (x_bipush H rfl kb_m11) rfl
 (x_ireturn H rfl rfl)))
 (U1 rfl (T1 (x_iload_n H rfl rfl) rfl
 (T1 (x_i2l H rfl) rfl
 (T1 (x_lconst H rfl kl_0) rfl
 (T1 (x_aload_n H rfl rfl) rfl
 ((x_getR H rfl).trans (gfQ_c rfl fun b6 =>
 U1 rfl (T1 (x_iload_n H rfl rfl) rfl
 ((x_iaload H rfl).trans (ldI_c fun v7 =>
 U1 rfl (T1 (x_iconst H rfl ki_1) rfl
 (T1 (x_isub H rfl) rfl
 (T1 (x_i2l H rfl) rfl
 ((x_statZ H rfl [.long (x2).toInt64, .long 0, .long ((v7 - 1)).toInt64] rfl rfl rfl rfl rfl).trans (bi_c fun q8 => rI_c fun v10 h9 =>
 U1 rfl ((x_if_ne H rfl (t := 45) (by decide)).trans (if_c
 (U1 rfl (T1 (x_bipush H rfl kb_m12) rfl
 (x_ireturn H rfl rfl)))
 (U1 rfl (T1 (x_aload_n H rfl rfl) rfl
 ((x_getR H rfl).trans (gfQ_c rfl fun b11 =>
 U1 rfl (T1 (x_bipush H rfl kb_60) rfl
 (T1 (x_iload_n H rfl rfl) rfl
 (T1 (x_imul H rfl) rfl
 (T1 (x_iload_n H rfl rfl) rfl
 (T1 (x_iadd H rfl) rfl
 (T1 (x_aload_n H rfl rfl) rfl
 ((x_getR H rfl).trans (gfQ_c rfl fun b12 =>
 U1 rfl (T1 (x_iload_n H rfl rfl) rfl
 ((x_iaload H rfl).trans (ldI_c fun v13 =>
 U1 rfl ((x_if_ne H rfl (t := 69) (by decide)).trans (if_c
 (U1 rfl (T1 (x_iload_n H rfl rfl) rfl
 (T1 (x_i2b H rfl) rfl
 (T2 [none, none, none, none] (x_goto H rfl (t := 85) (by decide)) rfl rfl))))
 (U1 rfl (T1 (x_aload_n H rfl rfl) rfl
 ((x_getR H rfl).trans (gfQ_c rfl fun b14 =>
 U1 rfl (T1 (x_iload_n H rfl rfl) rfl
 ((x_iaload H rfl).trans (ldI_c fun v15 =>
 U1 rfl (T1 (x_iconst H rfl ki_1) rfl
 ((x_icmp_ne H rfl (t := 84) (by decide)).trans (if_c
 (U1 rfl (T1 (x_iload_n H rfl rfl) rfl
 (T1 (x_i2s H rfl) rfl
 (T2 [none, none, none, none] (x_goto H rfl (t := 85) (by decide)) rfl rfl))))
 (U1 rfl (T2 [none, none, none, none] (x_iload_n H rfl rfl) rfl rfl)))))))))))))))))))))))))))))))))))))))))))))))))))))))))))))
theorem nd_166_85 {c : Ct} {dd : Bool} {ρ : Kt} (H : St c dd mt_166 ρ) (h : AH) (s0_ : Int32) (s1_ : Int32) (c2_ : Nat) : ρ 85 [none, none, none, none] [.int s0_, .int s1_, .ref c2_] h = stI h c2_ s1_ s0_ fun h1 => some (some (.int 1), h1) :=
 (x_iastore H rfl).trans (stI_c fun h1 =>
 U1 rfl (T1 (x_iconst H rfl ki_1) rfl
 (x_ireturn H rfl rfl)))
-- X8_scan (IIII)I: 167
theorem nd_167_0 {c : Ct} {dd : Bool} {ρ : Kt} (H : St c dd mt_167 ρ) (h : AH) (a0 : Nat) (x1 : Int32) (x2 : Int32) (x3 : Int32) (x4 : Int32) : ρ 0 [some (.ref a0), some (.int x1), some (.int x2), some (.int x3), some (.int x4), none, none, none, none, none, none] [] h = (c 164 [.int x1, .int x2] h).bind fun q1 => rI q1 fun v3 h2 => if v3 = 0 then (ρ 21 [none, none, none, none, none, none, none, none, none, none, none] [] h2) else ((c 107 [.long (x4).toInt64, .long 0, .long 30] h2).bind fun q4 => rI q4 fun v6 h5 => if v6 = 0 then (ρ 21 [none, none, none, none, none, none, none, none, none, none, none] [] h5) else (gfQ h5 a0 8 39 none fun b7 => ldI h5 b7 x1 fun v8 => if v8 = x2 then (gfI h5 a0 8 0 fun v9 => ρ 64 [some (.ref a0), some (.int x1), none, some (.int x3), some (.int x4), some (.int v9), some (.int 0), some (.int 0), none, none, none] [] h5) else (gfQ h5 a0 8 39 none fun b10 => ldI h5 b10 x1 fun v11 => if v11 = (-4) then (ρ 51 [none, none, none, none, none, none, none, none, none, none, none] [.int (-11)] h5) else (ρ 51 [none, none, none, none, none, none, none, none, none, none, none] [.int (-13)] h5)))) :=
 T1 (x_iload_n H rfl rfl) rfl
 (T1 (x_iload_n H rfl rfl) rfl
 ((x_statZ H rfl [.int x1, .int x2] rfl rfl rfl rfl rfl).trans (bi_c fun q1 => rI_c fun v3 h2 =>
 U1 rfl ((x_if_eq H rfl (t := 21) (by decide)).trans (if_c
 (U2 [none, none, none, none, none, none, none, none, none, none, none] rfl rfl)
 (U1 rfl (T1 (x_iload H rfl rfl) rfl
 (T1 (x_i2l H rfl) rfl
 (T1 (x_lconst H rfl kl_0) rfl
 (T1 (x_ldc2 H rfl kl_30) rfl
 ((x_statZ H rfl [.long (x4).toInt64, .long 0, .long 30] rfl rfl rfl rfl rfl).trans (bi_c fun q4 => rI_c fun v6 h5 =>
 U1 rfl ((x_if_ne H rfl (t := 23) (by decide)).trans (if_c
 (U2 [none, none, none, none, none, none, none, none, none, none, none] rfl rfl)
 (U1 rfl (T1 (x_aload_n H rfl rfl) rfl
 ((x_getR H rfl).trans (gfQ_c rfl fun b7 =>
 U1 rfl (T1 (x_iload_n H rfl rfl) rfl
 ((x_iaload H rfl).trans (ldI_c fun v8 =>
 U1 rfl (T1 (x_iload_n H rfl rfl) rfl
 ((x_icmp_eq H rfl (t := 52) (by decide)).trans (if_c
 (U1 rfl (T1 (x_aload_n H rfl rfl) rfl
 ((x_getI H rfl).trans (gfI_c fun v9 =>
 U1 rfl (T2 [some (.ref a0), some (.int x1), some (.int x2), some (.int x3), some (.int x4), some (.int v9), none, none, none, none, none] (x_istore H rfl rfl) rfl
 (T1 (x_iconst H rfl ki_0) rfl
 (T2 [some (.ref a0), some (.int x1), some (.int x2), some (.int x3), some (.int x4), some (.int v9), some (.int 0), none, none, none, none] (x_istore H rfl rfl) rfl
 (T1 (x_iconst H rfl ki_0) rfl
 (T2 [some (.ref a0), some (.int x1), none, some (.int x3), some (.int x4), some (.int v9), some (.int 0), some (.int 0), none, none, none] (x_istore H rfl rfl) rfl rfl)))))))))
 (U1 rfl (T1 (x_aload_n H rfl rfl) rfl
 ((x_getR H rfl).trans (gfQ_c rfl fun b10 =>
 U1 rfl (T1 (x_iload_n H rfl rfl) rfl
 ((x_iaload H rfl).trans (ldI_c fun v11 =>
 U1 rfl (T1 (x_bipush H rfl kb_m4) rfl
 ((x_icmp_ne H rfl (t := 49) (by decide)).trans (if_c
 (U1 rfl (T1 (x_bipush H rfl kb_m11) rfl
 (T2 [none, none, none, none, none, none, none, none, none, none, none] (x_goto H rfl (t := 51) (by decide)) rfl rfl)))
 (U1 rfl (T2 [none, none, none, none, none, none, none, none, none, none, none] (x_bipush H rfl kb_m13) rfl rfl))))))))))))))))))))))))))))))))))))
theorem nd_167_21 {c : Ct} {dd : Bool} {ρ : Kt} (H : St c dd mt_167 ρ) (h : AH)  : ρ 21 [none, none, none, none, none, none, none, none, none, none, none] [] h = some (some (.int (-1)), h) :=
 T1 (x_iconst H rfl ki_m1) rfl
 (x_ireturn H rfl rfl)
theorem nd_167_51 {c : Ct} {dd : Bool} {ρ : Kt} (H : St c dd mt_167 ρ) (h : AH) (s0_ : Int32) : ρ 51 [none, none, none, none, none, none, none, none, none, none, none] [.int s0_] h = some (some (.int s0_), h) :=
 x_ireturn H rfl rfl
theorem nd_167_64 {c : Ct} {dd : Bool} {ρ : Kt} (H : St c dd mt_167 ρ) (h : AH) (a0 : Nat) (x1 : Int32) (x3 : Int32) (x4 : Int32) (x5 : Int32) (x6 : Int32) (x7 : Int32) : ρ 64 [some (.ref a0), some (.int x1), none, some (.int x3), some (.int x4), some (.int x5), some (.int x6), some (.int x7), none, none, none] [] h = if x4 ≤ x7 then (ρ 173 [some (.ref a0), none, none, none, none, some (.int x5), some (.int x6), none, none, none, none] [] h) else (if x6 = 0 then (if (lg_cmp ((x3).toInt64 + ((2 * x7)).toInt64) 0) < 0 then (ρ 110 [some (.ref a0), some (.int x1), none, some (.int x3), some (.int x4), some (.int x5), none, some (.int x7), none, none, none] [] h) else (gfQ h a0 8 40 none fun b1 => ldI h b1 x1 fun v2 => if (lg_cmp (((x3).toInt64 + ((2 * x7)).toInt64) + 2) (v2).toInt64) ≤ 0 then (gfQ h a0 8 41 none fun b3 => ldI h b3 ((60 * x1) + (((x3).toInt64 + ((2 * x7)).toInt64)).toInt32) fun v4 => gfQ h a0 8 41 none fun b5 => ldI h b5 (((60 * x1) + (((x3).toInt64 + ((2 * x7)).toInt64)).toInt32) + 1) fun v6 => isO h a0 8 ((c 108 [.ref a0, .int v4, .int v6] h).bind fun q7 => rI q7 fun v9 h8 => if 0 ≤ v9 then (ρ 165 [some (.ref a0), some (.int x1), none, some (.int x3), some (.int x4), some (.int x5), none, some (.int x7), none, none, none] [.int 0] h8) else (ρ 165 [some (.ref a0), some (.int x1), none, some (.int x3), some (.int x4), some (.int x5), none, some (.int x7), none, none, none] [.int ((-20) + v9)] h8))) else (ρ 110 [some (.ref a0), some (.int x1), none, some (.int x3), some (.int x4), some (.int x5), none, some (.int x7), none, none, none] [] h))) else (ρ 173 [some (.ref a0), none, none, none, none, some (.int x5), some (.int x6), none, none, none, none] [] h)) :=
 T1 (x_iload H rfl rfl) rfl
 (T1 (x_iload H rfl rfl) rfl
 ((x_icmp_ge H rfl (t := 173) (by decide)).trans (if_c
 (U2 [some (.ref a0), none, none, none, none, some (.int x5), some (.int x6), none, none, none, none] rfl rfl)
 (U1 rfl (T1 (x_iload H rfl rfl) rfl
 ((x_if_ne H rfl (t := 173) (by decide)).trans (if_c
 (U1 rfl (T1 (x_iload_n H rfl rfl) rfl
 (T1 (x_i2l H rfl) rfl
 (T1 (x_iconst H rfl ki_2) rfl
 (T1 (x_iload H rfl rfl) rfl
 (T1 (x_imul H rfl) rfl
 (T1 (x_i2l H rfl) rfl
 (T1 (x_ladd H rfl) rfl
 (T2 [some (.ref a0), some (.int x1), none, some (.int x3), some (.int x4), some (.int x5), some (.int x6), some (.int x7), some (.long ((x3).toInt64 + ((2 * x7)).toInt64)), none, none] (x_lstore H rfl rfl) rfl
 (T1 (x_lload H rfl rfl) rfl
 (T1 (x_lconst H rfl kl_0) rfl
 (T1 (x_lcmp H rfl) rfl
 ((x_if_lt H rfl (t := 110) (by decide)).trans (if_c
 (U2 [some (.ref a0), some (.int x1), none, some (.int x3), some (.int x4), some (.int x5), none, some (.int x7), none, none, none] rfl rfl)
 (U1 rfl (T1 (x_lload H rfl rfl) rfl
 (T1 (x_ldc2 H rfl kl_2) rfl
 (T1 (x_ladd H rfl) rfl
 (T1 (x_aload_n H rfl rfl) rfl
 ((x_getR H rfl).trans (gfQ_c rfl fun b1 =>
 U1 rfl (T1 (x_iload_n H rfl rfl) rfl
 ((x_iaload H rfl).trans (ldI_c fun v2 =>
 U1 rfl (T1 (x_i2l H rfl) rfl
 (T1 (x_lcmp H rfl) rfl
 ((x_if_le H rfl (t := 117) (by decide)).trans (if_c
 (U1 rfl (T1 (x_aload_n H rfl rfl) rfl
 (T1 (x_aload_n H rfl rfl) rfl
 ((x_getR H rfl).trans (gfQ_c rfl fun b3 =>
 U1 rfl (T1 (x_bipush H rfl kb_60) rfl
 (T1 (x_iload_n H rfl rfl) rfl
 (T1 (x_imul H rfl) rfl
 (T1 (x_lload H rfl rfl) rfl
 (T1 (x_l2i H rfl) rfl
 (T1 (x_iadd H rfl) rfl
 ((x_iaload H rfl).trans (ldI_c fun v4 =>
 U1 rfl (T1 (x_aload_n H rfl rfl) rfl
 ((x_getR H rfl).trans (gfQ_c rfl fun b5 =>
 U1 rfl (T1 (x_bipush H rfl kb_60) rfl
 (T1 (x_iload_n H rfl rfl) rfl
 (T1 (x_imul H rfl) rfl
 (T1 (x_lload H rfl rfl) rfl
 (T1 (x_l2i H rfl) rfl
 (T1 (x_iadd H rfl) rfl
 (T1 (x_iconst H rfl ki_1) rfl
 (T1 (x_iadd H rfl) rfl
 ((x_iaload H rfl).trans (ldI_c fun v6 =>
 U1 rfl ((x_callI (ci := 8) H rfl [.int v4, .int v6] rfl rfl rfl rfl).trans (isO_c (bi_c fun q7 => rI_c fun v9 h8 =>
 U1 rfl (T2 [some (.ref a0), some (.int x1), none, some (.int x3), some (.int x4), some (.int x5), some (.int x6), some (.int x7), some (.long ((x3).toInt64 + ((2 * x7)).toInt64)), none, some (.int v9)] (x_istore H rfl rfl) rfl
 (T1 (x_iload H rfl rfl) rfl
 ((x_if_ge H rfl (t := 164) (by decide)).trans (if_c
 (U1 rfl (T2 [some (.ref a0), some (.int x1), none, some (.int x3), some (.int x4), some (.int x5), none, some (.int x7), none, none, none] (x_iconst H rfl ki_0) rfl rfl))
 (U1 rfl (T1 (x_bipush H rfl kb_m20) rfl
 (T1 (x_iload H rfl rfl) rfl
 (T1 (x_iadd H rfl) rfl
 (T2 [some (.ref a0), some (.int x1), none, some (.int x3), some (.int x4), some (.int x5), none, some (.int x7), none, none, none] (x_goto H rfl (t := 165) (by decide)) rfl rfl))))))))))))))))))))))))))))))))))))))
 (U2 [some (.ref a0), some (.int x1), none, some (.int x3), some (.int x4), some (.int x5), none, some (.int x7), none, none, none] rfl rfl)))))))))))))))))))))))))))))
 (U2 [some (.ref a0), none, none, none, none, some (.int x5), some (.int x6), none, none, none, none] rfl rfl))))))))
theorem nd_167_110 {c : Ct} {dd : Bool} {ρ : Kt} (H : St c dd mt_167 ρ) (h : AH) (a0 : Nat) (x1 : Int32) (x3 : Int32) (x4 : Int32) (x5 : Int32) (x7 : Int32) : ρ 110 [some (.ref a0), some (.int x1), none, some (.int x3), some (.int x4), some (.int x5), none, some (.int x7), none, none, none] [] h = ρ 167 [some (.ref a0), some (.int x1), none, some (.int x3), some (.int x4), some (.int x5), some (.int (-12)), some (.int x7), none, none, none] [] h :=
 T1 (x_bipush H rfl kb_m12) rfl
 (T2 [some (.ref a0), some (.int x1), none, some (.int x3), some (.int x4), some (.int x5), some (.int (-12)), some (.int x7), none, none, none] (x_istore H rfl rfl) rfl
 (T2 [some (.ref a0), some (.int x1), none, some (.int x3), some (.int x4), some (.int x5), some (.int (-12)), some (.int x7), none, none, none] (x_goto H rfl (t := 167) (by decide)) rfl rfl))
theorem nd_167_165 {c : Ct} {dd : Bool} {ρ : Kt} (H : St c dd mt_167 ρ) (h : AH) (a0 : Nat) (x1 : Int32) (x3 : Int32) (x4 : Int32) (x5 : Int32) (x7 : Int32) (s0_ : Int32) : ρ 165 [some (.ref a0), some (.int x1), none, some (.int x3), some (.int x4), some (.int x5), none, some (.int x7), none, none, none] [.int s0_] h = ρ 167 [some (.ref a0), some (.int x1), none, some (.int x3), some (.int x4), some (.int x5), some (.int s0_), some (.int x7), none, none, none] [] h :=
 T2 [some (.ref a0), some (.int x1), none, some (.int x3), some (.int x4), some (.int x5), some (.int s0_), some (.int x7), none, none, none] (x_istore H rfl rfl) rfl rfl
theorem nd_167_173 {c : Ct} {dd : Bool} {ρ : Kt} (H : St c dd mt_167 ρ) (h : AH) (a0 : Nat) (x5 : Int32) (x6 : Int32) : ρ 173 [some (.ref a0), none, none, none, none, some (.int x5), some (.int x6), none, none, none, none] [] h = if 0 ≤ x6 then (gfI h a0 8 0 fun v1 => ρ 188 [some (.ref a0), none, none, none, none, none, some (.int x6), none, none, none, none] [.int v1, .ref a0] h) else (ρ 188 [some (.ref a0), none, none, none, none, none, some (.int x6), none, none, none, none] [.int x5, .ref a0] h) :=
 T1 (x_aload_n H rfl rfl) rfl
 (T1 (x_iload H rfl rfl) rfl
 ((x_if_ge H rfl (t := 184) (by decide)).trans (if_c
 (U1 rfl (T1 (x_aload_n H rfl rfl) rfl
 ((x_getI H rfl).trans (gfI_c fun v1 =>
 U2 [some (.ref a0), none, none, none, none, none, some (.int x6), none, none, none, none] rfl rfl))))
 (U1 rfl (T1 (x_iload H rfl rfl) rfl
 (T2 [some (.ref a0), none, none, none, none, none, some (.int x6), none, none, none, none] (x_goto H rfl (t := 188) (by decide)) rfl rfl))))))
theorem nd_167_167 {c : Ct} {dd : Bool} {ρ : Kt} (H : St c dd mt_167 ρ) (h : AH) (a0 : Nat) (x1 : Int32) (x3 : Int32) (x4 : Int32) (x5 : Int32) (x6 : Int32) (x7 : Int32) : ρ 167 [some (.ref a0), some (.int x1), none, some (.int x3), some (.int x4), some (.int x5), some (.int x6), some (.int x7), none, none, none] [] h = ρ 64 [some (.ref a0), some (.int x1), none, some (.int x3), some (.int x4), some (.int x5), some (.int x6), some (.int (x7 + 1)), none, none, none] [] h :=
 T2 [some (.ref a0), some (.int x1), none, some (.int x3), some (.int x4), some (.int x5), some (.int x6), some (.int (x7 + 1)), none, none, none] (x_iinc H rfl ki_1 rfl rfl) rfl
 (T2 [some (.ref a0), some (.int x1), none, some (.int x3), some (.int x4), some (.int x5), some (.int x6), some (.int (x7 + 1)), none, none, none] (x_goto H rfl (t := 64) (by decide)) rfl rfl)
theorem nd_167_188 {c : Ct} {dd : Bool} {ρ : Kt} (H : St c dd mt_167 ρ) (h : AH) (a0 : Nat) (x6 : Int32) (s0_ : Int32) (c1_ : Nat) : ρ 188 [some (.ref a0), none, none, none, none, none, some (.int x6), none, none, none, none] [.int s0_, .ref c1_] h = pfV h c1_ 8 0 (.int s0_) fun h1 => if 0 ≤ x6 then (gfI h1 a0 8 0 fun v2 => ρ 205 [none, none, none, none, none, none, none, none, none, none, none] [.int v2] h1) else (ρ 205 [none, none, none, none, none, none, none, none, none, none, none] [.int x6] h1) :=
 (x_putI H rfl).trans (pfV_c fun h1 =>
 U1 rfl (T1 (x_iload H rfl rfl) rfl
 ((x_if_ge H rfl (t := 201) (by decide)).trans (if_c
 (U1 rfl (T1 (x_aload_n H rfl rfl) rfl
 ((x_getI H rfl).trans (gfI_c fun v2 =>
 U2 [none, none, none, none, none, none, none, none, none, none, none] rfl rfl))))
 (U1 rfl (T1 (x_iload H rfl rfl) rfl
 (T2 [none, none, none, none, none, none, none, none, none, none, none] (x_goto H rfl (t := 205) (by decide)) rfl rfl)))))))
theorem nd_167_205 {c : Ct} {dd : Bool} {ρ : Kt} (H : St c dd mt_167 ρ) (h : AH) (s0_ : Int32) : ρ 205 [none, none, none, none, none, none, none, none, none, none, none] [.int s0_] h = some (some (.int s0_), h) :=
 x_ireturn H rfl rfl
-- X8_count (I)I: 168
theorem nd_168_0 {c : Ct} {dd : Bool} {ρ : Kt} (H : St c dd mt_168 ρ) (h : AH) (a0 : Nat) (x1 : Int32) : ρ 0 [some (.ref a0), some (.int x1), none, none, none, none] [] h = if x1 = 3 then (ρ 9 [some (.ref a0), none, some (.int 0), some (.int 0), none, none] [] h) else (if x1 = 4 then (ρ 53 [some (.ref a0), none, some (.int 0), some (.int 0), none, none] [] h) else (if x1 = 0 then (gfI h a0 8 0 fun v3 => ρ 160 [none, none, none, none, none, none] [.int v3] h) else (if x1 = 1 then (gfI h a0 8 3 fun v2 => ρ 160 [none, none, none, none, none, none] [.int v2] h) else (if x1 = 2 then (gfI h a0 8 31 fun v1 => ρ 160 [none, none, none, none, none, none] [.int v1] h) else (ρ 160 [none, none, none, none, none, none] [.int (-1)] h))))) :=
 T1 (x_iload_n H rfl rfl) rfl
 (T1 (x_iconst H rfl ki_3) rfl
 ((x_icmp_ne H rfl (t := 44) (by decide)).trans (if_c
 (U1 rfl (T1 (x_iconst H rfl ki_0) rfl
 (T2 [some (.ref a0), some (.int x1), some (.int 0), none, none, none] (x_istore_n H rfl rfl) rfl
 (T1 (x_iconst H rfl ki_0) rfl
 (T2 [some (.ref a0), none, some (.int 0), some (.int 0), none, none] (x_istore_n H rfl rfl) rfl rfl)))))
 (U1 rfl (T1 (x_iload_n H rfl rfl) rfl
 (T1 (x_iconst H rfl ki_4) rfl
 ((x_icmp_ne H rfl (t := 124) (by decide)).trans (if_c
 (U1 rfl (T1 (x_iconst H rfl ki_0) rfl
 (T2 [some (.ref a0), some (.int x1), some (.int 0), none, none, none] (x_istore_n H rfl rfl) rfl
 (T1 (x_iconst H rfl ki_0) rfl
 (T2 [some (.ref a0), none, some (.int 0), some (.int 0), none, none] (x_istore_n H rfl rfl) rfl rfl)))))
 (U1 rfl (T1 (x_iload_n H rfl rfl) rfl
 ((x_if_ne H rfl (t := 135) (by decide)).trans (if_c
 (U1 rfl (T1 (x_aload_n H rfl rfl) rfl
 ((x_getI H rfl).trans (gfI_c fun v3 =>
 U1 rfl (T2 [none, none, none, none, none, none] (x_goto H rfl (t := 160) (by decide)) rfl rfl)))))
 (U1 rfl (T1 (x_iload_n H rfl rfl) rfl
 (T1 (x_iconst H rfl ki_1) rfl
 ((x_icmp_ne H rfl (t := 147) (by decide)).trans (if_c
 (U1 rfl (T1 (x_aload_n H rfl rfl) rfl
 ((x_getI H rfl).trans (gfI_c fun v2 =>
 U1 rfl (T2 [none, none, none, none, none, none] (x_goto H rfl (t := 160) (by decide)) rfl rfl)))))
 (U1 rfl (T1 (x_iload_n H rfl rfl) rfl
 (T1 (x_iconst H rfl ki_2) rfl
 ((x_icmp_ne H rfl (t := 159) (by decide)).trans (if_c
 (U1 rfl (T1 (x_aload_n H rfl rfl) rfl
 ((x_getI H rfl).trans (gfI_c fun v1 =>
 U1 rfl (T2 [none, none, none, none, none, none] (x_goto H rfl (t := 160) (by decide)) rfl rfl)))))
 (U1 rfl (T2 [none, none, none, none, none, none] (x_iconst H rfl ki_m1) rfl rfl))))))))))))))))))))))))
theorem nd_168_9 {c : Ct} {dd : Bool} {ρ : Kt} (H : St c dd mt_168 ρ) (h : AH) (a0 : Nat) (x2 : Int32) (x3 : Int32) : ρ 9 [some (.ref a0), none, some (.int x2), some (.int x3), none, none] [] h = gfI h a0 8 31 fun v1 => if v1 ≤ x3 then (some (some (.int x2), h)) else (gfQ h a0 8 38 none fun b2 => ldI h b2 x3 fun v3 => if v3 = (-4) then (ρ 34 [some (.ref a0), none, none, some (.int x3), none, none] [.int 0, .int x2] h) else (ρ 34 [some (.ref a0), none, none, some (.int x3), none, none] [.int 1, .int x2] h)) :=
 T1 (x_iload_n H rfl rfl) rfl
 (T1 (x_aload_n H rfl rfl) rfl
 ((x_getI H rfl).trans (gfI_c fun v1 =>
 U1 rfl ((x_icmp_ge H rfl (t := 42) (by decide)).trans (if_c
 (U1 rfl (T1 (x_iload_n H rfl rfl) rfl
 (x_ireturn H rfl rfl)))
 (U1 rfl (T1 (x_iload_n H rfl rfl) rfl
 (T1 (x_aload_n H rfl rfl) rfl
 ((x_getR H rfl).trans (gfQ_c rfl fun b2 =>
 U1 rfl (T1 (x_iload_n H rfl rfl) rfl
 ((x_iaload H rfl).trans (ldI_c fun v3 =>
 U1 rfl (T1 (x_bipush H rfl kb_m4) rfl
 ((x_icmp_eq H rfl (t := 33) (by decide)).trans (if_c
 (U1 rfl (T2 [some (.ref a0), none, none, some (.int x3), none, none] (x_iconst H rfl ki_0) rfl rfl))
 (U1 rfl (T1 (x_iconst H rfl ki_1) rfl
 (T2 [some (.ref a0), none, none, some (.int x3), none, none] (x_goto H rfl (t := 34) (by decide)) rfl rfl)))))))))))))))))))
theorem nd_168_53 {c : Ct} {dd : Bool} {ρ : Kt} (H : St c dd mt_168 ρ) (h : AH) (a0 : Nat) (x2 : Int32) (x3 : Int32) : ρ 53 [some (.ref a0), none, some (.int x2), some (.int x3), none, none] [] h = gfI h a0 8 3 fun v1 => if v1 ≤ x3 then (some (some (.int x2), h)) else (ρ 67 [some (.ref a0), none, some (.int x2), some (.int x3), some (.int 1), some (.int 0)] [] h) :=
 T1 (x_iload_n H rfl rfl) rfl
 (T1 (x_aload_n H rfl rfl) rfl
 ((x_getI H rfl).trans (gfI_c fun v1 =>
 U1 rfl ((x_icmp_ge H rfl (t := 122) (by decide)).trans (if_c
 (U1 rfl (T1 (x_iload_n H rfl rfl) rfl
 (x_ireturn H rfl rfl)))
 (U1 rfl (T1 (x_iconst H rfl ki_1) rfl
 (T2 [some (.ref a0), none, some (.int x2), some (.int x3), some (.int 1), none] (x_istore H rfl rfl) rfl
 (T1 (x_iconst H rfl ki_0) rfl
 (T2 [some (.ref a0), none, some (.int x2), some (.int x3), some (.int 1), some (.int 0)] (x_istore H rfl rfl) rfl rfl))))))))))
theorem nd_168_160 {c : Ct} {dd : Bool} {ρ : Kt} (H : St c dd mt_168 ρ) (h : AH) (s0_ : Int32) : ρ 160 [none, none, none, none, none, none] [.int s0_] h = some (some (.int s0_), h) :=
 x_ireturn H rfl rfl
theorem nd_168_34 {c : Ct} {dd : Bool} {ρ : Kt} (H : St c dd mt_168 ρ) (h : AH) (a0 : Nat) (x3 : Int32) (s0_ : Int32) (s1_ : Int32) : ρ 34 [some (.ref a0), none, none, some (.int x3), none, none] [.int s0_, .int s1_] h = ρ 9 [some (.ref a0), none, some (.int (s1_ + s0_)), some (.int (x3 + 1)), none, none] [] h :=
 T1 (x_iadd H rfl) rfl
 (T2 [some (.ref a0), none, some (.int (s1_ + s0_)), some (.int x3), none, none] (x_istore_n H rfl rfl) rfl
 (T2 [some (.ref a0), none, some (.int (s1_ + s0_)), some (.int (x3 + 1)), none, none] (x_iinc H rfl ki_1 rfl rfl) rfl
 (T2 [some (.ref a0), none, some (.int (s1_ + s0_)), some (.int (x3 + 1)), none, none] (x_goto H rfl (t := 9) (by decide)) rfl rfl)))
theorem nd_168_67 {c : Ct} {dd : Bool} {ρ : Kt} (H : St c dd mt_168 ρ) (h : AH) (a0 : Nat) (x2 : Int32) (x3 : Int32) (x4 : Int32) (x5 : Int32) : ρ 67 [some (.ref a0), none, some (.int x2), some (.int x3), some (.int x4), some (.int x5)] [] h = if x3 ≤ x5 then (if x4 = 0 then (ρ 114 [some (.ref a0), none, none, some (.int x3), none, none] [.int 0, .int x2] h) else (ρ 114 [some (.ref a0), none, none, some (.int x3), none, none] [.int 1, .int x2] h)) else (if x4 = 0 then (ρ 94 [some (.ref a0), none, some (.int x2), some (.int x3), none, some (.int x5)] [] h) else (isO h a0 8 ((c 143 [.ref a0, .int x3, .int x5] h).bind fun q1 => rI q1 fun v3 h2 => if v3 = (-4) then (ρ 94 [some (.ref a0), none, some (.int x2), some (.int x3), none, some (.int x5)] [] h2) else (ρ 95 [some (.ref a0), none, some (.int x2), some (.int x3), none, some (.int x5)] [.int 1] h2)))) :=
 T1 (x_iload H rfl rfl) rfl
 (T1 (x_iload_n H rfl rfl) rfl
 ((x_icmp_ge H rfl (t := 103) (by decide)).trans (if_c
 (U1 rfl (T1 (x_iload_n H rfl rfl) rfl
 (T1 (x_iload H rfl rfl) rfl
 ((x_if_eq H rfl (t := 113) (by decide)).trans (if_c
 (U1 rfl (T2 [some (.ref a0), none, none, some (.int x3), none, none] (x_iconst H rfl ki_0) rfl rfl))
 (U1 rfl (T1 (x_iconst H rfl ki_1) rfl
 (T2 [some (.ref a0), none, none, some (.int x3), none, none] (x_goto H rfl (t := 114) (by decide)) rfl rfl))))))))
 (U1 rfl (T1 (x_iload H rfl rfl) rfl
 ((x_if_eq H rfl (t := 94) (by decide)).trans (if_c
 (U2 [some (.ref a0), none, some (.int x2), some (.int x3), none, some (.int x5)] rfl rfl)
 (U1 rfl (T1 (x_aload_n H rfl rfl) rfl
 (T1 (x_iload_n H rfl rfl) rfl
 (T1 (x_iload H rfl rfl) rfl
 ((x_callI (ci := 8) H rfl [.int x3, .int x5] rfl rfl rfl rfl).trans (isO_c (bi_c fun q1 => rI_c fun v3 h2 =>
 U1 rfl (T1 (x_bipush H rfl kb_m4) rfl
 ((x_icmp_eq H rfl (t := 94) (by decide)).trans (if_c
 (U2 [some (.ref a0), none, some (.int x2), some (.int x3), none, some (.int x5)] rfl rfl)
 (U1 rfl (T1 (x_iconst H rfl ki_1) rfl
 (T2 [some (.ref a0), none, some (.int x2), some (.int x3), none, some (.int x5)] (x_goto H rfl (t := 95) (by decide)) rfl rfl))))))))))))))))))))
theorem nd_168_94 {c : Ct} {dd : Bool} {ρ : Kt} (H : St c dd mt_168 ρ) (h : AH) (a0 : Nat) (x2 : Int32) (x3 : Int32) (x5 : Int32) : ρ 94 [some (.ref a0), none, some (.int x2), some (.int x3), none, some (.int x5)] [] h = ρ 95 [some (.ref a0), none, some (.int x2), some (.int x3), none, some (.int x5)] [.int 0] h :=
 T2 [some (.ref a0), none, some (.int x2), some (.int x3), none, some (.int x5)] (x_iconst H rfl ki_0) rfl rfl
theorem nd_168_95 {c : Ct} {dd : Bool} {ρ : Kt} (H : St c dd mt_168 ρ) (h : AH) (a0 : Nat) (x2 : Int32) (x3 : Int32) (x5 : Int32) (s0_ : Int32) : ρ 95 [some (.ref a0), none, some (.int x2), some (.int x3), none, some (.int x5)] [.int s0_] h = ρ 67 [some (.ref a0), none, some (.int x2), some (.int x3), some (.int s0_), some (.int (x5 + 1))] [] h :=
 T2 [some (.ref a0), none, some (.int x2), some (.int x3), some (.int s0_), some (.int x5)] (x_istore H rfl rfl) rfl
 (T2 [some (.ref a0), none, some (.int x2), some (.int x3), some (.int s0_), some (.int (x5 + 1))] (x_iinc H rfl ki_1 rfl rfl) rfl
 (T2 [some (.ref a0), none, some (.int x2), some (.int x3), some (.int s0_), some (.int (x5 + 1))] (x_goto H rfl (t := 67) (by decide)) rfl rfl))
theorem nd_168_114 {c : Ct} {dd : Bool} {ρ : Kt} (H : St c dd mt_168 ρ) (h : AH) (a0 : Nat) (x3 : Int32) (s0_ : Int32) (s1_ : Int32) : ρ 114 [some (.ref a0), none, none, some (.int x3), none, none] [.int s0_, .int s1_] h = ρ 53 [some (.ref a0), none, some (.int (s1_ + s0_)), some (.int (x3 + 1)), none, none] [] h :=
 T1 (x_iadd H rfl) rfl
 (T2 [some (.ref a0), none, some (.int (s1_ + s0_)), some (.int x3), none, none] (x_istore_n H rfl rfl) rfl
 (T2 [some (.ref a0), none, some (.int (s1_ + s0_)), some (.int (x3 + 1)), none, none] (x_iinc H rfl ki_1 rfl rfl) rfl
 (T2 [some (.ref a0), none, some (.int (s1_ + s0_)), some (.int (x3 + 1)), none, none] (x_goto H rfl (t := 53) (by decide)) rfl rfl)))
