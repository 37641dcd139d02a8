/-! ===== node equations: what each method does from a node to the next ===== -/
set_option maxHeartbeats 400000
set_option maxRecDepth 100000
theorem kb_120 : (Int8.ofInt 120).toInt32 = 120 := by decide +kernel
theorem kb_15 : (Int8.ofInt 15).toInt32 = 15 := by decide +kernel
theorem kb_30 : (Int8.ofInt 30).toInt32 = 30 := by decide +kernel
theorem kb_31 : (Int8.ofInt 31).toInt32 = 31 := by decide +kernel
theorem kb_36 : (Int8.ofInt 36).toInt32 = 36 := by decide +kernel
theorem kb_40 : (Int8.ofInt 40).toInt32 = 40 := by decide +kernel
theorem kb_54 : (Int8.ofInt 54).toInt32 = 54 := by decide +kernel
theorem kb_6 : (Int8.ofInt 6).toInt32 = 6 := by decide +kernel
theorem kb_60 : (Int8.ofInt 60).toInt32 = 60 := by decide +kernel
theorem kb_7 : (Int8.ofInt 7).toInt32 = 7 := by decide +kernel
theorem kb_8 : (Int8.ofInt 8).toInt32 = 8 := by decide +kernel
theorem kb_9 : (Int8.ofInt 9).toInt32 = 9 := by decide +kernel
theorem kb_m11 : (Int8.ofInt (-11)).toInt32 = (-11) := by decide +kernel
theorem kb_m12 : (Int8.ofInt (-12)).toInt32 = (-12) := by decide +kernel
theorem kb_m13 : (Int8.ofInt (-13)).toInt32 = (-13) := by decide +kernel
theorem kb_m14 : (Int8.ofInt (-14)).toInt32 = (-14) := by decide +kernel
theorem kb_m2 : (Int8.ofInt (-2)).toInt32 = (-2) := by decide +kernel
theorem kb_m20 : (Int8.ofInt (-20)).toInt32 = (-20) := by decide +kernel
theorem kb_m3 : (Int8.ofInt (-3)).toInt32 = (-3) := by decide +kernel
theorem kb_m4 : (Int8.ofInt (-4)).toInt32 = (-4) := by decide +kernel
theorem kb_m5 : (Int8.ofInt (-5)).toInt32 = (-5) := by decide +kernel
theorem ki_0 : Int32.ofInt 0 = 0 := by decide +kernel
theorem ki_1 : Int32.ofInt 1 = 1 := by decide +kernel
theorem ki_2 : Int32.ofInt 2 = 2 := by decide +kernel
theorem ki_3 : Int32.ofInt 3 = 3 := by decide +kernel
theorem ki_4 : Int32.ofInt 4 = 4 := by decide +kernel
theorem ki_5 : Int32.ofInt 5 = 5 := by decide +kernel
theorem ki_7 : Int32.ofInt 7 = 7 := by decide +kernel
theorem ki_m1 : Int32.ofInt (-1) = (-1) := by decide +kernel
theorem kl_0 : Int64.ofNat 0 = 0 := by decide +kernel
theorem kl_1 : Int64.ofNat 1 = 1 := by decide +kernel
theorem kl_2 : Int64.ofNat 2 = 2 := by decide +kernel
theorem kl_3 : Int64.ofNat 3 = 3 := by decide +kernel
theorem kl_30 : Int64.ofNat 30 = 30 := by decide +kernel
theorem kl_6 : Int64.ofNat 6 = 6 := by decide +kernel
theorem ks_1872 : (Int16.ofInt 1872).toInt32 = 1872 := by decide +kernel
theorem ks_22500 : (Int16.ofInt 22500).toInt32 = 22500 := by decide +kernel
theorem ks_240 : (Int16.ofInt 240).toInt32 = 240 := by decide +kernel
theorem ks_324 : (Int16.ofInt 324).toInt32 = 324 := by decide +kernel
theorem ks_4320 : (Int16.ofInt 4320).toInt32 = 4320 := by decide +kernel
theorem ks_450 : (Int16.ofInt 450).toInt32 = 450 := by decide +kernel
-- X0_init ()V: 0
theorem nd_0_0 {c : Ct} {dd : Bool} {ρ : Kt} (H : St c dd mt_0 ρ) (hd : dd = true) (h : AH) (a0 : Nat) : ρ 0 [some (.ref a0)] [] h = pfV (hN h (aI 0 54 fun _ => 0) 54) a0 0 0 (.ref h.2.1) fun h1 => pfV (hN h1 (aI 0 54 fun _ => 0) 54) a0 0 1 (.ref h1.2.1) fun h2 => pfV (hN h2 (aI 1 6 fun _ => 0) 6) a0 0 2 (.ref h2.2.1) fun h3 => pfV h3 a0 0 3 (.int 1) fun h4 => pfV h4 a0 0 4 (.int 0) fun h5 => isZ 0 (pfV h5 a0 0 5 (.int 0) fun h6 => pfV (hN h6 (aI 0 36 fun _ => 0) 36) a0 0 6 (.ref h6.2.1) fun h7 => isZ 0 (pfV h7 a0 0 7 (.int 0) fun h8 => isO h8 a0 0 ((c 1 [.ref a0, .int 1, .int 0] h8).bind fun q9 => rV q9 fun h10 => some (none, h10)))) :=
 T1 (x_aload_n H rfl rfl) rfl
 (T1 (x_oinit H rfl (by rw [hd]; rfl)) rfl
 (T1 (x_aload_n H rfl rfl) rfl
 (T1 (x_bipush H rfl kb_54) rfl
 (T1 (x_newi H rfl (by decide) (by decide)) rfl
 ((x_putR H rfl).trans (pfV_c fun h1 =>
 U1 rfl (T1 (x_aload_n H rfl rfl) rfl
 (T1 (x_bipush H rfl kb_54) rfl
 (T1 (x_newi H rfl (by decide) (by decide)) rfl
 ((x_putR H rfl).trans (pfV_c fun h2 =>
 U1 rfl (T1 (x_aload_n H rfl rfl) rfl
 (T1 (x_bipush H rfl kb_6) rfl
 (T1 (x_newz H rfl (by decide) (by decide)) rfl
 ((x_putR H rfl).trans (pfV_c fun h3 =>
 U1 rfl (T1 (x_aload_n H rfl rfl) rfl
 (T1 (x_iconst H rfl ki_1) rfl
 ((x_putI H rfl).trans (pfV_c fun h4 =>
 U1 rfl (T1 (x_aload_n H rfl rfl) rfl
 (T1 (x_iconst H rfl ki_0) rfl
 ((x_putI H rfl).trans (pfV_c fun h5 =>
 U1 rfl (T1 (x_aload_n H rfl rfl) rfl
 (T1 (x_iconst H rfl ki_0) rfl
 ((x_putZ H rfl).trans (isZ_c (pfV_c fun h6 =>
 U1 rfl (T1 (x_aload_n H rfl rfl) rfl
 (T1 (x_bipush H rfl kb_36) rfl
 (T1 (x_newi H rfl (by decide) (by decide)) rfl
 ((x_putR H rfl).trans (pfV_c fun h7 =>
 U1 rfl (T1 (x_aload_n H rfl rfl) rfl
 (T1 (x_iconst H rfl ki_0) rfl
 ((x_putZ H rfl).trans (isZ_c (pfV_c fun h8 =>
 U1 rfl (T1 (x_aload_n H rfl rfl) rfl
 (T1 (x_iconst H rfl ki_1) rfl
 (T1 (x_iconst H rfl ki_0) rfl
 ((x_callV (ci := 0) H rfl [.int 1, .int 0] rfl rfl rfl rfl).trans (isO_c (bi_c fun q9 => rV_c fun h10 =>
 U1 rfl (x_return H rfl rfl))))))))))))))))))))))))))))))))))))))))))))))
-- X0_begin (II)V: 1
theorem nd_1_0 {c : Ct} {dd : Bool} {ρ : Kt} (H : St c dd mt_1 ρ) (h : AH) (a0 : Nat) (x1 : Int32) (x2 : Int32) : ρ 0 [some (.ref a0), some (.int x1), some (.int x2), none] [] h = pfV h a0 0 3 (.int x1) fun h1 => pfV h1 a0 0 4 (.int x2) fun h2 => isZ 0 (pfV h2 a0 0 5 (.int 0) fun h3 => isZ 0 (pfV h3 a0 0 7 (.int 0) fun h4 => ρ 22 [some (.ref a0), none, none, some (.int 0)] [] h4)) :=
 T1 (x_aload_n H rfl rfl) rfl
 (T1 (x_iload_n H rfl rfl) rfl
 ((x_putI H rfl).trans (pfV_c fun h1 =>
 U1 rfl (T1 (x_aload_n H rfl rfl) rfl
 (T1 (x_iload_n H rfl rfl) rfl
 ((x_putI H rfl).trans (pfV_c fun h2 =>
 U1 rfl (T1 (x_aload_n H rfl rfl) rfl
 (T1 (x_iconst H rfl ki_0) rfl
 ((x_putZ H rfl).trans (isZ_c (pfV_c fun h3 =>
 U1 rfl (T1 (x_aload_n H rfl rfl) rfl
 (T1 (x_iconst H rfl ki_0) rfl
 ((x_putZ H rfl).trans (isZ_c (pfV_c fun h4 =>
 U1 rfl (T1 (x_iconst H rfl ki_0) rfl
 (T2 [some (.ref a0), none, none, some (.int 0)] (x_istore_n H rfl rfl) rfl rfl)))))))))))))))))))
theorem nd_1_22 {c : Ct} {dd : Bool} {ρ : Kt} (H : St c dd mt_1 ρ) (h : AH) (a0 : Nat) (x3 : Int32) : ρ 22 [some (.ref a0), none, none, some (.int x3)] [] h = gfQ h a0 0 0 none fun b1 => lnA h b1 fun v2 => if v2 ≤ x3 then (ρ 57 [some (.ref a0), none, none, some (.int 0)] [] h) else (gfQ h a0 0 0 none fun b3 => stI h b3 x3 (x3 / 9) fun h4 => gfQ h4 a0 0 1 none fun b5 => stI h4 b5 x3 (-4) fun h6 => ρ 22 [some (.ref a0), none, none, some (.int (x3 + 1))] [] h6) :=
 T1 (x_iload_n H rfl rfl) rfl
 (T1 (x_aload_n H rfl rfl) rfl
 ((x_getR H rfl).trans (gfQ_c rfl fun b1 =>
 U1 rfl ((x_alen H rfl).trans (lnA_c fun v2 =>
 U1 rfl ((x_icmp_ge H rfl (t := 55) (by decide)).trans (if_c
 (U1 rfl (T1 (x_iconst H rfl ki_0) rfl
 (T2 [some (.ref a0), none, none, some (.int 0)] (x_istore_n H rfl rfl) rfl rfl)))
 (U1 rfl (T1 (x_aload_n H rfl rfl) rfl
 ((x_getR H rfl).trans (gfQ_c rfl fun b3 =>
 U1 rfl (T1 (x_iload_n H rfl rfl) rfl
 (T1 (x_iload_n H rfl rfl) rfl
 (T1 (x_bipush H rfl kb_9) rfl
 (T1 (x_idiv H rfl (by decide)) rfl
 ((x_iastore H rfl).trans (stI_c fun h4 =>
 U1 rfl (T1 (x_aload_n H rfl rfl) rfl
 ((x_getR H rfl).trans (gfQ_c rfl fun b5 =>
 U1 rfl (T1 (x_iload_n H rfl rfl) rfl
 (T1 (x_bipush H rfl kb_m4) rfl
 ((x_iastore H rfl).trans (stI_c fun h6 =>
 U1 rfl (T2 [some (.ref a0), none, none, some (.int (x3 + 1))] (x_iinc H rfl ki_1 rfl rfl) rfl
 (T2 [some (.ref a0), none, none, some (.int (x3 + 1))] (x_goto H rfl (t := 22) (by decide)) rfl rfl))))))))))))))))))))))))))
theorem nd_1_57 {c : Ct} {dd : Bool} {ρ : Kt} (H : St c dd mt_1 ρ) (h : AH) (a0 : Nat) (x3 : Int32) : ρ 57 [some (.ref a0), none, none, some (.int x3)] [] h = if 6 ≤ x3 then (some (none, h)) else (gfQ h a0 0 2 none fun b1 => stZ h b1 x3 0 fun h2 => ρ 57 [some (.ref a0), none, none, some (.int (x3 + 1))] [] h2) :=
 T1 (x_iload_n H rfl rfl) rfl
 (T1 (x_bipush H rfl kb_6) rfl
 ((x_icmp_ge H rfl (t := 76) (by decide)).trans (if_c
 (U1 rfl (x_return H rfl rfl))
 (U1 rfl (T1 (x_aload_n H rfl rfl) rfl
 ((x_getR H rfl).trans (gfQ_c rfl fun b1 =>
 U1 rfl (T1 (x_iload_n H rfl rfl) rfl
 (T1 (x_iconst H rfl ki_0) rfl
 ((x_bastore H rfl).trans (stZ_c fun h2 =>
 U1 rfl (T2 [some (.ref a0), none, none, some (.int (x3 + 1))] (x_iinc H rfl ki_1 rfl rfl) rfl
 (T2 [some (.ref a0), none, none, some (.int (x3 + 1))] (x_goto H rfl (t := 57) (by decide)) rfl rfl)))))))))))))
-- X0_turnFrom (LNameRows$Machine;)V: 2
theorem nd_2_0 {c : Ct} {dd : Bool} {ρ : Kt} (H : St c dd mt_2 ρ) (hd : dd = true) (h : AH) (a0 : Nat) (a1 : Nat) : ρ 0 [some (.ref a0), some (.ref a1), none] [] h = gfI h a1 0 3 fun v1 => gfI h a1 0 4 fun v2 => isO h a0 0 ((c 1 [.ref a0, .int v1, .int v2] h).bind fun q3 => rV q3 fun h4 => gfQ h4 a1 0 0 none fun b5 => gfQ h4 a0 0 0 none fun b6 => gfQ h4 a0 0 0 none fun b7 => lnA h4 b7 fun v8 => cpA h4 b5 0 b6 0 v8 fun h9 => gfQ h9 a1 0 1 none fun b10 => gfQ h9 a0 0 1 none fun b11 => gfQ h9 a0 0 1 none fun b12 => lnA h9 b12 fun v13 => cpA h9 b10 0 b11 0 v13 fun h14 => ρ 50 [some (.ref a0), some (.ref a1), some (.int 0)] [] h14) :=
 T1 (x_aload_n H rfl rfl) rfl
 (T1 (x_aload_n H rfl rfl) rfl
 ((x_getI H rfl).trans (gfI_c fun v1 =>
 U1 rfl (T1 (x_aload_n H rfl rfl) rfl
 ((x_getI H rfl).trans (gfI_c fun v2 =>
 U1 rfl ((x_callV (ci := 0) H rfl [.int v1, .int v2] rfl rfl rfl rfl).trans (isO_c (bi_c fun q3 => rV_c fun h4 =>
 U1 rfl (T1 (x_aload_n H rfl rfl) rfl
 ((x_getR H rfl).trans (gfQ_c rfl fun b5 =>
 U1 rfl (T1 (x_iconst H rfl ki_0) rfl
 (T1 (x_aload_n H rfl rfl) rfl
 ((x_getR H rfl).trans (gfQ_c rfl fun b6 =>
 U1 rfl (T1 (x_iconst H rfl ki_0) rfl
 (T1 (x_aload_n H rfl rfl) rfl
 ((x_getR H rfl).trans (gfQ_c rfl fun b7 =>
 U1 rfl ((x_alen H rfl).trans (lnA_c fun v8 =>
 U1 rfl ((x_acopy H rfl (by rw [hd]; rfl)).trans (cpA_c fun h9 =>
 U1 rfl (T1 (x_aload_n H rfl rfl) rfl
 ((x_getR H rfl).trans (gfQ_c rfl fun b10 =>
 U1 rfl (T1 (x_iconst H rfl ki_0) rfl
 (T1 (x_aload_n H rfl rfl) rfl
 ((x_getR H rfl).trans (gfQ_c rfl fun b11 =>
 U1 rfl (T1 (x_iconst H rfl ki_0) rfl
 (T1 (x_aload_n H rfl rfl) rfl
 ((x_getR H rfl).trans (gfQ_c rfl fun b12 =>
 U1 rfl ((x_alen H rfl).trans (lnA_c fun v13 =>
 U1 rfl ((x_acopy H rfl (by rw [hd]; rfl)).trans (cpA_c fun h14 =>
 U1 rfl (T1 (x_iconst H rfl ki_0) rfl
 (T2 [some (.ref a0), some (.ref a1), some (.int 0)] (x_istore_n H rfl rfl) rfl rfl)))))))))))))))))))))))))))))))))))))))))
theorem nd_2_50 {c : Ct} {dd : Bool} {ρ : Kt} (H : St c dd mt_2 ρ) (h : AH) (a0 : Nat) (a1 : Nat) (x2 : Int32) : ρ 50 [some (.ref a0), some (.ref a1), some (.int x2)] [] h = gfI h a0 0 3 fun v1 => if v1 ≤ x2 then (some (none, h)) else (gfQ h a0 0 2 none fun b2 => gfQ h a1 0 2 none fun b3 => ldZ h b3 x2 fun v4 => if v4 = 0 then (ρ 77 [some (.ref a0), some (.ref a1), some (.int x2)] [.int 1, .int x2, .ref b2] h) else (ρ 77 [some (.ref a0), some (.ref a1), some (.int x2)] [.int 0, .int x2, .ref b2] h)) :=
 T1 (x_iload_n H rfl rfl) rfl
 (T1 (x_aload_n H rfl rfl) rfl
 ((x_getI H rfl).trans (gfI_c fun v1 =>
 U1 rfl ((x_icmp_ge H rfl (t := 84) (by decide)).trans (if_c
 (U1 rfl (x_return H rfl rfl))
 (U1 rfl (T1 (x_aload_n H rfl rfl) rfl
 ((x_getR H rfl).trans (gfQ_c rfl fun b2 =>
 U1 rfl (T1 (x_iload_n H rfl rfl) rfl
 (T1 (x_aload_n H rfl rfl) rfl
 ((x_getR H rfl).trans (gfQ_c rfl fun b3 =>
 U1 rfl (T1 (x_iload_n H rfl rfl) rfl
 ((x_baload H rfl).trans (ldZ_c fun v4 =>
 U1 rfl ((x_if_ne H rfl (t := 76) (by decide)).trans (if_c
 (U1 rfl (T1 (x_iconst H rfl ki_1) rfl
 (T2 [some (.ref a0), some (.ref a1), some (.int x2)] (x_goto H rfl (t := 77) (by decide)) rfl rfl)))
 (U1 rfl (T2 [some (.ref a0), some (.ref a1), some (.int x2)] (x_iconst H rfl ki_0) rfl rfl))))))))))))))))))))
theorem nd_2_77 {c : Ct} {dd : Bool} {ρ : Kt} (H : St c dd mt_2 ρ) (h : AH) (a0 : Nat) (a1 : Nat) (x2 : Int32) (s0_ : Int32) (s1_ : Int32) (c2_ : Nat) : ρ 77 [some (.ref a0), some (.ref a1), some (.int x2)] [.int s0_, .int s1_, .ref c2_] h = stZ h c2_ s1_ s0_ fun h1 => ρ 50 [some (.ref a0), some (.ref a1), some (.int (x2 + 1))] [] h1 :=
 (x_bastore H rfl).trans (stZ_c fun h1 =>
 U1 rfl (T2 [some (.ref a0), some (.ref a1), some (.int (x2 + 1))] (x_iinc H rfl ki_1 rfl rfl) rfl
 (T2 [some (.ref a0), some (.ref a1), some (.int (x2 + 1))] (x_goto H rfl (t := 50) (by decide)) rfl rfl)))
-- X0_hasState (I)Z: 3
theorem nd_3_0 {c : Ct} {dd : Bool} {ρ : Kt} (H : St c dd mt_3 ρ) (h : AH) (a0 : Nat) (x1 : Int32) : ρ 0 [some (.ref a0), some (.int x1)] [] h = if x1 < 0 then (ρ 16 [none, none] [] h) else (gfI h a0 0 3 fun v1 => if v1 ≤ x1 then (ρ 16 [none, none] [] h) else (ρ 17 [none, none] [.int 1] h)) :=
 T1 (x_iload_n H rfl rfl) rfl
 ((x_if_lt H rfl (t := 16) (by decide)).trans (if_c
 (U2 [none, none] rfl rfl)
 (U1 rfl (T1 (x_iload_n H rfl rfl) rfl
 (T1 (x_aload_n H rfl rfl) rfl
 ((x_getI H rfl).trans (gfI_c fun v1 =>
 U1 rfl ((x_icmp_ge H rfl (t := 16) (by decide)).trans (if_c
 (U2 [none, none] rfl rfl)
 (U1 rfl (T1 (x_iconst H rfl ki_1) rfl
 (T2 [none, none] (x_goto H rfl (t := 17) (by decide)) rfl rfl))))))))))))
theorem nd_3_16 {c : Ct} {dd : Bool} {ρ : Kt} (H : St c dd mt_3 ρ) (h : AH)  : ρ 16 [none, none] [] h = ρ 17 [none, none] [.int 0] h :=
 T2 [none, none] (x_iconst H rfl ki_0) rfl rfl
theorem nd_3_17 {c : Ct} {dd : Bool} {ρ : Kt} (H : St c dd mt_3 ρ) (h : AH) (s0_ : Int32) : ρ 17 [none, none] [.int s0_] h = isZ s0_ (some (some (.int s0_), h)) :=
 x_zreturn H rfl rfl
-- X0_stepAt (III)I: 4
theorem nd_4_0 {c : Ct} {dd : Bool} {ρ : Kt} (H : St c dd mt_4 ρ) (h : AH) (a0 : Nat) (x1 : Int32) (x2 : Int32) (x3 : Int32) : ρ 0 [some (.ref a0), some (.int x1), some (.int x2), some (.int x3), none, none] [] h = if x3 = 2 then (ρ 17 [some (.ref a0), some (.int x1), some (.int x2), some (.int x3), none, none] [] h) else (if x3 < 0 then (ρ 21 [some (.ref a0), some (.int x1), some (.int x2), some (.int x3), none, none] [] h) else (gfI h a0 0 4 fun v1 => if v1 ≤ x3 then (ρ 21 [some (.ref a0), some (.int x1), some (.int x2), some (.int x3), none, none] [] h) else (ρ 17 [some (.ref a0), some (.int x1), some (.int x2), some (.int x3), none, none] [] h))) :=
 T1 (x_iload_n H rfl rfl) rfl
 (T1 (x_iconst H rfl ki_2) rfl
 ((x_icmp_eq H rfl (t := 17) (by decide)).trans (if_c
 (U2 [some (.ref a0), some (.int x1), some (.int x2), some (.int x3), none, none] rfl rfl)
 (U1 rfl (T1 (x_iload_n H rfl rfl) rfl
 ((x_if_lt H rfl (t := 21) (by decide)).trans (if_c
 (U2 [some (.ref a0), some (.int x1), some (.int x2), some (.int x3), none, none] rfl rfl)
 (U1 rfl (T1 (x_iload_n H rfl rfl) rfl
 (T1 (x_aload_n H rfl rfl) rfl
 ((x_getI H rfl).trans (gfI_c fun v1 =>
 U1 rfl ((x_icmp_ge H rfl (t := 21) (by decide)).trans (if_c
 (U2 [some (.ref a0), some (.int x1), some (.int x2), some (.int x3), none, none] rfl rfl)
 (U2 [some (.ref a0), some (.int x1), some (.int x2), some (.int x3), none, none] rfl rfl)))))))))))))))
theorem nd_4_17 {c : Ct} {dd : Bool} {ρ : Kt} (H : St c dd mt_4 ρ) (h : AH) (a0 : Nat) (x1 : Int32) (x2 : Int32) (x3 : Int32) : ρ 17 [some (.ref a0), some (.int x1), some (.int x2), some (.int x3), none, none] [] h = ρ 22 [some (.ref a0), some (.int x1), some (.int x2), some (.int x3), none, none] [.int 1] h :=
 T1 (x_iconst H rfl ki_1) rfl
 (T2 [some (.ref a0), some (.int x1), some (.int x2), some (.int x3), none, none] (x_goto H rfl (t := 22) (by decide)) rfl rfl)
theorem nd_4_21 {c : Ct} {dd : Bool} {ρ : Kt} (H : St c dd mt_4 ρ) (h : AH) (a0 : Nat) (x1 : Int32) (x2 : Int32) (x3 : Int32) : ρ 21 [some (.ref a0), some (.int x1), some (.int x2), some (.int x3), none, none] [] h = ρ 22 [some (.ref a0), some (.int x1), some (.int x2), some (.int x3), none, none] [.int 0] h :=
 T2 [some (.ref a0), some (.int x1), some (.int x2), some (.int x3), none, none] (x_iconst H rfl ki_0) rfl rfl
theorem nd_4_22 {c : Ct} {dd : Bool} {ρ : Kt} (H : St c dd mt_4 ρ) (h : AH) (a0 : Nat) (x1 : Int32) (x2 : Int32) (x3 : Int32) (s0_ : Int32) : ρ 22 [some (.ref a0), some (.int x1), some (.int x2), some (.int x3), none, none] [.int s0_] h = if s0_ = 0 then (ρ 54 [none, some (.int x1), some (.int x2), some (.int x3), none, none] [] h) else (if x1 < 0 then (ρ 54 [none, some (.int x1), some (.int x2), some (.int x3), none, none] [] h) else (gfI h a0 0 3 fun v1 => if v1 ≤ x1 then (ρ 54 [none, some (.int x1), some (.int x2), some (.int x3), none, none] [] h) else (if x2 < 0 then (ρ 54 [none, some (.int x1), some (.int x2), some (.int x3), none, none] [] h) else (if 3 ≤ x2 then (ρ 54 [none, some (.int x1), some (.int x2), some (.int x3), none, none] [] h) else (ρ 55 [none, some (.int x1), some (.int x2), some (.int x3), none, none] [.int 1] h))))) :=
 T2 [some (.ref a0), some (.int x1), some (.int x2), some (.int x3), some (.int s0_), none] (x_istore H rfl rfl) rfl
 (T1 (x_iload H rfl rfl) rfl
 ((x_if_eq H rfl (t := 54) (by decide)).trans (if_c
 (U2 [none, some (.int x1), some (.int x2), some (.int x3), none, none] rfl rfl)
 (U1 rfl (T1 (x_iload_n H rfl rfl) rfl
 ((x_if_lt H rfl (t := 54) (by decide)).trans (if_c
 (U2 [none, some (.int x1), some (.int x2), some (.int x3), none, none] rfl rfl)
 (U1 rfl (T1 (x_iload_n H rfl rfl) rfl
 (T1 (x_aload_n H rfl rfl) rfl
 ((x_getI H rfl).trans (gfI_c fun v1 =>
 U1 rfl ((x_icmp_ge H rfl (t := 54) (by decide)).trans (if_c
 (U2 [none, some (.int x1), some (.int x2), some (.int x3), none, none] rfl rfl)
 (U1 rfl (T1 (x_iload_n H rfl rfl) rfl
 ((x_if_lt H rfl (t := 54) (by decide)).trans (if_c
 (U2 [none, some (.int x1), some (.int x2), some (.int x3), none, none] rfl rfl)
 (U1 rfl (T1 (x_iload_n H rfl rfl) rfl
 (T1 (x_iconst H rfl ki_3) rfl
 ((x_icmp_ge H rfl (t := 54) (by decide)).trans (if_c
 (U2 [none, some (.int x1), some (.int x2), some (.int x3), none, none] rfl rfl)
 (U1 rfl (T1 (x_iconst H rfl ki_1) rfl
 (T2 [none, some (.int x1), some (.int x2), some (.int x3), none, none] (x_goto H rfl (t := 55) (by decide)) rfl rfl))))))))))))))))))))))))))
theorem nd_4_54 {c : Ct} {dd : Bool} {ρ : Kt} (H : St c dd mt_4 ρ) (h : AH) (x1 : Int32) (x2 : Int32) (x3 : Int32) : ρ 54 [none, some (.int x1), some (.int x2), some (.int x3), none, none] [] h = ρ 55 [none, some (.int x1), some (.int x2), some (.int x3), none, none] [.int 0] h :=
 T2 [none, some (.int x1), some (.int x2), some (.int x3), none, none] (x_iconst H rfl ki_0) rfl rfl
theorem nd_4_55 {c : Ct} {dd : Bool} {ρ : Kt} (H : St c dd mt_4 ρ) (h : AH) (x1 : Int32) (x2 : Int32) (x3 : Int32) (s0_ : Int32) : ρ 55 [none, some (.int x1), some (.int x2), some (.int x3), none, none] [.int s0_] h = if s0_ = 0 then (ρ 76 [none, none, none, none, none, none] [.int (-4)] h) else (ρ 76 [none, none, none, none, none, none] [.int ((((x1 * 3) + x2) * 3) + x3)] h) :=
 T2 [none, some (.int x1), some (.int x2), some (.int x3), none, some (.int s0_)] (x_istore H rfl rfl) rfl
 (T1 (x_iload H rfl rfl) rfl
 ((x_if_eq H rfl (t := 74) (by decide)).trans (if_c
 (U1 rfl (T2 [none, none, none, none, none, none] (x_bipush H rfl kb_m4) rfl rfl))
 (U1 rfl (T1 (x_iload_n H rfl rfl) rfl
 (T1 (x_iconst H rfl ki_3) rfl
 (T1 (x_imul H rfl) rfl
 (T1 (x_iload_n H rfl rfl) rfl
 (T1 (x_iadd H rfl) rfl
 (T1 (x_iconst H rfl ki_3) rfl
 (T1 (x_imul H rfl) rfl
 (T1 (x_iload_n H rfl rfl) rfl
 (T1 (x_iadd H rfl) rfl
 (T2 [none, none, none, none, none, none] (x_goto H rfl (t := 76) (by decide)) rfl rfl))))))))))))))
theorem nd_4_76 {c : Ct} {dd : Bool} {ρ : Kt} (H : St c dd mt_4 ρ) (h : AH) (s0_ : Int32) : ρ 76 [none, none, none, none, none, none] [.int s0_] h = some (some (.int s0_), h) :=
 x_ireturn H rfl rfl
-- X0_canKeep (I)Z: 5
theorem nd_5_0 {c : Ct} {dd : Bool} {ρ : Kt} (H : St c dd mt_5 ρ) (h : AH) (a0 : Nat) (x1 : Int32) : ρ 0 [some (.ref a0), some (.int x1)] [] h = if x1 = (-4) then (ρ 18 [none, none] [] h) else (if x1 < 0 then (ρ 22 [none, none] [] h) else (gfI h a0 0 4 fun v1 => if v1 ≤ x1 then (ρ 22 [none, none] [] h) else (ρ 18 [none, none] [] h))) :=
 T1 (x_iload_n H rfl rfl) rfl
 (T1 (x_bipush H rfl kb_m4) rfl
 ((x_icmp_eq H rfl (t := 18) (by decide)).trans (if_c
 (U2 [none, none] rfl rfl)
 (U1 rfl (T1 (x_iload_n H rfl rfl) rfl
 ((x_if_lt H rfl (t := 22) (by decide)).trans (if_c
 (U2 [none, none] rfl rfl)
 (U1 rfl (T1 (x_iload_n H rfl rfl) rfl
 (T1 (x_aload_n H rfl rfl) rfl
 ((x_getI H rfl).trans (gfI_c fun v1 =>
 U1 rfl ((x_icmp_ge H rfl (t := 22) (by decide)).trans (if_c
 (U2 [none, none] rfl rfl)
 (U2 [none, none] rfl rfl)))))))))))))))
theorem nd_5_18 {c : Ct} {dd : Bool} {ρ : Kt} (H : St c dd mt_5 ρ) (h : AH)  : ρ 18 [none, none] [] h = ρ 23 [none, none] [.int 1] h :=
 T1 (x_iconst H rfl ki_1) rfl
 (T2 [none, none] (x_goto H rfl (t := 23) (by decide)) rfl rfl)
theorem nd_5_22 {c : Ct} {dd : Bool} {ρ : Kt} (H : St c dd mt_5 ρ) (h : AH)  : ρ 22 [none, none] [] h = ρ 23 [none, none] [.int 0] h :=
 T2 [none, none] (x_iconst H rfl ki_0) rfl rfl
theorem nd_5_23 {c : Ct} {dd : Bool} {ρ : Kt} (H : St c dd mt_5 ρ) (h : AH) (s0_ : Int32) : ρ 23 [none, none] [.int s0_] h = isZ s0_ (some (some (.int s0_), h)) :=
 x_zreturn H rfl rfl
-- X0_setStep (III)V: 6
theorem nd_6_0 {c : Ct} {dd : Bool} {ρ : Kt} (H : St c dd mt_6 ρ) (h : AH) (a0 : Nat) (x1 : Int32) (x2 : Int32) (x3 : Int32) : ρ 0 [some (.ref a0), some (.int x1), some (.int x2), some (.int x3)] [] h = if x1 < 0 then (ρ 32 [none, none, none, none] [] h) else (gfQ h a0 0 0 none fun b1 => lnA h b1 fun v2 => if v2 ≤ x1 then (ρ 32 [none, none, none, none] [] h) else (gfQ h a0 0 0 none fun b3 => stI h b3 x1 x2 fun h4 => gfQ h4 a0 0 1 none fun b5 => stI h4 b5 x1 x3 fun h6 => isZ 0 (pfV h6 a0 0 7 (.int 0) fun h7 => ρ 32 [none, none, none, none] [] h7))) :=
 T1 (x_iload_n H rfl rfl) rfl
 ((x_if_lt H rfl (t := 32) (by decide)).trans (if_c
 (U2 [none, none, none, none] rfl rfl)
 (U1 rfl (T1 (x_iload_n H rfl rfl) rfl
 (T1 (x_aload_n H rfl rfl) rfl
 ((x_getR H rfl).trans (gfQ_c rfl fun b1 =>
 U1 rfl ((x_alen H rfl).trans (lnA_c fun v2 =>
 U1 rfl ((x_icmp_ge H rfl (t := 32) (by decide)).trans (if_c
 (U2 [none, none, none, none] rfl rfl)
 (U1 rfl (T1 (x_aload_n H rfl rfl) rfl
 ((x_getR H rfl).trans (gfQ_c rfl fun b3 =>
 U1 rfl (T1 (x_iload_n H rfl rfl) rfl
 (T1 (x_iload_n H rfl rfl) rfl
 ((x_iastore H rfl).trans (stI_c fun h4 =>
 U1 rfl (T1 (x_aload_n H rfl rfl) rfl
 ((x_getR H rfl).trans (gfQ_c rfl fun b5 =>
 U1 rfl (T1 (x_iload_n H rfl rfl) rfl
 (T1 (x_iload_n H rfl rfl) rfl
 ((x_iastore H rfl).trans (stI_c fun h6 =>
 U1 rfl (T1 (x_aload_n H rfl rfl) rfl
 (T1 (x_iconst H rfl ki_0) rfl
 ((x_putZ H rfl).trans (isZ_c (pfV_c fun h7 =>
 U2 [none, none, none, none] rfl rfl)))))))))))))))))))))))))))))))
theorem nd_6_32 {c : Ct} {dd : Bool} {ρ : Kt} (H : St c dd mt_6 ρ) (h : AH)  : ρ 32 [none, none, none, none] [] h = some (none, h) :=
 x_return H rfl rfl
-- X0_isGood (I)Z: 7
theorem nd_7_0 {c : Ct} {dd : Bool} {ρ : Kt} (H : St c dd mt_7 ρ) (h : AH) (a0 : Nat) (x1 : Int32) : ρ 0 [some (.ref a0), some (.int x1)] [] h = isO h a0 0 ((c 3 [.ref a0, .int x1] h).bind fun q1 => rI q1 fun v3 h2 => if v3 = 0 then (ρ 21 [none, none] [] h2) else (gfQ h2 a0 0 2 none fun b4 => ldZ h2 b4 x1 fun v5 => if v5 = 0 then (ρ 21 [none, none] [] h2) else (ρ 22 [none, none] [.int 1] h2))) :=
 T1 (x_aload_n H rfl rfl) rfl
 (T1 (x_iload_n H rfl rfl) rfl
 ((x_callZ (ci := 0) H rfl [.int x1] rfl rfl rfl rfl).trans (isO_c (bi_c fun q1 => rI_c fun v3 h2 =>
 U1 rfl ((x_if_eq H rfl (t := 21) (by decide)).trans (if_c
 (U2 [none, none] rfl rfl)
 (U1 rfl (T1 (x_aload_n H rfl rfl) rfl
 ((x_getR H rfl).trans (gfQ_c rfl fun b4 =>
 U1 rfl (T1 (x_iload_n H rfl rfl) rfl
 ((x_baload H rfl).trans (ldZ_c fun v5 =>
 U1 rfl ((x_if_eq H rfl (t := 21) (by decide)).trans (if_c
 (U2 [none, none] rfl rfl)
 (U1 rfl (T1 (x_iconst H rfl ki_1) rfl
 (T2 [none, none] (x_goto H rfl (t := 22) (by decide)) rfl rfl))))))))))))))))))
theorem nd_7_21 {c : Ct} {dd : Bool} {ρ : Kt} (H : St c dd mt_7 ρ) (h : AH)  : ρ 21 [none, none] [] h = ρ 22 [none, none] [.int 0] h :=
 T2 [none, none] (x_iconst H rfl ki_0) rfl rfl
theorem nd_7_22 {c : Ct} {dd : Bool} {ρ : Kt} (H : St c dd mt_7 ρ) (h : AH) (s0_ : Int32) : ρ 22 [none, none] [.int s0_] h = isZ s0_ (some (some (.int s0_), h)) :=
 x_zreturn H rfl rfl
-- X0_setGood (IZ)V: 8
theorem nd_8_0 {c : Ct} {dd : Bool} {ρ : Kt} (H : St c dd mt_8 ρ) (h : AH) (a0 : Nat) (x1 : Int32) (x2 : Int32) : ρ 0 [some (.ref a0), some (.int x1), some (.int x2)] [] h = isO h a0 0 ((c 3 [.ref a0, .int x1] h).bind fun q1 => rI q1 fun v3 h2 => if v3 = 0 then (ρ 20 [none, none, none] [] h2) else (gfQ h2 a0 0 2 none fun b4 => stZ h2 b4 x1 x2 fun h5 => isZ 0 (pfV h5 a0 0 7 (.int 0) fun h6 => ρ 20 [none, none, none] [] h6))) :=
 T1 (x_aload_n H rfl rfl) rfl
 (T1 (x_iload_n H rfl rfl) rfl
 ((x_callZ (ci := 0) H rfl [.int x1] rfl rfl rfl rfl).trans (isO_c (bi_c fun q1 => rI_c fun v3 h2 =>
 U1 rfl ((x_if_eq H rfl (t := 20) (by decide)).trans (if_c
 (U2 [none, none, none] rfl rfl)
 (U1 rfl (T1 (x_aload_n H rfl rfl) rfl
 ((x_getR H rfl).trans (gfQ_c rfl fun b4 =>
 U1 rfl (T1 (x_iload_n H rfl rfl) rfl
 (T1 (x_iload_n H rfl rfl) rfl
 ((x_bastore H rfl).trans (stZ_c fun h5 =>
 U1 rfl (T1 (x_aload_n H rfl rfl) rfl
 (T1 (x_iconst H rfl ki_0) rfl
 ((x_putZ H rfl).trans (isZ_c (pfV_c fun h6 =>
 U2 [none, none, none] rfl rfl)))))))))))))))))))
theorem nd_8_20 {c : Ct} {dd : Bool} {ρ : Kt} (H : St c dd mt_8 ρ) (h : AH)  : ρ 20 [none, none, none] [] h = some (none, h) :=
 x_return H rfl rfl
-- X0_goodStates ()I: 9
theorem nd_9_0 {c : Ct} {dd : Bool} {ρ : Kt} (H : St c dd mt_9 ρ) (h : AH) (a0 : Nat) : ρ 0 [some (.ref a0), none, none] [] h = ρ 4 [some (.ref a0), some (.int 0), some (.int 0)] [] h :=
 T1 (x_iconst H rfl ki_0) rfl
 (T2 [some (.ref a0), some (.int 0), none] (x_istore_n H rfl rfl) rfl
 (T1 (x_iconst H rfl ki_0) rfl
 (T2 [some (.ref a0), some (.int 0), some (.int 0)] (x_istore_n H rfl rfl) rfl rfl)))
theorem nd_9_4 {c : Ct} {dd : Bool} {ρ : Kt} (H : St c dd mt_9 ρ) (h : AH) (a0 : Nat) (x1 : Int32) (x2 : Int32) : ρ 4 [some (.ref a0), some (.int x1), some (.int x2)] [] h = gfI h a0 0 3 fun v1 => if v1 ≤ x2 then (some (some (.int x1), h)) else (gfQ h a0 0 2 none fun b2 => ldZ h b2 x2 fun v3 => if v3 = 0 then (ρ 24 [some (.ref a0), some (.int x1), some (.int x2)] [] h) else (ρ 24 [some (.ref a0), some (.int (x1 + 1)), some (.int x2)] [] h)) :=
 T1 (x_iload_n H rfl rfl) rfl
 (T1 (x_aload_n H rfl rfl) rfl
 ((x_getI H rfl).trans (gfI_c fun v1 =>
 U1 rfl ((x_icmp_ge H rfl (t := 30) (by decide)).trans (if_c
 (U1 rfl (T1 (x_iload_n H rfl rfl) rfl
 (x_ireturn H rfl rfl)))
 (U1 rfl (T1 (x_aload_n H rfl rfl) rfl
 ((x_getR H rfl).trans (gfQ_c rfl fun b2 =>
 U1 rfl (T1 (x_iload_n H rfl rfl) rfl
 ((x_baload H rfl).trans (ldZ_c fun v3 =>
 U1 rfl ((x_if_eq H rfl (t := 24) (by decide)).trans (if_c
 (U2 [some (.ref a0), some (.int x1), some (.int x2)] rfl rfl)
 (U1 rfl (T2 [some (.ref a0), some (.int (x1 + 1)), some (.int x2)] (x_iinc H rfl ki_1 rfl rfl) rfl rfl))))))))))))))))
theorem nd_9_24 {c : Ct} {dd : Bool} {ρ : Kt} (H : St c dd mt_9 ρ) (h : AH) (a0 : Nat) (x1 : Int32) (x2 : Int32) : ρ 24 [some (.ref a0), some (.int x1), some (.int x2)] [] h = ρ 4 [some (.ref a0), some (.int x1), some (.int (x2 + 1))] [] h :=
 T2 [some (.ref a0), some (.int x1), some (.int (x2 + 1))] (x_iinc H rfl ki_1 rfl rfl) rfl
 (T2 [some (.ref a0), some (.int x1), some (.int (x2 + 1))] (x_goto H rfl (t := 4) (by decide)) rfl rfl)
-- X0_forgetOrbits ()V: 10
theorem nd_10_0 {c : Ct} {dd : Bool} {ρ : Kt} (H : St c dd mt_10 ρ) (h : AH) (a0 : Nat) : ρ 0 [some (.ref a0), none] [] h = ρ 2 [some (.ref a0), some (.int 0)] [] h :=
 T1 (x_iconst H rfl ki_0) rfl
 (T2 [some (.ref a0), some (.int 0)] (x_istore_n H rfl rfl) rfl rfl)
theorem nd_10_2 {c : Ct} {dd : Bool} {ρ : Kt} (H : St c dd mt_10 ρ) (h : AH) (a0 : Nat) (x1 : Int32) : ρ 2 [some (.ref a0), some (.int x1)] [] h = gfQ h a0 0 6 none fun b1 => lnA h b1 fun v2 => if v2 ≤ x1 then (some (none, h)) else (gfQ h a0 0 6 none fun b3 => stI h b3 x1 0 fun h4 => ρ 2 [some (.ref a0), some (.int (x1 + 1))] [] h4) :=
 T1 (x_iload_n H rfl rfl) rfl
 (T1 (x_aload_n H rfl rfl) rfl
 ((x_getR H rfl).trans (gfQ_c rfl fun b1 =>
 U1 rfl ((x_alen H rfl).trans (lnA_c fun v2 =>
 U1 rfl ((x_icmp_ge H rfl (t := 24) (by decide)).trans (if_c
 (U1 rfl (x_return H rfl rfl))
 (U1 rfl (T1 (x_aload_n H rfl rfl) rfl
 ((x_getR H rfl).trans (gfQ_c rfl fun b3 =>
 U1 rfl (T1 (x_iload_n H rfl rfl) rfl
 (T1 (x_iconst H rfl ki_0) rfl
 ((x_iastore H rfl).trans (stI_c fun h4 =>
 U1 rfl (T2 [some (.ref a0), some (.int (x1 + 1))] (x_iinc H rfl ki_1 rfl rfl) rfl
 (T2 [some (.ref a0), some (.int (x1 + 1))] (x_goto H rfl (t := 2) (by decide)) rfl rfl)))))))))))))))))
-- X0_setFate (III)V: 11
theorem nd_11_0 {c : Ct} {dd : Bool} {ρ : Kt} (H : St c dd mt_11 ρ) (h : AH) (a0 : Nat) (x1 : Int32) (x2 : Int32) (x3 : Int32) : ρ 0 [some (.ref a0), some (.int x1), some (.int x2), some (.int x3)] [] h = isO h a0 0 ((c 3 [.ref a0, .int x1] h).bind fun q1 => rI q1 fun v3 h2 => if v3 = 0 then (ρ 30 [none, none, none, none] [] h2) else (if x2 < 0 then (ρ 30 [none, none, none, none] [] h2) else (if 6 ≤ x2 then (ρ 30 [none, none, none, none] [] h2) else (gfQ h2 a0 0 6 none fun b4 => stI h2 b4 ((x1 * 6) + x2) x3 fun h5 => ρ 30 [none, none, none, none] [] h5)))) :=
 T1 (x_aload_n H rfl rfl) rfl
 (T1 (x_iload_n H rfl rfl) rfl
 ((x_callZ (ci := 0) H rfl [.int x1] rfl rfl rfl rfl).trans (isO_c (bi_c fun q1 => rI_c fun v3 h2 =>
 U1 rfl ((x_if_eq H rfl (t := 30) (by decide)).trans (if_c
 (U2 [none, none, none, none] rfl rfl)
 (U1 rfl (T1 (x_iload_n H rfl rfl) rfl
 ((x_if_lt H rfl (t := 30) (by decide)).trans (if_c
 (U2 [none, none, none, none] rfl rfl)
 (U1 rfl (T1 (x_iload_n H rfl rfl) rfl
 (T1 (x_bipush H rfl kb_6) rfl
 ((x_icmp_ge H rfl (t := 30) (by decide)).trans (if_c
 (U2 [none, none, none, none] rfl rfl)
 (U1 rfl (T1 (x_aload_n H rfl rfl) rfl
 ((x_getR H rfl).trans (gfQ_c rfl fun b4 =>
 U1 rfl (T1 (x_iload_n H rfl rfl) rfl
 (T1 (x_bipush H rfl kb_6) rfl
 (T1 (x_imul H rfl) rfl
 (T1 (x_iload_n H rfl rfl) rfl
 (T1 (x_iadd H rfl) rfl
 (T1 (x_iload_n H rfl rfl) rfl
 ((x_iastore H rfl).trans (stI_c fun h5 =>
 U2 [none, none, none, none] rfl rfl)))))))))))))))))))))))))))
theorem nd_11_30 {c : Ct} {dd : Bool} {ρ : Kt} (H : St c dd mt_11 ρ) (h : AH)  : ρ 30 [none, none, none, none] [] h = some (none, h) :=
 x_return H rfl rfl
-- X0_fateOf (II)I: 12
theorem nd_12_0 {c : Ct} {dd : Bool} {ρ : Kt} (H : St c dd mt_12 ρ) (h : AH) (a0 : Nat) (x1 : Int32) (x2 : Int32) : ρ 0 [some (.ref a0), some (.int x1), some (.int x2)] [] h = isO h a0 0 ((c 3 [.ref a0, .int x1] h).bind fun q1 => rI q1 fun v3 h2 => if v3 = 0 then (ρ 32 [none, none, none] [] h2) else (if x2 < 0 then (ρ 32 [none, none, none] [] h2) else (if 6 ≤ x2 then (ρ 32 [none, none, none] [] h2) else (gfQ h2 a0 0 6 none fun b4 => ldI h2 b4 ((x1 * 6) + x2) fun v5 => ρ 33 [none, none, none] [.int v5] h2)))) :=
 T1 (x_aload_n H rfl rfl) rfl
 (T1 (x_iload_n H rfl rfl) rfl
 ((x_callZ (ci := 0) H rfl [.int x1] rfl rfl rfl rfl).trans (isO_c (bi_c fun q1 => rI_c fun v3 h2 =>
 U1 rfl ((x_if_eq H rfl (t := 32) (by decide)).trans (if_c
 (U2 [none, none, none] rfl rfl)
 (U1 rfl (T1 (x_iload_n H rfl rfl) rfl
 ((x_if_lt H rfl (t := 32) (by decide)).trans (if_c
 (U2 [none, none, none] rfl rfl)
 (U1 rfl (T1 (x_iload_n H rfl rfl) rfl
 (T1 (x_bipush H rfl kb_6) rfl
 ((x_icmp_ge H rfl (t := 32) (by decide)).trans (if_c
 (U2 [none, none, none] rfl rfl)
 (U1 rfl (T1 (x_aload_n H rfl rfl) rfl
 ((x_getR H rfl).trans (gfQ_c rfl fun b4 =>
 U1 rfl (T1 (x_iload_n H rfl rfl) rfl
 (T1 (x_bipush H rfl kb_6) rfl
 (T1 (x_imul H rfl) rfl
 (T1 (x_iload_n H rfl rfl) rfl
 (T1 (x_iadd H rfl) rfl
 ((x_iaload H rfl).trans (ldI_c fun v5 =>
 U1 rfl (T2 [none, none, none] (x_goto H rfl (t := 33) (by decide)) rfl rfl)))))))))))))))))))))))))))
theorem nd_12_32 {c : Ct} {dd : Bool} {ρ : Kt} (H : St c dd mt_12 ρ) (h : AH)  : ρ 32 [none, none, none] [] h = ρ 33 [none, none, none] [.int 0] h :=
 T2 [none, none, none] (x_iconst H rfl ki_0) rfl rfl
theorem nd_12_33 {c : Ct} {dd : Bool} {ρ : Kt} (H : St c dd mt_12 ρ) (h : AH) (s0_ : Int32) : ρ 33 [none, none, none] [.int s0_] h = some (some (.int s0_), h) :=
 x_ireturn H rfl rfl
-- X0_orbitsOf (I)I: 13
theorem nd_13_0 {c : Ct} {dd : Bool} {ρ : Kt} (H : St c dd mt_13 ρ) (h : AH) (a0 : Nat) (x1 : Int32) : ρ 0 [some (.ref a0), some (.int x1), none, none] [] h = ρ 4 [some (.ref a0), some (.int x1), some (.int 0), some (.int 0)] [] h :=
 T1 (x_iconst H rfl ki_0) rfl
 (T2 [some (.ref a0), some (.int x1), some (.int 0), none] (x_istore_n H rfl rfl) rfl
 (T1 (x_iconst H rfl ki_0) rfl
 (T2 [some (.ref a0), some (.int x1), some (.int 0), some (.int 0)] (x_istore_n H rfl rfl) rfl rfl)))
theorem nd_13_4 {c : Ct} {dd : Bool} {ρ : Kt} (H : St c dd mt_13 ρ) (h : AH) (a0 : Nat) (x1 : Int32) (x2 : Int32) (x3 : Int32) : ρ 4 [some (.ref a0), some (.int x1), some (.int x2), some (.int x3)] [] h = gfQ h a0 0 6 none fun b1 => lnA h b1 fun v2 => if v2 ≤ x3 then (some (some (.int x2), h)) else (gfQ h a0 0 6 none fun b3 => ldI h b3 x3 fun v4 => if v4 = x1 then (ρ 26 [some (.ref a0), some (.int x1), some (.int (x2 + 1)), some (.int x3)] [] h) else (ρ 26 [some (.ref a0), some (.int x1), some (.int x2), some (.int x3)] [] h)) :=
 T1 (x_iload_n H rfl rfl) rfl
 (T1 (x_aload_n H rfl rfl) rfl
 ((x_getR H rfl).trans (gfQ_c rfl fun b1 =>
 U1 rfl ((x_alen H rfl).trans (lnA_c fun v2 =>
 U1 rfl ((x_icmp_ge H rfl (t := 32) (by decide)).trans (if_c
 (U1 rfl (T1 (x_iload_n H rfl rfl) rfl
 (x_ireturn H rfl rfl)))
 (U1 rfl (T1 (x_aload_n H rfl rfl) rfl
 ((x_getR H rfl).trans (gfQ_c rfl fun b3 =>
 U1 rfl (T1 (x_iload_n H rfl rfl) rfl
 ((x_iaload H rfl).trans (ldI_c fun v4 =>
 U1 rfl (T1 (x_iload_n H rfl rfl) rfl
 ((x_icmp_ne H rfl (t := 26) (by decide)).trans (if_c
 (U1 rfl (T2 [some (.ref a0), some (.int x1), some (.int (x2 + 1)), some (.int x3)] (x_iinc H rfl ki_1 rfl rfl) rfl rfl))
 (U2 [some (.ref a0), some (.int x1), some (.int x2), some (.int x3)] rfl rfl))))))))))))))))))
theorem nd_13_26 {c : Ct} {dd : Bool} {ρ : Kt} (H : St c dd mt_13 ρ) (h : AH) (a0 : Nat) (x1 : Int32) (x2 : Int32) (x3 : Int32) : ρ 26 [some (.ref a0), some (.int x1), some (.int x2), some (.int x3)] [] h = ρ 4 [some (.ref a0), some (.int x1), some (.int x2), some (.int (x3 + 1))] [] h :=
 T2 [some (.ref a0), some (.int x1), some (.int x2), some (.int (x3 + 1))] (x_iinc H rfl ki_1 rfl rfl) rfl
 (T2 [some (.ref a0), some (.int x1), some (.int x2), some (.int (x3 + 1))] (x_goto H rfl (t := 4) (by decide)) rfl rfl)
-- X0_statesMet ()I: 14
theorem nd_14_0 {c : Ct} {dd : Bool} {ρ : Kt} (H : St c dd mt_14 ρ) (h : AH) (a0 : Nat) : ρ 0 [some (.ref a0), none, none] [] h = ρ 4 [some (.ref a0), some (.int 0), some (.int 0)] [] h :=
 T1 (x_iconst H rfl ki_0) rfl
 (T2 [some (.ref a0), some (.int 0), none] (x_istore_n H rfl rfl) rfl
 (T1 (x_iconst H rfl ki_0) rfl
 (T2 [some (.ref a0), some (.int 0), some (.int 0)] (x_istore_n H rfl rfl) rfl rfl)))
theorem nd_14_4 {c : Ct} {dd : Bool} {ρ : Kt} (H : St c dd mt_14 ρ) (h : AH) (a0 : Nat) (x1 : Int32) (x2 : Int32) : ρ 4 [some (.ref a0), some (.int x1), some (.int x2)] [] h = gfI h a0 0 3 fun v1 => if v1 ≤ x2 then (some (some (.int x1), h)) else (isO h a0 0 ((c 15 [.ref a0, .int x2] h).bind fun q2 => rI q2 fun v4 h3 => if v4 = 0 then (ρ 23 [some (.ref a0), some (.int x1), some (.int x2)] [] h3) else (ρ 23 [some (.ref a0), some (.int (x1 + 1)), some (.int x2)] [] h3))) :=
 T1 (x_iload_n H rfl rfl) rfl
 (T1 (x_aload_n H rfl rfl) rfl
 ((x_getI H rfl).trans (gfI_c fun v1 =>
 U1 rfl ((x_icmp_ge H rfl (t := 29) (by decide)).trans (if_c
 (U1 rfl (T1 (x_iload_n H rfl rfl) rfl
 (x_ireturn H rfl rfl)))
 (U1 rfl (T1 (x_aload_n H rfl rfl) rfl
 (T1 (x_iload_n H rfl rfl) rfl
 ((x_callZ (ci := 0) H rfl [.int x2] rfl rfl rfl rfl).trans (isO_c (bi_c fun q2 => rI_c fun v4 h3 =>
 U1 rfl ((x_if_eq H rfl (t := 23) (by decide)).trans (if_c
 (U2 [some (.ref a0), some (.int x1), some (.int x2)] rfl rfl)
 (U1 rfl (T2 [some (.ref a0), some (.int (x1 + 1)), some (.int x2)] (x_iinc H rfl ki_1 rfl rfl) rfl rfl)))))))))))))))
theorem nd_14_23 {c : Ct} {dd : Bool} {ρ : Kt} (H : St c dd mt_14 ρ) (h : AH) (a0 : Nat) (x1 : Int32) (x2 : Int32) : ρ 23 [some (.ref a0), some (.int x1), some (.int x2)] [] h = ρ 4 [some (.ref a0), some (.int x1), some (.int (x2 + 1))] [] h :=
 T2 [some (.ref a0), some (.int x1), some (.int (x2 + 1))] (x_iinc H rfl ki_1 rfl rfl) rfl
 (T2 [some (.ref a0), some (.int x1), some (.int (x2 + 1))] (x_goto H rfl (t := 4) (by decide)) rfl rfl)
-- X0_isMet (I)Z: 15
theorem nd_15_0 {c : Ct} {dd : Bool} {ρ : Kt} (H : St c dd mt_15 ρ) (h : AH) (a0 : Nat) (x1 : Int32) : ρ 0 [some (.ref a0), some (.int x1), none] [] h = ρ 2 [some (.ref a0), some (.int x1), some (.int 0)] [] h :=
 T1 (x_iconst H rfl ki_0) rfl
 (T2 [some (.ref a0), some (.int x1), some (.int 0)] (x_istore_n H rfl rfl) rfl rfl)
theorem nd_15_2 {c : Ct} {dd : Bool} {ρ : Kt} (H : St c dd mt_15 ρ) (h : AH) (a0 : Nat) (x1 : Int32) (x2 : Int32) : ρ 2 [some (.ref a0), some (.int x1), some (.int x2)] [] h = if 6 ≤ x2 then (isZ 0 (some (some (.int 0), h))) else (isO h a0 0 ((c 12 [.ref a0, .int x1, .int x2] h).bind fun q1 => rI q1 fun v3 h2 => if v3 = 0 then (ρ 2 [some (.ref a0), some (.int x1), some (.int (x2 + 1))] [] h2) else (isZ 1 (some (some (.int 1), h2))))) :=
 T1 (x_iload_n H rfl rfl) rfl
 (T1 (x_bipush H rfl kb_6) rfl
 ((x_icmp_ge H rfl (t := 25) (by decide)).trans (if_c
 (U1 rfl (T1 (x_iconst H rfl ki_0) rfl
 (x_zreturn H rfl rfl)))
 (U1 rfl (T1 (x_aload_n H rfl rfl) rfl
 (T1 (x_iload_n H rfl rfl) rfl
 (T1 (x_iload_n H rfl rfl) rfl
 ((x_callI (ci := 0) H rfl [.int x1, .int x2] rfl rfl rfl rfl).trans (isO_c (bi_c fun q1 => rI_c fun v3 h2 =>
 U1 rfl ((x_if_eq H rfl (t := 19) (by decide)).trans (if_c
 (U1 rfl (T2 [some (.ref a0), some (.int x1), some (.int (x2 + 1))] (x_iinc H rfl ki_1 rfl rfl) rfl
 (T2 [some (.ref a0), some (.int x1), some (.int (x2 + 1))] (x_goto H rfl (t := 2) (by decide)) rfl rfl)))
 (U1 rfl (T1 (x_iconst H rfl ki_1) rfl
 (x_zreturn H rfl rfl)))))))))))))))
-- X1_init ()V: 16
theorem nd_16_0 {c : Ct} {dd : Bool} {ρ : Kt} (H : St c dd mt_16 ρ) (hd : dd = true) (h : AH) (a0 : Nat) : ρ 0 [some (.ref a0)] [] h = pfV (hN h (aI 0 6 fun _ => 0) 6) a0 1 0 (.ref h.2.1) fun h1 => pfV h1 a0 1 1 (.int 0) fun h2 => some (none, h2) :=
 T1 (x_aload_n H rfl rfl) rfl
 (T1 (x_oinit H rfl (by rw [hd]; rfl)) rfl
 (T1 (x_aload_n H rfl rfl) rfl
 (T1 (x_bipush H rfl kb_6) rfl
 (T1 (x_newi H rfl (by decide) (by decide)) rfl
 ((x_putR H rfl).trans (pfV_c fun h1 =>
 U1 rfl (T1 (x_aload_n H rfl rfl) rfl
 (T1 (x_iconst H rfl ki_0) rfl
 ((x_putI H rfl).trans (pfV_c fun h2 =>
 U1 rfl (x_return H rfl rfl)))))))))))
-- X1_join (LNameRows$Machine;LNameRows$Machine;LNameRows$Machine;I)Z: 17
theorem nd_17_0 {c : Ct} {dd : Bool} {ρ : Kt} (H : St c dd mt_17 ρ) (hd : dd = true) (h : AH) (a0 : Nat) (a1 : Nat) (a2 : Nat) (a3 : Nat) (x4 : Int32) : ρ 0 [some (.ref a0), some (.ref a1), some (.ref a2), some (.ref a3), some (.int x4), none] [] h = gfI h a2 0 4 fun v1 => gfI h a3 0 4 fun v2 => isO h a1 0 ((c 1 [.ref a1, .int 6, .int (if v1 < v2 then v2 else v1)] h).bind fun q3 => rV q3 fun h4 => pfV h4 a0 1 1 (.int 0) fun h5 => isO h5 a0 1 ((c 19 [.ref a0, .int 0] h5).bind fun q6 => rI q6 fun v8 h7 => ρ 31 [some (.ref a0), some (.ref a1), some (.ref a2), some (.ref a3), some (.int x4), some (.int 0)] [] h7)) :=
 T1 (x_aload_n H rfl rfl) rfl
 (T1 (x_bipush H rfl kb_6) rfl
 (T1 (x_aload_n H rfl rfl) rfl
 ((x_getI H rfl).trans (gfI_c fun v1 =>
 U1 rfl (T1 (x_aload_n H rfl rfl) rfl
 ((x_getI H rfl).trans (gfI_c fun v2 =>
 U1 rfl (T1 (x_max H rfl (by rw [hd]; rfl)) rfl
 ((x_callV (ci := 0) H rfl [.int 6, .int (if v1 < v2 then v2 else v1)] rfl rfl rfl rfl).trans (isO_c (bi_c fun q3 => rV_c fun h4 =>
 U1 rfl (T1 (x_aload_n H rfl rfl) rfl
 (T1 (x_iconst H rfl ki_0) rfl
 ((x_putI H rfl).trans (pfV_c fun h5 =>
 U1 rfl (T1 (x_aload_n H rfl rfl) rfl
 (T1 (x_iconst H rfl ki_0) rfl
 ((x_callI (ci := 1) H rfl [.int 0] rfl rfl rfl rfl).trans (isO_c (bi_c fun q6 => rI_c fun v8 h7 =>
 U1 rfl (T1 (x_pop H rfl) rfl
 (T1 (x_iconst H rfl ki_0) rfl
 (T2 [some (.ref a0), some (.ref a1), some (.ref a2), some (.ref a3), some (.int x4), some (.int 0)] (x_istore H rfl rfl) rfl rfl)))))))))))))))))))))))
theorem nd_17_31 {c : Ct} {dd : Bool} {ρ : Kt} (H : St c dd mt_17 ρ) (h : AH) (a0 : Nat) (a1 : Nat) (a2 : Nat) (a3 : Nat) (x4 : Int32) (x5 : Int32) : ρ 31 [some (.ref a0), some (.ref a1), some (.ref a2), some (.ref a3), some (.int x4), some (.int x5)] [] h = gfI h a0 1 1 fun v1 => if v1 ≤ x5 then (ρ 106 [some (.ref a0), some (.ref a1), none, none, none, none] [] h) else (if 6 ≤ x5 then (ρ 106 [some (.ref a0), some (.ref a1), none, none, none, none] [] h) else (isO h a0 1 ((c 18 [.ref a0, .ref a1, .int x5, .ref a2, .ref a3] h).bind fun q2 => rI q2 fun v4 h3 => if v4 = 0 then (isZ 0 (some (some (.int 0), h3))) else (gfQ h3 a0 1 0 none fun b5 => ldI h3 b5 x5 fun v6 => isO h3 a2 0 ((c 7 [.ref a2, .int (v6 / 6)] h3).bind fun q7 => rI q7 fun v9 h8 => gfQ h8 a0 1 0 none fun b10 => ldI h8 b10 x5 fun v11 => isO h8 a3 0 ((c 7 [.ref a3, .int (v11 - v11 / 6 * 6)] h8).bind fun q12 => rI q12 fun v14 h13 => (c 20 [.int v9, .int v14, .int x4] h13).bind fun q15 => rI q15 fun v17 h16 => isO h16 a1 0 ((c 8 [.ref a1, .int x5, .int v17] h16).bind fun q18 => rV q18 fun h19 => ρ 31 [some (.ref a0), some (.ref a1), some (.ref a2), some (.ref a3), some (.int x4), some (.int (x5 + 1))] [] h19))))))) :=
 T1 (x_iload H rfl rfl) rfl
 (T1 (x_aload_n H rfl rfl) rfl
 ((x_getI H rfl).trans (gfI_c fun v1 =>
 U1 rfl ((x_icmp_ge H rfl (t := 106) (by decide)).trans (if_c
 (U2 [some (.ref a0), some (.ref a1), none, none, none, none] rfl rfl)
 (U1 rfl (T1 (x_iload H rfl rfl) rfl
 (T1 (x_bipush H rfl kb_6) rfl
 ((x_icmp_ge H rfl (t := 106) (by decide)).trans (if_c
 (U2 [some (.ref a0), some (.ref a1), none, none, none, none] rfl rfl)
 (U1 rfl (T1 (x_aload_n H rfl rfl) rfl
 (T1 (x_aload_n H rfl rfl) rfl
 (T1 (x_iload H rfl rfl) rfl
 (T1 (x_aload_n H rfl rfl) rfl
 (T1 (x_aload_n H rfl rfl) rfl
 ((x_callZ (ci := 1) H rfl [.ref a1, .int x5, .ref a2, .ref a3] rfl rfl rfl rfl).trans (isO_c (bi_c fun q2 => rI_c fun v4 h3 =>
 U1 rfl ((x_if_ne H rfl (t := 61) (by decide)).trans (if_c
 (U1 rfl (T1 (x_iconst H rfl ki_0) rfl
 (x_zreturn H rfl rfl)))
 (U1 rfl (T1 (x_aload_n H rfl rfl) rfl
 (T1 (x_iload H rfl rfl) rfl
 (T1 (x_aload_n H rfl rfl) rfl
 (T1 (x_aload_n H rfl rfl) rfl
 ((x_getR H rfl).trans (gfQ_c rfl fun b5 =>
 U1 rfl (T1 (x_iload H rfl rfl) rfl
 ((x_iaload H rfl).trans (ldI_c fun v6 =>
 U1 rfl (T1 (x_bipush H rfl kb_6) rfl
 (T1 (x_idiv H rfl (by decide)) rfl
 ((x_callZ (ci := 0) H rfl [.int (v6 / 6)] rfl rfl rfl rfl).trans (isO_c (bi_c fun q7 => rI_c fun v9 h8 =>
 U1 rfl (T1 (x_aload_n H rfl rfl) rfl
 (T1 (x_aload_n H rfl rfl) rfl
 ((x_getR H rfl).trans (gfQ_c rfl fun b10 =>
 U1 rfl (T1 (x_iload H rfl rfl) rfl
 ((x_iaload H rfl).trans (ldI_c fun v11 =>
 U1 rfl (T1 (x_bipush H rfl kb_6) rfl
 (T1 (x_irem H rfl (by decide)) rfl
 ((x_callZ (ci := 0) H rfl [.int (v11 - v11 / 6 * 6)] rfl rfl rfl rfl).trans (isO_c (bi_c fun q12 => rI_c fun v14 h13 =>
 U1 rfl (T1 (x_iload H rfl rfl) rfl
 ((x_statZ H rfl [.int v9, .int v14, .int x4] rfl rfl rfl rfl rfl).trans (bi_c fun q15 => rI_c fun v17 h16 =>
 U1 rfl ((x_callV (ci := 0) H rfl [.int x5, .int v17] rfl rfl rfl rfl).trans (isO_c (bi_c fun q18 => rV_c fun h19 =>
 U1 rfl (T2 [some (.ref a0), some (.ref a1), some (.ref a2), some (.ref a3), some (.int x4), some (.int (x5 + 1))] (x_iinc H rfl ki_1 rfl rfl) rfl
 (T2 [some (.ref a0), some (.ref a1), some (.ref a2), some (.ref a3), some (.int x4), some (.int (x5 + 1))] (x_goto H rfl (t := 31) (by decide)) rfl rfl))))))))))))))))))))))))))))))))))))))))))))))))))))))))
theorem nd_17_106 {c : Ct} {dd : Bool} {ρ : Kt} (H : St c dd mt_17 ρ) (h : AH) (a0 : Nat) (a1 : Nat) : ρ 106 [some (.ref a0), some (.ref a1), none, none, none, none] [] h = gfI h a0 1 1 fun v1 => pfV h a1 0 3 (.int v1) fun h2 => isZ 1 (some (some (.int 1), h2)) :=
 T1 (x_aload_n H rfl rfl) rfl
 (T1 (x_aload_n H rfl rfl) rfl
 ((x_getI H rfl).trans (gfI_c fun v1 =>
 U1 rfl ((x_putI H rfl).trans (pfV_c fun h2 =>
 U1 rfl (T1 (x_iconst H rfl ki_1) rfl
 (x_zreturn H rfl rfl)))))))
-- X1_joinSteps (LNameRows$Machine;ILNameRows$Machine;LNameRows$Machine;)Z: 18
theorem nd_18_0 {c : Ct} {dd : Bool} {ρ : Kt} (H : St c dd mt_18 ρ) (h : AH) (a0 : Nat) (a1 : Nat) (x2 : Int32) (a3 : Nat) (a4 : Nat) : ρ 0 [some (.ref a0), some (.ref a1), some (.int x2), some (.ref a3), some (.ref a4), none, none, none, none, none, none, none, none] [] h = gfQ h a0 1 0 none fun b1 => ldI h b1 x2 fun v2 => gfQ h a0 1 0 none fun b3 => ldI h b3 x2 fun v4 => ρ 25 [some (.ref a0), some (.ref a1), some (.int x2), some (.ref a3), some (.ref a4), some (.int (v2 / 6)), some (.int (v4 - v4 / 6 * 6)), some (.int 0), none, none, none, none, none] [] h :=
 T1 (x_aload_n H rfl rfl) rfl
 ((x_getR H rfl).trans (gfQ_c rfl fun b1 =>
 U1 rfl (T1 (x_iload_n H rfl rfl) rfl
 ((x_iaload H rfl).trans (ldI_c fun v2 =>
 U1 rfl (T1 (x_bipush H rfl kb_6) rfl
 (T1 (x_idiv H rfl (by decide)) rfl
 (T2 [some (.ref a0), some (.ref a1), some (.int x2), some (.ref a3), some (.ref a4), some (.int (v2 / 6)), none, none, none, none, none, none, none] (x_istore H rfl rfl) rfl
 (T1 (x_aload_n H rfl rfl) rfl
 ((x_getR H rfl).trans (gfQ_c rfl fun b3 =>
 U1 rfl (T1 (x_iload_n H rfl rfl) rfl
 ((x_iaload H rfl).trans (ldI_c fun v4 =>
 U1 rfl (T1 (x_bipush H rfl kb_6) rfl
 (T1 (x_irem H rfl (by decide)) rfl
 (T2 [some (.ref a0), some (.ref a1), some (.int x2), some (.ref a3), some (.ref a4), some (.int (v2 / 6)), some (.int (v4 - v4 / 6 * 6)), none, none, none, none, none, none] (x_istore H rfl rfl) rfl
 (T1 (x_iconst H rfl ki_0) rfl
 (T2 [some (.ref a0), some (.ref a1), some (.int x2), some (.ref a3), some (.ref a4), some (.int (v2 / 6)), some (.int (v4 - v4 / 6 * 6)), some (.int 0), none, none, none, none, none] (x_istore H rfl rfl) rfl rfl)))))))))))))))))))
theorem nd_18_25 {c : Ct} {dd : Bool} {ρ : Kt} (H : St c dd mt_18 ρ) (h : AH) (a0 : Nat) (a1 : Nat) (x2 : Int32) (a3 : Nat) (a4 : Nat) (x5 : Int32) (x6 : Int32) (x7 : Int32) : ρ 25 [some (.ref a0), some (.ref a1), some (.int x2), some (.ref a3), some (.ref a4), some (.int x5), some (.int x6), some (.int x7), none, none, none, none, none] [] h = if 3 ≤ x7 then (isZ 1 (some (some (.int 1), h))) else (ρ 34 [some (.ref a0), some (.ref a1), some (.int x2), some (.ref a3), some (.ref a4), some (.int x5), some (.int x6), some (.int x7), some (.int 0), none, none, none, none] [] h) :=
 T1 (x_iload H rfl rfl) rfl
 (T1 (x_iconst H rfl ki_3) rfl
 ((x_icmp_ge H rfl (t := 195) (by decide)).trans (if_c
 (U1 rfl (T1 (x_iconst H rfl ki_1) rfl
 (x_zreturn H rfl rfl)))
 (U1 rfl (T1 (x_iconst H rfl ki_0) rfl
 (T2 [some (.ref a0), some (.ref a1), some (.int x2), some (.ref a3), some (.ref a4), some (.int x5), some (.int x6), some (.int x7), some (.int 0), none, none, none, none] (x_istore H rfl rfl) rfl rfl))))))
theorem nd_18_34 {c : Ct} {dd : Bool} {ρ : Kt} (H : St c dd mt_18 ρ) (h : AH) (a0 : Nat) (a1 : Nat) (x2 : Int32) (a3 : Nat) (a4 : Nat) (x5 : Int32) (x6 : Int32) (x7 : Int32) (x8 : Int32) : ρ 34 [some (.ref a0), some (.ref a1), some (.int x2), some (.ref a3), some (.ref a4), some (.int x5), some (.int x6), some (.int x7), some (.int x8), none, none, none, none] [] h = if 3 ≤ x8 then (ρ 25 [some (.ref a0), some (.ref a1), some (.int x2), some (.ref a3), some (.ref a4), some (.int x5), some (.int x6), some (.int (x7 + 1)), none, none, none, none, none] [] h) else (isO h a1 0 ((c 4 [.ref a1, .int x2, .int x7, .int x8] h).bind fun q1 => rI q1 fun v3 h2 => gfI h2 a3 0 4 fun v4 => if v4 ≤ 0 then (ρ 69 [some (.ref a0), some (.ref a1), some (.int x2), some (.ref a3), some (.ref a4), some (.int x5), some (.int x6), some (.int x7), some (.int x8), some (.int v3), none, none, none] [.int 2, .int x7, .int x5, .ref a3] h2) else (ρ 69 [some (.ref a0), some (.ref a1), some (.int x2), some (.ref a3), some (.ref a4), some (.int x5), some (.int x6), some (.int x7), some (.int x8), some (.int v3), none, none, none] [.int x8, .int x7, .int x5, .ref a3] h2))) :=
 T1 (x_iload H rfl rfl) rfl
 (T1 (x_iconst H rfl ki_3) rfl
 ((x_icmp_ge H rfl (t := 189) (by decide)).trans (if_c
 (U1 rfl (T2 [some (.ref a0), some (.ref a1), some (.int x2), some (.ref a3), some (.ref a4), some (.int x5), some (.int x6), some (.int (x7 + 1)), some (.int x8), none, none, none, none] (x_iinc H rfl ki_1 rfl rfl) rfl
 (T2 [some (.ref a0), some (.ref a1), some (.int x2), some (.ref a3), some (.ref a4), some (.int x5), some (.int x6), some (.int (x7 + 1)), none, none, none, none, none] (x_goto H rfl (t := 25) (by decide)) rfl rfl)))
 (U1 rfl (T1 (x_aload_n H rfl rfl) rfl
 (T1 (x_iload_n H rfl rfl) rfl
 (T1 (x_iload H rfl rfl) rfl
 (T1 (x_iload H rfl rfl) rfl
 ((x_callI (ci := 0) H rfl [.int x2, .int x7, .int x8] rfl rfl rfl rfl).trans (isO_c (bi_c fun q1 => rI_c fun v3 h2 =>
 U1 rfl (T2 [some (.ref a0), some (.ref a1), some (.int x2), some (.ref a3), some (.ref a4), some (.int x5), some (.int x6), some (.int x7), some (.int x8), some (.int v3), none, none, none] (x_istore H rfl rfl) rfl
 (T1 (x_aload_n H rfl rfl) rfl
 (T1 (x_iload H rfl rfl) rfl
 (T1 (x_iload H rfl rfl) rfl
 (T1 (x_aload_n H rfl rfl) rfl
 ((x_getI H rfl).trans (gfI_c fun v4 =>
 U1 rfl ((x_if_le H rfl (t := 68) (by decide)).trans (if_c
 (U1 rfl (T2 [some (.ref a0), some (.ref a1), some (.int x2), some (.ref a3), some (.ref a4), some (.int x5), some (.int x6), some (.int x7), some (.int x8), some (.int v3), none, none, none] (x_iconst H rfl ki_2) rfl rfl))
 (U1 rfl (T1 (x_iload H rfl rfl) rfl
 (T2 [some (.ref a0), some (.ref a1), some (.int x2), some (.ref a3), some (.ref a4), some (.int x5), some (.int x6), some (.int x7), some (.int x8), some (.int v3), none, none, none] (x_goto H rfl (t := 69) (by decide)) rfl rfl)))))))))))))))))))))))
theorem nd_18_69 {c : Ct} {dd : Bool} {ρ : Kt} (H : St c dd mt_18 ρ) (h : AH) (a0 : Nat) (a1 : Nat) (x2 : Int32) (a3 : Nat) (a4 : Nat) (x5 : Int32) (x6 : Int32) (x7 : Int32) (x8 : Int32) (x9 : Int32) (s0_ : Int32) (s1_ : Int32) (s2_ : Int32) (c3_ : Nat) : ρ 69 [some (.ref a0), some (.ref a1), some (.int x2), some (.ref a3), some (.ref a4), some (.int x5), some (.int x6), some (.int x7), some (.int x8), some (.int x9), none, none, none] [.int s0_, .int s1_, .int s2_, .ref c3_] h = isO h c3_ 0 ((c 4 [.ref c3_, .int s2_, .int s1_, .int s0_] h).bind fun q1 => rI q1 fun v3 h2 => gfI h2 a4 0 4 fun v4 => if v4 ≤ 0 then (ρ 94 [some (.ref a0), some (.ref a1), some (.int x2), some (.ref a3), some (.ref a4), some (.int x5), some (.int x6), some (.int x7), some (.int x8), some (.int x9), some (.int v3), none, none] [.int 2, .int x7, .int x6, .ref a4] h2) else (ρ 94 [some (.ref a0), some (.ref a1), some (.int x2), some (.ref a3), some (.ref a4), some (.int x5), some (.int x6), some (.int x7), some (.int x8), some (.int x9), some (.int v3), none, none] [.int x8, .int x7, .int x6, .ref a4] h2)) :=
 (x_callI (ci := 0) H rfl [.int s2_, .int s1_, .int s0_] rfl rfl rfl rfl).trans (isO_c (bi_c fun q1 => rI_c fun v3 h2 =>
 U1 rfl (T2 [some (.ref a0), some (.ref a1), some (.int x2), some (.ref a3), some (.ref a4), some (.int x5), some (.int x6), some (.int x7), some (.int x8), some (.int x9), some (.int v3), none, none] (x_istore H rfl rfl) rfl
 (T1 (x_aload H rfl rfl) rfl
 (T1 (x_iload H rfl rfl) rfl
 (T1 (x_iload H rfl rfl) rfl
 (T1 (x_aload H rfl rfl) rfl
 ((x_getI H rfl).trans (gfI_c fun v4 =>
 U1 rfl ((x_if_le H rfl (t := 93) (by decide)).trans (if_c
 (U1 rfl (T2 [some (.ref a0), some (.ref a1), some (.int x2), some (.ref a3), some (.ref a4), some (.int x5), some (.int x6), some (.int x7), some (.int x8), some (.int x9), some (.int v3), none, none] (x_iconst H rfl ki_2) rfl rfl))
 (U1 rfl (T1 (x_iload H rfl rfl) rfl
 (T2 [some (.ref a0), some (.ref a1), some (.int x2), some (.ref a3), some (.ref a4), some (.int x5), some (.int x6), some (.int x7), some (.int x8), some (.int x9), some (.int v3), none, none] (x_goto H rfl (t := 94) (by decide)) rfl rfl))))))))))))))
theorem nd_18_94 {c : Ct} {dd : Bool} {ρ : Kt} (H : St c dd mt_18 ρ) (h : AH) (a0 : Nat) (a1 : Nat) (x2 : Int32) (a3 : Nat) (a4 : Nat) (x5 : Int32) (x6 : Int32) (x7 : Int32) (x8 : Int32) (x9 : Int32) (x10 : Int32) (s0_ : Int32) (s1_ : Int32) (s2_ : Int32) (c3_ : Nat) : ρ 94 [some (.ref a0), some (.ref a1), some (.int x2), some (.ref a3), some (.ref a4), some (.int x5), some (.int x6), some (.int x7), some (.int x8), some (.int x9), some (.int x10), none, none] [.int s0_, .int s1_, .int s2_, .ref c3_] h = isO h c3_ 0 ((c 4 [.ref c3_, .int s2_, .int s1_, .int s0_] h).bind fun q1 => rI q1 fun v3 h2 => if x9 < 0 then (ρ 183 [some (.ref a0), some (.ref a1), some (.int x2), some (.ref a3), some (.ref a4), some (.int x5), some (.int x6), some (.int x7), some (.int x8), none, none, none, none] [] h2) else (if x10 < 0 then (ρ 183 [some (.ref a0), some (.ref a1), some (.int x2), some (.ref a3), some (.ref a4), some (.int x5), some (.int x6), some (.int x7), some (.int x8), none, none, none, none] [] h2) else (if 0 ≤ v3 then (gfQ h2 a3 0 0 none fun b4 => ldI h2 b4 x10 fun v5 => gfQ h2 a4 0 0 none fun b6 => ldI h2 b6 v3 fun v7 => isO h2 a0 1 ((c 19 [.ref a0, .int ((v5 * 6) + v7)] h2).bind fun q8 => rI q8 fun v10 h9 => if 0 ≤ v10 then (gfI h9 a4 0 4 fun v11 => if v11 ≤ 0 then (gfQ h9 a3 0 1 none fun b12 => ldI h9 b12 x10 fun v13 => ρ 180 [some (.ref a0), some (.ref a1), some (.int x2), some (.ref a3), some (.ref a4), some (.int x5), some (.int x6), some (.int x7), some (.int x8), none, none, none, none] [.int v13, .int v10, .int x9, .ref a1] h9) else (gfQ h9 a4 0 1 none fun b14 => ldI h9 b14 v3 fun v15 => ρ 180 [some (.ref a0), some (.ref a1), some (.int x2), some (.ref a3), some (.ref a4), some (.int x5), some (.int x6), some (.int x7), some (.int x8), none, none, none, none] [.int v15, .int v10, .int x9, .ref a1] h9)) else (isZ 0 (some (some (.int 0), h9))))) else (ρ 183 [some (.ref a0), some (.ref a1), some (.int x2), some (.ref a3), some (.ref a4), some (.int x5), some (.int x6), some (.int x7), some (.int x8), none, none, none, none] [] h2)))) :=
 (x_callI (ci := 0) H rfl [.int s2_, .int s1_, .int s0_] rfl rfl rfl rfl).trans (isO_c (bi_c fun q1 => rI_c fun v3 h2 =>
 U1 rfl (T2 [some (.ref a0), some (.ref a1), some (.int x2), some (.ref a3), some (.ref a4), some (.int x5), some (.int x6), some (.int x7), some (.int x8), some (.int x9), some (.int x10), some (.int v3), none] (x_istore H rfl rfl) rfl
 (T1 (x_iload H rfl rfl) rfl
 ((x_if_lt H rfl (t := 183) (by decide)).trans (if_c
 (U2 [some (.ref a0), some (.ref a1), some (.int x2), some (.ref a3), some (.ref a4), some (.int x5), some (.int x6), some (.int x7), some (.int x8), none, none, none, none] rfl rfl)
 (U1 rfl (T1 (x_iload H rfl rfl) rfl
 ((x_if_lt H rfl (t := 183) (by decide)).trans (if_c
 (U2 [some (.ref a0), some (.ref a1), some (.int x2), some (.ref a3), some (.ref a4), some (.int x5), some (.int x6), some (.int x7), some (.int x8), none, none, none, none] rfl rfl)
 (U1 rfl (T1 (x_iload H rfl rfl) rfl
 ((x_if_ge H rfl (t := 117) (by decide)).trans (if_c
 (U1 rfl (T1 (x_aload_n H rfl rfl) rfl
 (T1 (x_aload_n H rfl rfl) rfl
 ((x_getR H rfl).trans (gfQ_c rfl fun b4 =>
 U1 rfl (T1 (x_iload H rfl rfl) rfl
 ((x_iaload H rfl).trans (ldI_c fun v5 =>
 U1 rfl (T1 (x_bipush H rfl kb_6) rfl
 (T1 (x_imul H rfl) rfl
 (T1 (x_aload H rfl rfl) rfl
 ((x_getR H rfl).trans (gfQ_c rfl fun b6 =>
 U1 rfl (T1 (x_iload H rfl rfl) rfl
 ((x_iaload H rfl).trans (ldI_c fun v7 =>
 U1 rfl (T1 (x_iadd H rfl) rfl
 ((x_callI (ci := 1) H rfl [.int ((v5 * 6) + v7)] rfl rfl rfl rfl).trans (isO_c (bi_c fun q8 => rI_c fun v10 h9 =>
 U1 rfl (T2 [some (.ref a0), some (.ref a1), some (.int x2), some (.ref a3), some (.ref a4), some (.int x5), some (.int x6), some (.int x7), some (.int x8), some (.int x9), some (.int x10), some (.int v3), some (.int v10)] (x_istore H rfl rfl) rfl
 (T1 (x_iload H rfl rfl) rfl
 ((x_if_ge H rfl (t := 149) (by decide)).trans (if_c
 (U1 rfl (T1 (x_aload_n H rfl rfl) rfl
 (T1 (x_iload H rfl rfl) rfl
 (T1 (x_iload H rfl rfl) rfl
 (T1 (x_aload H rfl rfl) rfl
 ((x_getI H rfl).trans (gfI_c fun v11 =>
 U1 rfl ((x_if_le H rfl (t := 173) (by decide)).trans (if_c
 (U1 rfl (T1 (x_aload_n H rfl rfl) rfl
 ((x_getR H rfl).trans (gfQ_c rfl fun b12 =>
 U1 rfl (T1 (x_iload H rfl rfl) rfl
 ((x_iaload H rfl).trans (ldI_c fun v13 =>
 U2 [some (.ref a0), some (.ref a1), some (.int x2), some (.ref a3), some (.ref a4), some (.int x5), some (.int x6), some (.int x7), some (.int x8), none, none, none, none] rfl rfl)))))))
 (U1 rfl (T1 (x_aload H rfl rfl) rfl
 ((x_getR H rfl).trans (gfQ_c rfl fun b14 =>
 U1 rfl (T1 (x_iload H rfl rfl) rfl
 ((x_iaload H rfl).trans (ldI_c fun v15 =>
 U1 rfl (T2 [some (.ref a0), some (.ref a1), some (.int x2), some (.ref a3), some (.ref a4), some (.int x5), some (.int x6), some (.int x7), some (.int x8), none, none, none, none] (x_goto H rfl (t := 180) (by decide)) rfl rfl)))))))))))))))))
 (U1 rfl (T1 (x_iconst H rfl ki_0) rfl
 (x_zreturn H rfl rfl)))))))))))))))))))))))))))
 (U1 rfl (T2 [some (.ref a0), some (.ref a1), some (.int x2), some (.ref a3), some (.ref a4), some (.int x5), some (.int x6), some (.int x7), some (.int x8), none, none, none, none] (x_goto H rfl (t := 183) (by decide)) rfl rfl))))))))))))))))
theorem nd_18_180 {c : Ct} {dd : Bool} {ρ : Kt} (H : St c dd mt_18 ρ) (h : AH) (a0 : Nat) (a1 : Nat) (x2 : Int32) (a3 : Nat) (a4 : Nat) (x5 : Int32) (x6 : Int32) (x7 : Int32) (x8 : Int32) (s0_ : Int32) (s1_ : Int32) (s2_ : Int32) (c3_ : Nat) : ρ 180 [some (.ref a0), some (.ref a1), some (.int x2), some (.ref a3), some (.ref a4), some (.int x5), some (.int x6), some (.int x7), some (.int x8), none, none, none, none] [.int s0_, .int s1_, .int s2_, .ref c3_] h = isO h c3_ 0 ((c 6 [.ref c3_, .int s2_, .int s1_, .int s0_] h).bind fun q1 => rV q1 fun h2 => ρ 183 [some (.ref a0), some (.ref a1), some (.int x2), some (.ref a3), some (.ref a4), some (.int x5), some (.int x6), some (.int x7), some (.int x8), none, none, none, none] [] h2) :=
 (x_callV (ci := 0) H rfl [.int s2_, .int s1_, .int s0_] rfl rfl rfl rfl).trans (isO_c (bi_c fun q1 => rV_c fun h2 =>
 U2 [some (.ref a0), some (.ref a1), some (.int x2), some (.ref a3), some (.ref a4), some (.int x5), some (.int x6), some (.int x7), some (.int x8), none, none, none, none] rfl rfl))
theorem nd_18_183 {c : Ct} {dd : Bool} {ρ : Kt} (H : St c dd mt_18 ρ) (h : AH) (a0 : Nat) (a1 : Nat) (x2 : Int32) (a3 : Nat) (a4 : Nat) (x5 : Int32) (x6 : Int32) (x7 : Int32) (x8 : Int32) : ρ 183 [some (.ref a0), some (.ref a1), some (.int x2), some (.ref a3), some (.ref a4), some (.int x5), some (.int x6), some (.int x7), some (.int x8), none, none, none, none] [] h = ρ 34 [some (.ref a0), some (.ref a1), some (.int x2), some (.ref a3), some (.ref a4), some (.int x5), some (.int x6), some (.int x7), some (.int (x8 + 1)), none, none, none, none] [] h :=
 T2 [some (.ref a0), some (.ref a1), some (.int x2), some (.ref a3), some (.ref a4), some (.int x5), some (.int x6), some (.int x7), some (.int (x8 + 1)), none, none, none, none] (x_iinc H rfl ki_1 rfl rfl) rfl
 (T2 [some (.ref a0), some (.ref a1), some (.int x2), some (.ref a3), some (.ref a4), some (.int x5), some (.int x6), some (.int x7), some (.int (x8 + 1)), none, none, none, none] (x_goto H rfl (t := 34) (by decide)) rfl rfl)
-- X1_numberOf (I)I: 19
theorem nd_19_0 {c : Ct} {dd : Bool} {ρ : Kt} (H : St c dd mt_19 ρ) (h : AH) (a0 : Nat) (x1 : Int32) : ρ 0 [some (.ref a0), some (.int x1), none] [] h = ρ 2 [some (.ref a0), some (.int x1), some (.int 0)] [] h :=
 T1 (x_iconst H rfl ki_0) rfl
 (T2 [some (.ref a0), some (.int x1), some (.int 0)] (x_istore_n H rfl rfl) rfl rfl)
theorem nd_19_2 {c : Ct} {dd : Bool} {ρ : Kt} (H : St c dd mt_19 ρ) (h : AH) (a0 : Nat) (x1 : Int32) (x2 : Int32) : ρ 2 [some (.ref a0), some (.int x1), some (.int x2)] [] h = gfI h a0 1 1 fun v1 => if v1 ≤ x2 then (gfI h a0 1 1 fun v2 => if v2 < 6 then (gfQ h a0 1 0 none fun b3 => gfI h a0 1 1 fun v4 => stI h b3 v4 x1 fun h5 => gfI h5 a0 1 1 fun v6 => pfV h5 a0 1 1 (.int (v6 + 1)) fun h7 => gfI h7 a0 1 1 fun v8 => some (some (.int (v8 - 1)), h7)) else (some (some (.int (-4)), h))) else (gfQ h a0 1 0 none fun b9 => ldI h b9 x2 fun v10 => if v10 = x1 then (some (some (.int x2), h)) else (ρ 2 [some (.ref a0), some (.int x1), some (.int (x2 + 1))] [] h)) :=
 T1 (x_iload_n H rfl rfl) rfl
 (T1 (x_aload_n H rfl rfl) rfl
 ((x_getI H rfl).trans (gfI_c fun v1 =>
 U1 rfl ((x_icmp_ge H rfl (t := 28) (by decide)).trans (if_c
 (U1 rfl (T1 (x_aload_n H rfl rfl) rfl
 ((x_getI H rfl).trans (gfI_c fun v2 =>
 U1 rfl (T1 (x_bipush H rfl kb_6) rfl
 ((x_icmp_lt H rfl (t := 40) (by decide)).trans (if_c
 (U1 rfl (T1 (x_aload_n H rfl rfl) rfl
 ((x_getR H rfl).trans (gfQ_c rfl fun b3 =>
 U1 rfl (T1 (x_aload_n H rfl rfl) rfl
 ((x_getI H rfl).trans (gfI_c fun v4 =>
 U1 rfl (T1 (x_iload_n H rfl rfl) rfl
 ((x_iastore H rfl).trans (stI_c fun h5 =>
 U1 rfl (T1 (x_aload_n H rfl rfl) rfl
 (T1 (x_dup H rfl) rfl
 ((x_getI H rfl).trans (gfI_c fun v6 =>
 U1 rfl (T1 (x_iconst H rfl ki_1) rfl
 (T1 (x_iadd H rfl) rfl
 ((x_putI H rfl).trans (pfV_c fun h7 =>
 U1 rfl (T1 (x_aload_n H rfl rfl) rfl
 ((x_getI H rfl).trans (gfI_c fun v8 =>
 U1 rfl (T1 (x_iconst H rfl ki_1) rfl
 (T1 (x_isub H rfl) rfl
 (x_ireturn H rfl rfl))))))))))))))))))))))))
 (U1 rfl (T1 (x_bipush H rfl kb_m4) rfl
 (x_ireturn H rfl rfl))))))))))
 (U1 rfl (T1 (x_aload_n H rfl rfl) rfl
 ((x_getR H rfl).trans (gfQ_c rfl fun b9 =>
 U1 rfl (T1 (x_iload_n H rfl rfl) rfl
 ((x_iaload H rfl).trans (ldI_c fun v10 =>
 U1 rfl (T1 (x_iload_n H rfl rfl) rfl
 ((x_icmp_ne H rfl (t := 22) (by decide)).trans (if_c
 (U1 rfl (T1 (x_iload_n H rfl rfl) rfl
 (x_ireturn H rfl rfl)))
 (U1 rfl (T2 [some (.ref a0), some (.int x1), some (.int (x2 + 1))] (x_iinc H rfl ki_1 rfl rfl) rfl
 (T2 [some (.ref a0), some (.int x1), some (.int (x2 + 1))] (x_goto H rfl (t := 2) (by decide)) rfl rfl))))))))))))))))))
-- X1_isGood (ZZI)Z: 20
theorem nd_20_0 {c : Ct} {dd : Bool} {ρ : Kt} (H : St c dd mt_20 ρ) (h : AH) (x0 : Int32) (x1 : Int32) (x2 : Int32) : ρ 0 [some (.int x0), some (.int x1), some (.int x2)] [] h = if x2 = 0 then (if x0 = 0 then (ρ 16 [none, none, none] [] h) else (if x1 = 0 then (ρ 16 [none, none, none] [] h) else (ρ 17 [none, none, none] [.int 1] h))) else (if x2 = 1 then (if x0 = 0 then (if x1 = 0 then (ρ 49 [none, none, none] [.int 0] h) else (ρ 31 [none, none, none] [] h)) else (ρ 31 [none, none, none] [] h)) else (if x0 = x1 then (ρ 49 [none, none, none] [.int 0] h) else (ρ 49 [none, none, none] [.int 1] h))) :=
 T1 (x_iload_n H rfl rfl) rfl
 ((x_if_ne H rfl (t := 18) (by decide)).trans (if_c
 (U1 rfl (T1 (x_iload_n H rfl rfl) rfl
 ((x_if_eq H rfl (t := 16) (by decide)).trans (if_c
 (U2 [none, none, none] rfl rfl)
 (U1 rfl (T1 (x_iload_n H rfl rfl) rfl
 ((x_if_eq H rfl (t := 16) (by decide)).trans (if_c
 (U2 [none, none, none] rfl rfl)
 (U1 rfl (T1 (x_iconst H rfl ki_1) rfl
 (T2 [none, none, none] (x_goto H rfl (t := 17) (by decide)) rfl rfl)))))))))))
 (U1 rfl (T1 (x_iload_n H rfl rfl) rfl
 (T1 (x_iconst H rfl ki_1) rfl
 ((x_icmp_ne H rfl (t := 39) (by decide)).trans (if_c
 (U1 rfl (T1 (x_iload_n H rfl rfl) rfl
 ((x_if_ne H rfl (t := 31) (by decide)).trans (if_c
 (U1 rfl (T1 (x_iload_n H rfl rfl) rfl
 ((x_if_eq H rfl (t := 35) (by decide)).trans (if_c
 (U1 rfl (T1 (x_iconst H rfl ki_0) rfl
 (T2 [none, none, none] (x_goto H rfl (t := 49) (by decide)) rfl rfl)))
 (U2 [none, none, none] rfl rfl)))))
 (U2 [none, none, none] rfl rfl)))))
 (U1 rfl (T1 (x_iload_n H rfl rfl) rfl
 (T1 (x_iload_n H rfl rfl) rfl
 ((x_icmp_eq H rfl (t := 48) (by decide)).trans (if_c
 (U1 rfl (T2 [none, none, none] (x_iconst H rfl ki_0) rfl rfl))
 (U1 rfl (T1 (x_iconst H rfl ki_1) rfl
 (T2 [none, none, none] (x_goto H rfl (t := 49) (by decide)) rfl rfl)))))))))))))))
theorem nd_20_16 {c : Ct} {dd : Bool} {ρ : Kt} (H : St c dd mt_20 ρ) (h : AH)  : ρ 16 [none, none, none] [] h = ρ 17 [none, none, none] [.int 0] h :=
 T2 [none, none, none] (x_iconst H rfl ki_0) rfl rfl
theorem nd_20_17 {c : Ct} {dd : Bool} {ρ : Kt} (H : St c dd mt_20 ρ) (h : AH) (s0_ : Int32) : ρ 17 [none, none, none] [.int s0_] h = isZ s0_ (some (some (.int s0_), h)) :=
 x_zreturn H rfl rfl
theorem nd_20_31 {c : Ct} {dd : Bool} {ρ : Kt} (H : St c dd mt_20 ρ) (h : AH)  : ρ 31 [none, none, none] [] h = ρ 49 [none, none, none] [.int 1] h :=
 T1 (x_iconst H rfl ki_1) rfl
 (T2 [none, none, none] (x_goto H rfl (t := 49) (by decide)) rfl rfl)
theorem nd_20_49 {c : Ct} {dd : Bool} {ρ : Kt} (H : St c dd mt_20 ρ) (h : AH) (s0_ : Int32) : ρ 49 [none, none, none] [.int s0_] h = isZ s0_ (some (some (.int s0_), h)) :=
 x_zreturn H rfl rfl
-- X2_init (I)V: 21
theorem nd_21_0 {c : Ct} {dd : Bool} {ρ : Kt} (H : St c dd mt_21 ρ) (hd : dd = true) (h : AH) (a0 : Nat) (x1 : Int32) (hsz : ¬ (((if x1 < 0 then 0 else x1)) < 0 ∨ 100000 < ((if x1 < 0 then 0 else x1)).toNatClampNeg)) : ρ 0 [some (.ref a0), some (.int x1), none] [] h = pfV h a0 2 2 (.int 0) fun h1 => pfV (hN h1 (aI 0 ((if x1 < 0 then 0 else x1)).toNatClampNeg fun _ => 0) ((if x1 < 0 then 0 else x1)).toNatClampNeg) a0 2 0 (.ref h1.2.1) fun h2 => pfV (hN h2 (aI 0 ((if x1 < 0 then 0 else x1)).toNatClampNeg fun _ => 0) ((if x1 < 0 then 0 else x1)).toNatClampNeg) a0 2 1 (.ref h2.2.1) fun h3 => some (none, h3) :=
 T1 (x_aload_n H rfl rfl) rfl
 (T1 (x_oinit H rfl (by rw [hd]; rfl)) rfl
 (T1 (x_aload_n H rfl rfl) rfl
 (T1 (x_iconst H rfl ki_0) rfl
 ((x_putI H rfl).trans (pfV_c fun h1 =>
 U1 rfl (T1 (x_iload_n H rfl rfl) rfl
 (T1 (x_iconst H rfl ki_0) rfl
 (T1 (x_max H rfl (by rw [hd]; rfl)) rfl
 (T2 [some (.ref a0), some (.int x1), some (.int (if x1 < 0 then 0 else x1))] (x_istore_n H rfl rfl) rfl
 (T1 (x_aload_n H rfl rfl) rfl
 (T1 (x_iload_n H rfl rfl) rfl
 (T1 (x_newi H rfl rfl hsz) rfl
 ((x_putR H rfl).trans (pfV_c fun h2 =>
 U1 rfl (T1 (x_aload_n H rfl rfl) rfl
 (T1 (x_iload_n H rfl rfl) rfl
 (T1 (x_newi H rfl rfl hsz) rfl
 ((x_putR H rfl).trans (pfV_c fun h3 =>
 U1 rfl (x_return H rfl rfl))))))))))))))))))))
-- X2_hasPlace (I)Z: 22
theorem nd_22_0 {c : Ct} {dd : Bool} {ρ : Kt} (H : St c dd mt_22 ρ) (h : AH) (a0 : Nat) (x1 : Int32) : ρ 0 [some (.ref a0), some (.int x1)] [] h = if x1 < 0 then (ρ 16 [none, none] [] h) else (gfI h a0 2 2 fun v1 => if v1 ≤ x1 then (ρ 16 [none, none] [] h) else (ρ 17 [none, none] [.int 1] h)) :=
 T1 (x_iload_n H rfl rfl) rfl
 ((x_if_lt H rfl (t := 16) (by decide)).trans (if_c
 (U2 [none, none] rfl rfl)
 (U1 rfl (T1 (x_iload_n H rfl rfl) rfl
 (T1 (x_aload_n H rfl rfl) rfl
 ((x_getI H rfl).trans (gfI_c fun v1 =>
 U1 rfl ((x_icmp_ge H rfl (t := 16) (by decide)).trans (if_c
 (U2 [none, none] rfl rfl)
 (U1 rfl (T1 (x_iconst H rfl ki_1) rfl
 (T2 [none, none] (x_goto H rfl (t := 17) (by decide)) rfl rfl))))))))))))
theorem nd_22_16 {c : Ct} {dd : Bool} {ρ : Kt} (H : St c dd mt_22 ρ) (h : AH)  : ρ 16 [none, none] [] h = ρ 17 [none, none] [.int 0] h :=
 T2 [none, none] (x_iconst H rfl ki_0) rfl rfl
theorem nd_22_17 {c : Ct} {dd : Bool} {ρ : Kt} (H : St c dd mt_22 ρ) (h : AH) (s0_ : Int32) : ρ 17 [none, none] [.int s0_] h = isZ s0_ (some (some (.int s0_), h)) :=
 x_zreturn H rfl rfl
-- X2_hasPrefix (I)Z: 23
theorem nd_23_0 {c : Ct} {dd : Bool} {ρ : Kt} (H : St c dd mt_23 ρ) (h : AH) (a0 : Nat) (x1 : Int32) : ρ 0 [some (.ref a0), some (.int x1)] [] h = if x1 < 0 then (ρ 16 [none, none] [] h) else (gfI h a0 2 2 fun v1 => if v1 < x1 then (ρ 16 [none, none] [] h) else (ρ 17 [none, none] [.int 1] h)) :=
 T1 (x_iload_n H rfl rfl) rfl
 ((x_if_lt H rfl (t := 16) (by decide)).trans (if_c
 (U2 [none, none] rfl rfl)
 (U1 rfl (T1 (x_iload_n H rfl rfl) rfl
 (T1 (x_aload_n H rfl rfl) rfl
 ((x_getI H rfl).trans (gfI_c fun v1 =>
 U1 rfl ((x_icmp_gt H rfl (t := 16) (by decide)).trans (if_c
 (U2 [none, none] rfl rfl)
 (U1 rfl (T1 (x_iconst H rfl ki_1) rfl
 (T2 [none, none] (x_goto H rfl (t := 17) (by decide)) rfl rfl))))))))))))
theorem nd_23_16 {c : Ct} {dd : Bool} {ρ : Kt} (H : St c dd mt_23 ρ) (h : AH)  : ρ 16 [none, none] [] h = ρ 17 [none, none] [.int 0] h :=
 T2 [none, none] (x_iconst H rfl ki_0) rfl rfl
theorem nd_23_17 {c : Ct} {dd : Bool} {ρ : Kt} (H : St c dd mt_23 ρ) (h : AH) (s0_ : Int32) : ρ 17 [none, none] [.int s0_] h = isZ s0_ (some (some (.int s0_), h)) :=
 x_zreturn H rfl rfl
-- X2_append (II)I: 24
theorem nd_24_0 {c : Ct} {dd : Bool} {ρ : Kt} (H : St c dd mt_24 ρ) (h : AH) (a0 : Nat) (x1 : Int32) (x2 : Int32) : ρ 0 [some (.ref a0), some (.int x1), some (.int x2)] [] h = if x1 < 0 then (ρ 9 [none, none, none] [] h) else (if x1 < 3 then (gfI h a0 2 2 fun v1 => gfQ h a0 2 0 none fun b2 => lnA h b2 fun v3 => if v1 < v3 then (gfQ h a0 2 0 none fun b4 => gfI h a0 2 2 fun v5 => stI h b4 v5 x1 fun h6 => gfQ h6 a0 2 1 none fun b7 => gfI h6 a0 2 2 fun v8 => stI h6 b7 v8 x2 fun h9 => gfI h9 a0 2 2 fun v10 => pfV h9 a0 2 2 (.int (v10 + 1)) fun h11 => gfI h11 a0 2 2 fun v12 => some (some (.int v12), h11)) else (some (some (.int (-3)), h))) else (ρ 9 [none, none, none] [] h)) :=
 T1 (x_iload_n H rfl rfl) rfl
 ((x_if_lt H rfl (t := 9) (by decide)).trans (if_c
 (U2 [none, none, none] rfl rfl)
 (U1 rfl (T1 (x_iload_n H rfl rfl) rfl
 (T1 (x_iconst H rfl ki_3) rfl
 ((x_icmp_lt H rfl (t := 11) (by decide)).trans (if_c
 (U1 rfl (T1 (x_aload_n H rfl rfl) rfl
 ((x_getI H rfl).trans (gfI_c fun v1 =>
 U1 rfl (T1 (x_aload_n H rfl rfl) rfl
 ((x_getR H rfl).trans (gfQ_c rfl fun b2 =>
 U1 rfl ((x_alen H rfl).trans (lnA_c fun v3 =>
 U1 rfl ((x_icmp_lt H rfl (t := 26) (by decide)).trans (if_c
 (U1 rfl (T1 (x_aload_n H rfl rfl) rfl
 ((x_getR H rfl).trans (gfQ_c rfl fun b4 =>
 U1 rfl (T1 (x_aload_n H rfl rfl) rfl
 ((x_getI H rfl).trans (gfI_c fun v5 =>
 U1 rfl (T1 (x_iload_n H rfl rfl) rfl
 ((x_iastore H rfl).trans (stI_c fun h6 =>
 U1 rfl (T1 (x_aload_n H rfl rfl) rfl
 ((x_getR H rfl).trans (gfQ_c rfl fun b7 =>
 U1 rfl (T1 (x_aload_n H rfl rfl) rfl
 ((x_getI H rfl).trans (gfI_c fun v8 =>
 U1 rfl (T1 (x_iload_n H rfl rfl) rfl
 ((x_iastore H rfl).trans (stI_c fun h9 =>
 U1 rfl (T1 (x_aload_n H rfl rfl) rfl
 (T1 (x_dup H rfl) rfl
 ((x_getI H rfl).trans (gfI_c fun v10 =>
 U1 rfl (T1 (x_iconst H rfl ki_1) rfl
 (T1 (x_iadd H rfl) rfl
 ((x_putI H rfl).trans (pfV_c fun h11 =>
 U1 rfl (T1 (x_aload_n H rfl rfl) rfl
 ((x_getI H rfl).trans (gfI_c fun v12 =>
 U1 rfl (x_ireturn H rfl rfl)))))))))))))))))))))))))))))))
 (U1 rfl (T1 (x_bipush H rfl kb_m3) rfl
 (x_ireturn H rfl rfl))))))))))))))
 (U2 [none, none, none] rfl rfl))))))))
theorem nd_24_9 {c : Ct} {dd : Bool} {ρ : Kt} (H : St c dd mt_24 ρ) (h : AH)  : ρ 9 [none, none, none] [] h = some (some (.int (-1)), h) :=
 T1 (x_iconst H rfl ki_m1) rfl
 (x_ireturn H rfl rfl)
-- X2_firstWithNameOf (I)I: 25
theorem nd_25_0 {c : Ct} {dd : Bool} {ρ : Kt} (H : St c dd mt_25 ρ) (h : AH) (a0 : Nat) (x1 : Int32) : ρ 0 [some (.ref a0), some (.int x1), none] [] h = ρ 2 [some (.ref a0), some (.int x1), some (.int 0)] [] h :=
 T1 (x_iconst H rfl ki_0) rfl
 (T2 [some (.ref a0), some (.int x1), some (.int 0)] (x_istore_n H rfl rfl) rfl rfl)
theorem nd_25_2 {c : Ct} {dd : Bool} {ρ : Kt} (H : St c dd mt_25 ρ) (h : AH) (a0 : Nat) (x1 : Int32) (x2 : Int32) : ρ 2 [some (.ref a0), some (.int x1), some (.int x2)] [] h = if x1 ≤ x2 then (some (some (.int x1), h)) else (gfQ h a0 2 1 none fun b1 => ldI h b1 x2 fun v2 => gfQ h a0 2 1 none fun b3 => ldI h b3 x1 fun v4 => if v2 = v4 then (some (some (.int x2), h)) else (ρ 2 [some (.ref a0), some (.int x1), some (.int (x2 + 1))] [] h)) :=
 T1 (x_iload_n H rfl rfl) rfl
 (T1 (x_iload_n H rfl rfl) rfl
 ((x_icmp_ge H rfl (t := 30) (by decide)).trans (if_c
 (U1 rfl (T1 (x_iload_n H rfl rfl) rfl
 (x_ireturn H rfl rfl)))
 (U1 rfl (T1 (x_aload_n H rfl rfl) rfl
 ((x_getR H rfl).trans (gfQ_c rfl fun b1 =>
 U1 rfl (T1 (x_iload_n H rfl rfl) rfl
 ((x_iaload H rfl).trans (ldI_c fun v2 =>
 U1 rfl (T1 (x_aload_n H rfl rfl) rfl
 ((x_getR H rfl).trans (gfQ_c rfl fun b3 =>
 U1 rfl (T1 (x_iload_n H rfl rfl) rfl
 ((x_iaload H rfl).trans (ldI_c fun v4 =>
 U1 rfl ((x_icmp_ne H rfl (t := 24) (by decide)).trans (if_c
 (U1 rfl (T1 (x_iload_n H rfl rfl) rfl
 (x_ireturn H rfl rfl)))
 (U1 rfl (T2 [some (.ref a0), some (.int x1), some (.int (x2 + 1))] (x_iinc H rfl ki_1 rfl rfl) rfl
 (T2 [some (.ref a0), some (.int x1), some (.int (x2 + 1))] (x_goto H rfl (t := 2) (by decide)) rfl rfl)))))))))))))))))))))
-- X2_becomeAs (LNameRows$Row;)V: 26
theorem nd_26_0 {c : Ct} {dd : Bool} {ρ : Kt} (H : St c dd mt_26 ρ) (hd : dd = true) (h : AH) (a0 : Nat) (a1 : Nat) : ρ 0 [some (.ref a0), some (.ref a1)] [] h = gfI h a1 2 2 fun v1 => gfQ h a0 2 0 none fun b2 => lnA h b2 fun v3 => pfV h a0 2 2 (.int (if v3 < v1 then v3 else v1)) fun h4 => gfQ h4 a1 2 0 none fun b5 => gfQ h4 a0 2 0 none fun b6 => gfI h4 a0 2 2 fun v7 => cpA h4 b5 0 b6 0 v7 fun h8 => gfQ h8 a1 2 1 none fun b9 => gfQ h8 a0 2 1 none fun b10 => gfI h8 a0 2 2 fun v11 => cpA h8 b9 0 b10 0 v11 fun h12 => some (none, h12) :=
 T1 (x_aload_n H rfl rfl) rfl
 (T1 (x_aload_n H rfl rfl) rfl
 ((x_getI H rfl).trans (gfI_c fun v1 =>
 U1 rfl (T1 (x_aload_n H rfl rfl) rfl
 ((x_getR H rfl).trans (gfQ_c rfl fun b2 =>
 U1 rfl ((x_alen H rfl).trans (lnA_c fun v3 =>
 U1 rfl (T1 (x_min H rfl (by rw [hd]; rfl)) rfl
 ((x_putI H rfl).trans (pfV_c fun h4 =>
 U1 rfl (T1 (x_aload_n H rfl rfl) rfl
 ((x_getR H rfl).trans (gfQ_c rfl fun b5 =>
 U1 rfl (T1 (x_iconst H rfl ki_0) rfl
 (T1 (x_aload_n H rfl rfl) rfl
 ((x_getR H rfl).trans (gfQ_c rfl fun b6 =>
 U1 rfl (T1 (x_iconst H rfl ki_0) rfl
 (T1 (x_aload_n H rfl rfl) rfl
 ((x_getI H rfl).trans (gfI_c fun v7 =>
 U1 rfl ((x_acopy H rfl (by rw [hd]; rfl)).trans (cpA_c fun h8 =>
 U1 rfl (T1 (x_aload_n H rfl rfl) rfl
 ((x_getR H rfl).trans (gfQ_c rfl fun b9 =>
 U1 rfl (T1 (x_iconst H rfl ki_0) rfl
 (T1 (x_aload_n H rfl rfl) rfl
 ((x_getR H rfl).trans (gfQ_c rfl fun b10 =>
 U1 rfl (T1 (x_iconst H rfl ki_0) rfl
 (T1 (x_aload_n H rfl rfl) rfl
 ((x_getI H rfl).trans (gfI_c fun v11 =>
 U1 rfl ((x_acopy H rfl (by rw [hd]; rfl)).trans (cpA_c fun h12 =>
 U1 rfl (x_return H rfl rfl))))))))))))))))))))))))))))))))))))))
-- X3_init ()V: 27
theorem nd_27_0 {c : Ct} {dd : Bool} {ρ : Kt} (H : St c dd mt_27 ρ) (hd : dd = true) (h : AH) (a0 : Nat) : ρ 0 [some (.ref a0)] [] h = pfV h a0 3 0 (.int 0) fun h1 => pfV (hN h1 (aI 0 2 fun _ => 0) 2) a0 3 1 (.ref h1.2.1) fun h2 => pfV (hN h2 (aI 0 2 fun _ => 0) 2) a0 3 2 (.ref h2.2.1) fun h3 => pfV h3 a0 3 3 (.int (-4)) fun h4 => pfV h4 a0 3 4 (.int 0) fun h5 => some (none, h5) :=
 T1 (x_aload_n H rfl rfl) rfl
 (T1 (x_oinit H rfl (by rw [hd]; rfl)) rfl
 (T1 (x_aload_n H rfl rfl) rfl
 (T1 (x_iconst H rfl ki_0) rfl
 ((x_putI H rfl).trans (pfV_c fun h1 =>
 U1 rfl (T1 (x_aload_n H rfl rfl) rfl
 (T1 (x_iconst H rfl ki_2) rfl
 (T1 (x_newi H rfl (by decide) (by decide)) rfl
 ((x_putR H rfl).trans (pfV_c fun h2 =>
 U1 rfl (T1 (x_aload_n H rfl rfl) rfl
 (T1 (x_iconst H rfl ki_2) rfl
 (T1 (x_newi H rfl (by decide) (by decide)) rfl
 ((x_putR H rfl).trans (pfV_c fun h3 =>
 U1 rfl (T1 (x_aload_n H rfl rfl) rfl
 (T1 (x_bipush H rfl kb_m4) rfl
 ((x_putI H rfl).trans (pfV_c fun h4 =>
 U1 rfl (T1 (x_aload_n H rfl rfl) rfl
 (T1 (x_iconst H rfl ki_0) rfl
 ((x_putI H rfl).trans (pfV_c fun h5 =>
 U1 rfl (x_return H rfl rfl))))))))))))))))))))))))
-- X3_begin ()V: 28
theorem nd_28_0 {c : Ct} {dd : Bool} {ρ : Kt} (H : St c dd mt_28 ρ) (h : AH) (a0 : Nat) : ρ 0 [some (.ref a0), none] [] h = pfV h a0 3 0 (.int 0) fun h1 => pfV h1 a0 3 3 (.int (-4)) fun h2 => pfV h2 a0 3 4 (.int 0) fun h3 => ρ 18 [some (.ref a0), some (.int 0)] [] h3 :=
 T1 (x_aload_n H rfl rfl) rfl
 (T1 (x_iconst H rfl ki_0) rfl
 ((x_putI H rfl).trans (pfV_c fun h1 =>
 U1 rfl (T1 (x_aload_n H rfl rfl) rfl
 (T1 (x_bipush H rfl kb_m4) rfl
 ((x_putI H rfl).trans (pfV_c fun h2 =>
 U1 rfl (T1 (x_aload_n H rfl rfl) rfl
 (T1 (x_iconst H rfl ki_0) rfl
 ((x_putI H rfl).trans (pfV_c fun h3 =>
 U1 rfl (T1 (x_iconst H rfl ki_0) rfl
 (T2 [some (.ref a0), some (.int 0)] (x_istore_n H rfl rfl) rfl rfl)))))))))))))
theorem nd_28_18 {c : Ct} {dd : Bool} {ρ : Kt} (H : St c dd mt_28 ρ) (h : AH) (a0 : Nat) (x1 : Int32) : ρ 18 [some (.ref a0), some (.int x1)] [] h = if 2 ≤ x1 then (some (none, h)) else (gfQ h a0 3 1 none fun b1 => stI h b1 x1 0 fun h2 => gfQ h2 a0 3 2 none fun b3 => stI h2 b3 x1 (-4) fun h4 => ρ 18 [some (.ref a0), some (.int (x1 + 1))] [] h4) :=
 T1 (x_iload_n H rfl rfl) rfl
 (T1 (x_iconst H rfl ki_2) rfl
 ((x_icmp_ge H rfl (t := 44) (by decide)).trans (if_c
 (U1 rfl (x_return H rfl rfl))
 (U1 rfl (T1 (x_aload_n H rfl rfl) rfl
 ((x_getR H rfl).trans (gfQ_c rfl fun b1 =>
 U1 rfl (T1 (x_iload_n H rfl rfl) rfl
 (T1 (x_iconst H rfl ki_0) rfl
 ((x_iastore H rfl).trans (stI_c fun h2 =>
 U1 rfl (T1 (x_aload_n H rfl rfl) rfl
 ((x_getR H rfl).trans (gfQ_c rfl fun b3 =>
 U1 rfl (T1 (x_iload_n H rfl rfl) rfl
 (T1 (x_bipush H rfl kb_m4) rfl
 ((x_iastore H rfl).trans (stI_c fun h4 =>
 U1 rfl (T2 [some (.ref a0), some (.int (x1 + 1))] (x_iinc H rfl ki_1 rfl rfl) rfl
 (T2 [some (.ref a0), some (.int (x1 + 1))] (x_goto H rfl (t := 18) (by decide)) rfl rfl))))))))))))))))))))
-- X3_go (LNameRows$Machine;II)V: 29
theorem nd_29_0 {c : Ct} {dd : Bool} {ρ : Kt} (H : St c dd mt_29 ρ) (h : AH) (a0 : Nat) (a1 : Nat) (x2 : Int32) (x3 : Int32) : ρ 0 [some (.ref a0), some (.ref a1), some (.int x2), some (.int x3), none] [] h = isO h a0 3 ((c 31 [.ref a0, .int x3] h).bind fun q1 => rI q1 fun v3 h2 => pfV h2 a0 3 3 (.int v3) fun h4 => gfI h4 a0 3 0 fun v5 => gfI h4 a0 3 3 fun v6 => isO h4 a1 0 ((c 4 [.ref a1, .int v5, .int x2, .int v6] h4).bind fun q7 => rI q7 fun v9 h8 => if v9 < 0 then (ρ 52 [some (.ref a0), none, none, none, none] [] h8) else (gfQ h8 a1 0 1 none fun b10 => ldI h8 b10 v9 fun v11 => isO h8 a0 3 ((c 30 [.ref a0, .int v11, .int x3] h8).bind fun q12 => rV q12 fun h13 => gfQ h13 a1 0 0 none fun b14 => ldI h13 b14 v9 fun v15 => pfV h13 a0 3 0 (.int v15) fun h16 => ρ 52 [some (.ref a0), none, none, none, none] [] h16)))) :=
 T1 (x_aload_n H rfl rfl) rfl
 (T1 (x_aload_n H rfl rfl) rfl
 (T1 (x_iload_n H rfl rfl) rfl
 ((x_callI (ci := 3) H rfl [.int x3] rfl rfl rfl rfl).trans (isO_c (bi_c fun q1 => rI_c fun v3 h2 =>
 U1 rfl ((x_putI H rfl).trans (pfV_c fun h4 =>
 U1 rfl (T1 (x_aload_n H rfl rfl) rfl
 (T1 (x_aload_n H rfl rfl) rfl
 ((x_getI H rfl).trans (gfI_c fun v5 =>
 U1 rfl (T1 (x_iload_n H rfl rfl) rfl
 (T1 (x_aload_n H rfl rfl) rfl
 ((x_getI H rfl).trans (gfI_c fun v6 =>
 U1 rfl ((x_callI (ci := 0) H rfl [.int v5, .int x2, .int v6] rfl rfl rfl rfl).trans (isO_c (bi_c fun q7 => rI_c fun v9 h8 =>
 U1 rfl (T2 [some (.ref a0), some (.ref a1), some (.int x2), some (.int x3), some (.int v9)] (x_istore H rfl rfl) rfl
 (T1 (x_iload H rfl rfl) rfl
 ((x_if_lt H rfl (t := 52) (by decide)).trans (if_c
 (U2 [some (.ref a0), none, none, none, none] rfl rfl)
 (U1 rfl (T1 (x_aload_n H rfl rfl) rfl
 (T1 (x_aload_n H rfl rfl) rfl
 ((x_getR H rfl).trans (gfQ_c rfl fun b10 =>
 U1 rfl (T1 (x_iload H rfl rfl) rfl
 ((x_iaload H rfl).trans (ldI_c fun v11 =>
 U1 rfl (T1 (x_iload_n H rfl rfl) rfl
 ((x_callV (ci := 3) H rfl [.int v11, .int x3] rfl rfl rfl rfl).trans (isO_c (bi_c fun q12 => rV_c fun h13 =>
 U1 rfl (T1 (x_aload_n H rfl rfl) rfl
 (T1 (x_aload_n H rfl rfl) rfl
 ((x_getR H rfl).trans (gfQ_c rfl fun b14 =>
 U1 rfl (T1 (x_iload H rfl rfl) rfl
 ((x_iaload H rfl).trans (ldI_c fun v15 =>
 U1 rfl ((x_putI H rfl).trans (pfV_c fun h16 =>
 U2 [some (.ref a0), none, none, none, none] rfl rfl)))))))))))))))))))))))))))))))))))))))))))
theorem nd_29_52 {c : Ct} {dd : Bool} {ρ : Kt} (H : St c dd mt_29 ρ) (h : AH) (a0 : Nat) : ρ 52 [some (.ref a0), none, none, none, none] [] h = gfI h a0 3 4 fun v1 => pfV h a0 3 4 (.int (v1 + 1)) fun h2 => some (none, h2) :=
 T1 (x_aload_n H rfl rfl) rfl
 (T1 (x_dup H rfl) rfl
 ((x_getI H rfl).trans (gfI_c fun v1 =>
 U1 rfl (T1 (x_iconst H rfl ki_1) rfl
 (T1 (x_iadd H rfl) rfl
 ((x_putI H rfl).trans (pfV_c fun h2 =>
 U1 rfl (x_return H rfl rfl))))))))
-- X3_keepIn (II)V: 30
theorem nd_30_0 {c : Ct} {dd : Bool} {ρ : Kt} (H : St c dd mt_30 ρ) (h : AH) (a0 : Nat) (x1 : Int32) (x2 : Int32) : ρ 0 [some (.ref a0), some (.int x1), some (.int x2)] [] h = if x1 < 0 then (ρ 26 [none, none, none] [] h) else (if 2 ≤ x1 then (ρ 26 [none, none, none] [] h) else (gfQ h a0 3 1 none fun b1 => stI h b1 x1 x2 fun h2 => gfQ h2 a0 3 2 none fun b3 => gfI h2 a0 3 4 fun v4 => stI h2 b3 x1 v4 fun h5 => ρ 26 [none, none, none] [] h5)) :=
 T1 (x_iload_n H rfl rfl) rfl
 ((x_if_lt H rfl (t := 26) (by decide)).trans (if_c
 (U2 [none, none, none] rfl rfl)
 (U1 rfl (T1 (x_iload_n H rfl rfl) rfl
 (T1 (x_iconst H rfl ki_2) rfl
 ((x_icmp_ge H rfl (t := 26) (by decide)).trans (if_c
 (U2 [none, none, none] rfl rfl)
 (U1 rfl (T1 (x_aload_n H rfl rfl) rfl
 ((x_getR H rfl).trans (gfQ_c rfl fun b1 =>
 U1 rfl (T1 (x_iload_n H rfl rfl) rfl
 (T1 (x_iload_n H rfl rfl) rfl
 ((x_iastore H rfl).trans (stI_c fun h2 =>
 U1 rfl (T1 (x_aload_n H rfl rfl) rfl
 ((x_getR H rfl).trans (gfQ_c rfl fun b3 =>
 U1 rfl (T1 (x_iload_n H rfl rfl) rfl
 (T1 (x_aload_n H rfl rfl) rfl
 ((x_getI H rfl).trans (gfI_c fun v4 =>
 U1 rfl ((x_iastore H rfl).trans (stI_c fun h5 =>
 U2 [none, none, none] rfl rfl))))))))))))))))))))))))
theorem nd_30_26 {c : Ct} {dd : Bool} {ρ : Kt} (H : St c dd mt_30 ρ) (h : AH)  : ρ 26 [none, none, none] [] h = some (none, h) :=
 x_return H rfl rfl
-- X3_caseOf (I)I: 31
theorem nd_31_0 {c : Ct} {dd : Bool} {ρ : Kt} (H : St c dd mt_31 ρ) (h : AH) (a0 : Nat) (x1 : Int32) : ρ 0 [some (.ref a0), some (.int x1), none] [] h = ρ 2 [some (.ref a0), some (.int x1), some (.int 0)] [] h :=
 T1 (x_iconst H rfl ki_0) rfl
 (T2 [some (.ref a0), some (.int x1), some (.int 0)] (x_istore_n H rfl rfl) rfl rfl)
theorem nd_31_2 {c : Ct} {dd : Bool} {ρ : Kt} (H : St c dd mt_31 ρ) (h : AH) (a0 : Nat) (x1 : Int32) (x2 : Int32) : ρ 2 [some (.ref a0), some (.int x1), some (.int x2)] [] h = if 2 ≤ x2 then (some (some (.int 2), h)) else (gfQ h a0 3 2 none fun b1 => ldI h b1 x2 fun v2 => if v2 = (-4) then (ρ 30 [some (.ref a0), some (.int x1), some (.int x2)] [] h) else (gfQ h a0 3 1 none fun b3 => ldI h b3 x2 fun v4 => if v4 = x1 then (some (some (.int x2), h)) else (ρ 30 [some (.ref a0), some (.int x1), some (.int x2)] [] h))) :=
 T1 (x_iload_n H rfl rfl) rfl
 (T1 (x_iconst H rfl ki_2) rfl
 ((x_icmp_ge H rfl (t := 36) (by decide)).trans (if_c
 (U1 rfl (T1 (x_iconst H rfl ki_2) rfl
 (x_ireturn H rfl rfl)))
 (U1 rfl (T1 (x_aload_n H rfl rfl) rfl
 ((x_getR H rfl).trans (gfQ_c rfl fun b1 =>
 U1 rfl (T1 (x_iload_n H rfl rfl) rfl
 ((x_iaload H rfl).trans (ldI_c fun v2 =>
 U1 rfl (T1 (x_bipush H rfl kb_m4) rfl
 ((x_icmp_eq H rfl (t := 30) (by decide)).trans (if_c
 (U2 [some (.ref a0), some (.int x1), some (.int x2)] rfl rfl)
 (U1 rfl (T1 (x_aload_n H rfl rfl) rfl
 ((x_getR H rfl).trans (gfQ_c rfl fun b3 =>
 U1 rfl (T1 (x_iload_n H rfl rfl) rfl
 ((x_iaload H rfl).trans (ldI_c fun v4 =>
 U1 rfl (T1 (x_iload_n H rfl rfl) rfl
 ((x_icmp_ne H rfl (t := 30) (by decide)).trans (if_c
 (U1 rfl (T1 (x_iload_n H rfl rfl) rfl
 (x_ireturn H rfl rfl)))
 (U2 [some (.ref a0), some (.int x1), some (.int x2)] rfl rfl))))))))))))))))))))))))
theorem nd_31_30 {c : Ct} {dd : Bool} {ρ : Kt} (H : St c dd mt_31 ρ) (h : AH) (a0 : Nat) (x1 : Int32) (x2 : Int32) : ρ 30 [some (.ref a0), some (.int x1), some (.int x2)] [] h = ρ 2 [some (.ref a0), some (.int x1), some (.int (x2 + 1))] [] h :=
 T2 [some (.ref a0), some (.int x1), some (.int (x2 + 1))] (x_iinc H rfl ki_1 rfl rfl) rfl
 (T2 [some (.ref a0), some (.int x1), some (.int (x2 + 1))] (x_goto H rfl (t := 2) (by decide)) rfl rfl)
-- X3_isDoomed (LNameRows$Machine;)Z: 32
theorem nd_32_0 {c : Ct} {dd : Bool} {ρ : Kt} (H : St c dd mt_32 ρ) (h : AH) (a0 : Nat) (a1 : Nat) : ρ 0 [some (.ref a0), some (.ref a1)] [] h = gfI h a0 3 0 fun v1 => isO h a0 3 ((c 33 [.ref a0] h).bind fun q2 => rI q2 fun v4 h3 => isO h3 a1 0 ((c 12 [.ref a1, .int v1, .int v4] h3).bind fun q5 => rI q5 fun v7 h6 => if v7 = 2 then (ρ 21 [none, none] [.int 1] h6) else (ρ 21 [none, none] [.int 0] h6))) :=
 T1 (x_aload_n H rfl rfl) rfl
 (T1 (x_aload_n H rfl rfl) rfl
 ((x_getI H rfl).trans (gfI_c fun v1 =>
 U1 rfl (T1 (x_aload_n H rfl rfl) rfl
 ((x_callI (ci := 3) H rfl [] rfl rfl rfl rfl).trans (isO_c (bi_c fun q2 => rI_c fun v4 h3 =>
 U1 rfl ((x_callI (ci := 0) H rfl [.int v1, .int v4] rfl rfl rfl rfl).trans (isO_c (bi_c fun q5 => rI_c fun v7 h6 =>
 U1 rfl (T1 (x_iconst H rfl ki_2) rfl
 ((x_icmp_ne H rfl (t := 20) (by decide)).trans (if_c
 (U1 rfl (T1 (x_iconst H rfl ki_1) rfl
 (T2 [none, none] (x_goto H rfl (t := 21) (by decide)) rfl rfl)))
 (U1 rfl (T2 [none, none] (x_iconst H rfl ki_0) rfl rfl)))))))))))))))
theorem nd_32_21 {c : Ct} {dd : Bool} {ρ : Kt} (H : St c dd mt_32 ρ) (h : AH) (s0_ : Int32) : ρ 21 [none, none] [.int s0_] h = isZ s0_ (some (some (.int s0_), h)) :=
 x_zreturn H rfl rfl
-- X3_pattern ()I: 33
theorem nd_33_0 {c : Ct} {dd : Bool} {ρ : Kt} (H : St c dd mt_33 ρ) (h : AH) (a0 : Nat) : ρ 0 [some (.ref a0), none, none] [] h = gfQ h a0 3 2 none fun b1 => ldI h b1 0 fun v2 => if v2 = (-4) then (ρ 16 [some (.ref a0), none, none] [.int 0] h) else (ρ 16 [some (.ref a0), none, none] [.int 1] h) :=
 T1 (x_aload_n H rfl rfl) rfl
 ((x_getR H rfl).trans (gfQ_c rfl fun b1 =>
 U1 rfl (T1 (x_iconst H rfl ki_0) rfl
 ((x_iaload H rfl).trans (ldI_c fun v2 =>
 U1 rfl (T1 (x_bipush H rfl kb_m4) rfl
 ((x_icmp_ne H rfl (t := 15) (by decide)).trans (if_c
 (U1 rfl (T1 (x_iconst H rfl ki_0) rfl
 (T2 [some (.ref a0), none, none] (x_goto H rfl (t := 16) (by decide)) rfl rfl)))
 (U1 rfl (T2 [some (.ref a0), none, none] (x_iconst H rfl ki_1) rfl rfl))))))))))
theorem nd_33_16 {c : Ct} {dd : Bool} {ρ : Kt} (H : St c dd mt_33 ρ) (h : AH) (a0 : Nat) (s0_ : Int32) : ρ 16 [some (.ref a0), none, none] [.int s0_] h = gfQ h a0 3 2 none fun b1 => ldI h b1 1 fun v2 => if v2 = (-4) then ((c 40 [.int s0_, .int 0] h).bind fun q7 => rI q7 fun v9 h8 => some (some (.int v9), h8)) else (if s0_ = 1 then (gfQ h a0 3 1 none fun b3 => ldI h b3 0 fun v4 => gfQ h a0 3 1 none fun b5 => ldI h b5 1 fun v6 => if v4 = v6 then (ρ 59 [none, some (.int s0_), none] [.int 1] h) else (ρ 58 [none, some (.int s0_), none] [] h)) else (ρ 58 [none, some (.int s0_), none] [] h)) :=
 T2 [some (.ref a0), some (.int s0_), none] (x_istore_n H rfl rfl) rfl
 (T1 (x_aload_n H rfl rfl) rfl
 ((x_getR H rfl).trans (gfQ_c rfl fun b1 =>
 U1 rfl (T1 (x_iconst H rfl ki_1) rfl
 ((x_iaload H rfl).trans (ldI_c fun v2 =>
 U1 rfl (T1 (x_bipush H rfl kb_m4) rfl
 ((x_icmp_ne H rfl (t := 34) (by decide)).trans (if_c
 (U1 rfl (T1 (x_iload_n H rfl rfl) rfl
 (T1 (x_iconst H rfl ki_0) rfl
 ((x_statI H rfl [.int s0_, .int 0] rfl rfl rfl rfl rfl).trans (bi_c fun q7 => rI_c fun v9 h8 =>
 U1 rfl (x_ireturn H rfl rfl))))))
 (U1 rfl (T1 (x_iload_n H rfl rfl) rfl
 (T1 (x_iconst H rfl ki_1) rfl
 ((x_icmp_ne H rfl (t := 58) (by decide)).trans (if_c
 (U1 rfl (T1 (x_aload_n H rfl rfl) rfl
 ((x_getR H rfl).trans (gfQ_c rfl fun b3 =>
 U1 rfl (T1 (x_iconst H rfl ki_0) rfl
 ((x_iaload H rfl).trans (ldI_c fun v4 =>
 U1 rfl (T1 (x_aload_n H rfl rfl) rfl
 ((x_getR H rfl).trans (gfQ_c rfl fun b5 =>
 U1 rfl (T1 (x_iconst H rfl ki_1) rfl
 ((x_iaload H rfl).trans (ldI_c fun v6 =>
 U1 rfl ((x_icmp_ne H rfl (t := 58) (by decide)).trans (if_c
 (U1 rfl (T1 (x_iconst H rfl ki_1) rfl
 (T2 [none, some (.int s0_), none] (x_goto H rfl (t := 59) (by decide)) rfl rfl)))
 (U2 [none, some (.int s0_), none] rfl rfl))))))))))))))))
 (U2 [none, some (.int s0_), none] rfl rfl)))))))))))))))
theorem nd_33_58 {c : Ct} {dd : Bool} {ρ : Kt} (H : St c dd mt_33 ρ) (h : AH) (x1 : Int32) : ρ 58 [none, some (.int x1), none] [] h = ρ 59 [none, some (.int x1), none] [.int 0] h :=
 T2 [none, some (.int x1), none] (x_iconst H rfl ki_0) rfl rfl
theorem nd_33_59 {c : Ct} {dd : Bool} {ρ : Kt} (H : St c dd mt_33 ρ) (h : AH) (x1 : Int32) (s0_ : Int32) : ρ 59 [none, some (.int x1), none] [.int s0_] h = if s0_ = 0 then (ρ 72 [none, none, none] [.int (x1 + 1), .int x1] h) else (ρ 72 [none, none, none] [.int 1, .int x1] h) :=
 T2 [none, some (.int x1), some (.int s0_)] (x_istore_n H rfl rfl) rfl
 (T1 (x_iload_n H rfl rfl) rfl
 (T1 (x_iload_n H rfl rfl) rfl
 ((x_if_eq H rfl (t := 69) (by decide)).trans (if_c
 (U1 rfl (T1 (x_iload_n H rfl rfl) rfl
 (T1 (x_iconst H rfl ki_1) rfl
 (T2 [none, none, none] (x_iadd H rfl) rfl rfl))))
 (U1 rfl (T1 (x_iconst H rfl ki_1) rfl
 (T2 [none, none, none] (x_goto H rfl (t := 72) (by decide)) rfl rfl)))))))
theorem nd_33_72 {c : Ct} {dd : Bool} {ρ : Kt} (H : St c dd mt_33 ρ) (h : AH) (s0_ : Int32) (s1_ : Int32) : ρ 72 [none, none, none] [.int s0_, .int s1_] h = (c 40 [.int s1_, .int s0_] h).bind fun q1 => rI q1 fun v3 h2 => some (some (.int v3), h2) :=
 (x_statI H rfl [.int s1_, .int s0_] rfl rfl rfl rfl rfl).trans (bi_c fun q1 => rI_c fun v3 h2 =>
 U1 rfl (x_ireturn H rfl rfl))
-- X4_init ()V: 34
theorem nd_34_0 {c : Ct} {dd : Bool} {ρ : Kt} (H : St c dd mt_34 ρ) (hd : dd = true) (h : AH) (a0 : Nat) : ρ 0 [some (.ref a0)] [] h = pfV (hN h (aI 0 60 fun _ => 0) 60) a0 4 0 (.ref h.2.1) fun h1 => pfV h1 a0 4 1 (.int (-4)) fun h2 => pfV h2 a0 4 2 (.int 0) fun h3 => some (none, h3) :=
 T1 (x_aload_n H rfl rfl) rfl
 (T1 (x_oinit H rfl (by rw [hd]; rfl)) rfl
 (T1 (x_aload_n H rfl rfl) rfl
 (T1 (x_bipush H rfl kb_60) rfl
 (T1 (x_newi H rfl (by decide) (by decide)) rfl
 ((x_putR H rfl).trans (pfV_c fun h1 =>
 U1 rfl (T1 (x_aload_n H rfl rfl) rfl
 (T1 (x_bipush H rfl kb_m4) rfl
 ((x_putI H rfl).trans (pfV_c fun h2 =>
 U1 rfl (T1 (x_aload_n H rfl rfl) rfl
 (T1 (x_iconst H rfl ki_0) rfl
 ((x_putI H rfl).trans (pfV_c fun h3 =>
 U1 rfl (x_return H rfl rfl)))))))))))))))
-- X4_begin (II)V: 35
theorem nd_35_0 {c : Ct} {dd : Bool} {ρ : Kt} (H : St c dd mt_35 ρ) (h : AH) (a0 : Nat) (x1 : Int32) (x2 : Int32) : ρ 0 [some (.ref a0), some (.int x1), some (.int x2), none] [] h = pfV h a0 4 1 (.int x1) fun h1 => pfV h1 a0 4 2 (.int x2) fun h2 => ρ 12 [some (.ref a0), none, none, some (.int 0)] [] h2 :=
 T1 (x_aload_n H rfl rfl) rfl
 (T1 (x_iload_n H rfl rfl) rfl
 ((x_putI H rfl).trans (pfV_c fun h1 =>
 U1 rfl (T1 (x_aload_n H rfl rfl) rfl
 (T1 (x_iload_n H rfl rfl) rfl
 ((x_putI H rfl).trans (pfV_c fun h2 =>
 U1 rfl (T1 (x_iconst H rfl ki_0) rfl
 (T2 [some (.ref a0), none, none, some (.int 0)] (x_istore_n H rfl rfl) rfl rfl)))))))))
theorem nd_35_12 {c : Ct} {dd : Bool} {ρ : Kt} (H : St c dd mt_35 ρ) (h : AH) (a0 : Nat) (x3 : Int32) : ρ 12 [some (.ref a0), none, none, some (.int x3)] [] h = gfQ h a0 4 0 none fun b1 => lnA h b1 fun v2 => if v2 ≤ x3 then (some (none, h)) else (gfQ h a0 4 0 none fun b3 => stI h b3 x3 0 fun h4 => ρ 12 [some (.ref a0), none, none, some (.int (x3 + 1))] [] h4) :=
 T1 (x_iload_n H rfl rfl) rfl
 (T1 (x_aload_n H rfl rfl) rfl
 ((x_getR H rfl).trans (gfQ_c rfl fun b1 =>
 U1 rfl ((x_alen H rfl).trans (lnA_c fun v2 =>
 U1 rfl ((x_icmp_ge H rfl (t := 34) (by decide)).trans (if_c
 (U1 rfl (x_return H rfl rfl))
 (U1 rfl (T1 (x_aload_n H rfl rfl) rfl
 ((x_getR H rfl).trans (gfQ_c rfl fun b3 =>
 U1 rfl (T1 (x_iload_n H rfl rfl) rfl
 (T1 (x_iconst H rfl ki_0) rfl
 ((x_iastore H rfl).trans (stI_c fun h4 =>
 U1 rfl (T2 [some (.ref a0), none, none, some (.int (x3 + 1))] (x_iinc H rfl ki_1 rfl rfl) rfl
 (T2 [some (.ref a0), none, none, some (.int (x3 + 1))] (x_goto H rfl (t := 12) (by decide)) rfl rfl)))))))))))))))))
-- X4_isNothing ()Z: 36
theorem nd_36_0 {c : Ct} {dd : Bool} {ρ : Kt} (H : St c dd mt_36 ρ) (h : AH) (a0 : Nat) : ρ 0 [some (.ref a0)] [] h = gfI h a0 4 1 fun v1 => if v1 = (-4) then (ρ 14 [none] [.int 1] h) else (ρ 14 [none] [.int 0] h) :=
 T1 (x_aload_n H rfl rfl) rfl
 ((x_getI H rfl).trans (gfI_c fun v1 =>
 U1 rfl (T1 (x_bipush H rfl kb_m4) rfl
 ((x_icmp_ne H rfl (t := 13) (by decide)).trans (if_c
 (U1 rfl (T1 (x_iconst H rfl ki_1) rfl
 (T2 [none] (x_goto H rfl (t := 14) (by decide)) rfl rfl)))
 (U1 rfl (T2 [none] (x_iconst H rfl ki_0) rfl rfl)))))))
theorem nd_36_14 {c : Ct} {dd : Bool} {ρ : Kt} (H : St c dd mt_36 ρ) (h : AH) (s0_ : Int32) : ρ 14 [none] [.int s0_] h = isZ s0_ (some (some (.int s0_), h)) :=
 x_zreturn H rfl rfl
-- X4_hasCell (I)Z: 37
theorem nd_37_0 {c : Ct} {dd : Bool} {ρ : Kt} (H : St c dd mt_37 ρ) (h : AH) (a0 : Nat) (x1 : Int32) : ρ 0 [some (.ref a0), some (.int x1)] [] h = if x1 < 0 then (ρ 16 [none, none] [] h) else (gfI h a0 4 2 fun v1 => if v1 ≤ x1 then (ρ 16 [none, none] [] h) else (ρ 17 [none, none] [.int 1] h)) :=
 T1 (x_iload_n H rfl rfl) rfl
 ((x_if_lt H rfl (t := 16) (by decide)).trans (if_c
 (U2 [none, none] rfl rfl)
 (U1 rfl (T1 (x_iload_n H rfl rfl) rfl
 (T1 (x_aload_n H rfl rfl) rfl
 ((x_getI H rfl).trans (gfI_c fun v1 =>
 U1 rfl ((x_icmp_ge H rfl (t := 16) (by decide)).trans (if_c
 (U2 [none, none] rfl rfl)
 (U1 rfl (T1 (x_iconst H rfl ki_1) rfl
 (T2 [none, none] (x_goto H rfl (t := 17) (by decide)) rfl rfl))))))))))))
theorem nd_37_16 {c : Ct} {dd : Bool} {ρ : Kt} (H : St c dd mt_37 ρ) (h : AH)  : ρ 16 [none, none] [] h = ρ 17 [none, none] [.int 0] h :=
 T2 [none, none] (x_iconst H rfl ki_0) rfl rfl
theorem nd_37_17 {c : Ct} {dd : Bool} {ρ : Kt} (H : St c dd mt_37 ρ) (h : AH) (s0_ : Int32) : ρ 17 [none, none] [.int s0_] h = isZ s0_ (some (some (.int s0_), h)) :=
 x_zreturn H rfl rfl
-- X4_setCell (II)V: 38
theorem nd_38_0 {c : Ct} {dd : Bool} {ρ : Kt} (H : St c dd mt_38 ρ) (h : AH) (a0 : Nat) (x1 : Int32) (x2 : Int32) : ρ 0 [some (.ref a0), some (.int x1), some (.int x2)] [] h = isO h a0 4 ((c 37 [.ref a0, .int x1] h).bind fun q1 => rI q1 fun v3 h2 => if v3 = 0 then (ρ 40 [none, none, none] [] h2) else (gfQ h2 a0 4 0 none fun b4 => gfI h2 a0 4 1 fun v5 => if v5 = 0 then (ρ 39 [none, none, none] [.int (x2).toInt8.toInt32, .int x1, .ref b4] h2) else (gfI h2 a0 4 1 fun v6 => if v6 = 1 then (ρ 39 [none, none, none] [.int (x2).toInt16.toInt32, .int x1, .ref b4] h2) else (ρ 39 [none, none, none] [.int x2, .int x1, .ref b4] h2)))) :=
 T1 (x_aload_n H rfl rfl) rfl
 (T1 (x_iload_n H rfl rfl) rfl
 ((x_callZ (ci := 4) H rfl [.int x1] rfl rfl rfl rfl).trans (isO_c (bi_c fun q1 => rI_c fun v3 h2 =>
 U1 rfl ((x_if_eq H rfl (t := 40) (by decide)).trans (if_c
 (U2 [none, none, none] rfl rfl)
 (U1 rfl (T1 (x_aload_n H rfl rfl) rfl
 ((x_getR H rfl).trans (gfQ_c rfl fun b4 =>
 U1 rfl (T1 (x_iload_n H rfl rfl) rfl
 (T1 (x_aload_n H rfl rfl) rfl
 ((x_getI H rfl).trans (gfI_c fun v5 =>
 U1 rfl ((x_if_ne H rfl (t := 25) (by decide)).trans (if_c
 (U1 rfl (T1 (x_iload_n H rfl rfl) rfl
 (T1 (x_i2b H rfl) rfl
 (T2 [none, none, none] (x_goto H rfl (t := 39) (by decide)) rfl rfl))))
 (U1 rfl (T1 (x_aload_n H rfl rfl) rfl
 ((x_getI H rfl).trans (gfI_c fun v6 =>
 U1 rfl (T1 (x_iconst H rfl ki_1) rfl
 ((x_icmp_ne H rfl (t := 38) (by decide)).trans (if_c
 (U1 rfl (T1 (x_iload_n H rfl rfl) rfl
 (T1 (x_i2s H rfl) rfl
 (T2 [none, none, none] (x_goto H rfl (t := 39) (by decide)) rfl rfl))))
 (U1 rfl (T2 [none, none, none] (x_iload_n H rfl rfl) rfl rfl)))))))))))))))))))))))))
theorem nd_38_39 {c : Ct} {dd : Bool} {ρ : Kt} (H : St c dd mt_38 ρ) (h : AH) (s0_ : Int32) (s1_ : Int32) (c2_ : Nat) : ρ 39 [none, none, none] [.int s0_, .int s1_, .ref c2_] h = stI h c2_ s1_ s0_ fun h1 => ρ 40 [none, none, none] [] h1 :=
 (x_iastore H rfl).trans (stI_c fun h1 =>
 U2 [none, none, none] rfl rfl)
theorem nd_38_40 {c : Ct} {dd : Bool} {ρ : Kt} (H : St c dd mt_38 ρ) (h : AH)  : ρ 40 [none, none, none] [] h = some (none, h) :=
 x_return H rfl rfl
-- X6_init ()V: 58
theorem nd_58_0 {c : Ct} {dd : Bool} {ρ : Kt} (H : St c dd mt_58 ρ) (hd : dd = true) (h : AH) (a0 : Nat) : ρ 0 [some (.ref a0)] [] h = (c 27 [.ref h.2.1] (hN h (oB 3 (dfl 3)) (dfl 3).length)).bind fun q1 => rV q1 fun h2 => pfV h2 a0 6 0 (.ref h.2.1) fun h3 => pfV h3 a0 6 1 (.null) fun h4 => pfV h4 a0 6 2 (.int 0) fun h5 => pfV h5 a0 6 3 (.int (-4)) fun h6 => some (none, h6) :=
 T1 (x_aload_n H rfl rfl) rfl
 (T1 (x_oinit H rfl (by rw [hd]; rfl)) rfl
 (T1 (x_aload_n H rfl rfl) rfl
 (T1 (x_new H rfl) rfl
 (T1 (x_dup H rfl) rfl
 ((x_init H rfl [] rfl rfl rfl rfl).trans (bi_c fun q1 => rV_c fun h2 =>
 U1 rfl ((x_putR H rfl).trans (pfV_c fun h3 =>
 U1 rfl (T1 (x_aload_n H rfl rfl) rfl
 (T1 (x_null H rfl) rfl
 ((x_putN H rfl).trans (pfV_c fun h4 =>
 U1 rfl (T1 (x_aload_n H rfl rfl) rfl
 (T1 (x_iconst H rfl ki_0) rfl
 ((x_putI H rfl).trans (pfV_c fun h5 =>
 U1 rfl (T1 (x_aload_n H rfl rfl) rfl
 (T1 (x_bipush H rfl kb_m4) rfl
 ((x_putI H rfl).trans (pfV_c fun h6 =>
 U1 rfl (x_return H rfl rfl)))))))))))))))))))))
-- X6_begin (LNameRows$Machine;)V: 59
theorem nd_59_0 {c : Ct} {dd : Bool} {ρ : Kt} (H : St c dd mt_59 ρ) (h : AH) (a0 : Nat) (a1 : Nat) : ρ 0 [some (.ref a0), some (.ref a1)] [] h = pfV h a0 6 1 (.ref a1) fun h1 => gfQ h1 a0 6 0 none fun b2 => isO h1 b2 3 ((c 28 [.ref b2] h1).bind fun q3 => rV q3 fun h4 => pfV h4 a0 6 2 (.int 0) fun h5 => gfQ h5 a0 6 0 none fun b6 => isO h5 b6 3 ((c 32 [.ref b6, .ref a1] h5).bind fun q7 => rI q7 fun v9 h8 => if v9 = 0 then (ρ 35 [none, none] [.int (-4), .ref a0] h8) else (ρ 35 [none, none] [.int 0, .ref a0] h8))) :=
 T1 (x_aload_n H rfl rfl) rfl
 (T1 (x_aload_n H rfl rfl) rfl
 ((x_putR H rfl).trans (pfV_c fun h1 =>
 U1 rfl (T1 (x_aload_n H rfl rfl) rfl
 ((x_getR H rfl).trans (gfQ_c rfl fun b2 =>
 U1 rfl ((x_callV (ci := 3) H rfl [] rfl rfl rfl rfl).trans (isO_c (bi_c fun q3 => rV_c fun h4 =>
 U1 rfl (T1 (x_aload_n H rfl rfl) rfl
 (T1 (x_iconst H rfl ki_0) rfl
 ((x_putI H rfl).trans (pfV_c fun h5 =>
 U1 rfl (T1 (x_aload_n H rfl rfl) rfl
 (T1 (x_aload_n H rfl rfl) rfl
 ((x_getR H rfl).trans (gfQ_c rfl fun b6 =>
 U1 rfl (T1 (x_aload_n H rfl rfl) rfl
 ((x_callZ (ci := 3) H rfl [.ref a1] rfl rfl rfl rfl).trans (isO_c (bi_c fun q7 => rI_c fun v9 h8 =>
 U1 rfl ((x_if_eq H rfl (t := 33) (by decide)).trans (if_c
 (U1 rfl (T2 [none, none] (x_bipush H rfl kb_m4) rfl rfl))
 (U1 rfl (T1 (x_iconst H rfl ki_0) rfl
 (T2 [none, none] (x_goto H rfl (t := 35) (by decide)) rfl rfl))))))))))))))))))))))))))
theorem nd_59_35 {c : Ct} {dd : Bool} {ρ : Kt} (H : St c dd mt_59 ρ) (h : AH) (s0_ : Int32) (c1_ : Nat) : ρ 35 [none, none] [.int s0_, .ref c1_] h = pfV h c1_ 6 3 (.int s0_) fun h1 => some (none, h1) :=
 (x_putI H rfl).trans (pfV_c fun h1 =>
 U1 rfl (x_return H rfl rfl))
-- X6_isDone ()Z: 60
theorem nd_60_0 {c : Ct} {dd : Bool} {ρ : Kt} (H : St c dd mt_60 ρ) (h : AH) (a0 : Nat) : ρ 0 [some (.ref a0)] [] h = gfI h a0 6 3 fun v1 => if v1 = (-4) then (ρ 14 [none] [.int 0] h) else (ρ 14 [none] [.int 1] h) :=
 T1 (x_aload_n H rfl rfl) rfl
 ((x_getI H rfl).trans (gfI_c fun v1 =>
 U1 rfl (T1 (x_bipush H rfl kb_m4) rfl
 ((x_icmp_eq H rfl (t := 13) (by decide)).trans (if_c
 (U1 rfl (T2 [none] (x_iconst H rfl ki_0) rfl rfl))
 (U1 rfl (T1 (x_iconst H rfl ki_1) rfl
 (T2 [none] (x_goto H rfl (t := 14) (by decide)) rfl rfl))))))))
theorem nd_60_14 {c : Ct} {dd : Bool} {ρ : Kt} (H : St c dd mt_60 ρ) (h : AH) (s0_ : Int32) : ρ 14 [none] [.int s0_] h = isZ s0_ (some (some (.int s0_), h)) :=
 x_zreturn H rfl rfl
-- X6_take (II)I: 61
theorem nd_61_0 {c : Ct} {dd : Bool} {ρ : Kt} (H : St c dd mt_61 ρ) (h : AH) (a0 : Nat) (x1 : Int32) (x2 : Int32) : ρ 0 [some (.ref a0), some (.int x1), some (.int x2)] [] h = isO h a0 6 ((c 60 [.ref a0] h).bind fun q1 => rI q1 fun v3 h2 => if v3 = 0 then (gfQ h2 a0 6 1 (ρ 14 [none, none, none] [] h2) fun b4 => gfQ h2 a0 6 0 none fun b5 => gfQ h2 a0 6 1 (isO h2 b5 3 ((c 29 [.ref b5, .null, .int x1, .int x2] h2).bind fun q7 => rV q7 fun h8 => gfQ h8 a0 6 0 none fun b9 => gfQ h8 a0 6 1 (isO h8 b9 3 ((c 32 [.ref b9, .null] h8).bind fun q11 => rI q11 fun v13 h12 => if v13 = 0 then (gfQ h12 a0 6 1 (gfQ h12 a0 6 0 none fun b15 => gfI h12 b15 3 0 fun v16 => none) fun b14 => gfQ h12 a0 6 0 none fun b17 => gfI h12 b17 3 0 fun v18 => isO h12 b14 0 ((c 7 [.ref b14, .int v18] h12).bind fun q19 => rI q19 fun v21 h20 => if v21 = 0 then (some (some (.int 0), h20)) else (gfI h20 a0 6 2 fun v22 => pfV h20 a0 6 2 (.int (v22 + 1)) fun h23 => some (some (.int 1), h23)))) else (gfQ h12 a0 6 0 none fun b24 => gfI h12 b24 3 4 fun v25 => pfV h12 a0 6 3 (.int v25) fun h26 => some (some (.int (-5)), h26)))) fun b10 => isO h8 b9 3 ((c 32 [.ref b9, .ref b10] h8).bind fun q27 => rI q27 fun v29 h28 => if v29 = 0 then (gfQ h28 a0 6 1 (gfQ h28 a0 6 0 none fun b31 => gfI h28 b31 3 0 fun v32 => none) fun b30 => gfQ h28 a0 6 0 none fun b33 => gfI h28 b33 3 0 fun v34 => isO h28 b30 0 ((c 7 [.ref b30, .int v34] h28).bind fun q35 => rI q35 fun v37 h36 => if v37 = 0 then (some (some (.int 0), h36)) else (gfI h36 a0 6 2 fun v38 => pfV h36 a0 6 2 (.int (v38 + 1)) fun h39 => some (some (.int 1), h39)))) else (gfQ h28 a0 6 0 none fun b40 => gfI h28 b40 3 4 fun v41 => pfV h28 a0 6 3 (.int v41) fun h42 => some (some (.int (-5)), h42))))) fun b6 => isO h2 b5 3 ((c 29 [.ref b5, .ref b6, .int x1, .int x2] h2).bind fun q43 => rV q43 fun h44 => gfQ h44 a0 6 0 none fun b45 => gfQ h44 a0 6 1 (isO h44 b45 3 ((c 32 [.ref b45, .null] h44).bind fun q47 => rI q47 fun v49 h48 => if v49 = 0 then (gfQ h48 a0 6 1 (gfQ h48 a0 6 0 none fun b51 => gfI h48 b51 3 0 fun v52 => none) fun b50 => gfQ h48 a0 6 0 none fun b53 => gfI h48 b53 3 0 fun v54 => isO h48 b50 0 ((c 7 [.ref b50, .int v54] h48).bind fun q55 => rI q55 fun v57 h56 => if v57 = 0 then (some (some (.int 0), h56)) else (gfI h56 a0 6 2 fun v58 => pfV h56 a0 6 2 (.int (v58 + 1)) fun h59 => some (some (.int 1), h59)))) else (gfQ h48 a0 6 0 none fun b60 => gfI h48 b60 3 4 fun v61 => pfV h48 a0 6 3 (.int v61) fun h62 => some (some (.int (-5)), h62)))) fun b46 => isO h44 b45 3 ((c 32 [.ref b45, .ref b46] h44).bind fun q63 => rI q63 fun v65 h64 => if v65 = 0 then (gfQ h64 a0 6 1 (gfQ h64 a0 6 0 none fun b67 => gfI h64 b67 3 0 fun v68 => none) fun b66 => gfQ h64 a0 6 0 none fun b69 => gfI h64 b69 3 0 fun v70 => isO h64 b66 0 ((c 7 [.ref b66, .int v70] h64).bind fun q71 => rI q71 fun v73 h72 => if v73 = 0 then (some (some (.int 0), h72)) else (gfI h72 a0 6 2 fun v74 => pfV h72 a0 6 2 (.int (v74 + 1)) fun h75 => some (some (.int 1), h75)))) else (gfQ h64 a0 6 0 none fun b76 => gfI h64 b76 3 4 fun v77 => pfV h64 a0 6 3 (.int v77) fun h78 => some (some (.int (-5)), h78))))) else (ρ 14 [none, none, none] [] h2)) :=
 T1 (x_aload_n H rfl rfl) rfl
 ((x_callZ (ci := 6) H rfl [] rfl rfl rfl rfl).trans (isO_c (bi_c fun q1 => rI_c fun v3 h2 =>
 U1 rfl ((x_if_ne H rfl (t := 14) (by decide)).trans (if_c
 (U1 rfl (T1 (x_aload_n H rfl rfl) rfl
 ((x_getQ H rfl).trans (gfQ_c (U1 rfl (T2 [none, none, none] (x_ifnonnullN H rfl (t := 17) (by decide)) rfl rfl)) fun b4 =>
 U1 rfl (T1 (x_ifnonnull H rfl (t := 17) (by decide)) rfl
 (T1 (x_aload_n H rfl rfl) rfl
 ((x_getR H rfl).trans (gfQ_c rfl fun b5 =>
 U1 rfl (T1 (x_aload_n H rfl rfl) rfl
 ((x_getQ H rfl).trans (gfQ_c (U1 rfl (T1 (x_iload_n H rfl rfl) rfl
 (T1 (x_iload_n H rfl rfl) rfl
 ((x_callV (ci := 3) H rfl [.null, .int x1, .int x2] rfl rfl rfl rfl).trans (isO_c (bi_c fun q7 => rV_c fun h8 =>
 U1 rfl (T1 (x_aload_n H rfl rfl) rfl
 ((x_getR H rfl).trans (gfQ_c rfl fun b9 =>
 U1 rfl (T1 (x_aload_n H rfl rfl) rfl
 ((x_getQ H rfl).trans (gfQ_c (U1 rfl ((x_callZ (ci := 3) H rfl [.null] rfl rfl rfl rfl).trans (isO_c (bi_c fun q11 => rI_c fun v13 h12 =>
 U1 rfl ((x_if_eq H rfl (t := 58) (by decide)).trans (if_c
 (U1 rfl (T1 (x_aload_n H rfl rfl) rfl
 ((x_getQ H rfl).trans (gfQ_c (U1 rfl (T1 (x_aload_n H rfl rfl) rfl
 ((x_getR H rfl).trans (gfQ_c rfl fun b15 =>
 U1 rfl ((x_getI H rfl).trans (gfI_c fun v16 =>
 U1 rfl ((H 69 _ _ _ _ _ rfl).trans rfl))))))) fun b14 =>
 U1 rfl (T1 (x_aload_n H rfl rfl) rfl
 ((x_getR H rfl).trans (gfQ_c rfl fun b17 =>
 U1 rfl ((x_getI H rfl).trans (gfI_c fun v18 =>
 U1 rfl ((x_callZ (ci := 0) H rfl [.int v18] rfl rfl rfl rfl).trans (isO_c (bi_c fun q19 => rI_c fun v21 h20 =>
 U1 rfl ((x_if_ne H rfl (t := 77) (by decide)).trans (if_c
 (U1 rfl (T1 (x_iconst H rfl ki_0) rfl
 (x_ireturn H rfl rfl)))
 (U1 rfl (T1 (x_aload_n H rfl rfl) rfl
 (T1 (x_dup H rfl) rfl
 ((x_getI H rfl).trans (gfI_c fun v22 =>
 U1 rfl (T1 (x_iconst H rfl ki_1) rfl
 (T1 (x_iadd H rfl) rfl
 ((x_putI H rfl).trans (pfV_c fun h23 =>
 U1 rfl (T1 (x_iconst H rfl ki_1) rfl
 (x_ireturn H rfl rfl)))))))))))))))))))))))))
 (U1 rfl (T1 (x_aload_n H rfl rfl) rfl
 (T1 (x_aload_n H rfl rfl) rfl
 ((x_getR H rfl).trans (gfQ_c rfl fun b24 =>
 U1 rfl ((x_getI H rfl).trans (gfI_c fun v25 =>
 U1 rfl ((x_putI H rfl).trans (pfV_c fun h26 =>
 U1 rfl (T1 (x_bipush H rfl kb_m5) rfl
 (x_ireturn H rfl rfl))))))))))))))))) fun b10 =>
 U1 rfl ((x_callZ (ci := 3) H rfl [.ref b10] rfl rfl rfl rfl).trans (isO_c (bi_c fun q27 => rI_c fun v29 h28 =>
 U1 rfl ((x_if_eq H rfl (t := 58) (by decide)).trans (if_c
 (U1 rfl (T1 (x_aload_n H rfl rfl) rfl
 ((x_getQ H rfl).trans (gfQ_c (U1 rfl (T1 (x_aload_n H rfl rfl) rfl
 ((x_getR H rfl).trans (gfQ_c rfl fun b31 =>
 U1 rfl ((x_getI H rfl).trans (gfI_c fun v32 =>
 U1 rfl ((H 69 _ _ _ _ _ rfl).trans rfl))))))) fun b30 =>
 U1 rfl (T1 (x_aload_n H rfl rfl) rfl
 ((x_getR H rfl).trans (gfQ_c rfl fun b33 =>
 U1 rfl ((x_getI H rfl).trans (gfI_c fun v34 =>
 U1 rfl ((x_callZ (ci := 0) H rfl [.int v34] rfl rfl rfl rfl).trans (isO_c (bi_c fun q35 => rI_c fun v37 h36 =>
 U1 rfl ((x_if_ne H rfl (t := 77) (by decide)).trans (if_c
 (U1 rfl (T1 (x_iconst H rfl ki_0) rfl
 (x_ireturn H rfl rfl)))
 (U1 rfl (T1 (x_aload_n H rfl rfl) rfl
 (T1 (x_dup H rfl) rfl
 ((x_getI H rfl).trans (gfI_c fun v38 =>
 U1 rfl (T1 (x_iconst H rfl ki_1) rfl
 (T1 (x_iadd H rfl) rfl
 ((x_putI H rfl).trans (pfV_c fun h39 =>
 U1 rfl (T1 (x_iconst H rfl ki_1) rfl
 (x_ireturn H rfl rfl)))))))))))))))))))))))))
 (U1 rfl (T1 (x_aload_n H rfl rfl) rfl
 (T1 (x_aload_n H rfl rfl) rfl
 ((x_getR H rfl).trans (gfQ_c rfl fun b40 =>
 U1 rfl ((x_getI H rfl).trans (gfI_c fun v41 =>
 U1 rfl ((x_putI H rfl).trans (pfV_c fun h42 =>
 U1 rfl (T1 (x_bipush H rfl kb_m5) rfl
 (x_ireturn H rfl rfl)))))))))))))))))))))))))))) fun b6 =>
 U1 rfl (T1 (x_iload_n H rfl rfl) rfl
 (T1 (x_iload_n H rfl rfl) rfl
 ((x_callV (ci := 3) H rfl [.ref b6, .int x1, .int x2] rfl rfl rfl rfl).trans (isO_c (bi_c fun q43 => rV_c fun h44 =>
 U1 rfl (T1 (x_aload_n H rfl rfl) rfl
 ((x_getR H rfl).trans (gfQ_c rfl fun b45 =>
 U1 rfl (T1 (x_aload_n H rfl rfl) rfl
 ((x_getQ H rfl).trans (gfQ_c (U1 rfl ((x_callZ (ci := 3) H rfl [.null] rfl rfl rfl rfl).trans (isO_c (bi_c fun q47 => rI_c fun v49 h48 =>
 U1 rfl ((x_if_eq H rfl (t := 58) (by decide)).trans (if_c
 (U1 rfl (T1 (x_aload_n H rfl rfl) rfl
 ((x_getQ H rfl).trans (gfQ_c (U1 rfl (T1 (x_aload_n H rfl rfl) rfl
 ((x_getR H rfl).trans (gfQ_c rfl fun b51 =>
 U1 rfl ((x_getI H rfl).trans (gfI_c fun v52 =>
 U1 rfl ((H 69 _ _ _ _ _ rfl).trans rfl))))))) fun b50 =>
 U1 rfl (T1 (x_aload_n H rfl rfl) rfl
 ((x_getR H rfl).trans (gfQ_c rfl fun b53 =>
 U1 rfl ((x_getI H rfl).trans (gfI_c fun v54 =>
 U1 rfl ((x_callZ (ci := 0) H rfl [.int v54] rfl rfl rfl rfl).trans (isO_c (bi_c fun q55 => rI_c fun v57 h56 =>
 U1 rfl ((x_if_ne H rfl (t := 77) (by decide)).trans (if_c
 (U1 rfl (T1 (x_iconst H rfl ki_0) rfl
 (x_ireturn H rfl rfl)))
 (U1 rfl (T1 (x_aload_n H rfl rfl) rfl
 (T1 (x_dup H rfl) rfl
 ((x_getI H rfl).trans (gfI_c fun v58 =>
 U1 rfl (T1 (x_iconst H rfl ki_1) rfl
 (T1 (x_iadd H rfl) rfl
 ((x_putI H rfl).trans (pfV_c fun h59 =>
 U1 rfl (T1 (x_iconst H rfl ki_1) rfl
 (x_ireturn H rfl rfl)))))))))))))))))))))))))
 (U1 rfl (T1 (x_aload_n H rfl rfl) rfl
 (T1 (x_aload_n H rfl rfl) rfl
 ((x_getR H rfl).trans (gfQ_c rfl fun b60 =>
 U1 rfl ((x_getI H rfl).trans (gfI_c fun v61 =>
 U1 rfl ((x_putI H rfl).trans (pfV_c fun h62 =>
 U1 rfl (T1 (x_bipush H rfl kb_m5) rfl
 (x_ireturn H rfl rfl))))))))))))))))) fun b46 =>
 U1 rfl ((x_callZ (ci := 3) H rfl [.ref b46] rfl rfl rfl rfl).trans (isO_c (bi_c fun q63 => rI_c fun v65 h64 =>
 U1 rfl ((x_if_eq H rfl (t := 58) (by decide)).trans (if_c
 (U1 rfl (T1 (x_aload_n H rfl rfl) rfl
 ((x_getQ H rfl).trans (gfQ_c (U1 rfl (T1 (x_aload_n H rfl rfl) rfl
 ((x_getR H rfl).trans (gfQ_c rfl fun b67 =>
 U1 rfl ((x_getI H rfl).trans (gfI_c fun v68 =>
 U1 rfl ((H 69 _ _ _ _ _ rfl).trans rfl))))))) fun b66 =>
 U1 rfl (T1 (x_aload_n H rfl rfl) rfl
 ((x_getR H rfl).trans (gfQ_c rfl fun b69 =>
 U1 rfl ((x_getI H rfl).trans (gfI_c fun v70 =>
 U1 rfl ((x_callZ (ci := 0) H rfl [.int v70] rfl rfl rfl rfl).trans (isO_c (bi_c fun q71 => rI_c fun v73 h72 =>
 U1 rfl ((x_if_ne H rfl (t := 77) (by decide)).trans (if_c
 (U1 rfl (T1 (x_iconst H rfl ki_0) rfl
 (x_ireturn H rfl rfl)))
 (U1 rfl (T1 (x_aload_n H rfl rfl) rfl
 (T1 (x_dup H rfl) rfl
 ((x_getI H rfl).trans (gfI_c fun v74 =>
 U1 rfl (T1 (x_iconst H rfl ki_1) rfl
 (T1 (x_iadd H rfl) rfl
 ((x_putI H rfl).trans (pfV_c fun h75 =>
 U1 rfl (T1 (x_iconst H rfl ki_1) rfl
 (x_ireturn H rfl rfl)))))))))))))))))))))))))
 (U1 rfl (T1 (x_aload_n H rfl rfl) rfl
 (T1 (x_aload_n H rfl rfl) rfl
 ((x_getR H rfl).trans (gfQ_c rfl fun b76 =>
 U1 rfl ((x_getI H rfl).trans (gfI_c fun v77 =>
 U1 rfl ((x_putI H rfl).trans (pfV_c fun h78 =>
 U1 rfl (T1 (x_bipush H rfl kb_m5) rfl
 (x_ireturn H rfl rfl))))))))))))))))))))))))))))))))))))))
 (U2 [none, none, none] rfl rfl))))))
theorem nd_61_14 {c : Ct} {dd : Bool} {ρ : Kt} (H : St c dd mt_61 ρ) (h : AH)  : ρ 14 [none, none, none] [] h = some (some (.int (-5)), h) :=
 T1 (x_bipush H rfl kb_m5) rfl
 (x_ireturn H rfl rfl)
