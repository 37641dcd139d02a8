/-! ===== node equations: what each method does from a node to the next ===== -/
set_option maxHeartbeats 400000
set_option maxRecDepth 100000
-- L_law ([I)Z: 169
theorem nd_169_0 {c : Ct} {dd : Bool} {ρ : Kt} (H : St c dd mt_169 ρ) (h : AH) (a0 : Nat) : ρ 0 [some (.ref a0), none, none, none] [] h = (c 62 [.ref h.2.1] (hN h (oB 7 (dfl 7)) (dfl 7).length)).bind fun q1 => rV q1 fun h2 => (c 106 [.ref h2.2.1] (hN h2 (oB 8 (dfl 8)) (dfl 8).length)).bind fun q3 => rV q3 fun h4 => ρ 18 [some (.ref a0), some (.ref h.2.1), some (.ref h2.2.1), some (.int 0)] [] h4 :=
 T1 (x_new H rfl) rfl
 (T1 (x_dup H rfl) rfl
 ((x_init H rfl [] rfl rfl rfl rfl).trans (bi_c fun q1 => rV_c fun h2 =>
 U1 rfl (T2 [some (.ref a0), some (.ref h.2.1), none, none] (x_astore_n H rfl rfl) rfl
 (T1 (x_new H rfl) rfl
 (T1 (x_dup H rfl) rfl
 ((x_init H rfl [] rfl rfl rfl rfl).trans (bi_c fun q3 => rV_c fun h4 =>
 U1 rfl (T2 [some (.ref a0), some (.ref h.2.1), some (.ref h2.2.1), none] (x_astore_n H rfl rfl) rfl
 (T1 (x_iconst H rfl ki_0) rfl
 (T2 [some (.ref a0), some (.ref h.2.1), some (.ref h2.2.1), some (.int 0)] (x_istore_n H rfl rfl) rfl rfl)))))))))))
theorem nd_169_18 {c : Ct} {dd : Bool} {ρ : Kt} (H : St c dd mt_169 ρ) (h : AH) (a0 : Nat) (a1 : Nat) (a2 : Nat) (x3 : Int32) : ρ 18 [some (.ref a0), some (.ref a1), some (.ref a2), some (.int x3)] [] h = lnA h a0 fun v1 => if (v1 - 7) < x3 then (isZ 1 (some (some (.int 1), h))) else (ldI h a0 x3 fun v2 => if ((v2 &&& 31)).toInt = 0 then (ρ 164 [some (.ref a0), some (.ref a1), some (.ref a2), some (.int x3)] [] h) else (if ((v2 &&& 31)).toInt = 1 then (ρ 197 [some (.ref a0), some (.ref a1), some (.ref a2), some (.int x3)] [] h) else (if ((v2 &&& 31)).toInt = 2 then (ρ 220 [some (.ref a0), some (.ref a1), some (.ref a2), some (.int x3)] [] h) else (if ((v2 &&& 31)).toInt = 3 then (ρ 243 [some (.ref a0), some (.ref a1), some (.ref a2), some (.int x3)] [] h) else (if ((v2 &&& 31)).toInt = 4 then (ρ 256 [some (.ref a0), some (.ref a1), some (.ref a2), some (.int x3)] [] h) else (if ((v2 &&& 31)).toInt = 5 then (ρ 289 [some (.ref a0), some (.ref a1), some (.ref a2), some (.int x3)] [] h) else (if ((v2 &&& 31)).toInt = 6 then (ρ 364 [some (.ref a0), some (.ref a1), some (.ref a2), some (.int x3)] [] h) else (if ((v2 &&& 31)).toInt = 7 then (ρ 423 [some (.ref a0), some (.ref a1), some (.ref a2), some (.int x3)] [] h) else (if ((v2 &&& 31)).toInt = 8 then (ρ 456 [some (.ref a0), some (.ref a1), some (.ref a2), some (.int x3)] [] h) else (if ((v2 &&& 31)).toInt = 9 then (ρ 519 [some (.ref a0), some (.ref a1), some (.ref a2), some (.int x3)] [] h) else (if ((v2 &&& 31)).toInt = 10 then (ρ 532 [some (.ref a0), some (.ref a1), some (.ref a2), some (.int x3)] [] h) else (if ((v2 &&& 31)).toInt = 11 then (ρ 555 [some (.ref a0), some (.ref a1), some (.ref a2), some (.int x3)] [] h) else (if ((v2 &&& 31)).toInt = 12 then (ρ 598 [some (.ref a0), some (.ref a1), some (.ref a2), some (.int x3)] [] h) else (if ((v2 &&& 31)).toInt = 13 then (ρ 631 [some (.ref a0), some (.ref a1), some (.ref a2), some (.int x3)] [] h) else (if ((v2 &&& 31)).toInt = 14 then (ρ 674 [some (.ref a0), some (.ref a1), some (.ref a2), some (.int x3)] [] h) else (if ((v2 &&& 31)).toInt = 15 then (ρ 697 [some (.ref a0), some (.ref a1), some (.ref a2), some (.int x3)] [] h) else (if ((v2 &&& 31)).toInt = 16 then (ρ 730 [some (.ref a0), some (.ref a1), some (.ref a2), some (.int x3)] [] h) else (if ((v2 &&& 31)).toInt = 17 then (ρ 753 [some (.ref a0), some (.ref a1), some (.ref a2), some (.int x3)] [] h) else (if ((v2 &&& 31)).toInt = 18 then (ρ 796 [some (.ref a0), some (.ref a1), some (.ref a2), some (.int x3)] [] h) else (if ((v2 &&& 31)).toInt = 19 then (ρ 829 [some (.ref a0), some (.ref a1), some (.ref a2), some (.int x3)] [] h) else (if ((v2 &&& 31)).toInt = 20 then (ρ 882 [some (.ref a0), some (.ref a1), some (.ref a2), some (.int x3)] [] h) else (if ((v2 &&& 31)).toInt = 21 then (ρ 915 [some (.ref a0), some (.ref a1), some (.ref a2), some (.int x3)] [] h) else (if ((v2 &&& 31)).toInt = 22 then (ρ 948 [some (.ref a0), some (.ref a1), some (.ref a2), some (.int x3)] [] h) else (if ((v2 &&& 31)).toInt = 23 then (ρ 971 [some (.ref a0), some (.ref a1), some (.ref a2), some (.int x3)] [] h) else (if ((v2 &&& 31)).toInt = 24 then (ρ 1014 [some (.ref a0), some (.ref a1), some (.ref a2), some (.int x3)] [] h) else (if ((v2 &&& 31)).toInt = 25 then (ρ 1047 [some (.ref a0), some (.ref a1), some (.ref a2), some (.int x3)] [] h) else (if ((v2 &&& 31)).toInt = 26 then (ρ 1090 [some (.ref a0), some (.ref a1), some (.ref a2), some (.int x3)] [] h) else (if ((v2 &&& 31)).toInt = 27 then (ρ 1133 [some (.ref a0), some (.ref a1), some (.ref a2), some (.int x3)] [] h) else (if ((v2 &&& 31)).toInt = 28 then (ρ 1186 [some (.ref a0), some (.ref a1), some (.ref a2), some (.int x3)] [] h) else (ρ 1209 [some (.ref a0), some (.ref a1), some (.ref a2), some (.int x3)] [] h)))))))))))))))))))))))))))))) :=
 T1 (x_iload_n H rfl rfl) rfl
 (T1 (x_aload_n H rfl rfl) rfl
 ((x_alen H rfl).trans (lnA_c fun v1 =>
 U1 rfl (T1 (x_bipush H rfl kb_7) rfl
 (T1 (x_isub H rfl) rfl
 ((x_icmp_gt H rfl (t := 1215) (by decide)).trans (if_c
 (U1 rfl (T1 (x_iconst H rfl ki_1) rfl
 (x_zreturn H rfl rfl)))
 (U1 rfl (T1 (x_aload_n H rfl rfl) rfl
 (T1 (x_iload_n H rfl rfl) rfl
 ((x_iaload H rfl).trans (ldI_c fun v2 =>
 U1 rfl (T1 (x_bipush H rfl kb_31) rfl
 (T1 (x_iand H rfl) rfl
 ((x_switch H rfl rfl).trans
 (swt_c (lo1 := 1) (by decide) ((jmp_eq (t := 164) (by decide)).trans (U1 rfl rfl))
 (swt_c (lo1 := 2) (by decide) ((jmp_eq (t := 197) (by decide)).trans (U1 rfl rfl))
 (swt_c (lo1 := 3) (by decide) ((jmp_eq (t := 220) (by decide)).trans (U1 rfl rfl))
 (swt_c (lo1 := 4) (by decide) ((jmp_eq (t := 243) (by decide)).trans (U1 rfl rfl))
 (swt_c (lo1 := 5) (by decide) ((jmp_eq (t := 256) (by decide)).trans (U1 rfl rfl))
 (swt_c (lo1 := 6) (by decide) ((jmp_eq (t := 289) (by decide)).trans (U1 rfl rfl))
 (swt_c (lo1 := 7) (by decide) ((jmp_eq (t := 364) (by decide)).trans (U1 rfl rfl))
 (swt_c (lo1 := 8) (by decide) ((jmp_eq (t := 423) (by decide)).trans (U1 rfl rfl))
 (swt_c (lo1 := 9) (by decide) ((jmp_eq (t := 456) (by decide)).trans (U1 rfl rfl))
 (swt_c (lo1 := 10) (by decide) ((jmp_eq (t := 519) (by decide)).trans (U1 rfl rfl))
 (swt_c (lo1 := 11) (by decide) ((jmp_eq (t := 532) (by decide)).trans (U1 rfl rfl))
 (swt_c (lo1 := 12) (by decide) ((jmp_eq (t := 555) (by decide)).trans (U1 rfl rfl))
 (swt_c (lo1 := 13) (by decide) ((jmp_eq (t := 598) (by decide)).trans (U1 rfl rfl))
 (swt_c (lo1 := 14) (by decide) ((jmp_eq (t := 631) (by decide)).trans (U1 rfl rfl))
 (swt_c (lo1 := 15) (by decide) ((jmp_eq (t := 674) (by decide)).trans (U1 rfl rfl))
 (swt_c (lo1 := 16) (by decide) ((jmp_eq (t := 697) (by decide)).trans (U1 rfl rfl))
 (swt_c (lo1 := 17) (by decide) ((jmp_eq (t := 730) (by decide)).trans (U1 rfl rfl))
 (swt_c (lo1 := 18) (by decide) ((jmp_eq (t := 753) (by decide)).trans (U1 rfl rfl))
 (swt_c (lo1 := 19) (by decide) ((jmp_eq (t := 796) (by decide)).trans (U1 rfl rfl))
 (swt_c (lo1 := 20) (by decide) ((jmp_eq (t := 829) (by decide)).trans (U1 rfl rfl))
 (swt_c (lo1 := 21) (by decide) ((jmp_eq (t := 882) (by decide)).trans (U1 rfl rfl))
 (swt_c (lo1 := 22) (by decide) ((jmp_eq (t := 915) (by decide)).trans (U1 rfl rfl))
 (swt_c (lo1 := 23) (by decide) ((jmp_eq (t := 948) (by decide)).trans (U1 rfl rfl))
 (swt_c (lo1 := 24) (by decide) ((jmp_eq (t := 971) (by decide)).trans (U1 rfl rfl))
 (swt_c (lo1 := 25) (by decide) ((jmp_eq (t := 1014) (by decide)).trans (U1 rfl rfl))
 (swt_c (lo1 := 26) (by decide) ((jmp_eq (t := 1047) (by decide)).trans (U1 rfl rfl))
 (swt_c (lo1 := 27) (by decide) ((jmp_eq (t := 1090) (by decide)).trans (U1 rfl rfl))
 (swt_c (lo1 := 28) (by decide) ((jmp_eq (t := 1133) (by decide)).trans (U1 rfl rfl))
 (swt_c (lo1 := 29) (by decide) ((jmp_eq (t := 1186) (by decide)).trans (U1 rfl rfl))
 (swt_0 ((jmp_eq (t := 1209) (by decide)).trans (U2 [some (.ref a0), some (.ref a1), some (.ref a2), some (.int x3)] rfl rfl)))))))))))))))))))))))))))))))))))))))))))))))
theorem nd_169_164 {c : Ct} {dd : Bool} {ρ : Kt} (H : St c dd mt_169 ρ) (h : AH) (a0 : Nat) (a1 : Nat) (a2 : Nat) (x3 : Int32) : ρ 164 [some (.ref a0), some (.ref a1), some (.ref a2), some (.int x3)] [] h = ldI h a0 (x3 + 1) fun v1 => ldI h a0 (x3 + 2) fun v2 => isO h a1 7 ((c 63 [.ref a1, .int v1, .int v2] h).bind fun q3 => rI q3 fun v5 h4 => ldI h4 a0 (x3 + 1) fun v6 => ldI h4 a0 (x3 + 2) fun v7 => isO h4 a2 8 ((c 108 [.ref a2, .int v6, .int v7] h4).bind fun q8 => rI q8 fun v10 h9 => if v5 = v10 then (ρ 1209 [some (.ref a0), some (.ref a1), some (.ref a2), some (.int x3)] [] h9) else (isZ 0 (some (some (.int 0), h9))))) :=
 T1 (x_aload_n H rfl rfl) rfl
 (T1 (x_aload_n H rfl rfl) rfl
 (T1 (x_iload_n H rfl rfl) rfl
 (T1 (x_iconst H rfl ki_1) rfl
 (T1 (x_iadd H rfl) rfl
 ((x_iaload H rfl).trans (ldI_c fun v1 =>
 U1 rfl (T1 (x_aload_n H rfl rfl) rfl
 (T1 (x_iload_n H rfl rfl) rfl
 (T1 (x_iconst H rfl ki_2) rfl
 (T1 (x_iadd H rfl) rfl
 ((x_iaload H rfl).trans (ldI_c fun v2 =>
 U1 rfl ((x_callI (ci := 7) H rfl [.int v1, .int v2] rfl rfl rfl rfl).trans (isO_c (bi_c fun q3 => rI_c fun v5 h4 =>
 U1 rfl (T1 (x_aload_n H rfl rfl) rfl
 (T1 (x_aload_n H rfl rfl) rfl
 (T1 (x_iload_n H rfl rfl) rfl
 (T1 (x_iconst H rfl ki_1) rfl
 (T1 (x_iadd H rfl) rfl
 ((x_iaload H rfl).trans (ldI_c fun v6 =>
 U1 rfl (T1 (x_aload_n H rfl rfl) rfl
 (T1 (x_iload_n H rfl rfl) rfl
 (T1 (x_iconst H rfl ki_2) rfl
 (T1 (x_iadd H rfl) rfl
 ((x_iaload H rfl).trans (ldI_c fun v7 =>
 U1 rfl ((x_callI (ci := 8) H rfl [.int v6, .int v7] rfl rfl rfl rfl).trans (isO_c (bi_c fun q8 => rI_c fun v10 h9 =>
 U1 rfl ((x_icmp_eq H rfl (t := 1209) (by decide)).trans (if_c
 (U2 [some (.ref a0), some (.ref a1), some (.ref a2), some (.int x3)] rfl rfl)
 (U1 rfl (T1 (x_iconst H rfl ki_0) rfl
 (x_zreturn H rfl rfl))))))))))))))))))))))))))))))))))))
theorem nd_169_197 {c : Ct} {dd : Bool} {ρ : Kt} (H : St c dd mt_169 ρ) (h : AH) (a0 : Nat) (a1 : Nat) (a2 : Nat) (x3 : Int32) : ρ 197 [some (.ref a0), some (.ref a1), some (.ref a2), some (.int x3)] [] h = ldI h a0 (x3 + 1) fun v1 => isO h a1 7 ((c 64 [.ref a1, .int v1] h).bind fun q2 => rI q2 fun v4 h3 => ldI h3 a0 (x3 + 1) fun v5 => isO h3 a2 8 ((c 109 [.ref a2, .int v5] h3).bind fun q6 => rI q6 fun v8 h7 => if v4 = v8 then (ρ 1209 [some (.ref a0), some (.ref a1), some (.ref a2), some (.int x3)] [] h7) else (isZ 0 (some (some (.int 0), h7))))) :=
 T1 (x_aload_n H rfl rfl) rfl
 (T1 (x_aload_n H rfl rfl) rfl
 (T1 (x_iload_n H rfl rfl) rfl
 (T1 (x_iconst H rfl ki_1) rfl
 (T1 (x_iadd H rfl) rfl
 ((x_iaload H rfl).trans (ldI_c fun v1 =>
 U1 rfl ((x_callI (ci := 7) H rfl [.int v1] rfl rfl rfl rfl).trans (isO_c (bi_c fun q2 => rI_c fun v4 h3 =>
 U1 rfl (T1 (x_aload_n H rfl rfl) rfl
 (T1 (x_aload_n H rfl rfl) rfl
 (T1 (x_iload_n H rfl rfl) rfl
 (T1 (x_iconst H rfl ki_1) rfl
 (T1 (x_iadd H rfl) rfl
 ((x_iaload H rfl).trans (ldI_c fun v5 =>
 U1 rfl ((x_callI (ci := 8) H rfl [.int v5] rfl rfl rfl rfl).trans (isO_c (bi_c fun q6 => rI_c fun v8 h7 =>
 U1 rfl ((x_icmp_eq H rfl (t := 1209) (by decide)).trans (if_c
 (U2 [some (.ref a0), some (.ref a1), some (.ref a2), some (.int x3)] rfl rfl)
 (U1 rfl (T1 (x_iconst H rfl ki_0) rfl
 (x_zreturn H rfl rfl))))))))))))))))))))))))
theorem nd_169_220 {c : Ct} {dd : Bool} {ρ : Kt} (H : St c dd mt_169 ρ) (h : AH) (a0 : Nat) (a1 : Nat) (a2 : Nat) (x3 : Int32) : ρ 220 [some (.ref a0), some (.ref a1), some (.ref a2), some (.int x3)] [] h = ldI h a0 (x3 + 1) fun v1 => isO h a1 7 ((c 65 [.ref a1, .int v1] h).bind fun q2 => rI q2 fun v4 h3 => ldI h3 a0 (x3 + 1) fun v5 => isO h3 a2 8 ((c 111 [.ref a2, .int v5] h3).bind fun q6 => rI q6 fun v8 h7 => if v4 = v8 then (ρ 1209 [some (.ref a0), some (.ref a1), some (.ref a2), some (.int x3)] [] h7) else (isZ 0 (some (some (.int 0), h7))))) :=
 T1 (x_aload_n H rfl rfl) rfl
 (T1 (x_aload_n H rfl rfl) rfl
 (T1 (x_iload_n H rfl rfl) rfl
 (T1 (x_iconst H rfl ki_1) rfl
 (T1 (x_iadd H rfl) rfl
 ((x_iaload H rfl).trans (ldI_c fun v1 =>
 U1 rfl ((x_callI (ci := 7) H rfl [.int v1] rfl rfl rfl rfl).trans (isO_c (bi_c fun q2 => rI_c fun v4 h3 =>
 U1 rfl (T1 (x_aload_n H rfl rfl) rfl
 (T1 (x_aload_n H rfl rfl) rfl
 (T1 (x_iload_n H rfl rfl) rfl
 (T1 (x_iconst H rfl ki_1) rfl
 (T1 (x_iadd H rfl) rfl
 ((x_iaload H rfl).trans (ldI_c fun v5 =>
 U1 rfl ((x_callI (ci := 8) H rfl [.int v5] rfl rfl rfl rfl).trans (isO_c (bi_c fun q6 => rI_c fun v8 h7 =>
 U1 rfl ((x_icmp_eq H rfl (t := 1209) (by decide)).trans (if_c
 (U2 [some (.ref a0), some (.ref a1), some (.ref a2), some (.int x3)] rfl rfl)
 (U1 rfl (T1 (x_iconst H rfl ki_0) rfl
 (x_zreturn H rfl rfl))))))))))))))))))))))))
theorem nd_169_243 {c : Ct} {dd : Bool} {ρ : Kt} (H : St c dd mt_169 ρ) (h : AH) (a0 : Nat) (a1 : Nat) (a2 : Nat) (x3 : Int32) : ρ 243 [some (.ref a0), some (.ref a1), some (.ref a2), some (.int x3)] [] h = isO h a1 7 ((c 66 [.ref a1] h).bind fun q1 => rI q1 fun v3 h2 => isO h2 a2 8 ((c 112 [.ref a2] h2).bind fun q4 => rI q4 fun v6 h5 => if v3 = v6 then (ρ 1209 [some (.ref a0), some (.ref a1), some (.ref a2), some (.int x3)] [] h5) else (isZ 0 (some (some (.int 0), h5))))) :=
 T1 (x_aload_n H rfl rfl) rfl
 ((x_callI (ci := 7) H rfl [] rfl rfl rfl rfl).trans (isO_c (bi_c fun q1 => rI_c fun v3 h2 =>
 U1 rfl (T1 (x_aload_n H rfl rfl) rfl
 ((x_callI (ci := 8) H rfl [] rfl rfl rfl rfl).trans (isO_c (bi_c fun q4 => rI_c fun v6 h5 =>
 U1 rfl ((x_icmp_eq H rfl (t := 1209) (by decide)).trans (if_c
 (U2 [some (.ref a0), some (.ref a1), some (.ref a2), some (.int x3)] rfl rfl)
 (U1 rfl (T1 (x_iconst H rfl ki_0) rfl
 (x_zreturn H rfl rfl))))))))))))
theorem nd_169_256 {c : Ct} {dd : Bool} {ρ : Kt} (H : St c dd mt_169 ρ) (h : AH) (a0 : Nat) (a1 : Nat) (a2 : Nat) (x3 : Int32) : ρ 256 [some (.ref a0), some (.ref a1), some (.ref a2), some (.int x3)] [] h = ldI h a0 (x3 + 1) fun v1 => ldI h a0 (x3 + 2) fun v2 => isO h a1 7 ((c 67 [.ref a1, .int v1, .int v2] h).bind fun q3 => rI q3 fun v5 h4 => ldI h4 a0 (x3 + 1) fun v6 => ldI h4 a0 (x3 + 2) fun v7 => isO h4 a2 8 ((c 119 [.ref a2, .int v6, .int v7] h4).bind fun q8 => rI q8 fun v10 h9 => if v5 = v10 then (ρ 1209 [some (.ref a0), some (.ref a1), some (.ref a2), some (.int x3)] [] h9) else (isZ 0 (some (some (.int 0), h9))))) :=
 T1 (x_aload_n H rfl rfl) rfl
 (T1 (x_aload_n H rfl rfl) rfl
 (T1 (x_iload_n H rfl rfl) rfl
 (T1 (x_iconst H rfl ki_1) rfl
 (T1 (x_iadd H rfl) rfl
 ((x_iaload H rfl).trans (ldI_c fun v1 =>
 U1 rfl (T1 (x_aload_n H rfl rfl) rfl
 (T1 (x_iload_n H rfl rfl) rfl
 (T1 (x_iconst H rfl ki_2) rfl
 (T1 (x_iadd H rfl) rfl
 ((x_iaload H rfl).trans (ldI_c fun v2 =>
 U1 rfl ((x_callI (ci := 7) H rfl [.int v1, .int v2] rfl rfl rfl rfl).trans (isO_c (bi_c fun q3 => rI_c fun v5 h4 =>
 U1 rfl (T1 (x_aload_n H rfl rfl) rfl
 (T1 (x_aload_n H rfl rfl) rfl
 (T1 (x_iload_n H rfl rfl) rfl
 (T1 (x_iconst H rfl ki_1) rfl
 (T1 (x_iadd H rfl) rfl
 ((x_iaload H rfl).trans (ldI_c fun v6 =>
 U1 rfl (T1 (x_aload_n H rfl rfl) rfl
 (T1 (x_iload_n H rfl rfl) rfl
 (T1 (x_iconst H rfl ki_2) rfl
 (T1 (x_iadd H rfl) rfl
 ((x_iaload H rfl).trans (ldI_c fun v7 =>
 U1 rfl ((x_callI (ci := 8) H rfl [.int v6, .int v7] rfl rfl rfl rfl).trans (isO_c (bi_c fun q8 => rI_c fun v10 h9 =>
 U1 rfl ((x_icmp_eq H rfl (t := 1209) (by decide)).trans (if_c
 (U2 [some (.ref a0), some (.ref a1), some (.ref a2), some (.int x3)] rfl rfl)
 (U1 rfl (T1 (x_iconst H rfl ki_0) rfl
 (x_zreturn H rfl rfl))))))))))))))))))))))))))))))))))))
theorem nd_169_289 {c : Ct} {dd : Bool} {ρ : Kt} (H : St c dd mt_169 ρ) (h : AH) (a0 : Nat) (a1 : Nat) (a2 : Nat) (x3 : Int32) : ρ 289 [some (.ref a0), some (.ref a1), some (.ref a2), some (.int x3)] [] h = ldI h a0 (x3 + 1) fun v1 => ldI h a0 (x3 + 2) fun v2 => ldI h a0 (x3 + 3) fun v3 => ldI h a0 (x3 + 4) fun v4 => ldI h a0 (x3 + 5) fun v5 => ldI h a0 (x3 + 6) fun v6 => isO h a1 7 ((c 68 [.ref a1, .int v1, .int v2, .int v3, .int v4, .int v5, .int v6] h).bind fun q7 => rI q7 fun v9 h8 => ldI h8 a0 (x3 + 1) fun v10 => ldI h8 a0 (x3 + 2) fun v11 => ldI h8 a0 (x3 + 3) fun v12 => ldI h8 a0 (x3 + 4) fun v13 => ldI h8 a0 (x3 + 5) fun v14 => ldI h8 a0 (x3 + 6) fun v15 => isO h8 a2 8 ((c 121 [.ref a2, .int v10, .int v11, .int v12, .int v13, .int v14, .int v15] h8).bind fun q16 => rI q16 fun v18 h17 => if v9 = v18 then (ρ 1209 [some (.ref a0), some (.ref a1), some (.ref a2), some (.int x3)] [] h17) else (isZ 0 (some (some (.int 0), h17))))) :=
 T1 (x_aload_n H rfl rfl) rfl
 (T1 (x_aload_n H rfl rfl) rfl
 (T1 (x_iload_n H rfl rfl) rfl
 (T1 (x_iconst H rfl ki_1) rfl
 (T1 (x_iadd H rfl) rfl
 ((x_iaload H rfl).trans (ldI_c fun v1 =>
 U1 rfl (T1 (x_aload_n H rfl rfl) rfl
 (T1 (x_iload_n H rfl rfl) rfl
 (T1 (x_iconst H rfl ki_2) rfl
 (T1 (x_iadd H rfl) rfl
 ((x_iaload H rfl).trans (ldI_c fun v2 =>
 U1 rfl (T1 (x_aload_n H rfl rfl) rfl
 (T1 (x_iload_n H rfl rfl) rfl
 (T1 (x_iconst H rfl ki_3) rfl
 (T1 (x_iadd H rfl) rfl
 ((x_iaload H rfl).trans (ldI_c fun v3 =>
 U1 rfl (T1 (x_aload_n H rfl rfl) rfl
 (T1 (x_iload_n H rfl rfl) rfl
 (T1 (x_iconst H rfl ki_4) rfl
 (T1 (x_iadd H rfl) rfl
 ((x_iaload H rfl).trans (ldI_c fun v4 =>
 U1 rfl (T1 (x_aload_n H rfl rfl) rfl
 (T1 (x_iload_n H rfl rfl) rfl
 (T1 (x_iconst H rfl ki_5) rfl
 (T1 (x_iadd H rfl) rfl
 ((x_iaload H rfl).trans (ldI_c fun v5 =>
 U1 rfl (T1 (x_aload_n H rfl rfl) rfl
 (T1 (x_iload_n H rfl rfl) rfl
 (T1 (x_bipush H rfl kb_6) rfl
 (T1 (x_iadd H rfl) rfl
 ((x_iaload H rfl).trans (ldI_c fun v6 =>
 U1 rfl ((x_callI (ci := 7) H rfl [.int v1, .int v2, .int v3, .int v4, .int v5, .int v6] rfl rfl rfl rfl).trans (isO_c (bi_c fun q7 => rI_c fun v9 h8 =>
 U1 rfl (T1 (x_aload_n H rfl rfl) rfl
 (T1 (x_aload_n H rfl rfl) rfl
 (T1 (x_iload_n H rfl rfl) rfl
 (T1 (x_iconst H rfl ki_1) rfl
 (T1 (x_iadd H rfl) rfl
 ((x_iaload H rfl).trans (ldI_c fun v10 =>
 U1 rfl (T1 (x_aload_n H rfl rfl) rfl
 (T1 (x_iload_n H rfl rfl) rfl
 (T1 (x_iconst H rfl ki_2) rfl
 (T1 (x_iadd H rfl) rfl
 ((x_iaload H rfl).trans (ldI_c fun v11 =>
 U1 rfl (T1 (x_aload_n H rfl rfl) rfl
 (T1 (x_iload_n H rfl rfl) rfl
 (T1 (x_iconst H rfl ki_3) rfl
 (T1 (x_iadd H rfl) rfl
 ((x_iaload H rfl).trans (ldI_c fun v12 =>
 U1 rfl (T1 (x_aload_n H rfl rfl) rfl
 (T1 (x_iload_n H rfl rfl) rfl
 (T1 (x_iconst H rfl ki_4) rfl
 (T1 (x_iadd H rfl) rfl
 ((x_iaload H rfl).trans (ldI_c fun v13 =>
 U1 rfl (T1 (x_aload_n H rfl rfl) rfl
 (T1 (x_iload_n H rfl rfl) rfl
 (T1 (x_iconst H rfl ki_5) rfl
 (T1 (x_iadd H rfl) rfl
 ((x_iaload H rfl).trans (ldI_c fun v14 =>
 U1 rfl (T1 (x_aload_n H rfl rfl) rfl
 (T1 (x_iload_n H rfl rfl) rfl
 (T1 (x_bipush H rfl kb_6) rfl
 (T1 (x_iadd H rfl) rfl
 ((x_iaload H rfl).trans (ldI_c fun v15 =>
 U1 rfl ((x_callI (ci := 8) H rfl [.int v10, .int v11, .int v12, .int v13, .int v14, .int v15] rfl rfl rfl rfl).trans (isO_c (bi_c fun q16 => rI_c fun v18 h17 =>
 U1 rfl ((x_icmp_eq H rfl (t := 1209) (by decide)).trans (if_c
 (U2 [some (.ref a0), some (.ref a1), some (.ref a2), some (.int x3)] rfl rfl)
 (U1 rfl (T1 (x_iconst H rfl ki_0) rfl
 (x_zreturn H rfl rfl))))))))))))))))))))))))))))))))))))))))))))))))))))))))))))))))))))))))))))))))))))
theorem nd_169_364 {c : Ct} {dd : Bool} {ρ : Kt} (H : St c dd mt_169 ρ) (h : AH) (a0 : Nat) (a1 : Nat) (a2 : Nat) (x3 : Int32) : ρ 364 [some (.ref a0), some (.ref a1), some (.ref a2), some (.int x3)] [] h = ldI h a0 (x3 + 1) fun v1 => ldI h a0 (x3 + 2) fun v2 => ldI h a0 (x3 + 3) fun v3 => if v3 = 0 then (ρ 388 [some (.ref a0), some (.ref a1), some (.ref a2), some (.int x3)] [.int 0, .int v2, .int v1, .ref a1] h) else (ρ 388 [some (.ref a0), some (.ref a1), some (.ref a2), some (.int x3)] [.int 1, .int v2, .int v1, .ref a1] h) :=
 T1 (x_aload_n H rfl rfl) rfl
 (T1 (x_aload_n H rfl rfl) rfl
 (T1 (x_iload_n H rfl rfl) rfl
 (T1 (x_iconst H rfl ki_1) rfl
 (T1 (x_iadd H rfl) rfl
 ((x_iaload H rfl).trans (ldI_c fun v1 =>
 U1 rfl (T1 (x_aload_n H rfl rfl) rfl
 (T1 (x_iload_n H rfl rfl) rfl
 (T1 (x_iconst H rfl ki_2) rfl
 (T1 (x_iadd H rfl) rfl
 ((x_iaload H rfl).trans (ldI_c fun v2 =>
 U1 rfl (T1 (x_aload_n H rfl rfl) rfl
 (T1 (x_iload_n H rfl rfl) rfl
 (T1 (x_iconst H rfl ki_3) rfl
 (T1 (x_iadd H rfl) rfl
 ((x_iaload H rfl).trans (ldI_c fun v3 =>
 U1 rfl ((x_if_eq H rfl (t := 387) (by decide)).trans (if_c
 (U1 rfl (T2 [some (.ref a0), some (.ref a1), some (.ref a2), some (.int x3)] (x_iconst H rfl ki_0) rfl rfl))
 (U1 rfl (T1 (x_iconst H rfl ki_1) rfl
 (T2 [some (.ref a0), some (.ref a1), some (.ref a2), some (.int x3)] (x_goto H rfl (t := 388) (by decide)) rfl rfl)))))))))))))))))))))))
theorem nd_169_423 {c : Ct} {dd : Bool} {ρ : Kt} (H : St c dd mt_169 ρ) (h : AH) (a0 : Nat) (a1 : Nat) (a2 : Nat) (x3 : Int32) : ρ 423 [some (.ref a0), some (.ref a1), some (.ref a2), some (.int x3)] [] h = ldI h a0 (x3 + 1) fun v1 => ldI h a0 (x3 + 2) fun v2 => isO h a1 7 ((c 70 [.ref a1, .int v1, .int v2] h).bind fun q3 => rI q3 fun v5 h4 => ldI h4 a0 (x3 + 1) fun v6 => ldI h4 a0 (x3 + 2) fun v7 => isO h4 a2 8 ((c 123 [.ref a2, .int v6, .int v7] h4).bind fun q8 => rI q8 fun v10 h9 => if v5 = v10 then (ρ 1209 [some (.ref a0), some (.ref a1), some (.ref a2), some (.int x3)] [] h9) else (isZ 0 (some (some (.int 0), h9))))) :=
 T1 (x_aload_n H rfl rfl) rfl
 (T1 (x_aload_n H rfl rfl) rfl
 (T1 (x_iload_n H rfl rfl) rfl
 (T1 (x_iconst H rfl ki_1) rfl
 (T1 (x_iadd H rfl) rfl
 ((x_iaload H rfl).trans (ldI_c fun v1 =>
 U1 rfl (T1 (x_aload_n H rfl rfl) rfl
 (T1 (x_iload_n H rfl rfl) rfl
 (T1 (x_iconst H rfl ki_2) rfl
 (T1 (x_iadd H rfl) rfl
 ((x_iaload H rfl).trans (ldI_c fun v2 =>
 U1 rfl ((x_callI (ci := 7) H rfl [.int v1, .int v2] rfl rfl rfl rfl).trans (isO_c (bi_c fun q3 => rI_c fun v5 h4 =>
 U1 rfl (T1 (x_aload_n H rfl rfl) rfl
 (T1 (x_aload_n H rfl rfl) rfl
 (T1 (x_iload_n H rfl rfl) rfl
 (T1 (x_iconst H rfl ki_1) rfl
 (T1 (x_iadd H rfl) rfl
 ((x_iaload H rfl).trans (ldI_c fun v6 =>
 U1 rfl (T1 (x_aload_n H rfl rfl) rfl
 (T1 (x_iload_n H rfl rfl) rfl
 (T1 (x_iconst H rfl ki_2) rfl
 (T1 (x_iadd H rfl) rfl
 ((x_iaload H rfl).trans (ldI_c fun v7 =>
 U1 rfl ((x_callI (ci := 8) H rfl [.int v6, .int v7] rfl rfl rfl rfl).trans (isO_c (bi_c fun q8 => rI_c fun v10 h9 =>
 U1 rfl ((x_icmp_eq H rfl (t := 1209) (by decide)).trans (if_c
 (U2 [some (.ref a0), some (.ref a1), some (.ref a2), some (.int x3)] rfl rfl)
 (U1 rfl (T1 (x_iconst H rfl ki_0) rfl
 (x_zreturn H rfl rfl))))))))))))))))))))))))))))))))))))
theorem nd_169_456 {c : Ct} {dd : Bool} {ρ : Kt} (H : St c dd mt_169 ρ) (h : AH) (a0 : Nat) (a1 : Nat) (a2 : Nat) (x3 : Int32) : ρ 456 [some (.ref a0), some (.ref a1), some (.ref a2), some (.int x3)] [] h = ldI h a0 (x3 + 1) fun v1 => ldI h a0 (x3 + 2) fun v2 => ldI h a0 (x3 + 3) fun v3 => ldI h a0 (x3 + 4) fun v4 => ldI h a0 (x3 + 5) fun v5 => isO h a1 7 ((c 71 [.ref a1, .int v1, .int v2, .int v3, .int v4, .int v5] h).bind fun q6 => rI q6 fun v8 h7 => ldI h7 a0 (x3 + 1) fun v9 => ldI h7 a0 (x3 + 2) fun v10 => ldI h7 a0 (x3 + 3) fun v11 => ldI h7 a0 (x3 + 4) fun v12 => ldI h7 a0 (x3 + 5) fun v13 => isO h7 a2 8 ((c 124 [.ref a2, .int v9, .int v10, .int v11, .int v12, .int v13] h7).bind fun q14 => rI q14 fun v16 h15 => if v8 = v16 then (ρ 1209 [some (.ref a0), some (.ref a1), some (.ref a2), some (.int x3)] [] h15) else (isZ 0 (some (some (.int 0), h15))))) :=
 T1 (x_aload_n H rfl rfl) rfl
 (T1 (x_aload_n H rfl rfl) rfl
 (T1 (x_iload_n H rfl rfl) rfl
 (T1 (x_iconst H rfl ki_1) rfl
 (T1 (x_iadd H rfl) rfl
 ((x_iaload H rfl).trans (ldI_c fun v1 =>
 U1 rfl (T1 (x_aload_n H rfl rfl) rfl
 (T1 (x_iload_n H rfl rfl) rfl
 (T1 (x_iconst H rfl ki_2) rfl
 (T1 (x_iadd H rfl) rfl
 ((x_iaload H rfl).trans (ldI_c fun v2 =>
 U1 rfl (T1 (x_aload_n H rfl rfl) rfl
 (T1 (x_iload_n H rfl rfl) rfl
 (T1 (x_iconst H rfl ki_3) rfl
 (T1 (x_iadd H rfl) rfl
 ((x_iaload H rfl).trans (ldI_c fun v3 =>
 U1 rfl (T1 (x_aload_n H rfl rfl) rfl
 (T1 (x_iload_n H rfl rfl) rfl
 (T1 (x_iconst H rfl ki_4) rfl
 (T1 (x_iadd H rfl) rfl
 ((x_iaload H rfl).trans (ldI_c fun v4 =>
 U1 rfl (T1 (x_aload_n H rfl rfl) rfl
 (T1 (x_iload_n H rfl rfl) rfl
 (T1 (x_iconst H rfl ki_5) rfl
 (T1 (x_iadd H rfl) rfl
 ((x_iaload H rfl).trans (ldI_c fun v5 =>
 U1 rfl ((x_callI (ci := 7) H rfl [.int v1, .int v2, .int v3, .int v4, .int v5] rfl rfl rfl rfl).trans (isO_c (bi_c fun q6 => rI_c fun v8 h7 =>
 U1 rfl (T1 (x_aload_n H rfl rfl) rfl
 (T1 (x_aload_n H rfl rfl) rfl
 (T1 (x_iload_n H rfl rfl) rfl
 (T1 (x_iconst H rfl ki_1) rfl
 (T1 (x_iadd H rfl) rfl
 ((x_iaload H rfl).trans (ldI_c fun v9 =>
 U1 rfl (T1 (x_aload_n H rfl rfl) rfl
 (T1 (x_iload_n H rfl rfl) rfl
 (T1 (x_iconst H rfl ki_2) rfl
 (T1 (x_iadd H rfl) rfl
 ((x_iaload H rfl).trans (ldI_c fun v10 =>
 U1 rfl (T1 (x_aload_n H rfl rfl) rfl
 (T1 (x_iload_n H rfl rfl) rfl
 (T1 (x_iconst H rfl ki_3) rfl
 (T1 (x_iadd H rfl) rfl
 ((x_iaload H rfl).trans (ldI_c fun v11 =>
 U1 rfl (T1 (x_aload_n H rfl rfl) rfl
 (T1 (x_iload_n H rfl rfl) rfl
 (T1 (x_iconst H rfl ki_4) rfl
 (T1 (x_iadd H rfl) rfl
 ((x_iaload H rfl).trans (ldI_c fun v12 =>
 U1 rfl (T1 (x_aload_n H rfl rfl) rfl
 (T1 (x_iload_n H rfl rfl) rfl
 (T1 (x_iconst H rfl ki_5) rfl
 (T1 (x_iadd H rfl) rfl
 ((x_iaload H rfl).trans (ldI_c fun v13 =>
 U1 rfl ((x_callI (ci := 8) H rfl [.int v9, .int v10, .int v11, .int v12, .int v13] rfl rfl rfl rfl).trans (isO_c (bi_c fun q14 => rI_c fun v16 h15 =>
 U1 rfl ((x_icmp_eq H rfl (t := 1209) (by decide)).trans (if_c
 (U2 [some (.ref a0), some (.ref a1), some (.ref a2), some (.int x3)] rfl rfl)
 (U1 rfl (T1 (x_iconst H rfl ki_0) rfl
 (x_zreturn H rfl rfl))))))))))))))))))))))))))))))))))))))))))))))))))))))))))))))))))))))))
theorem nd_169_519 {c : Ct} {dd : Bool} {ρ : Kt} (H : St c dd mt_169 ρ) (h : AH) (a0 : Nat) (a1 : Nat) (a2 : Nat) (x3 : Int32) : ρ 519 [some (.ref a0), some (.ref a1), some (.ref a2), some (.int x3)] [] h = isO h a1 7 ((c 72 [.ref a1] h).bind fun q1 => rI q1 fun v3 h2 => isO h2 a2 8 ((c 125 [.ref a2] h2).bind fun q4 => rI q4 fun v6 h5 => if v3 = v6 then (ρ 1209 [some (.ref a0), some (.ref a1), some (.ref a2), some (.int x3)] [] h5) else (isZ 0 (some (some (.int 0), h5))))) :=
 T1 (x_aload_n H rfl rfl) rfl
 ((x_callI (ci := 7) H rfl [] rfl rfl rfl rfl).trans (isO_c (bi_c fun q1 => rI_c fun v3 h2 =>
 U1 rfl (T1 (x_aload_n H rfl rfl) rfl
 ((x_callI (ci := 8) H rfl [] rfl rfl rfl rfl).trans (isO_c (bi_c fun q4 => rI_c fun v6 h5 =>
 U1 rfl ((x_icmp_eq H rfl (t := 1209) (by decide)).trans (if_c
 (U2 [some (.ref a0), some (.ref a1), some (.ref a2), some (.int x3)] rfl rfl)
 (U1 rfl (T1 (x_iconst H rfl ki_0) rfl
 (x_zreturn H rfl rfl))))))))))))
theorem nd_169_532 {c : Ct} {dd : Bool} {ρ : Kt} (H : St c dd mt_169 ρ) (h : AH) (a0 : Nat) (a1 : Nat) (a2 : Nat) (x3 : Int32) : ρ 532 [some (.ref a0), some (.ref a1), some (.ref a2), some (.int x3)] [] h = ldI h a0 (x3 + 1) fun v1 => isO h a1 7 ((c 73 [.ref a1, .int v1] h).bind fun q2 => rI q2 fun v4 h3 => ldI h3 a0 (x3 + 1) fun v5 => isO h3 a2 8 ((c 126 [.ref a2, .int v5] h3).bind fun q6 => rI q6 fun v8 h7 => if v4 = v8 then (ρ 1209 [some (.ref a0), some (.ref a1), some (.ref a2), some (.int x3)] [] h7) else (isZ 0 (some (some (.int 0), h7))))) :=
 T1 (x_aload_n H rfl rfl) rfl
 (T1 (x_aload_n H rfl rfl) rfl
 (T1 (x_iload_n H rfl rfl) rfl
 (T1 (x_iconst H rfl ki_1) rfl
 (T1 (x_iadd H rfl) rfl
 ((x_iaload H rfl).trans (ldI_c fun v1 =>
 U1 rfl ((x_callI (ci := 7) H rfl [.int v1] rfl rfl rfl rfl).trans (isO_c (bi_c fun q2 => rI_c fun v4 h3 =>
 U1 rfl (T1 (x_aload_n H rfl rfl) rfl
 (T1 (x_aload_n H rfl rfl) rfl
 (T1 (x_iload_n H rfl rfl) rfl
 (T1 (x_iconst H rfl ki_1) rfl
 (T1 (x_iadd H rfl) rfl
 ((x_iaload H rfl).trans (ldI_c fun v5 =>
 U1 rfl ((x_callI (ci := 8) H rfl [.int v5] rfl rfl rfl rfl).trans (isO_c (bi_c fun q6 => rI_c fun v8 h7 =>
 U1 rfl ((x_icmp_eq H rfl (t := 1209) (by decide)).trans (if_c
 (U2 [some (.ref a0), some (.ref a1), some (.ref a2), some (.int x3)] rfl rfl)
 (U1 rfl (T1 (x_iconst H rfl ki_0) rfl
 (x_zreturn H rfl rfl))))))))))))))))))))))))
theorem nd_169_555 {c : Ct} {dd : Bool} {ρ : Kt} (H : St c dd mt_169 ρ) (h : AH) (a0 : Nat) (a1 : Nat) (a2 : Nat) (x3 : Int32) : ρ 555 [some (.ref a0), some (.ref a1), some (.ref a2), some (.int x3)] [] h = ldI h a0 (x3 + 1) fun v1 => ldI h a0 (x3 + 2) fun v2 => ldI h a0 (x3 + 3) fun v3 => isO h a1 7 ((c 74 [.ref a1, .int v1, .int v2, .int v3] h).bind fun q4 => rI q4 fun v6 h5 => ldI h5 a0 (x3 + 1) fun v7 => ldI h5 a0 (x3 + 2) fun v8 => ldI h5 a0 (x3 + 3) fun v9 => isO h5 a2 8 ((c 128 [.ref a2, .int v7, .int v8, .int v9] h5).bind fun q10 => rI q10 fun v12 h11 => if v6 = v12 then (ρ 1209 [some (.ref a0), some (.ref a1), some (.ref a2), some (.int x3)] [] h11) else (isZ 0 (some (some (.int 0), h11))))) :=
 T1 (x_aload_n H rfl rfl) rfl
 (T1 (x_aload_n H rfl rfl) rfl
 (T1 (x_iload_n H rfl rfl) rfl
 (T1 (x_iconst H rfl ki_1) rfl
 (T1 (x_iadd H rfl) rfl
 ((x_iaload H rfl).trans (ldI_c fun v1 =>
 U1 rfl (T1 (x_aload_n H rfl rfl) rfl
 (T1 (x_iload_n H rfl rfl) rfl
 (T1 (x_iconst H rfl ki_2) rfl
 (T1 (x_iadd H rfl) rfl
 ((x_iaload H rfl).trans (ldI_c fun v2 =>
 U1 rfl (T1 (x_aload_n H rfl rfl) rfl
 (T1 (x_iload_n H rfl rfl) rfl
 (T1 (x_iconst H rfl ki_3) rfl
 (T1 (x_iadd H rfl) rfl
 ((x_iaload H rfl).trans (ldI_c fun v3 =>
 U1 rfl ((x_callI (ci := 7) H rfl [.int v1, .int v2, .int v3] rfl rfl rfl rfl).trans (isO_c (bi_c fun q4 => rI_c fun v6 h5 =>
 U1 rfl (T1 (x_aload_n H rfl rfl) rfl
 (T1 (x_aload_n H rfl rfl) rfl
 (T1 (x_iload_n H rfl rfl) rfl
 (T1 (x_iconst H rfl ki_1) rfl
 (T1 (x_iadd H rfl) rfl
 ((x_iaload H rfl).trans (ldI_c fun v7 =>
 U1 rfl (T1 (x_aload_n H rfl rfl) rfl
 (T1 (x_iload_n H rfl rfl) rfl
 (T1 (x_iconst H rfl ki_2) rfl
 (T1 (x_iadd H rfl) rfl
 ((x_iaload H rfl).trans (ldI_c fun v8 =>
 U1 rfl (T1 (x_aload_n H rfl rfl) rfl
 (T1 (x_iload_n H rfl rfl) rfl
 (T1 (x_iconst H rfl ki_3) rfl
 (T1 (x_iadd H rfl) rfl
 ((x_iaload H rfl).trans (ldI_c fun v9 =>
 U1 rfl ((x_callI (ci := 8) H rfl [.int v7, .int v8, .int v9] rfl rfl rfl rfl).trans (isO_c (bi_c fun q10 => rI_c fun v12 h11 =>
 U1 rfl ((x_icmp_eq H rfl (t := 1209) (by decide)).trans (if_c
 (U2 [some (.ref a0), some (.ref a1), some (.ref a2), some (.int x3)] rfl rfl)
 (U1 rfl (T1 (x_iconst H rfl ki_0) rfl
 (x_zreturn H rfl rfl))))))))))))))))))))))))))))))))))))))))))))))))
theorem nd_169_598 {c : Ct} {dd : Bool} {ρ : Kt} (H : St c dd mt_169 ρ) (h : AH) (a0 : Nat) (a1 : Nat) (a2 : Nat) (x3 : Int32) : ρ 598 [some (.ref a0), some (.ref a1), some (.ref a2), some (.int x3)] [] h = ldI h a0 (x3 + 1) fun v1 => ldI h a0 (x3 + 2) fun v2 => isO h a1 7 ((c 79 [.ref a1, .int v1, .int v2] h).bind fun q3 => rI q3 fun v5 h4 => ldI h4 a0 (x3 + 1) fun v6 => ldI h4 a0 (x3 + 2) fun v7 => isO h4 a2 8 ((c 132 [.ref a2, .int v6, .int v7] h4).bind fun q8 => rI q8 fun v10 h9 => if v5 = v10 then (ρ 1209 [some (.ref a0), some (.ref a1), some (.ref a2), some (.int x3)] [] h9) else (isZ 0 (some (some (.int 0), h9))))) :=
 T1 (x_aload_n H rfl rfl) rfl
 (T1 (x_aload_n H rfl rfl) rfl
 (T1 (x_iload_n H rfl rfl) rfl
 (T1 (x_iconst H rfl ki_1) rfl
 (T1 (x_iadd H rfl) rfl
 ((x_iaload H rfl).trans (ldI_c fun v1 =>
 U1 rfl (T1 (x_aload_n H rfl rfl) rfl
 (T1 (x_iload_n H rfl rfl) rfl
 (T1 (x_iconst H rfl ki_2) rfl
 (T1 (x_iadd H rfl) rfl
 ((x_iaload H rfl).trans (ldI_c fun v2 =>
 U1 rfl ((x_callI (ci := 7) H rfl [.int v1, .int v2] rfl rfl rfl rfl).trans (isO_c (bi_c fun q3 => rI_c fun v5 h4 =>
 U1 rfl (T1 (x_aload_n H rfl rfl) rfl
 (T1 (x_aload_n H rfl rfl) rfl
 (T1 (x_iload_n H rfl rfl) rfl
 (T1 (x_iconst H rfl ki_1) rfl
 (T1 (x_iadd H rfl) rfl
 ((x_iaload H rfl).trans (ldI_c fun v6 =>
 U1 rfl (T1 (x_aload_n H rfl rfl) rfl
 (T1 (x_iload_n H rfl rfl) rfl
 (T1 (x_iconst H rfl ki_2) rfl
 (T1 (x_iadd H rfl) rfl
 ((x_iaload H rfl).trans (ldI_c fun v7 =>
 U1 rfl ((x_callI (ci := 8) H rfl [.int v6, .int v7] rfl rfl rfl rfl).trans (isO_c (bi_c fun q8 => rI_c fun v10 h9 =>
 U1 rfl ((x_icmp_eq H rfl (t := 1209) (by decide)).trans (if_c
 (U2 [some (.ref a0), some (.ref a1), some (.ref a2), some (.int x3)] rfl rfl)
 (U1 rfl (T1 (x_iconst H rfl ki_0) rfl
 (x_zreturn H rfl rfl))))))))))))))))))))))))))))))))))))
theorem nd_169_631 {c : Ct} {dd : Bool} {ρ : Kt} (H : St c dd mt_169 ρ) (h : AH) (a0 : Nat) (a1 : Nat) (a2 : Nat) (x3 : Int32) : ρ 631 [some (.ref a0), some (.ref a1), some (.ref a2), some (.int x3)] [] h = ldI h a0 (x3 + 1) fun v1 => ldI h a0 (x3 + 2) fun v2 => ldI h a0 (x3 + 3) fun v3 => isO h a1 7 ((c 80 [.ref a1, .int v1, .int v2, .int v3] h).bind fun q4 => rI q4 fun v6 h5 => ldI h5 a0 (x3 + 1) fun v7 => ldI h5 a0 (x3 + 2) fun v8 => ldI h5 a0 (x3 + 3) fun v9 => isO h5 a2 8 ((c 133 [.ref a2, .int v7, .int v8, .int v9] h5).bind fun q10 => rI q10 fun v12 h11 => if v6 = v12 then (ρ 1209 [some (.ref a0), some (.ref a1), some (.ref a2), some (.int x3)] [] h11) else (isZ 0 (some (some (.int 0), h11))))) :=
 T1 (x_aload_n H rfl rfl) rfl
 (T1 (x_aload_n H rfl rfl) rfl
 (T1 (x_iload_n H rfl rfl) rfl
 (T1 (x_iconst H rfl ki_1) rfl
 (T1 (x_iadd H rfl) rfl
 ((x_iaload H rfl).trans (ldI_c fun v1 =>
 U1 rfl (T1 (x_aload_n H rfl rfl) rfl
 (T1 (x_iload_n H rfl rfl) rfl
 (T1 (x_iconst H rfl ki_2) rfl
 (T1 (x_iadd H rfl) rfl
 ((x_iaload H rfl).trans (ldI_c fun v2 =>
 U1 rfl (T1 (x_aload_n H rfl rfl) rfl
 (T1 (x_iload_n H rfl rfl) rfl
 (T1 (x_iconst H rfl ki_3) rfl
 (T1 (x_iadd H rfl) rfl
 ((x_iaload H rfl).trans (ldI_c fun v3 =>
 U1 rfl ((x_callI (ci := 7) H rfl [.int v1, .int v2, .int v3] rfl rfl rfl rfl).trans (isO_c (bi_c fun q4 => rI_c fun v6 h5 =>
 U1 rfl (T1 (x_aload_n H rfl rfl) rfl
 (T1 (x_aload_n H rfl rfl) rfl
 (T1 (x_iload_n H rfl rfl) rfl
 (T1 (x_iconst H rfl ki_1) rfl
 (T1 (x_iadd H rfl) rfl
 ((x_iaload H rfl).trans (ldI_c fun v7 =>
 U1 rfl (T1 (x_aload_n H rfl rfl) rfl
 (T1 (x_iload_n H rfl rfl) rfl
 (T1 (x_iconst H rfl ki_2) rfl
 (T1 (x_iadd H rfl) rfl
 ((x_iaload H rfl).trans (ldI_c fun v8 =>
 U1 rfl (T1 (x_aload_n H rfl rfl) rfl
 (T1 (x_iload_n H rfl rfl) rfl
 (T1 (x_iconst H rfl ki_3) rfl
 (T1 (x_iadd H rfl) rfl
 ((x_iaload H rfl).trans (ldI_c fun v9 =>
 U1 rfl ((x_callI (ci := 8) H rfl [.int v7, .int v8, .int v9] rfl rfl rfl rfl).trans (isO_c (bi_c fun q10 => rI_c fun v12 h11 =>
 U1 rfl ((x_icmp_eq H rfl (t := 1209) (by decide)).trans (if_c
 (U2 [some (.ref a0), some (.ref a1), some (.ref a2), some (.int x3)] rfl rfl)
 (U1 rfl (T1 (x_iconst H rfl ki_0) rfl
 (x_zreturn H rfl rfl))))))))))))))))))))))))))))))))))))))))))))))))
theorem nd_169_674 {c : Ct} {dd : Bool} {ρ : Kt} (H : St c dd mt_169 ρ) (h : AH) (a0 : Nat) (a1 : Nat) (a2 : Nat) (x3 : Int32) : ρ 674 [some (.ref a0), some (.ref a1), some (.ref a2), some (.int x3)] [] h = ldI h a0 (x3 + 1) fun v1 => isO h a1 7 ((c 81 [.ref a1, .int v1] h).bind fun q2 => rI q2 fun v4 h3 => ldI h3 a0 (x3 + 1) fun v5 => isO h3 a2 8 ((c 152 [.ref a2, .int v5] h3).bind fun q6 => rI q6 fun v8 h7 => if v4 = v8 then (ρ 1209 [some (.ref a0), some (.ref a1), some (.ref a2), some (.int x3)] [] h7) else (isZ 0 (some (some (.int 0), h7))))) :=
 T1 (x_aload_n H rfl rfl) rfl
 (T1 (x_aload_n H rfl rfl) rfl
 (T1 (x_iload_n H rfl rfl) rfl
 (T1 (x_iconst H rfl ki_1) rfl
 (T1 (x_iadd H rfl) rfl
 ((x_iaload H rfl).trans (ldI_c fun v1 =>
 U1 rfl ((x_callI (ci := 7) H rfl [.int v1] rfl rfl rfl rfl).trans (isO_c (bi_c fun q2 => rI_c fun v4 h3 =>
 U1 rfl (T1 (x_aload_n H rfl rfl) rfl
 (T1 (x_aload_n H rfl rfl) rfl
 (T1 (x_iload_n H rfl rfl) rfl
 (T1 (x_iconst H rfl ki_1) rfl
 (T1 (x_iadd H rfl) rfl
 ((x_iaload H rfl).trans (ldI_c fun v5 =>
 U1 rfl ((x_callI (ci := 8) H rfl [.int v5] rfl rfl rfl rfl).trans (isO_c (bi_c fun q6 => rI_c fun v8 h7 =>
 U1 rfl ((x_icmp_eq H rfl (t := 1209) (by decide)).trans (if_c
 (U2 [some (.ref a0), some (.ref a1), some (.ref a2), some (.int x3)] rfl rfl)
 (U1 rfl (T1 (x_iconst H rfl ki_0) rfl
 (x_zreturn H rfl rfl))))))))))))))))))))))))
theorem nd_169_697 {c : Ct} {dd : Bool} {ρ : Kt} (H : St c dd mt_169 ρ) (h : AH) (a0 : Nat) (a1 : Nat) (a2 : Nat) (x3 : Int32) : ρ 697 [some (.ref a0), some (.ref a1), some (.ref a2), some (.int x3)] [] h = ldI h a0 (x3 + 1) fun v1 => ldI h a0 (x3 + 2) fun v2 => isO h a1 7 ((c 84 [.ref a1, .int v1, .int v2] h).bind fun q3 => rI q3 fun v5 h4 => ldI h4 a0 (x3 + 1) fun v6 => ldI h4 a0 (x3 + 2) fun v7 => isO h4 a2 8 ((c 153 [.ref a2, .int v6, .int v7] h4).bind fun q8 => rI q8 fun v10 h9 => if v5 = v10 then (ρ 1209 [some (.ref a0), some (.ref a1), some (.ref a2), some (.int x3)] [] h9) else (isZ 0 (some (some (.int 0), h9))))) :=
 T1 (x_aload_n H rfl rfl) rfl
 (T1 (x_aload_n H rfl rfl) rfl
 (T1 (x_iload_n H rfl rfl) rfl
 (T1 (x_iconst H rfl ki_1) rfl
 (T1 (x_iadd H rfl) rfl
 ((x_iaload H rfl).trans (ldI_c fun v1 =>
 U1 rfl (T1 (x_aload_n H rfl rfl) rfl
 (T1 (x_iload_n H rfl rfl) rfl
 (T1 (x_iconst H rfl ki_2) rfl
 (T1 (x_iadd H rfl) rfl
 ((x_iaload H rfl).trans (ldI_c fun v2 =>
 U1 rfl ((x_callI (ci := 7) H rfl [.int v1, .int v2] rfl rfl rfl rfl).trans (isO_c (bi_c fun q3 => rI_c fun v5 h4 =>
 U1 rfl (T1 (x_aload_n H rfl rfl) rfl
 (T1 (x_aload_n H rfl rfl) rfl
 (T1 (x_iload_n H rfl rfl) rfl
 (T1 (x_iconst H rfl ki_1) rfl
 (T1 (x_iadd H rfl) rfl
 ((x_iaload H rfl).trans (ldI_c fun v6 =>
 U1 rfl (T1 (x_aload_n H rfl rfl) rfl
 (T1 (x_iload_n H rfl rfl) rfl
 (T1 (x_iconst H rfl ki_2) rfl
 (T1 (x_iadd H rfl) rfl
 ((x_iaload H rfl).trans (ldI_c fun v7 =>
 U1 rfl ((x_callI (ci := 8) H rfl [.int v6, .int v7] rfl rfl rfl rfl).trans (isO_c (bi_c fun q8 => rI_c fun v10 h9 =>
 U1 rfl ((x_icmp_eq H rfl (t := 1209) (by decide)).trans (if_c
 (U2 [some (.ref a0), some (.ref a1), some (.ref a2), some (.int x3)] rfl rfl)
 (U1 rfl (T1 (x_iconst H rfl ki_0) rfl
 (x_zreturn H rfl rfl))))))))))))))))))))))))))))))))))))
theorem nd_169_730 {c : Ct} {dd : Bool} {ρ : Kt} (H : St c dd mt_169 ρ) (h : AH) (a0 : Nat) (a1 : Nat) (a2 : Nat) (x3 : Int32) : ρ 730 [some (.ref a0), some (.ref a1), some (.ref a2), some (.int x3)] [] h = ldI h a0 (x3 + 1) fun v1 => isO h a1 7 ((c 85 [.ref a1, .int v1] h).bind fun q2 => rI q2 fun v4 h3 => ldI h3 a0 (x3 + 1) fun v5 => isO h3 a2 8 ((c 154 [.ref a2, .int v5] h3).bind fun q6 => rI q6 fun v8 h7 => if v4 = v8 then (ρ 1209 [some (.ref a0), some (.ref a1), some (.ref a2), some (.int x3)] [] h7) else (isZ 0 (some (some (.int 0), h7))))) :=
 T1 (x_aload_n H rfl rfl) rfl
 (T1 (x_aload_n H rfl rfl) rfl
 (T1 (x_iload_n H rfl rfl) rfl
 (T1 (x_iconst H rfl ki_1) rfl
 (T1 (x_iadd H rfl) rfl
 ((x_iaload H rfl).trans (ldI_c fun v1 =>
 U1 rfl ((x_callI (ci := 7) H rfl [.int v1] rfl rfl rfl rfl).trans (isO_c (bi_c fun q2 => rI_c fun v4 h3 =>
 U1 rfl (T1 (x_aload_n H rfl rfl) rfl
 (T1 (x_aload_n H rfl rfl) rfl
 (T1 (x_iload_n H rfl rfl) rfl
 (T1 (x_iconst H rfl ki_1) rfl
 (T1 (x_iadd H rfl) rfl
 ((x_iaload H rfl).trans (ldI_c fun v5 =>
 U1 rfl ((x_callI (ci := 8) H rfl [.int v5] rfl rfl rfl rfl).trans (isO_c (bi_c fun q6 => rI_c fun v8 h7 =>
 U1 rfl ((x_icmp_eq H rfl (t := 1209) (by decide)).trans (if_c
 (U2 [some (.ref a0), some (.ref a1), some (.ref a2), some (.int x3)] rfl rfl)
 (U1 rfl (T1 (x_iconst H rfl ki_0) rfl
 (x_zreturn H rfl rfl))))))))))))))))))))))))
theorem nd_169_753 {c : Ct} {dd : Bool} {ρ : Kt} (H : St c dd mt_169 ρ) (h : AH) (a0 : Nat) (a1 : Nat) (a2 : Nat) (x3 : Int32) : ρ 753 [some (.ref a0), some (.ref a1), some (.ref a2), some (.int x3)] [] h = ldI h a0 (x3 + 1) fun v1 => ldI h a0 (x3 + 2) fun v2 => ldI h a0 (x3 + 3) fun v3 => isO h a1 7 ((c 86 [.ref a1, .int v1, .int v2, .int v3] h).bind fun q4 => rI q4 fun v6 h5 => ldI h5 a0 (x3 + 1) fun v7 => ldI h5 a0 (x3 + 2) fun v8 => ldI h5 a0 (x3 + 3) fun v9 => isO h5 a2 8 ((c 155 [.ref a2, .int v7, .int v8, .int v9] h5).bind fun q10 => rI q10 fun v12 h11 => if v6 = v12 then (ρ 1209 [some (.ref a0), some (.ref a1), some (.ref a2), some (.int x3)] [] h11) else (isZ 0 (some (some (.int 0), h11))))) :=
 T1 (x_aload_n H rfl rfl) rfl
 (T1 (x_aload_n H rfl rfl) rfl
 (T1 (x_iload_n H rfl rfl) rfl
 (T1 (x_iconst H rfl ki_1) rfl
 (T1 (x_iadd H rfl) rfl
 ((x_iaload H rfl).trans (ldI_c fun v1 =>
 U1 rfl (T1 (x_aload_n H rfl rfl) rfl
 (T1 (x_iload_n H rfl rfl) rfl
 (T1 (x_iconst H rfl ki_2) rfl
 (T1 (x_iadd H rfl) rfl
 ((x_iaload H rfl).trans (ldI_c fun v2 =>
 U1 rfl (T1 (x_aload_n H rfl rfl) rfl
 (T1 (x_iload_n H rfl rfl) rfl
 (T1 (x_iconst H rfl ki_3) rfl
 (T1 (x_iadd H rfl) rfl
 ((x_iaload H rfl).trans (ldI_c fun v3 =>
 U1 rfl ((x_callI (ci := 7) H rfl [.int v1, .int v2, .int v3] rfl rfl rfl rfl).trans (isO_c (bi_c fun q4 => rI_c fun v6 h5 =>
 U1 rfl (T1 (x_aload_n H rfl rfl) rfl
 (T1 (x_aload_n H rfl rfl) rfl
 (T1 (x_iload_n H rfl rfl) rfl
 (T1 (x_iconst H rfl ki_1) rfl
 (T1 (x_iadd H rfl) rfl
 ((x_iaload H rfl).trans (ldI_c fun v7 =>
 U1 rfl (T1 (x_aload_n H rfl rfl) rfl
 (T1 (x_iload_n H rfl rfl) rfl
 (T1 (x_iconst H rfl ki_2) rfl
 (T1 (x_iadd H rfl) rfl
 ((x_iaload H rfl).trans (ldI_c fun v8 =>
 U1 rfl (T1 (x_aload_n H rfl rfl) rfl
 (T1 (x_iload_n H rfl rfl) rfl
 (T1 (x_iconst H rfl ki_3) rfl
 (T1 (x_iadd H rfl) rfl
 ((x_iaload H rfl).trans (ldI_c fun v9 =>
 U1 rfl ((x_callI (ci := 8) H rfl [.int v7, .int v8, .int v9] rfl rfl rfl rfl).trans (isO_c (bi_c fun q10 => rI_c fun v12 h11 =>
 U1 rfl ((x_icmp_eq H rfl (t := 1209) (by decide)).trans (if_c
 (U2 [some (.ref a0), some (.ref a1), some (.ref a2), some (.int x3)] rfl rfl)
 (U1 rfl (T1 (x_iconst H rfl ki_0) rfl
 (x_zreturn H rfl rfl))))))))))))))))))))))))))))))))))))))))))))))))
theorem nd_169_796 {c : Ct} {dd : Bool} {ρ : Kt} (H : St c dd mt_169 ρ) (h : AH) (a0 : Nat) (a1 : Nat) (a2 : Nat) (x3 : Int32) : ρ 796 [some (.ref a0), some (.ref a1), some (.ref a2), some (.int x3)] [] h = ldI h a0 (x3 + 1) fun v1 => ldI h a0 (x3 + 2) fun v2 => isO h a1 7 ((c 87 [.ref a1, .int v1, .int v2] h).bind fun q3 => rI q3 fun v5 h4 => ldI h4 a0 (x3 + 1) fun v6 => ldI h4 a0 (x3 + 2) fun v7 => isO h4 a2 8 ((c 156 [.ref a2, .int v6, .int v7] h4).bind fun q8 => rI q8 fun v10 h9 => if v5 = v10 then (ρ 1209 [some (.ref a0), some (.ref a1), some (.ref a2), some (.int x3)] [] h9) else (isZ 0 (some (some (.int 0), h9))))) :=
 T1 (x_aload_n H rfl rfl) rfl
 (T1 (x_aload_n H rfl rfl) rfl
 (T1 (x_iload_n H rfl rfl) rfl
 (T1 (x_iconst H rfl ki_1) rfl
 (T1 (x_iadd H rfl) rfl
 ((x_iaload H rfl).trans (ldI_c fun v1 =>
 U1 rfl (T1 (x_aload_n H rfl rfl) rfl
 (T1 (x_iload_n H rfl rfl) rfl
 (T1 (x_iconst H rfl ki_2) rfl
 (T1 (x_iadd H rfl) rfl
 ((x_iaload H rfl).trans (ldI_c fun v2 =>
 U1 rfl ((x_callI (ci := 7) H rfl [.int v1, .int v2] rfl rfl rfl rfl).trans (isO_c (bi_c fun q3 => rI_c fun v5 h4 =>
 U1 rfl (T1 (x_aload_n H rfl rfl) rfl
 (T1 (x_aload_n H rfl rfl) rfl
 (T1 (x_iload_n H rfl rfl) rfl
 (T1 (x_iconst H rfl ki_1) rfl
 (T1 (x_iadd H rfl) rfl
 ((x_iaload H rfl).trans (ldI_c fun v6 =>
 U1 rfl (T1 (x_aload_n H rfl rfl) rfl
 (T1 (x_iload_n H rfl rfl) rfl
 (T1 (x_iconst H rfl ki_2) rfl
 (T1 (x_iadd H rfl) rfl
 ((x_iaload H rfl).trans (ldI_c fun v7 =>
 U1 rfl ((x_callI (ci := 8) H rfl [.int v6, .int v7] rfl rfl rfl rfl).trans (isO_c (bi_c fun q8 => rI_c fun v10 h9 =>
 U1 rfl ((x_icmp_eq H rfl (t := 1209) (by decide)).trans (if_c
 (U2 [some (.ref a0), some (.ref a1), some (.ref a2), some (.int x3)] rfl rfl)
 (U1 rfl (T1 (x_iconst H rfl ki_0) rfl
 (x_zreturn H rfl rfl))))))))))))))))))))))))))))))))))))
theorem nd_169_829 {c : Ct} {dd : Bool} {ρ : Kt} (H : St c dd mt_169 ρ) (h : AH) (a0 : Nat) (a1 : Nat) (a2 : Nat) (x3 : Int32) : ρ 829 [some (.ref a0), some (.ref a1), some (.ref a2), some (.int x3)] [] h = ldI h a0 (x3 + 1) fun v1 => ldI h a0 (x3 + 2) fun v2 => ldI h a0 (x3 + 3) fun v3 => ldI h a0 (x3 + 4) fun v4 => isO h a1 7 ((c 88 [.ref a1, .int v1, .int v2, .int v3, .int v4] h).bind fun q5 => rI q5 fun v7 h6 => ldI h6 a0 (x3 + 1) fun v8 => ldI h6 a0 (x3 + 2) fun v9 => ldI h6 a0 (x3 + 3) fun v10 => ldI h6 a0 (x3 + 4) fun v11 => isO h6 a2 8 ((c 157 [.ref a2, .int v8, .int v9, .int v10, .int v11] h6).bind fun q12 => rI q12 fun v14 h13 => if v7 = v14 then (ρ 1209 [some (.ref a0), some (.ref a1), some (.ref a2), some (.int x3)] [] h13) else (isZ 0 (some (some (.int 0), h13))))) :=
 T1 (x_aload_n H rfl rfl) rfl
 (T1 (x_aload_n H rfl rfl) rfl
 (T1 (x_iload_n H rfl rfl) rfl
 (T1 (x_iconst H rfl ki_1) rfl
 (T1 (x_iadd H rfl) rfl
 ((x_iaload H rfl).trans (ldI_c fun v1 =>
 U1 rfl (T1 (x_aload_n H rfl rfl) rfl
 (T1 (x_iload_n H rfl rfl) rfl
 (T1 (x_iconst H rfl ki_2) rfl
 (T1 (x_iadd H rfl) rfl
 ((x_iaload H rfl).trans (ldI_c fun v2 =>
 U1 rfl (T1 (x_aload_n H rfl rfl) rfl
 (T1 (x_iload_n H rfl rfl) rfl
 (T1 (x_iconst H rfl ki_3) rfl
 (T1 (x_iadd H rfl) rfl
 ((x_iaload H rfl).trans (ldI_c fun v3 =>
 U1 rfl (T1 (x_aload_n H rfl rfl) rfl
 (T1 (x_iload_n H rfl rfl) rfl
 (T1 (x_iconst H rfl ki_4) rfl
 (T1 (x_iadd H rfl) rfl
 ((x_iaload H rfl).trans (ldI_c fun v4 =>
 U1 rfl ((x_callI (ci := 7) H rfl [.int v1, .int v2, .int v3, .int v4] rfl rfl rfl rfl).trans (isO_c (bi_c fun q5 => rI_c fun v7 h6 =>
 U1 rfl (T1 (x_aload_n H rfl rfl) rfl
 (T1 (x_aload_n H rfl rfl) rfl
 (T1 (x_iload_n H rfl rfl) rfl
 (T1 (x_iconst H rfl ki_1) rfl
 (T1 (x_iadd H rfl) rfl
 ((x_iaload H rfl).trans (ldI_c fun v8 =>
 U1 rfl (T1 (x_aload_n H rfl rfl) rfl
 (T1 (x_iload_n H rfl rfl) rfl
 (T1 (x_iconst H rfl ki_2) rfl
 (T1 (x_iadd H rfl) rfl
 ((x_iaload H rfl).trans (ldI_c fun v9 =>
 U1 rfl (T1 (x_aload_n H rfl rfl) rfl
 (T1 (x_iload_n H rfl rfl) rfl
 (T1 (x_iconst H rfl ki_3) rfl
 (T1 (x_iadd H rfl) rfl
 ((x_iaload H rfl).trans (ldI_c fun v10 =>
 U1 rfl (T1 (x_aload_n H rfl rfl) rfl
 (T1 (x_iload_n H rfl rfl) rfl
 (T1 (x_iconst H rfl ki_4) rfl
 (T1 (x_iadd H rfl) rfl
 ((x_iaload H rfl).trans (ldI_c fun v11 =>
 U1 rfl ((x_callI (ci := 8) H rfl [.int v8, .int v9, .int v10, .int v11] rfl rfl rfl rfl).trans (isO_c (bi_c fun q12 => rI_c fun v14 h13 =>
 U1 rfl ((x_icmp_eq H rfl (t := 1209) (by decide)).trans (if_c
 (U2 [some (.ref a0), some (.ref a1), some (.ref a2), some (.int x3)] rfl rfl)
 (U1 rfl (T1 (x_iconst H rfl ki_0) rfl
 (x_zreturn H rfl rfl))))))))))))))))))))))))))))))))))))))))))))))))))))))))))))
theorem nd_169_882 {c : Ct} {dd : Bool} {ρ : Kt} (H : St c dd mt_169 ρ) (h : AH) (a0 : Nat) (a1 : Nat) (a2 : Nat) (x3 : Int32) : ρ 882 [some (.ref a0), some (.ref a1), some (.ref a2), some (.int x3)] [] h = ldI h a0 (x3 + 1) fun v1 => ldI h a0 (x3 + 2) fun v2 => isO h a1 7 ((c 89 [.ref a1, .int v1, .int v2] h).bind fun q3 => rI q3 fun v5 h4 => ldI h4 a0 (x3 + 1) fun v6 => ldI h4 a0 (x3 + 2) fun v7 => isO h4 a2 8 ((c 158 [.ref a2, .int v6, .int v7] h4).bind fun q8 => rI q8 fun v10 h9 => if v5 = v10 then (ρ 1209 [some (.ref a0), some (.ref a1), some (.ref a2), some (.int x3)] [] h9) else (isZ 0 (some (some (.int 0), h9))))) :=
 T1 (x_aload_n H rfl rfl) rfl
 (T1 (x_aload_n H rfl rfl) rfl
 (T1 (x_iload_n H rfl rfl) rfl
 (T1 (x_iconst H rfl ki_1) rfl
 (T1 (x_iadd H rfl) rfl
 ((x_iaload H rfl).trans (ldI_c fun v1 =>
 U1 rfl (T1 (x_aload_n H rfl rfl) rfl
 (T1 (x_iload_n H rfl rfl) rfl
 (T1 (x_iconst H rfl ki_2) rfl
 (T1 (x_iadd H rfl) rfl
 ((x_iaload H rfl).trans (ldI_c fun v2 =>
 U1 rfl ((x_callI (ci := 7) H rfl [.int v1, .int v2] rfl rfl rfl rfl).trans (isO_c (bi_c fun q3 => rI_c fun v5 h4 =>
 U1 rfl (T1 (x_aload_n H rfl rfl) rfl
 (T1 (x_aload_n H rfl rfl) rfl
 (T1 (x_iload_n H rfl rfl) rfl
 (T1 (x_iconst H rfl ki_1) rfl
 (T1 (x_iadd H rfl) rfl
 ((x_iaload H rfl).trans (ldI_c fun v6 =>
 U1 rfl (T1 (x_aload_n H rfl rfl) rfl
 (T1 (x_iload_n H rfl rfl) rfl
 (T1 (x_iconst H rfl ki_2) rfl
 (T1 (x_iadd H rfl) rfl
 ((x_iaload H rfl).trans (ldI_c fun v7 =>
 U1 rfl ((x_callI (ci := 8) H rfl [.int v6, .int v7] rfl rfl rfl rfl).trans (isO_c (bi_c fun q8 => rI_c fun v10 h9 =>
 U1 rfl ((x_icmp_eq H rfl (t := 1209) (by decide)).trans (if_c
 (U2 [some (.ref a0), some (.ref a1), some (.ref a2), some (.int x3)] rfl rfl)
 (U1 rfl (T1 (x_iconst H rfl ki_0) rfl
 (x_zreturn H rfl rfl))))))))))))))))))))))))))))))))))))
theorem nd_169_915 {c : Ct} {dd : Bool} {ρ : Kt} (H : St c dd mt_169 ρ) (h : AH) (a0 : Nat) (a1 : Nat) (a2 : Nat) (x3 : Int32) : ρ 915 [some (.ref a0), some (.ref a1), some (.ref a2), some (.int x3)] [] h = ldI h a0 (x3 + 1) fun v1 => ldI h a0 (x3 + 2) fun v2 => isO h a1 7 ((c 90 [.ref a1, .int v1, .int v2] h).bind fun q3 => rI q3 fun v5 h4 => ldI h4 a0 (x3 + 1) fun v6 => ldI h4 a0 (x3 + 2) fun v7 => isO h4 a2 8 ((c 159 [.ref a2, .int v6, .int v7] h4).bind fun q8 => rI q8 fun v10 h9 => if v5 = v10 then (ρ 1209 [some (.ref a0), some (.ref a1), some (.ref a2), some (.int x3)] [] h9) else (isZ 0 (some (some (.int 0), h9))))) :=
 T1 (x_aload_n H rfl rfl) rfl
 (T1 (x_aload_n H rfl rfl) rfl
 (T1 (x_iload_n H rfl rfl) rfl
 (T1 (x_iconst H rfl ki_1) rfl
 (T1 (x_iadd H rfl) rfl
 ((x_iaload H rfl).trans (ldI_c fun v1 =>
 U1 rfl (T1 (x_aload_n H rfl rfl) rfl
 (T1 (x_iload_n H rfl rfl) rfl
 (T1 (x_iconst H rfl ki_2) rfl
 (T1 (x_iadd H rfl) rfl
 ((x_iaload H rfl).trans (ldI_c fun v2 =>
 U1 rfl ((x_callI (ci := 7) H rfl [.int v1, .int v2] rfl rfl rfl rfl).trans (isO_c (bi_c fun q3 => rI_c fun v5 h4 =>
 U1 rfl (T1 (x_aload_n H rfl rfl) rfl
 (T1 (x_aload_n H rfl rfl) rfl
 (T1 (x_iload_n H rfl rfl) rfl
 (T1 (x_iconst H rfl ki_1) rfl
 (T1 (x_iadd H rfl) rfl
 ((x_iaload H rfl).trans (ldI_c fun v6 =>
 U1 rfl (T1 (x_aload_n H rfl rfl) rfl
 (T1 (x_iload_n H rfl rfl) rfl
 (T1 (x_iconst H rfl ki_2) rfl
 (T1 (x_iadd H rfl) rfl
 ((x_iaload H rfl).trans (ldI_c fun v7 =>
 U1 rfl ((x_callI (ci := 8) H rfl [.int v6, .int v7] rfl rfl rfl rfl).trans (isO_c (bi_c fun q8 => rI_c fun v10 h9 =>
 U1 rfl ((x_icmp_eq H rfl (t := 1209) (by decide)).trans (if_c
 (U2 [some (.ref a0), some (.ref a1), some (.ref a2), some (.int x3)] rfl rfl)
 (U1 rfl (T1 (x_iconst H rfl ki_0) rfl
 (x_zreturn H rfl rfl))))))))))))))))))))))))))))))))))))
theorem nd_169_948 {c : Ct} {dd : Bool} {ρ : Kt} (H : St c dd mt_169 ρ) (h : AH) (a0 : Nat) (a1 : Nat) (a2 : Nat) (x3 : Int32) : ρ 948 [some (.ref a0), some (.ref a1), some (.ref a2), some (.int x3)] [] h = ldI h a0 (x3 + 1) fun v1 => isO h a1 7 ((c 93 [.ref a1, .int v1] h).bind fun q2 => rI q2 fun v4 h3 => ldI h3 a0 (x3 + 1) fun v5 => isO h3 a2 8 ((c 161 [.ref a2, .int v5] h3).bind fun q6 => rI q6 fun v8 h7 => if v4 = v8 then (ρ 1209 [some (.ref a0), some (.ref a1), some (.ref a2), some (.int x3)] [] h7) else (isZ 0 (some (some (.int 0), h7))))) :=
 T1 (x_aload_n H rfl rfl) rfl
 (T1 (x_aload_n H rfl rfl) rfl
 (T1 (x_iload_n H rfl rfl) rfl
 (T1 (x_iconst H rfl ki_1) rfl
 (T1 (x_iadd H rfl) rfl
 ((x_iaload H rfl).trans (ldI_c fun v1 =>
 U1 rfl ((x_callI (ci := 7) H rfl [.int v1] rfl rfl rfl rfl).trans (isO_c (bi_c fun q2 => rI_c fun v4 h3 =>
 U1 rfl (T1 (x_aload_n H rfl rfl) rfl
 (T1 (x_aload_n H rfl rfl) rfl
 (T1 (x_iload_n H rfl rfl) rfl
 (T1 (x_iconst H rfl ki_1) rfl
 (T1 (x_iadd H rfl) rfl
 ((x_iaload H rfl).trans (ldI_c fun v5 =>
 U1 rfl ((x_callI (ci := 8) H rfl [.int v5] rfl rfl rfl rfl).trans (isO_c (bi_c fun q6 => rI_c fun v8 h7 =>
 U1 rfl ((x_icmp_eq H rfl (t := 1209) (by decide)).trans (if_c
 (U2 [some (.ref a0), some (.ref a1), some (.ref a2), some (.int x3)] rfl rfl)
 (U1 rfl (T1 (x_iconst H rfl ki_0) rfl
 (x_zreturn H rfl rfl))))))))))))))))))))))))
theorem nd_169_971 {c : Ct} {dd : Bool} {ρ : Kt} (H : St c dd mt_169 ρ) (h : AH) (a0 : Nat) (a1 : Nat) (a2 : Nat) (x3 : Int32) : ρ 971 [some (.ref a0), some (.ref a1), some (.ref a2), some (.int x3)] [] h = ldI h a0 (x3 + 1) fun v1 => ldI h a0 (x3 + 2) fun v2 => ldI h a0 (x3 + 3) fun v3 => isO h a1 7 ((c 94 [.ref a1, .int v1, .int v2, .int v3] h).bind fun q4 => rI q4 fun v6 h5 => ldI h5 a0 (x3 + 1) fun v7 => ldI h5 a0 (x3 + 2) fun v8 => ldI h5 a0 (x3 + 3) fun v9 => isO h5 a2 8 ((c 162 [.ref a2, .int v7, .int v8, .int v9] h5).bind fun q10 => rI q10 fun v12 h11 => if v6 = v12 then (ρ 1209 [some (.ref a0), some (.ref a1), some (.ref a2), some (.int x3)] [] h11) else (isZ 0 (some (some (.int 0), h11))))) :=
 T1 (x_aload_n H rfl rfl) rfl
 (T1 (x_aload_n H rfl rfl) rfl
 (T1 (x_iload_n H rfl rfl) rfl
 (T1 (x_iconst H rfl ki_1) rfl
 (T1 (x_iadd H rfl) rfl
 ((x_iaload H rfl).trans (ldI_c fun v1 =>
 U1 rfl (T1 (x_aload_n H rfl rfl) rfl
 (T1 (x_iload_n H rfl rfl) rfl
 (T1 (x_iconst H rfl ki_2) rfl
 (T1 (x_iadd H rfl) rfl
 ((x_iaload H rfl).trans (ldI_c fun v2 =>
 U1 rfl (T1 (x_aload_n H rfl rfl) rfl
 (T1 (x_iload_n H rfl rfl) rfl
 (T1 (x_iconst H rfl ki_3) rfl
 (T1 (x_iadd H rfl) rfl
 ((x_iaload H rfl).trans (ldI_c fun v3 =>
 U1 rfl ((x_callI (ci := 7) H rfl [.int v1, .int v2, .int v3] rfl rfl rfl rfl).trans (isO_c (bi_c fun q4 => rI_c fun v6 h5 =>
 U1 rfl (T1 (x_aload_n H rfl rfl) rfl
 (T1 (x_aload_n H rfl rfl) rfl
 (T1 (x_iload_n H rfl rfl) rfl
 (T1 (x_iconst H rfl ki_1) rfl
 (T1 (x_iadd H rfl) rfl
 ((x_iaload H rfl).trans (ldI_c fun v7 =>
 U1 rfl (T1 (x_aload_n H rfl rfl) rfl
 (T1 (x_iload_n H rfl rfl) rfl
 (T1 (x_iconst H rfl ki_2) rfl
 (T1 (x_iadd H rfl) rfl
 ((x_iaload H rfl).trans (ldI_c fun v8 =>
 U1 rfl (T1 (x_aload_n H rfl rfl) rfl
 (T1 (x_iload_n H rfl rfl) rfl
 (T1 (x_iconst H rfl ki_3) rfl
 (T1 (x_iadd H rfl) rfl
 ((x_iaload H rfl).trans (ldI_c fun v9 =>
 U1 rfl ((x_callI (ci := 8) H rfl [.int v7, .int v8, .int v9] rfl rfl rfl rfl).trans (isO_c (bi_c fun q10 => rI_c fun v12 h11 =>
 U1 rfl ((x_icmp_eq H rfl (t := 1209) (by decide)).trans (if_c
 (U2 [some (.ref a0), some (.ref a1), some (.ref a2), some (.int x3)] rfl rfl)
 (U1 rfl (T1 (x_iconst H rfl ki_0) rfl
 (x_zreturn H rfl rfl))))))))))))))))))))))))))))))))))))))))))))))))
theorem nd_169_1014 {c : Ct} {dd : Bool} {ρ : Kt} (H : St c dd mt_169 ρ) (h : AH) (a0 : Nat) (a1 : Nat) (a2 : Nat) (x3 : Int32) : ρ 1014 [some (.ref a0), some (.ref a1), some (.ref a2), some (.int x3)] [] h = ldI h a0 (x3 + 1) fun v1 => ldI h a0 (x3 + 2) fun v2 => isO h a1 7 ((c 95 [.ref a1, .int v1, .int v2] h).bind fun q3 => rI q3 fun v5 h4 => ldI h4 a0 (x3 + 1) fun v6 => ldI h4 a0 (x3 + 2) fun v7 => isO h4 a2 8 ((c 163 [.ref a2, .int v6, .int v7] h4).bind fun q8 => rI q8 fun v10 h9 => if v5 = v10 then (ρ 1209 [some (.ref a0), some (.ref a1), some (.ref a2), some (.int x3)] [] h9) else (isZ 0 (some (some (.int 0), h9))))) :=
 T1 (x_aload_n H rfl rfl) rfl
 (T1 (x_aload_n H rfl rfl) rfl
 (T1 (x_iload_n H rfl rfl) rfl
 (T1 (x_iconst H rfl ki_1) rfl
 (T1 (x_iadd H rfl) rfl
 ((x_iaload H rfl).trans (ldI_c fun v1 =>
 U1 rfl (T1 (x_aload_n H rfl rfl) rfl
 (T1 (x_iload_n H rfl rfl) rfl
 (T1 (x_iconst H rfl ki_2) rfl
 (T1 (x_iadd H rfl) rfl
 ((x_iaload H rfl).trans (ldI_c fun v2 =>
 U1 rfl ((x_callI (ci := 7) H rfl [.int v1, .int v2] rfl rfl rfl rfl).trans (isO_c (bi_c fun q3 => rI_c fun v5 h4 =>
 U1 rfl (T1 (x_aload_n H rfl rfl) rfl
 (T1 (x_aload_n H rfl rfl) rfl
 (T1 (x_iload_n H rfl rfl) rfl
 (T1 (x_iconst H rfl ki_1) rfl
 (T1 (x_iadd H rfl) rfl
 ((x_iaload H rfl).trans (ldI_c fun v6 =>
 U1 rfl (T1 (x_aload_n H rfl rfl) rfl
 (T1 (x_iload_n H rfl rfl) rfl
 (T1 (x_iconst H rfl ki_2) rfl
 (T1 (x_iadd H rfl) rfl
 ((x_iaload H rfl).trans (ldI_c fun v7 =>
 U1 rfl ((x_callI (ci := 8) H rfl [.int v6, .int v7] rfl rfl rfl rfl).trans (isO_c (bi_c fun q8 => rI_c fun v10 h9 =>
 U1 rfl ((x_icmp_eq H rfl (t := 1209) (by decide)).trans (if_c
 (U2 [some (.ref a0), some (.ref a1), some (.ref a2), some (.int x3)] rfl rfl)
 (U1 rfl (T1 (x_iconst H rfl ki_0) rfl
 (x_zreturn H rfl rfl))))))))))))))))))))))))))))))))))))
theorem nd_169_1047 {c : Ct} {dd : Bool} {ρ : Kt} (H : St c dd mt_169 ρ) (h : AH) (a0 : Nat) (a1 : Nat) (a2 : Nat) (x3 : Int32) : ρ 1047 [some (.ref a0), some (.ref a1), some (.ref a2), some (.int x3)] [] h = ldI h a0 (x3 + 1) fun v1 => ldI h a0 (x3 + 2) fun v2 => ldI h a0 (x3 + 3) fun v3 => isO h a1 7 ((c 97 [.ref a1, .int v1, .int v2, .int v3] h).bind fun q4 => rI q4 fun v6 h5 => ldI h5 a0 (x3 + 1) fun v7 => ldI h5 a0 (x3 + 2) fun v8 => ldI h5 a0 (x3 + 3) fun v9 => isO h5 a2 8 ((c 165 [.ref a2, .int v7, .int v8, .int v9] h5).bind fun q10 => rI q10 fun v12 h11 => if v6 = v12 then (ρ 1209 [some (.ref a0), some (.ref a1), some (.ref a2), some (.int x3)] [] h11) else (isZ 0 (some (some (.int 0), h11))))) :=
 T1 (x_aload_n H rfl rfl) rfl
 (T1 (x_aload_n H rfl rfl) rfl
 (T1 (x_iload_n H rfl rfl) rfl
 (T1 (x_iconst H rfl ki_1) rfl
 (T1 (x_iadd H rfl) rfl
 ((x_iaload H rfl).trans (ldI_c fun v1 =>
 U1 rfl (T1 (x_aload_n H rfl rfl) rfl
 (T1 (x_iload_n H rfl rfl) rfl
 (T1 (x_iconst H rfl ki_2) rfl
 (T1 (x_iadd H rfl) rfl
 ((x_iaload H rfl).trans (ldI_c fun v2 =>
 U1 rfl (T1 (x_aload_n H rfl rfl) rfl
 (T1 (x_iload_n H rfl rfl) rfl
 (T1 (x_iconst H rfl ki_3) rfl
 (T1 (x_iadd H rfl) rfl
 ((x_iaload H rfl).trans (ldI_c fun v3 =>
 U1 rfl ((x_callI (ci := 7) H rfl [.int v1, .int v2, .int v3] rfl rfl rfl rfl).trans (isO_c (bi_c fun q4 => rI_c fun v6 h5 =>
 U1 rfl (T1 (x_aload_n H rfl rfl) rfl
 (T1 (x_aload_n H rfl rfl) rfl
 (T1 (x_iload_n H rfl rfl) rfl
 (T1 (x_iconst H rfl ki_1) rfl
 (T1 (x_iadd H rfl) rfl
 ((x_iaload H rfl).trans (ldI_c fun v7 =>
 U1 rfl (T1 (x_aload_n H rfl rfl) rfl
 (T1 (x_iload_n H rfl rfl) rfl
 (T1 (x_iconst H rfl ki_2) rfl
 (T1 (x_iadd H rfl) rfl
 ((x_iaload H rfl).trans (ldI_c fun v8 =>
 U1 rfl (T1 (x_aload_n H rfl rfl) rfl
 (T1 (x_iload_n H rfl rfl) rfl
 (T1 (x_iconst H rfl ki_3) rfl
 (T1 (x_iadd H rfl) rfl
 ((x_iaload H rfl).trans (ldI_c fun v9 =>
 U1 rfl ((x_callI (ci := 8) H rfl [.int v7, .int v8, .int v9] rfl rfl rfl rfl).trans (isO_c (bi_c fun q10 => rI_c fun v12 h11 =>
 U1 rfl ((x_icmp_eq H rfl (t := 1209) (by decide)).trans (if_c
 (U2 [some (.ref a0), some (.ref a1), some (.ref a2), some (.int x3)] rfl rfl)
 (U1 rfl (T1 (x_iconst H rfl ki_0) rfl
 (x_zreturn H rfl rfl))))))))))))))))))))))))))))))))))))))))))))))))
theorem nd_169_1090 {c : Ct} {dd : Bool} {ρ : Kt} (H : St c dd mt_169 ρ) (h : AH) (a0 : Nat) (a1 : Nat) (a2 : Nat) (x3 : Int32) : ρ 1090 [some (.ref a0), some (.ref a1), some (.ref a2), some (.int x3)] [] h = ldI h a0 (x3 + 1) fun v1 => ldI h a0 (x3 + 2) fun v2 => ldI h a0 (x3 + 3) fun v3 => isO h a1 7 ((c 98 [.ref a1, .int v1, .int v2, .int v3] h).bind fun q4 => rI q4 fun v6 h5 => ldI h5 a0 (x3 + 1) fun v7 => ldI h5 a0 (x3 + 2) fun v8 => ldI h5 a0 (x3 + 3) fun v9 => isO h5 a2 8 ((c 166 [.ref a2, .int v7, .int v8, .int v9] h5).bind fun q10 => rI q10 fun v12 h11 => if v6 = v12 then (ρ 1209 [some (.ref a0), some (.ref a1), some (.ref a2), some (.int x3)] [] h11) else (isZ 0 (some (some (.int 0), h11))))) :=
 T1 (x_aload_n H rfl rfl) rfl
 (T1 (x_aload_n H rfl rfl) rfl
 (T1 (x_iload_n H rfl rfl) rfl
 (T1 (x_iconst H rfl ki_1) rfl
 (T1 (x_iadd H rfl) rfl
 ((x_iaload H rfl).trans (ldI_c fun v1 =>
 U1 rfl (T1 (x_aload_n H rfl rfl) rfl
 (T1 (x_iload_n H rfl rfl) rfl
 (T1 (x_iconst H rfl ki_2) rfl
 (T1 (x_iadd H rfl) rfl
 ((x_iaload H rfl).trans (ldI_c fun v2 =>
 U1 rfl (T1 (x_aload_n H rfl rfl) rfl
 (T1 (x_iload_n H rfl rfl) rfl
 (T1 (x_iconst H rfl ki_3) rfl
 (T1 (x_iadd H rfl) rfl
 ((x_iaload H rfl).trans (ldI_c fun v3 =>
 U1 rfl ((x_callI (ci := 7) H rfl [.int v1, .int v2, .int v3] rfl rfl rfl rfl).trans (isO_c (bi_c fun q4 => rI_c fun v6 h5 =>
 U1 rfl (T1 (x_aload_n H rfl rfl) rfl
 (T1 (x_aload_n H rfl rfl) rfl
 (T1 (x_iload_n H rfl rfl) rfl
 (T1 (x_iconst H rfl ki_1) rfl
 (T1 (x_iadd H rfl) rfl
 ((x_iaload H rfl).trans (ldI_c fun v7 =>
 U1 rfl (T1 (x_aload_n H rfl rfl) rfl
 (T1 (x_iload_n H rfl rfl) rfl
 (T1 (x_iconst H rfl ki_2) rfl
 (T1 (x_iadd H rfl) rfl
 ((x_iaload H rfl).trans (ldI_c fun v8 =>
 U1 rfl (T1 (x_aload_n H rfl rfl) rfl
 (T1 (x_iload_n H rfl rfl) rfl
 (T1 (x_iconst H rfl ki_3) rfl
 (T1 (x_iadd H rfl) rfl
 ((x_iaload H rfl).trans (ldI_c fun v9 =>
 U1 rfl ((x_callI (ci := 8) H rfl [.int v7, .int v8, .int v9] rfl rfl rfl rfl).trans (isO_c (bi_c fun q10 => rI_c fun v12 h11 =>
 U1 rfl ((x_icmp_eq H rfl (t := 1209) (by decide)).trans (if_c
 (U2 [some (.ref a0), some (.ref a1), some (.ref a2), some (.int x3)] rfl rfl)
 (U1 rfl (T1 (x_iconst H rfl ki_0) rfl
 (x_zreturn H rfl rfl))))))))))))))))))))))))))))))))))))))))))))))))
theorem nd_169_1133 {c : Ct} {dd : Bool} {ρ : Kt} (H : St c dd mt_169 ρ) (h : AH) (a0 : Nat) (a1 : Nat) (a2 : Nat) (x3 : Int32) : ρ 1133 [some (.ref a0), some (.ref a1), some (.ref a2), some (.int x3)] [] h = ldI h a0 (x3 + 1) fun v1 => ldI h a0 (x3 + 2) fun v2 => ldI h a0 (x3 + 3) fun v3 => ldI h a0 (x3 + 4) fun v4 => isO h a1 7 ((c 99 [.ref a1, .int v1, .int v2, .int v3, .int v4] h).bind fun q5 => rI q5 fun v7 h6 => ldI h6 a0 (x3 + 1) fun v8 => ldI h6 a0 (x3 + 2) fun v9 => ldI h6 a0 (x3 + 3) fun v10 => ldI h6 a0 (x3 + 4) fun v11 => isO h6 a2 8 ((c 167 [.ref a2, .int v8, .int v9, .int v10, .int v11] h6).bind fun q12 => rI q12 fun v14 h13 => if v7 = v14 then (ρ 1209 [some (.ref a0), some (.ref a1), some (.ref a2), some (.int x3)] [] h13) else (isZ 0 (some (some (.int 0), h13))))) :=
 T1 (x_aload_n H rfl rfl) rfl
 (T1 (x_aload_n H rfl rfl) rfl
 (T1 (x_iload_n H rfl rfl) rfl
 (T1 (x_iconst H rfl ki_1) rfl
 (T1 (x_iadd H rfl) rfl
 ((x_iaload H rfl).trans (ldI_c fun v1 =>
 U1 rfl (T1 (x_aload_n H rfl rfl) rfl
 (T1 (x_iload_n H rfl rfl) rfl
 (T1 (x_iconst H rfl ki_2) rfl
 (T1 (x_iadd H rfl) rfl
 ((x_iaload H rfl).trans (ldI_c fun v2 =>
 U1 rfl (T1 (x_aload_n H rfl rfl) rfl
 (T1 (x_iload_n H rfl rfl) rfl
 (T1 (x_iconst H rfl ki_3) rfl
 (T1 (x_iadd H rfl) rfl
 ((x_iaload H rfl).trans (ldI_c fun v3 =>
 U1 rfl (T1 (x_aload_n H rfl rfl) rfl
 (T1 (x_iload_n H rfl rfl) rfl
 (T1 (x_iconst H rfl ki_4) rfl
 (T1 (x_iadd H rfl) rfl
 ((x_iaload H rfl).trans (ldI_c fun v4 =>
 U1 rfl ((x_callI (ci := 7) H rfl [.int v1, .int v2, .int v3, .int v4] rfl rfl rfl rfl).trans (isO_c (bi_c fun q5 => rI_c fun v7 h6 =>
 U1 rfl (T1 (x_aload_n H rfl rfl) rfl
 (T1 (x_aload_n H rfl rfl) rfl
 (T1 (x_iload_n H rfl rfl) rfl
 (T1 (x_iconst H rfl ki_1) rfl
 (T1 (x_iadd H rfl) rfl
 ((x_iaload H rfl).trans (ldI_c fun v8 =>
 U1 rfl (T1 (x_aload_n H rfl rfl) rfl
 (T1 (x_iload_n H rfl rfl) rfl
 (T1 (x_iconst H rfl ki_2) rfl
 (T1 (x_iadd H rfl) rfl
 ((x_iaload H rfl).trans (ldI_c fun v9 =>
 U1 rfl (T1 (x_aload_n H rfl rfl) rfl
 (T1 (x_iload_n H rfl rfl) rfl
 (T1 (x_iconst H rfl ki_3) rfl
 (T1 (x_iadd H rfl) rfl
 ((x_iaload H rfl).trans (ldI_c fun v10 =>
 U1 rfl (T1 (x_aload_n H rfl rfl) rfl
 (T1 (x_iload_n H rfl rfl) rfl
 (T1 (x_iconst H rfl ki_4) rfl
 (T1 (x_iadd H rfl) rfl
 ((x_iaload H rfl).trans (ldI_c fun v11 =>
 U1 rfl ((x_callI (ci := 8) H rfl [.int v8, .int v9, .int v10, .int v11] rfl rfl rfl rfl).trans (isO_c (bi_c fun q12 => rI_c fun v14 h13 =>
 U1 rfl ((x_icmp_eq H rfl (t := 1209) (by decide)).trans (if_c
 (U2 [some (.ref a0), some (.ref a1), some (.ref a2), some (.int x3)] rfl rfl)
 (U1 rfl (T1 (x_iconst H rfl ki_0) rfl
 (x_zreturn H rfl rfl))))))))))))))))))))))))))))))))))))))))))))))))))))))))))))
theorem nd_169_1186 {c : Ct} {dd : Bool} {ρ : Kt} (H : St c dd mt_169 ρ) (h : AH) (a0 : Nat) (a1 : Nat) (a2 : Nat) (x3 : Int32) : ρ 1186 [some (.ref a0), some (.ref a1), some (.ref a2), some (.int x3)] [] h = ldI h a0 (x3 + 1) fun v1 => isO h a1 7 ((c 102 [.ref a1, .int v1] h).bind fun q2 => rI q2 fun v4 h3 => ldI h3 a0 (x3 + 1) fun v5 => isO h3 a2 8 ((c 168 [.ref a2, .int v5] h3).bind fun q6 => rI q6 fun v8 h7 => if v4 = v8 then (ρ 1209 [some (.ref a0), some (.ref a1), some (.ref a2), some (.int x3)] [] h7) else (isZ 0 (some (some (.int 0), h7))))) :=
 T1 (x_aload_n H rfl rfl) rfl
 (T1 (x_aload_n H rfl rfl) rfl
 (T1 (x_iload_n H rfl rfl) rfl
 (T1 (x_iconst H rfl ki_1) rfl
 (T1 (x_iadd H rfl) rfl
 ((x_iaload H rfl).trans (ldI_c fun v1 =>
 U1 rfl ((x_callI (ci := 7) H rfl [.int v1] rfl rfl rfl rfl).trans (isO_c (bi_c fun q2 => rI_c fun v4 h3 =>
 U1 rfl (T1 (x_aload_n H rfl rfl) rfl
 (T1 (x_aload_n H rfl rfl) rfl
 (T1 (x_iload_n H rfl rfl) rfl
 (T1 (x_iconst H rfl ki_1) rfl
 (T1 (x_iadd H rfl) rfl
 ((x_iaload H rfl).trans (ldI_c fun v5 =>
 U1 rfl ((x_callI (ci := 8) H rfl [.int v5] rfl rfl rfl rfl).trans (isO_c (bi_c fun q6 => rI_c fun v8 h7 =>
 U1 rfl ((x_icmp_eq H rfl (t := 1209) (by decide)).trans (if_c
 (U2 [some (.ref a0), some (.ref a1), some (.ref a2), some (.int x3)] rfl rfl)
 (U1 rfl (T1 (x_iconst H rfl ki_0) rfl
 (x_zreturn H rfl rfl))))))))))))))))))))))))
theorem nd_169_1209 {c : Ct} {dd : Bool} {ρ : Kt} (H : St c dd mt_169 ρ) (h : AH) (a0 : Nat) (a1 : Nat) (a2 : Nat) (x3 : Int32) : ρ 1209 [some (.ref a0), some (.ref a1), some (.ref a2), some (.int x3)] [] h = ρ 18 [some (.ref a0), some (.ref a1), some (.ref a2), some (.int (x3 + 7))] [] h :=
 T2 [some (.ref a0), some (.ref a1), some (.ref a2), some (.int (x3 + 7))] (x_iinc H rfl ki_7 rfl rfl) rfl
 (T2 [some (.ref a0), some (.ref a1), some (.ref a2), some (.int (x3 + 7))] (x_goto H rfl (t := 18) (by decide)) rfl rfl)
theorem nd_169_388 {c : Ct} {dd : Bool} {ρ : Kt} (H : St c dd mt_169 ρ) (h : AH) (a0 : Nat) (a1 : Nat) (a2 : Nat) (x3 : Int32) (s0_ : Int32) (s1_ : Int32) (s2_ : Int32) (c3_ : Nat) : ρ 388 [some (.ref a0), some (.ref a1), some (.ref a2), some (.int x3)] [.int s0_, .int s1_, .int s2_, .ref c3_] h = isO h c3_ 7 ((c 69 [.ref c3_, .int s2_, .int s1_, .int s0_] h).bind fun q1 => rI q1 fun v3 h2 => ldI h2 a0 (x3 + 1) fun v4 => ldI h2 a0 (x3 + 2) fun v5 => ldI h2 a0 (x3 + 3) fun v6 => if v6 = 0 then (ρ 415 [some (.ref a0), some (.ref a1), some (.ref a2), some (.int x3)] [.int 0, .int v5, .int v4, .ref a2, .int v3] h2) else (ρ 415 [some (.ref a0), some (.ref a1), some (.ref a2), some (.int x3)] [.int 1, .int v5, .int v4, .ref a2, .int v3] h2)) :=
 (x_callI (ci := 7) H rfl [.int s2_, .int s1_, .int s0_] rfl rfl rfl rfl).trans (isO_c (bi_c fun q1 => rI_c fun v3 h2 =>
 U1 rfl (T1 (x_aload_n H rfl rfl) rfl
 (T1 (x_aload_n H rfl rfl) rfl
 (T1 (x_iload_n H rfl rfl) rfl
 (T1 (x_iconst H rfl ki_1) rfl
 (T1 (x_iadd H rfl) rfl
 ((x_iaload H rfl).trans (ldI_c fun v4 =>
 U1 rfl (T1 (x_aload_n H rfl rfl) rfl
 (T1 (x_iload_n H rfl rfl) rfl
 (T1 (x_iconst H rfl ki_2) rfl
 (T1 (x_iadd H rfl) rfl
 ((x_iaload H rfl).trans (ldI_c fun v5 =>
 U1 rfl (T1 (x_aload_n H rfl rfl) rfl
 (T1 (x_iload_n H rfl rfl) rfl
 (T1 (x_iconst H rfl ki_3) rfl
 (T1 (x_iadd H rfl) rfl
 ((x_iaload H rfl).trans (ldI_c fun v6 =>
 U1 rfl ((x_if_eq H rfl (t := 414) (by decide)).trans (if_c
 (U1 rfl (T2 [some (.ref a0), some (.ref a1), some (.ref a2), some (.int x3)] (x_iconst H rfl ki_0) rfl rfl))
 (U1 rfl (T1 (x_iconst H rfl ki_1) rfl
 (T2 [some (.ref a0), some (.ref a1), some (.ref a2), some (.int x3)] (x_goto H rfl (t := 415) (by decide)) rfl rfl))))))))))))))))))))))))))
theorem nd_169_415 {c : Ct} {dd : Bool} {ρ : Kt} (H : St c dd mt_169 ρ) (h : AH) (a0 : Nat) (a1 : Nat) (a2 : Nat) (x3 : Int32) (s0_ : Int32) (s1_ : Int32) (s2_ : Int32) (c3_ : Nat) (s4_ : Int32) : ρ 415 [some (.ref a0), some (.ref a1), some (.ref a2), some (.int x3)] [.int s0_, .int s1_, .int s2_, .ref c3_, .int s4_] h = isO h c3_ 8 ((c 122 [.ref c3_, .int s2_, .int s1_, .int s0_] h).bind fun q1 => rI q1 fun v3 h2 => if s4_ = v3 then (ρ 1209 [some (.ref a0), some (.ref a1), some (.ref a2), some (.int x3)] [] h2) else (isZ 0 (some (some (.int 0), h2)))) :=
 (x_callI (ci := 8) H rfl [.int s2_, .int s1_, .int s0_] rfl rfl rfl rfl).trans (isO_c (bi_c fun q1 => rI_c fun v3 h2 =>
 U1 rfl ((x_icmp_eq H rfl (t := 1209) (by decide)).trans (if_c
 (U2 [some (.ref a0), some (.ref a1), some (.ref a2), some (.int x3)] rfl rfl)
 (U1 rfl (T1 (x_iconst H rfl ki_0) rfl
 (x_zreturn H rfl rfl)))))))
