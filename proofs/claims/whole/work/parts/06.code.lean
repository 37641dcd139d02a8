/-! ===== the code tables are the methods' bytes, their operands the tables' links ===== -/
def lenI (i : Instr) (r : Nat × (Nat × Nat)) : Nat := match i with
  | .bipush _ => 2
  | .iload _ => 2
  | .aload _ => 2
  | .lload _ => 2
  | .istore _ => 2
  | .astore _ => 2
  | .lstore _ => 2
  | .newarray _ => 2
  | .sipush _ => 3
  | .ldc2_w _ => 3
  | .iinc _ _ => 3
  | .goto _ => 3
  | .if_icmp _ _ => 3
  | .ifCond _ _ => 3
  | .ifnull _ => 3
  | .ifnonnull _ => 3
  | .getfield _ => 3
  | .putfield _ => 3
  | .invokevirtual _ => 3
  | .invokestatic _ => 3
  | .invokespecial _ => 3
  | .new _ => 3
  | .anewarray _ => 3
  | .tableswitch _ _ _ _ => r.1
  | _ => 1
def fkOk (ci k kd : Nat) : Bool := match tyT ci k, kd with
  | .int, 0 => true
  | .boolean, 2 => true
  | .object _, 1 => true
  | .array _, 1 => true
  | _, _ => false
def npar (y : Nat) : Option Nat := (parseMethodDescriptor (mnm y).desc).map (fun d => d.parameters.length)
def ffin (own : Nat) (ini : Bool) (ci k : Nat) : Bool := match cls9[ci]? with
  | some q => !(q.2.1 k).2.2.2 || (ini && decide ((q.2.1 k).1 = cnm own))
  | none => false
def lk (own : Nat) (ini : Bool) (i : Instr) (r : Nat × (Nat × Nat)) : Bool := match i with
  | .getfield x => flT.elem (own, x, r.1, r.2.1)
  | .putfield x => flT.elem (own, x, r.1, r.2.1) && (fkOk r.1 r.2.1 r.2.2 && ffin own ini r.1 r.2.1)
  | .new x => klT.elem (own, x, r.1)
  | .anewarray x => qlT.elem (own, x, r.1)
  | .ldc2_w x => llT.elem (own, x, r.1)
  | .invokevirtual x => mlT.elem (own, x, r.1) && (decide (mkd[r.1]? = some 0) && (decide (npar r.1 = some r.2.1) && decide (r.1 < 169)))
  | .invokestatic x => bif Nat.beq r.1 1000 then alT.elem (own, x) else bif Nat.beq r.1 1001 || Nat.beq r.1 1002 then xlT.elem (own, x, r.1) else mlT.elem (own, x, r.1) && (decide (mkd[r.1]? = some 1) && (decide (npar r.1 = some r.2.1) && decide (r.1 < 169)))
  | .invokespecial x => bif Nat.beq r.1 1000 then olT.elem (own, x) else (mlT.elem (own, x, r.1) || nlT.elem (own, x, r.1)) && (decide (mkd[r.1]? = some 2) && (decide (npar r.1 = some r.2.1) && decide (r.1 < 169)))
  | _ => true
def mini (q : MT) : Bool := decide (q.1.1.name = "<init>")
def ckE (q : MT) (x : Option IE × Nat) : Bool := match x.1 with
  | none => true
  | some (i, r) => decide (decode q.1.2.1 x.2 = .ok (i, lenI i r)) && lk q.2.1 (mini q) i r
def ckm (q : MT) (a n : Nat) : Bool := ((q.2.2.1.zipIdx.drop a).take n).all (ckE q)
theorem dfl_ok : ∀ (ci : Nat) (q : vw_C), cls9[ci]? = some q → (dfl ci).length = q.2.2 ∧ ∀ j, j < q.2.2 → defaultValue (tyT ci j) = vp_V (dfl ci) j
  | 0, q, h => by cases h; exact ⟨rfl, by decide +kernel⟩
  | 1, q, h => by cases h; exact ⟨rfl, by decide +kernel⟩
  | 2, q, h => by cases h; exact ⟨rfl, by decide +kernel⟩
  | 3, q, h => by cases h; exact ⟨rfl, by decide +kernel⟩
  | 4, q, h => by cases h; exact ⟨rfl, by decide +kernel⟩
  | 5, q, h => by cases h; exact ⟨rfl, by decide +kernel⟩
  | 6, q, h => by cases h; exact ⟨rfl, by decide +kernel⟩
  | 7, q, h => by cases h; exact ⟨rfl, by decide +kernel⟩
  | 8, q, h => by cases h; exact ⟨rfl, by decide +kernel⟩
  | n + 9, q, h => by simp [cls9] at h
theorem ck_0_0 : ckm mt_0 0 200 = true := by decide +kernel
theorem ck_1_0 : ckm mt_1 0 200 = true := by decide +kernel
theorem ck_2_0 : ckm mt_2 0 200 = true := by decide +kernel
theorem ck_3_0 : ckm mt_3 0 200 = true := by decide +kernel
theorem ck_4_0 : ckm mt_4 0 200 = true := by decide +kernel
theorem ck_5_0 : ckm mt_5 0 200 = true := by decide +kernel
theorem ck_6_0 : ckm mt_6 0 200 = true := by decide +kernel
theorem ck_7_0 : ckm mt_7 0 200 = true := by decide +kernel
theorem ck_8_0 : ckm mt_8 0 200 = true := by decide +kernel
theorem ck_9_0 : ckm mt_9 0 200 = true := by decide +kernel
theorem ck_10_0 : ckm mt_10 0 200 = true := by decide +kernel
theorem ck_11_0 : ckm mt_11 0 200 = true := by decide +kernel
theorem ck_12_0 : ckm mt_12 0 200 = true := by decide +kernel
theorem ck_13_0 : ckm mt_13 0 200 = true := by decide +kernel
theorem ck_14_0 : ckm mt_14 0 200 = true := by decide +kernel
theorem ck_15_0 : ckm mt_15 0 200 = true := by decide +kernel
theorem ck_16_0 : ckm mt_16 0 200 = true := by decide +kernel
theorem ck_17_0 : ckm mt_17 0 200 = true := by decide +kernel
theorem ck_18_0 : ckm mt_18 0 200 = true := by decide +kernel
theorem ck_19_0 : ckm mt_19 0 200 = true := by decide +kernel
theorem ck_20_0 : ckm mt_20 0 200 = true := by decide +kernel
theorem ck_21_0 : ckm mt_21 0 200 = true := by decide +kernel
theorem ck_22_0 : ckm mt_22 0 200 = true := by decide +kernel
theorem ck_23_0 : ckm mt_23 0 200 = true := by decide +kernel
theorem ck_24_0 : ckm mt_24 0 200 = true := by decide +kernel
theorem ck_25_0 : ckm mt_25 0 200 = true := by decide +kernel
theorem ck_26_0 : ckm mt_26 0 200 = true := by decide +kernel
theorem ck_27_0 : ckm mt_27 0 200 = true := by decide +kernel
theorem ck_28_0 : ckm mt_28 0 200 = true := by decide +kernel
theorem ck_29_0 : ckm mt_29 0 200 = true := by decide +kernel
theorem ck_30_0 : ckm mt_30 0 200 = true := by decide +kernel
theorem ck_31_0 : ckm mt_31 0 200 = true := by decide +kernel
theorem ck_32_0 : ckm mt_32 0 200 = true := by decide +kernel
theorem ck_33_0 : ckm mt_33 0 200 = true := by decide +kernel
theorem ck_34_0 : ckm mt_34 0 200 = true := by decide +kernel
theorem ck_35_0 : ckm mt_35 0 200 = true := by decide +kernel
theorem ck_36_0 : ckm mt_36 0 200 = true := by decide +kernel
theorem ck_37_0 : ckm mt_37 0 200 = true := by decide +kernel
theorem ck_38_0 : ckm mt_38 0 200 = true := by decide +kernel
theorem ck_39_0 : ckm mt_39 0 200 = true := by decide +kernel
theorem ck_40_0 : ckm mt_40 0 200 = true := by decide +kernel
theorem ck_41_0 : ckm mt_41 0 200 = true := by decide +kernel
theorem ck_42_0 : ckm mt_42 0 200 = true := by decide +kernel
theorem ck_43_0 : ckm mt_43 0 200 = true := by decide +kernel
theorem ck_44_0 : ckm mt_44 0 200 = true := by decide +kernel
theorem ck_45_0 : ckm mt_45 0 200 = true := by decide +kernel
theorem ck_46_0 : ckm mt_46 0 200 = true := by decide +kernel
theorem ck_47_0 : ckm mt_47 0 200 = true := by decide +kernel
theorem ck_48_0 : ckm mt_48 0 200 = true := by decide +kernel
theorem ck_49_0 : ckm mt_49 0 200 = true := by decide +kernel
theorem ck_50_0 : ckm mt_50 0 200 = true := by decide +kernel
theorem ck_51_0 : ckm mt_51 0 200 = true := by decide +kernel
theorem ck_52_0 : ckm mt_52 0 200 = true := by decide +kernel
theorem ck_53_0 : ckm mt_53 0 200 = true := by decide +kernel
theorem ck_54_0 : ckm mt_54 0 200 = true := by decide +kernel
theorem ck_55_0 : ckm mt_55 0 200 = true := by decide +kernel
theorem ck_56_0 : ckm mt_56 0 200 = true := by decide +kernel
theorem ck_57_0 : ckm mt_57 0 200 = true := by decide +kernel
theorem ck_58_0 : ckm mt_58 0 200 = true := by decide +kernel
theorem ck_59_0 : ckm mt_59 0 200 = true := by decide +kernel
theorem ck_60_0 : ckm mt_60 0 200 = true := by decide +kernel
theorem ck_61_0 : ckm mt_61 0 200 = true := by decide +kernel
theorem ck_62_0 : ckm mt_62 0 200 = true := by decide +kernel
theorem ck_62_1 : ckm mt_62 200 200 = true := by decide +kernel
theorem ck_63_0 : ckm mt_63 0 200 = true := by decide +kernel
theorem ck_64_0 : ckm mt_64 0 200 = true := by decide +kernel
theorem ck_65_0 : ckm mt_65 0 200 = true := by decide +kernel
theorem ck_66_0 : ckm mt_66 0 200 = true := by decide +kernel
theorem ck_67_0 : ckm mt_67 0 200 = true := by decide +kernel
theorem ck_68_0 : ckm mt_68 0 200 = true := by decide +kernel
theorem ck_69_0 : ckm mt_69 0 200 = true := by decide +kernel
theorem ck_70_0 : ckm mt_70 0 200 = true := by decide +kernel
theorem ck_71_0 : ckm mt_71 0 200 = true := by decide +kernel
theorem ck_72_0 : ckm mt_72 0 200 = true := by decide +kernel
theorem ck_73_0 : ckm mt_73 0 200 = true := by decide +kernel
theorem ck_74_0 : ckm mt_74 0 200 = true := by decide +kernel
theorem ck_75_0 : ckm mt_75 0 200 = true := by decide +kernel
theorem ck_76_0 : ckm mt_76 0 200 = true := by decide +kernel
theorem ck_77_0 : ckm mt_77 0 200 = true := by decide +kernel
theorem ck_78_0 : ckm mt_78 0 200 = true := by decide +kernel
theorem ck_79_0 : ckm mt_79 0 200 = true := by decide +kernel
theorem ck_80_0 : ckm mt_80 0 200 = true := by decide +kernel
theorem ck_81_0 : ckm mt_81 0 200 = true := by decide +kernel
theorem ck_82_0 : ckm mt_82 0 200 = true := by decide +kernel
theorem ck_83_0 : ckm mt_83 0 200 = true := by decide +kernel
theorem ck_84_0 : ckm mt_84 0 200 = true := by decide +kernel
theorem ck_85_0 : ckm mt_85 0 200 = true := by decide +kernel
theorem ck_86_0 : ckm mt_86 0 200 = true := by decide +kernel
theorem ck_87_0 : ckm mt_87 0 200 = true := by decide +kernel
theorem ck_88_0 : ckm mt_88 0 200 = true := by decide +kernel
theorem ck_89_0 : ckm mt_89 0 200 = true := by decide +kernel
theorem ck_90_0 : ckm mt_90 0 200 = true := by decide +kernel
theorem ck_91_0 : ckm mt_91 0 200 = true := by decide +kernel
theorem ck_92_0 : ckm mt_92 0 200 = true := by decide +kernel
theorem ck_93_0 : ckm mt_93 0 200 = true := by decide +kernel
theorem ck_94_0 : ckm mt_94 0 200 = true := by decide +kernel
theorem ck_95_0 : ckm mt_95 0 200 = true := by decide +kernel
theorem ck_96_0 : ckm mt_96 0 200 = true := by decide +kernel
theorem ck_97_0 : ckm mt_97 0 200 = true := by decide +kernel
theorem ck_98_0 : ckm mt_98 0 200 = true := by decide +kernel
theorem ck_99_0 : ckm mt_99 0 200 = true := by decide +kernel
theorem ck_100_0 : ckm mt_100 0 200 = true := by decide +kernel
theorem ck_101_0 : ckm mt_101 0 200 = true := by decide +kernel
theorem ck_102_0 : ckm mt_102 0 200 = true := by decide +kernel
theorem ck_103_0 : ckm mt_103 0 200 = true := by decide +kernel
theorem ck_104_0 : ckm mt_104 0 200 = true := by decide +kernel
theorem ck_105_0 : ckm mt_105 0 200 = true := by decide +kernel
theorem ck_106_0 : ckm mt_106 0 200 = true := by decide +kernel
theorem ck_106_1 : ckm mt_106 200 200 = true := by decide +kernel
theorem ck_107_0 : ckm mt_107 0 200 = true := by decide +kernel
theorem ck_108_0 : ckm mt_108 0 200 = true := by decide +kernel
theorem ck_109_0 : ckm mt_109 0 200 = true := by decide +kernel
theorem ck_110_0 : ckm mt_110 0 200 = true := by decide +kernel
theorem ck_111_0 : ckm mt_111 0 200 = true := by decide +kernel
theorem ck_112_0 : ckm mt_112 0 200 = true := by decide +kernel
theorem ck_113_0 : ckm mt_113 0 200 = true := by decide +kernel
theorem ck_114_0 : ckm mt_114 0 200 = true := by decide +kernel
theorem ck_115_0 : ckm mt_115 0 200 = true := by decide +kernel
theorem ck_116_0 : ckm mt_116 0 200 = true := by decide +kernel
theorem ck_117_0 : ckm mt_117 0 200 = true := by decide +kernel
theorem ck_118_0 : ckm mt_118 0 200 = true := by decide +kernel
theorem ck_119_0 : ckm mt_119 0 200 = true := by decide +kernel
theorem ck_120_0 : ckm mt_120 0 200 = true := by decide +kernel
theorem ck_121_0 : ckm mt_121 0 200 = true := by decide +kernel
theorem ck_122_0 : ckm mt_122 0 200 = true := by decide +kernel
theorem ck_123_0 : ckm mt_123 0 200 = true := by decide +kernel
theorem ck_124_0 : ckm mt_124 0 200 = true := by decide +kernel
theorem ck_125_0 : ckm mt_125 0 200 = true := by decide +kernel
theorem ck_126_0 : ckm mt_126 0 200 = true := by decide +kernel
theorem ck_127_0 : ckm mt_127 0 200 = true := by decide +kernel
theorem ck_128_0 : ckm mt_128 0 200 = true := by decide +kernel
theorem ck_128_1 : ckm mt_128 200 200 = true := by decide +kernel
theorem ck_128_2 : ckm mt_128 400 200 = true := by decide +kernel
theorem ck_129_0 : ckm mt_129 0 200 = true := by decide +kernel
theorem ck_130_0 : ckm mt_130 0 200 = true := by decide +kernel
theorem ck_131_0 : ckm mt_131 0 200 = true := by decide +kernel
theorem ck_132_0 : ckm mt_132 0 200 = true := by decide +kernel
theorem ck_133_0 : ckm mt_133 0 200 = true := by decide +kernel
theorem ck_134_0 : ckm mt_134 0 200 = true := by decide +kernel
theorem ck_135_0 : ckm mt_135 0 200 = true := by decide +kernel
theorem ck_136_0 : ckm mt_136 0 200 = true := by decide +kernel
theorem ck_137_0 : ckm mt_137 0 200 = true := by decide +kernel
theorem ck_138_0 : ckm mt_138 0 200 = true := by decide +kernel
theorem ck_139_0 : ckm mt_139 0 200 = true := by decide +kernel
theorem ck_140_0 : ckm mt_140 0 200 = true := by decide +kernel
theorem ck_141_0 : ckm mt_141 0 200 = true := by decide +kernel
theorem ck_142_0 : ckm mt_142 0 200 = true := by decide +kernel
theorem ck_143_0 : ckm mt_143 0 200 = true := by decide +kernel
theorem ck_144_0 : ckm mt_144 0 200 = true := by decide +kernel
theorem ck_145_0 : ckm mt_145 0 200 = true := by decide +kernel
theorem ck_146_0 : ckm mt_146 0 200 = true := by decide +kernel
theorem ck_147_0 : ckm mt_147 0 200 = true := by decide +kernel
theorem ck_148_0 : ckm mt_148 0 200 = true := by decide +kernel
theorem ck_149_0 : ckm mt_149 0 200 = true := by decide +kernel
theorem ck_150_0 : ckm mt_150 0 200 = true := by decide +kernel
theorem ck_151_0 : ckm mt_151 0 200 = true := by decide +kernel
theorem ck_152_0 : ckm mt_152 0 200 = true := by decide +kernel
theorem ck_153_0 : ckm mt_153 0 200 = true := by decide +kernel
theorem ck_154_0 : ckm mt_154 0 200 = true := by decide +kernel
theorem ck_155_0 : ckm mt_155 0 200 = true := by decide +kernel
theorem ck_156_0 : ckm mt_156 0 200 = true := by decide +kernel
theorem ck_157_0 : ckm mt_157 0 200 = true := by decide +kernel
theorem ck_158_0 : ckm mt_158 0 200 = true := by decide +kernel
theorem ck_159_0 : ckm mt_159 0 200 = true := by decide +kernel
theorem ck_160_0 : ckm mt_160 0 200 = true := by decide +kernel
theorem ck_161_0 : ckm mt_161 0 200 = true := by decide +kernel
theorem ck_162_0 : ckm mt_162 0 200 = true := by decide +kernel
theorem ck_162_1 : ckm mt_162 200 200 = true := by decide +kernel
theorem ck_163_0 : ckm mt_163 0 200 = true := by decide +kernel
theorem ck_164_0 : ckm mt_164 0 200 = true := by decide +kernel
theorem ck_165_0 : ckm mt_165 0 200 = true := by decide +kernel
theorem ck_166_0 : ckm mt_166 0 200 = true := by decide +kernel
theorem ck_167_0 : ckm mt_167 0 200 = true := by decide +kernel
theorem ck_167_1 : ckm mt_167 200 200 = true := by decide +kernel
theorem ck_168_0 : ckm mt_168 0 200 = true := by decide +kernel
theorem ck_169_0 : ckm mt_169 0 200 = true := by decide +kernel
theorem ck_169_1 : ckm mt_169 200 200 = true := by decide +kernel
theorem ck_169_2 : ckm mt_169 400 200 = true := by decide +kernel
theorem ck_169_3 : ckm mt_169 600 200 = true := by decide +kernel
theorem ck_169_4 : ckm mt_169 800 200 = true := by decide +kernel
theorem ck_169_5 : ckm mt_169 1000 200 = true := by decide +kernel
theorem ck_169_6 : ckm mt_169 1200 200 = true := by decide +kernel
