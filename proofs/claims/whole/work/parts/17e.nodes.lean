/-! ===== node equations: what each method does from a node to the next ===== -/
set_option maxHeartbeats 400000
set_option maxRecDepth 100000
-- L_law ([I)Z: 169
theorem nd_169_0 {c : Ct} {dd : Bool} {ρ : Kt} (H : St c dd mt_169 ρ) (h : AH) (a0 : Nat) : ρ 0 [some (.ref a0), none, none, none] [] h = (c 62 [.ref h.2.1] (hN h (oB 7 (dfl 7)) (dfl 7).length)).bind fun q1 => rV q1 fun h2 => (c 106 [.ref h2.2.1] (hN h2 (oB 8 (dfl 8)) (dfl 8).length)).bind fun q3 => rV q3 fun h4 => ρ 18 [some (.ref a0), some (.ref h.2.1), some (.ref h2.2.1), some (.int 0)] [] h4 :=
 T1 (x_new H rfl) rfl
 (T1 (x_dup H rfl) rfl
 ((x_init H rfl [] rfl rfl rfl rfl).trans (bi_c fun q1 => rV_c fun h2 =>
 U1 rfl (T2 [some (.ref a0), some (.ref h.2.1), none, none] (x_astore_n H rfl rfl) rfl
 (T1 (x_new H rfl) rfl
 (T1 (x_dup H rfl) rfl
 ((x_init H rfl [] rfl rfl rfl rfl).trans (bi_c fun q3 => rV_c fun h4 =>
 U1 rfl (T2 [some (.ref a0), some (.ref h.2.1), some (.ref h2.2.1), none] (x_astore_n H rfl rfl) rfl
 (T1 (x_iconst H rfl ki_0) rfl
 (T2 [some (.ref a0), some (.ref h.2.1), some (.ref h2.2.1), some (.int 0)] (x_istore_n H rfl rfl) rfl rfl)))))))))))
theorem nd_169_18 {c : Ct} {dd : Bool} {ρ : Kt} (H : St c dd mt_169 ρ) (h : AH) (a0 : Nat) (a1 : Nat) (a2 : Nat) (x3 : Int32) : ρ 18 [some (.ref a0), some (.ref a1), some (.ref a2), some (.int x3)] [] h = lnA h a0 fun v1 => if (v1 - 7) < x3 then (isZ 1 (some (some (.int 1), h))) else (ldI h a0 x3 fun v2 => if ((v2 &&& 31)).toInt = 0 then (ldI h a0 (x3 + 1) fun v3 => ldI h a0 (x3 + 2) fun v4 => isO h a1 7 ((c 63 [.ref a1, .int v3, .int v4] h).bind fun q5 => rI q5 fun v7 h6 => ldI h6 a0 (x3 + 1) fun v8 => ldI h6 a0 (x3 + 2) fun v9 => isO h6 a2 8 ((c 108 [.ref a2, .int v8, .int v9] h6).bind fun q10 => rI q10 fun v12 h11 => if v7 = v12 then (ρ 1209 [some (.ref a0), some (.ref a1), some (.ref a2), some (.int x3)] [] h11) else (isZ 0 (some (some (.int 0), h11)))))) else (if ((v2 &&& 31)).toInt = 1 then (ldI h a0 (x3 + 1) fun v13 => isO h a1 7 ((c 64 [.ref a1, .int v13] h).bind fun q14 => rI q14 fun v16 h15 => ldI h15 a0 (x3 + 1) fun v17 => isO h15 a2 8 ((c 109 [.ref a2, .int v17] h15).bind fun q18 => rI q18 fun v20 h19 => if v16 = v20 then (ρ 1209 [some (.ref a0), some (.ref a1), some (.ref a2), some (.int x3)] [] h19) else (isZ 0 (some (some (.int 0), h19)))))) else (if ((v2 &&& 31)).toInt = 2 then (ldI h a0 (x3 + 1) fun v21 => isO h a1 7 ((c 65 [.ref a1, .int v21] h).bind fun q22 => rI q22 fun v24 h23 => ldI h23 a0 (x3 + 1) fun v25 => isO h23 a2 8 ((c 111 [.ref a2, .int v25] h23).bind fun q26 => rI q26 fun v28 h27 => if v24 = v28 then (ρ 1209 [some (.ref a0), some (.ref a1), some (.ref a2), some (.int x3)] [] h27) else (isZ 0 (some (some (.int 0), h27)))))) else (if ((v2 &&& 31)).toInt = 3 then (isO h a1 7 ((c 66 [.ref a1] h).bind fun q29 => rI q29 fun v31 h30 => isO h30 a2 8 ((c 112 [.ref a2] h30).bind fun q32 => rI q32 fun v34 h33 => if v31 = v34 then (ρ 1209 [some (.ref a0), some (.ref a1), some (.ref a2), some (.int x3)] [] h33) else (isZ 0 (some (some (.int 0), h33)))))) else (if ((v2 &&& 31)).toInt = 4 then (ldI h a0 (x3 + 1) fun v35 => ldI h a0 (x3 + 2) fun v36 => isO h a1 7 ((c 67 [.ref a1, .int v35, .int v36] h).bind fun q37 => rI q37 fun v39 h38 => ldI h38 a0 (x3 + 1) fun v40 => ldI h38 a0 (x3 + 2) fun v41 => isO h38 a2 8 ((c 119 [.ref a2, .int v40, .int v41] h38).bind fun q42 => rI q42 fun v44 h43 => if v39 = v44 then (ρ 1209 [some (.ref a0), some (.ref a1), some (.ref a2), some (.int x3)] [] h43) else (isZ 0 (some (some (.int 0), h43)))))) else (if ((v2 &&& 31)).toInt = 5 then (ldI h a0 (x3 + 1) fun v45 => ldI h a0 (x3 + 2) fun v46 => ldI h a0 (x3 + 3) fun v47 => ldI h a0 (x3 + 4) fun v48 => ldI h a0 (x3 + 5) fun v49 => ldI h a0 (x3 + 6) fun v50 => isO h a1 7 ((c 68 [.ref a1, .int v45, .int v46, .int v47, .int v48, .int v49, .int v50] h).bind fun q51 => rI q51 fun v53 h52 => ldI h52 a0 (x3 + 1) fun v54 => ldI h52 a0 (x3 + 2) fun v55 => ldI h52 a0 (x3 + 3) fun v56 => ldI h52 a0 (x3 + 4) fun v57 => ldI h52 a0 (x3 + 5) fun v58 => ldI h52 a0 (x3 + 6) fun v59 => isO h52 a2 8 ((c 121 [.ref a2, .int v54, .int v55, .int v56, .int v57, .int v58, .int v59] h52).bind fun q60 => rI q60 fun v62 h61 => if v53 = v62 then (ρ 1209 [some (.ref a0), some (.ref a1), some (.ref a2), some (.int x3)] [] h61) else (isZ 0 (some (some (.int 0), h61)))))) else (if ((v2 &&& 31)).toInt = 6 then (ldI h a0 (x3 + 1) fun v63 => ldI h a0 (x3 + 2) fun v64 => ldI h a0 (x3 + 3) fun v65 => if v65 = 0 then (ρ 388 [some (.ref a0), some (.ref a1), some (.ref a2), some (.int x3)] [.int 0, .int v64, .int v63, .ref a1] h) else (ρ 388 [some (.ref a0), some (.ref a1), some (.ref a2), some (.int x3)] [.int 1, .int v64, .int v63, .ref a1] h)) else (if ((v2 &&& 31)).toInt = 7 then (ldI h a0 (x3 + 1) fun v66 => ldI h a0 (x3 + 2) fun v67 => isO h a1 7 ((c 70 [.ref a1, .int v66, .int v67] h).bind fun q68 => rI q68 fun v70 h69 => ldI h69 a0 (x3 + 1) fun v71 => ldI h69 a0 (x3 + 2) fun v72 => isO h69 a2 8 ((c 123 [.ref a2, .int v71, .int v72] h69).bind fun q73 => rI q73 fun v75 h74 => if v70 = v75 then (ρ 1209 [some (.ref a0), some (.ref a1), some (.ref a2), some (.int x3)] [] h74) else (isZ 0 (some (some (.int 0), h74)))))) else (if ((v2 &&& 31)).toInt = 8 then (ldI h a0 (x3 + 1) fun v76 => ldI h a0 (x3 + 2) fun v77 => ldI h a0 (x3 + 3) fun v78 => ldI h a0 (x3 + 4) fun v79 => ldI h a0 (x3 + 5) fun v80 => isO h a1 7 ((c 71 [.ref a1, .int v76, .int v77, .int v78, .int v79, .int v80] h).bind fun q81 => rI q81 fun v83 h82 => ldI h82 a0 (x3 + 1) fun v84 => ldI h82 a0 (x3 + 2) fun v85 => ldI h82 a0 (x3 + 3) fun v86 => ldI h82 a0 (x3 + 4) fun v87 => ldI h82 a0 (x3 + 5) fun v88 => isO h82 a2 8 ((c 124 [.ref a2, .int v84, .int v85, .int v86, .int v87, .int v88] h82).bind fun q89 => rI q89 fun v91 h90 => if v83 = v91 then (ρ 1209 [some (.ref a0), some (.ref a1), some (.ref a2), some (.int x3)] [] h90) else (isZ 0 (some (some (.int 0), h90)))))) else (if ((v2 &&& 31)).toInt = 9 then (isO h a1 7 ((c 72 [.ref a1] h).bind fun q92 => rI q92 fun v94 h93 => isO h93 a2 8 ((c 125 [.ref a2] h93).bind fun q95 => rI q95 fun v97 h96 => if v94 = v97 then (ρ 1209 [some (.ref a0), some (.ref a1), some (.ref a2), some (.int x3)] [] h96) else (isZ 0 (some (some (.int 0), h96)))))) else (if ((v2 &&& 31)).toInt = 10 then (ldI h a0 (x3 + 1) fun v98 => isO h a1 7 ((c 73 [.ref a1, .int v98] h).bind fun q99 => rI q99 fun v101 h100 => ldI h100 a0 (x3 + 1) fun v102 => isO h100 a2 8 ((c 126 [.ref a2, .int v102] h100).bind fun q103 => rI q103 fun v105 h104 => if v101 = v105 then (ρ 1209 [some (.ref a0), some (.ref a1), some (.ref a2), some (.int x3)] [] h104) else (isZ 0 (some (some (.int 0), h104)))))) else (if ((v2 &&& 31)).toInt = 11 then (ldI h a0 (x3 + 1) fun v106 => ldI h a0 (x3 + 2) fun v107 => ldI h a0 (x3 + 3) fun v108 => isO h a1 7 ((c 74 [.ref a1, .int v106, .int v107, .int v108] h).bind fun q109 => rI q109 fun v111 h110 => ldI h110 a0 (x3 + 1) fun v112 => ldI h110 a0 (x3 + 2) fun v113 => ldI h110 a0 (x3 + 3) fun v114 => isO h110 a2 8 ((c 128 [.ref a2, .int v112, .int v113, .int v114] h110).bind fun q115 => rI q115 fun v117 h116 => if v111 = v117 then (ρ 1209 [some (.ref a0), some (.ref a1), some (.ref a2), some (.int x3)] [] h116) else (isZ 0 (some (some (.int 0), h116)))))) else (if ((v2 &&& 31)).toInt = 12 then (ldI h a0 (x3 + 1) fun v118 => ldI h a0 (x3 + 2) fun v119 => isO h a1 7 ((c 79 [.ref a1, .int v118, .int v119] h).bind fun q120 => rI q120 fun v122 h121 => ldI h121 a0 (x3 + 1) fun v123 => ldI h121 a0 (x3 + 2) fun v124 => isO h121 a2 8 ((c 132 [.ref a2, .int v123, .int v124] h121).bind fun q125 => rI q125 fun v127 h126 => if v122 = v127 then (ρ 1209 [some (.ref a0), some (.ref a1), some (.ref a2), some (.int x3)] [] h126) else (isZ 0 (some (some (.int 0), h126)))))) else (if ((v2 &&& 31)).toInt = 13 then (ldI h a0 (x3 + 1) fun v128 => ldI h a0 (x3 + 2) fun v129 => ldI h a0 (x3 + 3) fun v130 => isO h a1 7 ((c 80 [.ref a1, .int v128, .int v129, .int v130] h).bind fun q131 => rI q131 fun v133 h132 => ldI h132 a0 (x3 + 1) fun v134 => ldI h132 a0 (x3 + 2) fun v135 => ldI h132 a0 (x3 + 3) fun v136 => isO h132 a2 8 ((c 133 [.ref a2, .int v134, .int v135, .int v136] h132).bind fun q137 => rI q137 fun v139 h138 => if v133 = v139 then (ρ 1209 [some (.ref a0), some (.ref a1), some (.ref a2), some (.int x3)] [] h138) else (isZ 0 (some (some (.int 0), h138)))))) else (if ((v2 &&& 31)).toInt = 14 then (ldI h a0 (x3 + 1) fun v140 => isO h a1 7 ((c 81 [.ref a1, .int v140] h).bind fun q141 => rI q141 fun v143 h142 => ldI h142 a0 (x3 + 1) fun v144 => isO h142 a2 8 ((c 152 [.ref a2, .int v144] h142).bind fun q145 => rI q145 fun v147 h146 => if v143 = v147 then (ρ 1209 [some (.ref a0), some (.ref a1), some (.ref a2), some (.int x3)] [] h146) else (isZ 0 (some (some (.int 0), h146)))))) else (if ((v2 &&& 31)).toInt = 15 then (ldI h a0 (x3 + 1) fun v148 => ldI h a0 (x3 + 2) fun v149 => isO h a1 7 ((c 84 [.ref a1, .int v148, .int v149] h).bind fun q150 => rI q150 fun v152 h151 => ldI h151 a0 (x3 + 1) fun v153 => ldI h151 a0 (x3 + 2) fun v154 => isO h151 a2 8 ((c 153 [.ref a2, .int v153, .int v154] h151).bind fun q155 => rI q155 fun v157 h156 => if v152 = v157 then (ρ 1209 [some (.ref a0), some (.ref a1), some (.ref a2), some (.int x3)] [] h156) else (isZ 0 (some (some (.int 0), h156)))))) else (if ((v2 &&& 31)).toInt = 16 then (ldI h a0 (x3 + 1) fun v158 => isO h a1 7 ((c 85 [.ref a1, .int v158] h).bind fun q159 => rI q159 fun v161 h160 => ldI h160 a0 (x3 + 1) fun v162 => isO h160 a2 8 ((c 154 [.ref a2, .int v162] h160).bind fun q163 => rI q163 fun v165 h164 => if v161 = v165 then (ρ 1209 [some (.ref a0), some (.ref a1), some (.ref a2), some (.int x3)] [] h164) else (isZ 0 (some (some (.int 0), h164)))))) else (if ((v2 &&& 31)).toInt = 17 then (ldI h a0 (x3 + 1) fun v166 => ldI h a0 (x3 + 2) fun v167 => ldI h a0 (x3 + 3) fun v168 => isO h a1 7 ((c 86 [.ref a1, .int v166, .int v167, .int v168] h).bind fun q169 => rI q169 fun v171 h170 => ldI h170 a0 (x3 + 1) fun v172 => ldI h170 a0 (x3 + 2) fun v173 => ldI h170 a0 (x3 + 3) fun v174 => isO h170 a2 8 ((c 155 [.ref a2, .int v172, .int v173, .int v174] h170).bind fun q175 => rI q175 fun v177 h176 => if v171 = v177 then (ρ 1209 [some (.ref a0), some (.ref a1), some (.ref a2), some (.int x3)] [] h176) else (isZ 0 (some (some (.int 0), h176)))))) else (if ((v2 &&& 31)).toInt = 18 then (ldI h a0 (x3 + 1) fun v178 => ldI h a0 (x3 + 2) fun v179 => isO h a1 7 ((c 87 [.ref a1, .int v178, .int v179] h).bind fun q180 => rI q180 fun v182 h181 => ldI h181 a0 (x3 + 1) fun v183 => ldI h181 a0 (x3 + 2) fun v184 => isO h181 a2 8 ((c 156 [.ref a2, .int v183, .int v184] h181).bind fun q185 => rI q185 fun v187 h186 => if v182 = v187 then (ρ 1209 [some (.ref a0), some (.ref a1), some (.ref a2), some (.int x3)] [] h186) else (isZ 0 (some (some (.int 0), h186)))))) else (if ((v2 &&& 31)).toInt = 19 then (ldI h a0 (x3 + 1) fun v188 => ldI h a0 (x3 + 2) fun v189 => ldI h a0 (x3 + 3) fun v190 => ldI h a0 (x3 + 4) fun v191 => isO h a1 7 ((c 88 [.ref a1, .int v188, .int v189, .int v190, .int v191] h).bind fun q192 => rI q192 fun v194 h193 => ldI h193 a0 (x3 + 1) fun v195 => ldI h193 a0 (x3 + 2) fun v196 => ldI h193 a0 (x3 + 3) fun v197 => ldI h193 a0 (x3 + 4) fun v198 => isO h193 a2 8 ((c 157 [.ref a2, .int v195, .int v196, .int v197, .int v198] h193).bind fun q199 => rI q199 fun v201 h200 => if v194 = v201 then (ρ 1209 [some (.ref a0), some (.ref a1), some (.ref a2), some (.int x3)] [] h200) else (isZ 0 (some (some (.int 0), h200)))))) else (if ((v2 &&& 31)).toInt = 20 then (ldI h a0 (x3 + 1) fun v202 => ldI h a0 (x3 + 2) fun v203 => isO h a1 7 ((c 89 [.ref a1, .int v202, .int v203] h).bind fun q204 => rI q204 fun v206 h205 => ldI h205 a0 (x3 + 1) fun v207 => ldI h205 a0 (x3 + 2) fun v208 => isO h205 a2 8 ((c 158 [.ref a2, .int v207, .int v208] h205).bind fun q209 => rI q209 fun v211 h210 => if v206 = v211 then (ρ 1209 [some (.ref a0), some (.ref a1), some (.ref a2), some (.int x3)] [] h210) else (isZ 0 (some (some (.int 0), h210)))))) else (if ((v2 &&& 31)).toInt = 21 then (ldI h a0 (x3 + 1) fun v212 => ldI h a0 (x3 + 2) fun v213 => isO h a1 7 ((c 90 [.ref a1, .int v212, .int v213] h).bind fun q214 => rI q214 fun v216 h215 => ldI h215 a0 (x3 + 1) fun v217 => ldI h215 a0 (x3 + 2) fun v218 => isO h215 a2 8 ((c 159 [.ref a2, .int v217, .int v218] h215).bind fun q219 => rI q219 fun v221 h220 => if v216 = v221 then (ρ 1209 [some (.ref a0), some (.ref a1), some (.ref a2), some (.int x3)] [] h220) else (isZ 0 (some (some (.int 0), h220)))))) else (if ((v2 &&& 31)).toInt = 22 then (ldI h a0 (x3 + 1) fun v222 => isO h a1 7 ((c 93 [.ref a1, .int v222] h).bind fun q223 => rI q223 fun v225 h224 => ldI h224 a0 (x3 + 1) fun v226 => isO h224 a2 8 ((c 161 [.ref a2, .int v226] h224).bind fun q227 => rI q227 fun v229 h228 => if v225 = v229 then (ρ 1209 [some (.ref a0), some (.ref a1), some (.ref a2), some (.int x3)] [] h228) else (isZ 0 (some (some (.int 0), h228)))))) else (if ((v2 &&& 31)).toInt = 23 then (ldI h a0 (x3 + 1) fun v230 => ldI h a0 (x3 + 2) fun v231 => ldI h a0 (x3 + 3) fun v232 => isO h a1 7 ((c 94 [.ref a1, .int v230, .int v231, .int v232] h).bind fun q233 => rI q233 fun v235 h234 => ldI h234 a0 (x3 + 1) fun v236 => ldI h234 a0 (x3 + 2) fun v237 => ldI h234 a0 (x3 + 3) fun v238 => isO h234 a2 8 ((c 162 [.ref a2, .int v236, .int v237, .int v238] h234).bind fun q239 => rI q239 fun v241 h240 => if v235 = v241 then (ρ 1209 [some (.ref a0), some (.ref a1), some (.ref a2), some (.int x3)] [] h240) else (isZ 0 (some (some (.int 0), h240)))))) else (if ((v2 &&& 31)).toInt = 24 then (ldI h a0 (x3 + 1) fun v242 => ldI h a0 (x3 + 2) fun v243 => isO h a1 7 ((c 95 [.ref a1, .int v242, .int v243] h).bind fun q244 => rI q244 fun v246 h245 => ldI h245 a0 (x3 + 1) fun v247 => ldI h245 a0 (x3 + 2) fun v248 => isO h245 a2 8 ((c 163 [.ref a2, .int v247, .int v248] h245).bind fun q249 => rI q249 fun v251 h250 => if v246 = v251 then (ρ 1209 [some (.ref a0), some (.ref a1), some (.ref a2), some (.int x3)] [] h250) else (isZ 0 (some (some (.int 0), h250)))))) else (if ((v2 &&& 31)).toInt = 25 then (ldI h a0 (x3 + 1) fun v252 => ldI h a0 (x3 + 2) fun v253 => ldI h a0 (x3 + 3) fun v254 => isO h a1 7 ((c 97 [.ref a1, .int v252, .int v253, .int v254] h).bind fun q255 => rI q255 fun v257 h256 => ldI h256 a0 (x3 + 1) fun v258 => ldI h256 a0 (x3 + 2) fun v259 => ldI h256 a0 (x3 + 3) fun v260 => isO h256 a2 8 ((c 165 [.ref a2, .int v258, .int v259, .int v260] h256).bind fun q261 => rI q261 fun v263 h262 => if v257 = v263 then (ρ 1209 [some (.ref a0), some (.ref a1), some (.ref a2), some (.int x3)] [] h262) else (isZ 0 (some (some (.int 0), h262)))))) else (if ((v2 &&& 31)).toInt = 26 then (ldI h a0 (x3 + 1) fun v264 => ldI h a0 (x3 + 2) fun v265 => ldI h a0 (x3 + 3) fun v266 => isO h a1 7 ((c 98 [.ref a1, .int v264, .int v265, .int v266] h).bind fun q267 => rI q267 fun v269 h268 => ldI h268 a0 (x3 + 1) fun v270 => ldI h268 a0 (x3 + 2) fun v271 => ldI h268 a0 (x3 + 3) fun v272 => isO h268 a2 8 ((c 166 [.ref a2, .int v270, .int v271, .int v272] h268).bind fun q273 => rI q273 fun v275 h274 => if v269 = v275 then (ρ 1209 [some (.ref a0), some (.ref a1), some (.ref a2), some (.int x3)] [] h274) else (isZ 0 (some (some (.int 0), h274)))))) else (if ((v2 &&& 31)).toInt = 27 then (ldI h a0 (x3 + 1) fun v276 => ldI h a0 (x3 + 2) fun v277 => ldI h a0 (x3 + 3) fun v278 => ldI h a0 (x3 + 4) fun v279 => isO h a1 7 ((c 99 [.ref a1, .int v276, .int v277, .int v278, .int v279] h).bind fun q280 => rI q280 fun v282 h281 => ldI h281 a0 (x3 + 1) fun v283 => ldI h281 a0 (x3 + 2) fun v284 => ldI h281 a0 (x3 + 3) fun v285 => ldI h281 a0 (x3 + 4) fun v286 => isO h281 a2 8 ((c 167 [.ref a2, .int v283, .int v284, .int v285, .int v286] h281).bind fun q287 => rI q287 fun v289 h288 => if v282 = v289 then (ρ 1209 [some (.ref a0), some (.ref a1), some (.ref a2), some (.int x3)] [] h288) else (isZ 0 (some (some (.int 0), h288)))))) else (if ((v2 &&& 31)).toInt = 28 then (ldI h a0 (x3 + 1) fun v290 => isO h a1 7 ((c 102 [.ref a1, .int v290] h).bind fun q291 => rI q291 fun v293 h292 => ldI h292 a0 (x3 + 1) fun v294 => isO h292 a2 8 ((c 168 [.ref a2, .int v294] h292).bind fun q295 => rI q295 fun v297 h296 => if v293 = v297 then (ρ 1209 [some (.ref a0), some (.ref a1), some (.ref a2), some (.int x3)] [] h296) else (isZ 0 (some (some (.int 0), h296)))))) else (ρ 1209 [some (.ref a0), some (.ref a1), some (.ref a2), some (.int x3)] [] h)))))))))))))))))))))))))))))) :=
 T1 (x_iload_n H rfl rfl) rfl
 (T1 (x_aload_n H rfl rfl) rfl
 ((x_alen H rfl).trans (lnA_c fun v1 =>
 U1 rfl (T1 (x_bipush H rfl kb_7) rfl
 (T1 (x_isub H rfl) rfl
 ((x_icmp_gt H rfl (t := 1215) (by decide)).trans (if_c
 (U1 rfl (T1 (x_iconst H rfl ki_1) rfl
 (x_zreturn H rfl rfl)))
 (U1 rfl (T1 (x_aload_n H rfl rfl) rfl
 (T1 (x_iload_n H rfl rfl) rfl
 ((x_iaload H rfl).trans (ldI_c fun v2 =>
 U1 rfl (T1 (x_bipush H rfl kb_31) rfl
 (T1 (x_iand H rfl) rfl
 ((x_switch H rfl rfl).trans
 (swt_c (lo1 := 1) (by decide) ((jmp_eq (t := 164) (by decide)).trans (U1 rfl (T1 (x_aload_n H rfl rfl) rfl
 (T1 (x_aload_n H rfl rfl) rfl
 (T1 (x_iload_n H rfl rfl) rfl
 (T1 (x_iconst H rfl ki_1) rfl
 (T1 (x_iadd H rfl) rfl
 ((x_iaload H rfl).trans (ldI_c fun v3 =>
 U1 rfl (T1 (x_aload_n H rfl rfl) rfl
 (T1 (x_iload_n H rfl rfl) rfl
 (T1 (x_iconst H rfl ki_2) rfl
 (T1 (x_iadd H rfl) rfl
 ((x_iaload H rfl).trans (ldI_c fun v4 =>
 U1 rfl ((x_callI (ci := 7) H rfl [.int v3, .int v4] rfl rfl rfl rfl).trans (isO_c (bi_c fun q5 => rI_c fun v7 h6 =>
 U1 rfl (T1 (x_aload_n H rfl rfl) rfl
 (T1 (x_aload_n H rfl rfl) rfl
 (T1 (x_iload_n H rfl rfl) rfl
 (T1 (x_iconst H rfl ki_1) rfl
 (T1 (x_iadd H rfl) rfl
 ((x_iaload H rfl).trans (ldI_c fun v8 =>
 U1 rfl (T1 (x_aload_n H rfl rfl) rfl
 (T1 (x_iload_n H rfl rfl) rfl
 (T1 (x_iconst H rfl ki_2) rfl
 (T1 (x_iadd H rfl) rfl
 ((x_iaload H rfl).trans (ldI_c fun v9 =>
 U1 rfl ((x_callI (ci := 8) H rfl [.int v8, .int v9] rfl rfl rfl rfl).trans (isO_c (bi_c fun q10 => rI_c fun v12 h11 =>
 U1 rfl ((x_icmp_eq H rfl (t := 1209) (by decide)).trans (if_c
 (U2 [some (.ref a0), some (.ref a1), some (.ref a2), some (.int x3)] rfl rfl)
 (U1 rfl (T1 (x_iconst H rfl ki_0) rfl
 (x_zreturn H rfl rfl)))))))))))))))))))))))))))))))))))))))
 (swt_c (lo1 := 2) (by decide) ((jmp_eq (t := 197) (by decide)).trans (U1 rfl (T1 (x_aload_n H rfl rfl) rfl
 (T1 (x_aload_n H rfl rfl) rfl
 (T1 (x_iload_n H rfl rfl) rfl
 (T1 (x_iconst H rfl ki_1) rfl
 (T1 (x_iadd H rfl) rfl
 ((x_iaload H rfl).trans (ldI_c fun v13 =>
 U1 rfl ((x_callI (ci := 7) H rfl [.int v13] rfl rfl rfl rfl).trans (isO_c (bi_c fun q14 => rI_c fun v16 h15 =>
 U1 rfl (T1 (x_aload_n H rfl rfl) rfl
 (T1 (x_aload_n H rfl rfl) rfl
 (T1 (x_iload_n H rfl rfl) rfl
 (T1 (x_iconst H rfl ki_1) rfl
 (T1 (x_iadd H rfl) rfl
 ((x_iaload H rfl).trans (ldI_c fun v17 =>
 U1 rfl ((x_callI (ci := 8) H rfl [.int v17] rfl rfl rfl rfl).trans (isO_c (bi_c fun q18 => rI_c fun v20 h19 =>
 U1 rfl ((x_icmp_eq H rfl (t := 1209) (by decide)).trans (if_c
 (U2 [some (.ref a0), some (.ref a1), some (.ref a2), some (.int x3)] rfl rfl)
 (U1 rfl (T1 (x_iconst H rfl ki_0) rfl
 (x_zreturn H rfl rfl)))))))))))))))))))))))))))
 (swt_c (lo1 := 3) (by decide) ((jmp_eq (t := 220) (by decide)).trans (U1 rfl (T1 (x_aload_n H rfl rfl) rfl
 (T1 (x_aload_n H rfl rfl) rfl
 (T1 (x_iload_n H rfl rfl) rfl
 (T1 (x_iconst H rfl ki_1) rfl
 (T1 (x_iadd H rfl) rfl
 ((x_iaload H rfl).trans (ldI_c fun v21 =>
 U1 rfl ((x_callI (ci := 7) H rfl [.int v21] rfl rfl rfl rfl).trans (isO_c (bi_c fun q22 => rI_c fun v24 h23 =>
 U1 rfl (T1 (x_aload_n H rfl rfl) rfl
 (T1 (x_aload_n H rfl rfl) rfl
 (T1 (x_iload_n H rfl rfl) rfl
 (T1 (x_iconst H rfl ki_1) rfl
 (T1 (x_iadd H rfl) rfl
 ((x_iaload H rfl).trans (ldI_c fun v25 =>
 U1 rfl ((x_callI (ci := 8) H rfl [.int v25] rfl rfl rfl rfl).trans (isO_c (bi_c fun q26 => rI_c fun v28 h27 =>
 U1 rfl ((x_icmp_eq H rfl (t := 1209) (by decide)).trans (if_c
 (U2 [some (.ref a0), some (.ref a1), some (.ref a2), some (.int x3)] rfl rfl)
 (U1 rfl (T1 (x_iconst H rfl ki_0) rfl
 (x_zreturn H rfl rfl)))))))))))))))))))))))))))
 (swt_c (lo1 := 4) (by decide) ((jmp_eq (t := 243) (by decide)).trans (U1 rfl (T1 (x_aload_n H rfl rfl) rfl
 ((x_callI (ci := 7) H rfl [] rfl rfl rfl rfl).trans (isO_c (bi_c fun q29 => rI_c fun v31 h30 =>
 U1 rfl (T1 (x_aload_n H rfl rfl) rfl
 ((x_callI (ci := 8) H rfl [] rfl rfl rfl rfl).trans (isO_c (bi_c fun q32 => rI_c fun v34 h33 =>
 U1 rfl ((x_icmp_eq H rfl (t := 1209) (by decide)).trans (if_c
 (U2 [some (.ref a0), some (.ref a1), some (.ref a2), some (.int x3)] rfl rfl)
 (U1 rfl (T1 (x_iconst H rfl ki_0) rfl
 (x_zreturn H rfl rfl)))))))))))))))
 (swt_c (lo1 := 5) (by decide) ((jmp_eq (t := 256) (by decide)).trans (U1 rfl (T1 (x_aload_n H rfl rfl) rfl
 (T1 (x_aload_n H rfl rfl) rfl
 (T1 (x_iload_n H rfl rfl) rfl
 (T1 (x_iconst H rfl ki_1) rfl
 (T1 (x_iadd H rfl) rfl
 ((x_iaload H rfl).trans (ldI_c fun v35 =>
 U1 rfl (T1 (x_aload_n H rfl rfl) rfl
 (T1 (x_iload_n H rfl rfl) rfl
 (T1 (x_iconst H rfl ki_2) rfl
 (T1 (x_iadd H rfl) rfl
 ((x_iaload H rfl).trans (ldI_c fun v36 =>
 U1 rfl ((x_callI (ci := 7) H rfl [.int v35, .int v36] rfl rfl rfl rfl).trans (isO_c (bi_c fun q37 => rI_c fun v39 h38 =>
 U1 rfl (T1 (x_aload_n H rfl rfl) rfl
 (T1 (x_aload_n H rfl rfl) rfl
 (T1 (x_iload_n H rfl rfl) rfl
 (T1 (x_iconst H rfl ki_1) rfl
 (T1 (x_iadd H rfl) rfl
 ((x_iaload H rfl).trans (ldI_c fun v40 =>
 U1 rfl (T1 (x_aload_n H rfl rfl) rfl
 (T1 (x_iload_n H rfl rfl) rfl
 (T1 (x_iconst H rfl ki_2) rfl
 (T1 (x_iadd H rfl) rfl
 ((x_iaload H rfl).trans (ldI_c fun v41 =>
 U1 rfl ((x_callI (ci := 8) H rfl [.int v40, .int v41] rfl rfl rfl rfl).trans (isO_c (bi_c fun q42 => rI_c fun v44 h43 =>
 U1 rfl ((x_icmp_eq H rfl (t := 1209) (by decide)).trans (if_c
 (U2 [some (.ref a0), some (.ref a1), some (.ref a2), some (.int x3)] rfl rfl)
 (U1 rfl (T1 (x_iconst H rfl ki_0) rfl
 (x_zreturn H rfl rfl)))))))))))))))))))))))))))))))))))))))
 (swt_c (lo1 := 6) (by decide) ((jmp_eq (t := 289) (by decide)).trans (U1 rfl (T1 (x_aload_n H rfl rfl) rfl
 (T1 (x_aload_n H rfl rfl) rfl
 (T1 (x_iload_n H rfl rfl) rfl
 (T1 (x_iconst H rfl ki_1) rfl
 (T1 (x_iadd H rfl) rfl
 ((x_iaload H rfl).trans (ldI_c fun v45 =>
 U1 rfl (T1 (x_aload_n H rfl rfl) rfl
 (T1 (x_iload_n H rfl rfl) rfl
 (T1 (x_iconst H rfl ki_2) rfl
 (T1 (x_iadd H rfl) rfl
 ((x_iaload H rfl).trans (ldI_c fun v46 =>
 U1 rfl (T1 (x_aload_n H rfl rfl) rfl
 (T1 (x_iload_n H rfl rfl) rfl
 (T1 (x_iconst H rfl ki_3) rfl
 (T1 (x_iadd H rfl) rfl
 ((x_iaload H rfl).trans (ldI_c fun v47 =>
 U1 rfl (T1 (x_aload_n H rfl rfl) rfl
 (T1 (x_iload_n H rfl rfl) rfl
 (T1 (x_iconst H rfl ki_4) rfl
 (T1 (x_iadd H rfl) rfl
 ((x_iaload H rfl).trans (ldI_c fun v48 =>
 U1 rfl (T1 (x_aload_n H rfl rfl) rfl
 (T1 (x_iload_n H rfl rfl) rfl
 (T1 (x_iconst H rfl ki_5) rfl
 (T1 (x_iadd H rfl) rfl
 ((x_iaload H rfl).trans (ldI_c fun v49 =>
 U1 rfl (T1 (x_aload_n H rfl rfl) rfl
 (T1 (x_iload_n H rfl rfl) rfl
 (T1 (x_bipush H rfl kb_6) rfl
 (T1 (x_iadd H rfl) rfl
 ((x_iaload H rfl).trans (ldI_c fun v50 =>
 U1 rfl ((x_callI (ci := 7) H rfl [.int v45, .int v46, .int v47, .int v48, .int v49, .int v50] rfl rfl rfl rfl).trans (isO_c (bi_c fun q51 => rI_c fun v53 h52 =>
 U1 rfl (T1 (x_aload_n H rfl rfl) rfl
 (T1 (x_aload_n H rfl rfl) rfl
 (T1 (x_iload_n H rfl rfl) rfl
 (T1 (x_iconst H rfl ki_1) rfl
 (T1 (x_iadd H rfl) rfl
 ((x_iaload H rfl).trans (ldI_c fun v54 =>
 U1 rfl (T1 (x_aload_n H rfl rfl) rfl
 (T1 (x_iload_n H rfl rfl) rfl
 (T1 (x_iconst H rfl ki_2) rfl
 (T1 (x_iadd H rfl) rfl
 ((x_iaload H rfl).trans (ldI_c fun v55 =>
 U1 rfl (T1 (x_aload_n H rfl rfl) rfl
 (T1 (x_iload_n H rfl rfl) rfl
 (T1 (x_iconst H rfl ki_3) rfl
 (T1 (x_iadd H rfl) rfl
 ((x_iaload H rfl).trans (ldI_c fun v56 =>
 U1 rfl (T1 (x_aload_n H rfl rfl) rfl
 (T1 (x_iload_n H rfl rfl) rfl
 (T1 (x_iconst H rfl ki_4) rfl
 (T1 (x_iadd H rfl) rfl
 ((x_iaload H rfl).trans (ldI_c fun v57 =>
 U1 rfl (T1 (x_aload_n H rfl rfl) rfl
 (T1 (x_iload_n H rfl rfl) rfl
 (T1 (x_iconst H rfl ki_5) rfl
 (T1 (x_iadd H rfl) rfl
 ((x_iaload H rfl).trans (ldI_c fun v58 =>
 U1 rfl (T1 (x_aload_n H rfl rfl) rfl
 (T1 (x_iload_n H rfl rfl) rfl
 (T1 (x_bipush H rfl kb_6) rfl
 (T1 (x_iadd H rfl) rfl
 ((x_iaload H rfl).trans (ldI_c fun v59 =>
 U1 rfl ((x_callI (ci := 8) H rfl [.int v54, .int v55, .int v56, .int v57, .int v58, .int v59] rfl rfl rfl rfl).trans (isO_c (bi_c fun q60 => rI_c fun v62 h61 =>
 U1 rfl ((x_icmp_eq H rfl (t := 1209) (by decide)).trans (if_c
 (U2 [some (.ref a0), some (.ref a1), some (.ref a2), some (.int x3)] rfl rfl)
 (U1 rfl (T1 (x_iconst H rfl ki_0) rfl
 (x_zreturn H rfl rfl)))))))))))))))))))))))))))))))))))))))))))))))))))))))))))))))))))))))))))))))))))))))
 (swt_c (lo1 := 7) (by decide) ((jmp_eq (t := 364) (by decide)).trans (U1 rfl (T1 (x_aload_n H rfl rfl) rfl
 (T1 (x_aload_n H rfl rfl) rfl
 (T1 (x_iload_n H rfl rfl) rfl
 (T1 (x_iconst H rfl ki_1) rfl
 (T1 (x_iadd H rfl) rfl
 ((x_iaload H rfl).trans (ldI_c fun v63 =>
 U1 rfl (T1 (x_aload_n H rfl rfl) rfl
 (T1 (x_iload_n H rfl rfl) rfl
 (T1 (x_iconst H rfl ki_2) rfl
 (T1 (x_iadd H rfl) rfl
 ((x_iaload H rfl).trans (ldI_c fun v64 =>
 U1 rfl (T1 (x_aload_n H rfl rfl) rfl
 (T1 (x_iload_n H rfl rfl) rfl
 (T1 (x_iconst H rfl ki_3) rfl
 (T1 (x_iadd H rfl) rfl
 ((x_iaload H rfl).trans (ldI_c fun v65 =>
 U1 rfl ((x_if_eq H rfl (t := 387) (by decide)).trans (if_c
 (U1 rfl (T2 [some (.ref a0), some (.ref a1), some (.ref a2), some (.int x3)] (x_iconst H rfl ki_0) rfl rfl))
 (U1 rfl (T1 (x_iconst H rfl ki_1) rfl
 (T2 [some (.ref a0), some (.ref a1), some (.ref a2), some (.int x3)] (x_goto H rfl (t := 388) (by decide)) rfl rfl))))))))))))))))))))))))))
 (swt_c (lo1 := 8) (by decide) ((jmp_eq (t := 423) (by decide)).trans (U1 rfl (T1 (x_aload_n H rfl rfl) rfl
 (T1 (x_aload_n H rfl rfl) rfl
 (T1 (x_iload_n H rfl rfl) rfl
 (T1 (x_iconst H rfl ki_1) rfl
 (T1 (x_iadd H rfl) rfl
 ((x_iaload H rfl).trans (ldI_c fun v66 =>
 U1 rfl (T1 (x_aload_n H rfl rfl) rfl
 (T1 (x_iload_n H rfl rfl) rfl
 (T1 (x_iconst H rfl ki_2) rfl
 (T1 (x_iadd H rfl) rfl
 ((x_iaload H rfl).trans (ldI_c fun v67 =>
 U1 rfl ((x_callI (ci := 7) H rfl [.int v66, .int v67] rfl rfl rfl rfl).trans (isO_c (bi_c fun q68 => rI_c fun v70 h69 =>
 U1 rfl (T1 (x_aload_n H rfl rfl) rfl
 (T1 (x_aload_n H rfl rfl) rfl
 (T1 (x_iload_n H rfl rfl) rfl
 (T1 (x_iconst H rfl ki_1) rfl
 (T1 (x_iadd H rfl) rfl
 ((x_iaload H rfl).trans (ldI_c fun v71 =>
 U1 rfl (T1 (x_aload_n H rfl rfl) rfl
 (T1 (x_iload_n H rfl rfl) rfl
 (T1 (x_iconst H rfl ki_2) rfl
 (T1 (x_iadd H rfl) rfl
 ((x_iaload H rfl).trans (ldI_c fun v72 =>
 U1 rfl ((x_callI (ci := 8) H rfl [.int v71, .int v72] rfl rfl rfl rfl).trans (isO_c (bi_c fun q73 => rI_c fun v75 h74 =>
 U1 rfl ((x_icmp_eq H rfl (t := 1209) (by decide)).trans (if_c
 (U2 [some (.ref a0), some (.ref a1), some (.ref a2), some (.int x3)] rfl rfl)
 (U1 rfl (T1 (x_iconst H rfl ki_0) rfl
 (x_zreturn H rfl rfl)))))))))))))))))))))))))))))))))))))))
 (swt_c (lo1 := 9) (by decide) ((jmp_eq (t := 456) (by decide)).trans (U1 rfl (T1 (x_aload_n H rfl rfl) rfl
 (T1 (x_aload_n H rfl rfl) rfl
 (T1 (x_iload_n H rfl rfl) rfl
 (T1 (x_iconst H rfl ki_1) rfl
 (T1 (x_iadd H rfl) rfl
 ((x_iaload H rfl).trans (ldI_c fun v76 =>
 U1 rfl (T1 (x_aload_n H rfl rfl) rfl
 (T1 (x_iload_n H rfl rfl) rfl
 (T1 (x_iconst H rfl ki_2) rfl
 (T1 (x_iadd H rfl) rfl
 ((x_iaload H rfl).trans (ldI_c fun v77 =>
 U1 rfl (T1 (x_aload_n H rfl rfl) rfl
 (T1 (x_iload_n H rfl rfl) rfl
 (T1 (x_iconst H rfl ki_3) rfl
 (T1 (x_iadd H rfl) rfl
 ((x_iaload H rfl).trans (ldI_c fun v78 =>
 U1 rfl (T1 (x_aload_n H rfl rfl) rfl
 (T1 (x_iload_n H rfl rfl) rfl
 (T1 (x_iconst H rfl ki_4) rfl
 (T1 (x_iadd H rfl) rfl
 ((x_iaload H rfl).trans (ldI_c fun v79 =>
 U1 rfl (T1 (x_aload_n H rfl rfl) rfl
 (T1 (x_iload_n H rfl rfl) rfl
 (T1 (x_iconst H rfl ki_5) rfl
 (T1 (x_iadd H rfl) rfl
 ((x_iaload H rfl).trans (ldI_c fun v80 =>
 U1 rfl ((x_callI (ci := 7) H rfl [.int v76, .int v77, .int v78, .int v79, .int v80] rfl rfl rfl rfl).trans (isO_c (bi_c fun q81 => rI_c fun v83 h82 =>
 U1 rfl (T1 (x_aload_n H rfl rfl) rfl
 (T1 (x_aload_n H rfl rfl) rfl
 (T1 (x_iload_n H rfl rfl) rfl
 (T1 (x_iconst H rfl ki_1) rfl
 (T1 (x_iadd H rfl) rfl
 ((x_iaload H rfl).trans (ldI_c fun v84 =>
 U1 rfl (T1 (x_aload_n H rfl rfl) rfl
 (T1 (x_iload_n H rfl rfl) rfl
 (T1 (x_iconst H rfl ki_2) rfl
 (T1 (x_iadd H rfl) rfl
 ((x_iaload H rfl).trans (ldI_c fun v85 =>
 U1 rfl (T1 (x_aload_n H rfl rfl) rfl
 (T1 (x_iload_n H rfl rfl) rfl
 (T1 (x_iconst H rfl ki_3) rfl
 (T1 (x_iadd H rfl) rfl
 ((x_iaload H rfl).trans (ldI_c fun v86 =>
 U1 rfl (T1 (x_aload_n H rfl rfl) rfl
 (T1 (x_iload_n H rfl rfl) rfl
 (T1 (x_iconst H rfl ki_4) rfl
 (T1 (x_iadd H rfl) rfl
 ((x_iaload H rfl).trans (ldI_c fun v87 =>
 U1 rfl (T1 (x_aload_n H rfl rfl) rfl
 (T1 (x_iload_n H rfl rfl) rfl
 (T1 (x_iconst H rfl ki_5) rfl
 (T1 (x_iadd H rfl) rfl
 ((x_iaload H rfl).trans (ldI_c fun v88 =>
 U1 rfl ((x_callI (ci := 8) H rfl [.int v84, .int v85, .int v86, .int v87, .int v88] rfl rfl rfl rfl).trans (isO_c (bi_c fun q89 => rI_c fun v91 h90 =>
 U1 rfl ((x_icmp_eq H rfl (t := 1209) (by decide)).trans (if_c
 (U2 [some (.ref a0), some (.ref a1), some (.ref a2), some (.int x3)] rfl rfl)
 (U1 rfl (T1 (x_iconst H rfl ki_0) rfl
 (x_zreturn H rfl rfl)))))))))))))))))))))))))))))))))))))))))))))))))))))))))))))))))))))))))))
 (swt_c (lo1 := 10) (by decide) ((jmp_eq (t := 519) (by decide)).trans (U1 rfl (T1 (x_aload_n H rfl rfl) rfl
 ((x_callI (ci := 7) H rfl [] rfl rfl rfl rfl).trans (isO_c (bi_c fun q92 => rI_c fun v94 h93 =>
 U1 rfl (T1 (x_aload_n H rfl rfl) rfl
 ((x_callI (ci := 8) H rfl [] rfl rfl rfl rfl).trans (isO_c (bi_c fun q95 => rI_c fun v97 h96 =>
 U1 rfl ((x_icmp_eq H rfl (t := 1209) (by decide)).trans (if_c
 (U2 [some (.ref a0), some (.ref a1), some (.ref a2), some (.int x3)] rfl rfl)
 (U1 rfl (T1 (x_iconst H rfl ki_0) rfl
 (x_zreturn H rfl rfl)))))))))))))))
 (swt_c (lo1 := 11) (by decide) ((jmp_eq (t := 532) (by decide)).trans (U1 rfl (T1 (x_aload_n H rfl rfl) rfl
 (T1 (x_aload_n H rfl rfl) rfl
 (T1 (x_iload_n H rfl rfl) rfl
 (T1 (x_iconst H rfl ki_1) rfl
 (T1 (x_iadd H rfl) rfl
 ((x_iaload H rfl).trans (ldI_c fun v98 =>
 U1 rfl ((x_callI (ci := 7) H rfl [.int v98] rfl rfl rfl rfl).trans (isO_c (bi_c fun q99 => rI_c fun v101 h100 =>
 U1 rfl (T1 (x_aload_n H rfl rfl) rfl
 (T1 (x_aload_n H rfl rfl) rfl
 (T1 (x_iload_n H rfl rfl) rfl
 (T1 (x_iconst H rfl ki_1) rfl
 (T1 (x_iadd H rfl) rfl
 ((x_iaload H rfl).trans (ldI_c fun v102 =>
 U1 rfl ((x_callI (ci := 8) H rfl [.int v102] rfl rfl rfl rfl).trans (isO_c (bi_c fun q103 => rI_c fun v105 h104 =>
 U1 rfl ((x_icmp_eq H rfl (t := 1209) (by decide)).trans (if_c
 (U2 [some (.ref a0), some (.ref a1), some (.ref a2), some (.int x3)] rfl rfl)
 (U1 rfl (T1 (x_iconst H rfl ki_0) rfl
 (x_zreturn H rfl rfl)))))))))))))))))))))))))))
 (swt_c (lo1 := 12) (by decide) ((jmp_eq (t := 555) (by decide)).trans (U1 rfl (T1 (x_aload_n H rfl rfl) rfl
 (T1 (x_aload_n H rfl rfl) rfl
 (T1 (x_iload_n H rfl rfl) rfl
 (T1 (x_iconst H rfl ki_1) rfl
 (T1 (x_iadd H rfl) rfl
 ((x_iaload H rfl).trans (ldI_c fun v106 =>
 U1 rfl (T1 (x_aload_n H rfl rfl) rfl
 (T1 (x_iload_n H rfl rfl) rfl
 (T1 (x_iconst H rfl ki_2) rfl
 (T1 (x_iadd H rfl) rfl
 ((x_iaload H rfl).trans (ldI_c fun v107 =>
 U1 rfl (T1 (x_aload_n H rfl rfl) rfl
 (T1 (x_iload_n H rfl rfl) rfl
 (T1 (x_iconst H rfl ki_3) rfl
 (T1 (x_iadd H rfl) rfl
 ((x_iaload H rfl).trans (ldI_c fun v108 =>
 U1 rfl ((x_callI (ci := 7) H rfl [.int v106, .int v107, .int v108] rfl rfl rfl rfl).trans (isO_c (bi_c fun q109 => rI_c fun v111 h110 =>
 U1 rfl (T1 (x_aload_n H rfl rfl) rfl
 (T1 (x_aload_n H rfl rfl) rfl
 (T1 (x_iload_n H rfl rfl) rfl
 (T1 (x_iconst H rfl ki_1) rfl
 (T1 (x_iadd H rfl) rfl
 ((x_iaload H rfl).trans (ldI_c fun v112 =>
 U1 rfl (T1 (x_aload_n H rfl rfl) rfl
 (T1 (x_iload_n H rfl rfl) rfl
 (T1 (x_iconst H rfl ki_2) rfl
 (T1 (x_iadd H rfl) rfl
 ((x_iaload H rfl).trans (ldI_c fun v113 =>
 U1 rfl (T1 (x_aload_n H rfl rfl) rfl
 (T1 (x_iload_n H rfl rfl) rfl
 (T1 (x_iconst H rfl ki_3) rfl
 (T1 (x_iadd H rfl) rfl
 ((x_iaload H rfl).trans (ldI_c fun v114 =>
 U1 rfl ((x_callI (ci := 8) H rfl [.int v112, .int v113, .int v114] rfl rfl rfl rfl).trans (isO_c (bi_c fun q115 => rI_c fun v117 h116 =>
 U1 rfl ((x_icmp_eq H rfl (t := 1209) (by decide)).trans (if_c
 (U2 [some (.ref a0), some (.ref a1), some (.ref a2), some (.int x3)] rfl rfl)
 (U1 rfl (T1 (x_iconst H rfl ki_0) rfl
 (x_zreturn H rfl rfl)))))))))))))))))))))))))))))))))))))))))))))))))))
 (swt_c (lo1 := 13) (by decide) ((jmp_eq (t := 598) (by decide)).trans (U1 rfl (T1 (x_aload_n H rfl rfl) rfl
 (T1 (x_aload_n H rfl rfl) rfl
 (T1 (x_iload_n H rfl rfl) rfl
 (T1 (x_iconst H rfl ki_1) rfl
 (T1 (x_iadd H rfl) rfl
 ((x_iaload H rfl).trans (ldI_c fun v118 =>
 U1 rfl (T1 (x_aload_n H rfl rfl) rfl
 (T1 (x_iload_n H rfl rfl) rfl
 (T1 (x_iconst H rfl ki_2) rfl
 (T1 (x_iadd H rfl) rfl
 ((x_iaload H rfl).trans (ldI_c fun v119 =>
 U1 rfl ((x_callI (ci := 7) H rfl [.int v118, .int v119] rfl rfl rfl rfl).trans (isO_c (bi_c fun q120 => rI_c fun v122 h121 =>
 U1 rfl (T1 (x_aload_n H rfl rfl) rfl
 (T1 (x_aload_n H rfl rfl) rfl
 (T1 (x_iload_n H rfl rfl) rfl
 (T1 (x_iconst H rfl ki_1) rfl
 (T1 (x_iadd H rfl) rfl
 ((x_iaload H rfl).trans (ldI_c fun v123 =>
 U1 rfl (T1 (x_aload_n H rfl rfl) rfl
 (T1 (x_iload_n H rfl rfl) rfl
 (T1 (x_iconst H rfl ki_2) rfl
 (T1 (x_iadd H rfl) rfl
 ((x_iaload H rfl).trans (ldI_c fun v124 =>
 U1 rfl ((x_callI (ci := 8) H rfl [.int v123, .int v124] rfl rfl rfl rfl).trans (isO_c (bi_c fun q125 => rI_c fun v127 h126 =>
 U1 rfl ((x_icmp_eq H rfl (t := 1209) (by decide)).trans (if_c
 (U2 [some (.ref a0), some (.ref a1), some (.ref a2), some (.int x3)] rfl rfl)
 (U1 rfl (T1 (x_iconst H rfl ki_0) rfl
 (x_zreturn H rfl rfl)))))))))))))))))))))))))))))))))))))))
 (swt_c (lo1 := 14) (by decide) ((jmp_eq (t := 631) (by decide)).trans (U1 rfl (T1 (x_aload_n H rfl rfl) rfl
 (T1 (x_aload_n H rfl rfl) rfl
 (T1 (x_iload_n H rfl rfl) rfl
 (T1 (x_iconst H rfl ki_1) rfl
 (T1 (x_iadd H rfl) rfl
 ((x_iaload H rfl).trans (ldI_c fun v128 =>
 U1 rfl (T1 (x_aload_n H rfl rfl) rfl
 (T1 (x_iload_n H rfl rfl) rfl
 (T1 (x_iconst H rfl ki_2) rfl
 (T1 (x_iadd H rfl) rfl
 ((x_iaload H rfl).trans (ldI_c fun v129 =>
 U1 rfl (T1 (x_aload_n H rfl rfl) rfl
 (T1 (x_iload_n H rfl rfl) rfl
 (T1 (x_iconst H rfl ki_3) rfl
 (T1 (x_iadd H rfl) rfl
 ((x_iaload H rfl).trans (ldI_c fun v130 =>
 U1 rfl ((x_callI (ci := 7) H rfl [.int v128, .int v129, .int v130] rfl rfl rfl rfl).trans (isO_c (bi_c fun q131 => rI_c fun v133 h132 =>
 U1 rfl (T1 (x_aload_n H rfl rfl) rfl
 (T1 (x_aload_n H rfl rfl) rfl
 (T1 (x_iload_n H rfl rfl) rfl
 (T1 (x_iconst H rfl ki_1) rfl
 (T1 (x_iadd H rfl) rfl
 ((x_iaload H rfl).trans (ldI_c fun v134 =>
 U1 rfl (T1 (x_aload_n H rfl rfl) rfl
 (T1 (x_iload_n H rfl rfl) rfl
 (T1 (x_iconst H rfl ki_2) rfl
 (T1 (x_iadd H rfl) rfl
 ((x_iaload H rfl).trans (ldI_c fun v135 =>
 U1 rfl (T1 (x_aload_n H rfl rfl) rfl
 (T1 (x_iload_n H rfl rfl) rfl
 (T1 (x_iconst H rfl ki_3) rfl
 (T1 (x_iadd H rfl) rfl
 ((x_iaload H rfl).trans (ldI_c fun v136 =>
 U1 rfl ((x_callI (ci := 8) H rfl [.int v134, .int v135, .int v136] rfl rfl rfl rfl).trans (isO_c (bi_c fun q137 => rI_c fun v139 h138 =>
 U1 rfl ((x_icmp_eq H rfl (t := 1209) (by decide)).trans (if_c
 (U2 [some (.ref a0), some (.ref a1), some (.ref a2), some (.int x3)] rfl rfl)
 (U1 rfl (T1 (x_iconst H rfl ki_0) rfl
 (x_zreturn H rfl rfl)))))))))))))))))))))))))))))))))))))))))))))))))))
 (swt_c (lo1 := 15) (by decide) ((jmp_eq (t := 674) (by decide)).trans (U1 rfl (T1 (x_aload_n H rfl rfl) rfl
 (T1 (x_aload_n H rfl rfl) rfl
 (T1 (x_iload_n H rfl rfl) rfl
 (T1 (x_iconst H rfl ki_1) rfl
 (T1 (x_iadd H rfl) rfl
 ((x_iaload H rfl).trans (ldI_c fun v140 =>
 U1 rfl ((x_callI (ci := 7) H rfl [.int v140] rfl rfl rfl rfl).trans (isO_c (bi_c fun q141 => rI_c fun v143 h142 =>
 U1 rfl (T1 (x_aload_n H rfl rfl) rfl
 (T1 (x_aload_n H rfl rfl) rfl
 (T1 (x_iload_n H rfl rfl) rfl
 (T1 (x_iconst H rfl ki_1) rfl
 (T1 (x_iadd H rfl) rfl
 ((x_iaload H rfl).trans (ldI_c fun v144 =>
 U1 rfl ((x_callI (ci := 8) H rfl [.int v144] rfl rfl rfl rfl).trans (isO_c (bi_c fun q145 => rI_c fun v147 h146 =>
 U1 rfl ((x_icmp_eq H rfl (t := 1209) (by decide)).trans (if_c
 (U2 [some (.ref a0), some (.ref a1), some (.ref a2), some (.int x3)] rfl rfl)
 (U1 rfl (T1 (x_iconst H rfl ki_0) rfl
 (x_zreturn H rfl rfl)))))))))))))))))))))))))))
 (swt_c (lo1 := 16) (by decide) ((jmp_eq (t := 697) (by decide)).trans (U1 rfl (T1 (x_aload_n H rfl rfl) rfl
 (T1 (x_aload_n H rfl rfl) rfl
 (T1 (x_iload_n H rfl rfl) rfl
 (T1 (x_iconst H rfl ki_1) rfl
 (T1 (x_iadd H rfl) rfl
 ((x_iaload H rfl).trans (ldI_c fun v148 =>
 U1 rfl (T1 (x_aload_n H rfl rfl) rfl
 (T1 (x_iload_n H rfl rfl) rfl
 (T1 (x_iconst H rfl ki_2) rfl
 (T1 (x_iadd H rfl) rfl
 ((x_iaload H rfl).trans (ldI_c fun v149 =>
 U1 rfl ((x_callI (ci := 7) H rfl [.int v148, .int v149] rfl rfl rfl rfl).trans (isO_c (bi_c fun q150 => rI_c fun v152 h151 =>
 U1 rfl (T1 (x_aload_n H rfl rfl) rfl
 (T1 (x_aload_n H rfl rfl) rfl
 (T1 (x_iload_n H rfl rfl) rfl
 (T1 (x_iconst H rfl ki_1) rfl
 (T1 (x_iadd H rfl) rfl
 ((x_iaload H rfl).trans (ldI_c fun v153 =>
 U1 rfl (T1 (x_aload_n H rfl rfl) rfl
 (T1 (x_iload_n H rfl rfl) rfl
 (T1 (x_iconst H rfl ki_2) rfl
 (T1 (x_iadd H rfl) rfl
 ((x_iaload H rfl).trans (ldI_c fun v154 =>
 U1 rfl ((x_callI (ci := 8) H rfl [.int v153, .int v154] rfl rfl rfl rfl).trans (isO_c (bi_c fun q155 => rI_c fun v157 h156 =>
 U1 rfl ((x_icmp_eq H rfl (t := 1209) (by decide)).trans (if_c
 (U2 [some (.ref a0), some (.ref a1), some (.ref a2), some (.int x3)] rfl rfl)
 (U1 rfl (T1 (x_iconst H rfl ki_0) rfl
 (x_zreturn H rfl rfl)))))))))))))))))))))))))))))))))))))))
 (swt_c (lo1 := 17) (by decide) ((jmp_eq (t := 730) (by decide)).trans (U1 rfl (T1 (x_aload_n H rfl rfl) rfl
 (T1 (x_aload_n H rfl rfl) rfl
 (T1 (x_iload_n H rfl rfl) rfl
 (T1 (x_iconst H rfl ki_1) rfl
 (T1 (x_iadd H rfl) rfl
 ((x_iaload H rfl).trans (ldI_c fun v158 =>
 U1 rfl ((x_callI (ci := 7) H rfl [.int v158] rfl rfl rfl rfl).trans (isO_c (bi_c fun q159 => rI_c fun v161 h160 =>
 U1 rfl (T1 (x_aload_n H rfl rfl) rfl
 (T1 (x_aload_n H rfl rfl) rfl
 (T1 (x_iload_n H rfl rfl) rfl
 (T1 (x_iconst H rfl ki_1) rfl
 (T1 (x_iadd H rfl) rfl
 ((x_iaload H rfl).trans (ldI_c fun v162 =>
 U1 rfl ((x_callI (ci := 8) H rfl [.int v162] rfl rfl rfl rfl).trans (isO_c (bi_c fun q163 => rI_c fun v165 h164 =>
 U1 rfl ((x_icmp_eq H rfl (t := 1209) (by decide)).trans (if_c
 (U2 [some (.ref a0), some (.ref a1), some (.ref a2), some (.int x3)] rfl rfl)
 (U1 rfl (T1 (x_iconst H rfl ki_0) rfl
 (x_zreturn H rfl rfl)))))))))))))))))))))))))))
 (swt_c (lo1 := 18) (by decide) ((jmp_eq (t := 753) (by decide)).trans (U1 rfl (T1 (x_aload_n H rfl rfl) rfl
 (T1 (x_aload_n H rfl rfl) rfl
 (T1 (x_iload_n H rfl rfl) rfl
 (T1 (x_iconst H rfl ki_1) rfl
 (T1 (x_iadd H rfl) rfl
 ((x_iaload H rfl).trans (ldI_c fun v166 =>
 U1 rfl (T1 (x_aload_n H rfl rfl) rfl
 (T1 (x_iload_n H rfl rfl) rfl
 (T1 (x_iconst H rfl ki_2) rfl
 (T1 (x_iadd H rfl) rfl
 ((x_iaload H rfl).trans (ldI_c fun v167 =>
 U1 rfl (T1 (x_aload_n H rfl rfl) rfl
 (T1 (x_iload_n H rfl rfl) rfl
 (T1 (x_iconst H rfl ki_3) rfl
 (T1 (x_iadd H rfl) rfl
 ((x_iaload H rfl).trans (ldI_c fun v168 =>
 U1 rfl ((x_callI (ci := 7) H rfl [.int v166, .int v167, .int v168] rfl rfl rfl rfl).trans (isO_c (bi_c fun q169 => rI_c fun v171 h170 =>
 U1 rfl (T1 (x_aload_n H rfl rfl) rfl
 (T1 (x_aload_n H rfl rfl) rfl
 (T1 (x_iload_n H rfl rfl) rfl
 (T1 (x_iconst H rfl ki_1) rfl
 (T1 (x_iadd H rfl) rfl
 ((x_iaload H rfl).trans (ldI_c fun v172 =>
 U1 rfl (T1 (x_aload_n H rfl rfl) rfl
 (T1 (x_iload_n H rfl rfl) rfl
 (T1 (x_iconst H rfl ki_2) rfl
 (T1 (x_iadd H rfl) rfl
 ((x_iaload H rfl).trans (ldI_c fun v173 =>
 U1 rfl (T1 (x_aload_n H rfl rfl) rfl
 (T1 (x_iload_n H rfl rfl) rfl
 (T1 (x_iconst H rfl ki_3) rfl
 (T1 (x_iadd H rfl) rfl
 ((x_iaload H rfl).trans (ldI_c fun v174 =>
 U1 rfl ((x_callI (ci := 8) H rfl [.int v172, .int v173, .int v174] rfl rfl rfl rfl).trans (isO_c (bi_c fun q175 => rI_c fun v177 h176 =>
 U1 rfl ((x_icmp_eq H rfl (t := 1209) (by decide)).trans (if_c
 (U2 [some (.ref a0), some (.ref a1), some (.ref a2), some (.int x3)] rfl rfl)
 (U1 rfl (T1 (x_iconst H rfl ki_0) rfl
 (x_zreturn H rfl rfl)))))))))))))))))))))))))))))))))))))))))))))))))))
 (swt_c (lo1 := 19) (by decide) ((jmp_eq (t := 796) (by decide)).trans (U1 rfl (T1 (x_aload_n H rfl rfl) rfl
 (T1 (x_aload_n H rfl rfl) rfl
 (T1 (x_iload_n H rfl rfl) rfl
 (T1 (x_iconst H rfl ki_1) rfl
 (T1 (x_iadd H rfl) rfl
 ((x_iaload H rfl).trans (ldI_c fun v178 =>
 U1 rfl (T1 (x_aload_n H rfl rfl) rfl
 (T1 (x_iload_n H rfl rfl) rfl
 (T1 (x_iconst H rfl ki_2) rfl
 (T1 (x_iadd H rfl) rfl
 ((x_iaload H rfl).trans (ldI_c fun v179 =>
 U1 rfl ((x_callI (ci := 7) H rfl [.int v178, .int v179] rfl rfl rfl rfl).trans (isO_c (bi_c fun q180 => rI_c fun v182 h181 =>
 U1 rfl (T1 (x_aload_n H rfl rfl) rfl
 (T1 (x_aload_n H rfl rfl) rfl
 (T1 (x_iload_n H rfl rfl) rfl
 (T1 (x_iconst H rfl ki_1) rfl
 (T1 (x_iadd H rfl) rfl
 ((x_iaload H rfl).trans (ldI_c fun v183 =>
 U1 rfl (T1 (x_aload_n H rfl rfl) rfl
 (T1 (x_iload_n H rfl rfl) rfl
 (T1 (x_iconst H rfl ki_2) rfl
 (T1 (x_iadd H rfl) rfl
 ((x_iaload H rfl).trans (ldI_c fun v184 =>
 U1 rfl ((x_callI (ci := 8) H rfl [.int v183, .int v184] rfl rfl rfl rfl).trans (isO_c (bi_c fun q185 => rI_c fun v187 h186 =>
 U1 rfl ((x_icmp_eq H rfl (t := 1209) (by decide)).trans (if_c
 (U2 [some (.ref a0), some (.ref a1), some (.ref a2), some (.int x3)] rfl rfl)
 (U1 rfl (T1 (x_iconst H rfl ki_0) rfl
 (x_zreturn H rfl rfl)))))))))))))))))))))))))))))))))))))))
 (swt_c (lo1 := 20) (by decide) ((jmp_eq (t := 829) (by decide)).trans (U1 rfl (T1 (x_aload_n H rfl rfl) rfl
 (T1 (x_aload_n H rfl rfl) rfl
 (T1 (x_iload_n H rfl rfl) rfl
 (T1 (x_iconst H rfl ki_1) rfl
 (T1 (x_iadd H rfl) rfl
 ((x_iaload H rfl).trans (ldI_c fun v188 =>
 U1 rfl (T1 (x_aload_n H rfl rfl) rfl
 (T1 (x_iload_n H rfl rfl) rfl
 (T1 (x_iconst H rfl ki_2) rfl
 (T1 (x_iadd H rfl) rfl
 ((x_iaload H rfl).trans (ldI_c fun v189 =>
 U1 rfl (T1 (x_aload_n H rfl rfl) rfl
 (T1 (x_iload_n H rfl rfl) rfl
 (T1 (x_iconst H rfl ki_3) rfl
 (T1 (x_iadd H rfl) rfl
 ((x_iaload H rfl).trans (ldI_c fun v190 =>
 U1 rfl (T1 (x_aload_n H rfl rfl) rfl
 (T1 (x_iload_n H rfl rfl) rfl
 (T1 (x_iconst H rfl ki_4) rfl
 (T1 (x_iadd H rfl) rfl
 ((x_iaload H rfl).trans (ldI_c fun v191 =>
 U1 rfl ((x_callI (ci := 7) H rfl [.int v188, .int v189, .int v190, .int v191] rfl rfl rfl rfl).trans (isO_c (bi_c fun q192 => rI_c fun v194 h193 =>
 U1 rfl (T1 (x_aload_n H rfl rfl) rfl
 (T1 (x_aload_n H rfl rfl) rfl
 (T1 (x_iload_n H rfl rfl) rfl
 (T1 (x_iconst H rfl ki_1) rfl
 (T1 (x_iadd H rfl) rfl
 ((x_iaload H rfl).trans (ldI_c fun v195 =>
 U1 rfl (T1 (x_aload_n H rfl rfl) rfl
 (T1 (x_iload_n H rfl rfl) rfl
 (T1 (x_iconst H rfl ki_2) rfl
 (T1 (x_iadd H rfl) rfl
 ((x_iaload H rfl).trans (ldI_c fun v196 =>
 U1 rfl (T1 (x_aload_n H rfl rfl) rfl
 (T1 (x_iload_n H rfl rfl) rfl
 (T1 (x_iconst H rfl ki_3) rfl
 (T1 (x_iadd H rfl) rfl
 ((x_iaload H rfl).trans (ldI_c fun v197 =>
 U1 rfl (T1 (x_aload_n H rfl rfl) rfl
 (T1 (x_iload_n H rfl rfl) rfl
 (T1 (x_iconst H rfl ki_4) rfl
 (T1 (x_iadd H rfl) rfl
 ((x_iaload H rfl).trans (ldI_c fun v198 =>
 U1 rfl ((x_callI (ci := 8) H rfl [.int v195, .int v196, .int v197, .int v198] rfl rfl rfl rfl).trans (isO_c (bi_c fun q199 => rI_c fun v201 h200 =>
 U1 rfl ((x_icmp_eq H rfl (t := 1209) (by decide)).trans (if_c
 (U2 [some (.ref a0), some (.ref a1), some (.ref a2), some (.int x3)] rfl rfl)
 (U1 rfl (T1 (x_iconst H rfl ki_0) rfl
 (x_zreturn H rfl rfl)))))))))))))))))))))))))))))))))))))))))))))))))))))))))))))))
 (swt_c (lo1 := 21) (by decide) ((jmp_eq (t := 882) (by decide)).trans (U1 rfl (T1 (x_aload_n H rfl rfl) rfl
 (T1 (x_aload_n H rfl rfl) rfl
 (T1 (x_iload_n H rfl rfl) rfl
 (T1 (x_iconst H rfl ki_1) rfl
 (T1 (x_iadd H rfl) rfl
 ((x_iaload H rfl).trans (ldI_c fun v202 =>
 U1 rfl (T1 (x_aload_n H rfl rfl) rfl
 (T1 (x_iload_n H rfl rfl) rfl
 (T1 (x_iconst H rfl ki_2) rfl
 (T1 (x_iadd H rfl) rfl
 ((x_iaload H rfl).trans (ldI_c fun v203 =>
 U1 rfl ((x_callI (ci := 7) H rfl [.int v202, .int v203] rfl rfl rfl rfl).trans (isO_c (bi_c fun q204 => rI_c fun v206 h205 =>
 U1 rfl (T1 (x_aload_n H rfl rfl) rfl
 (T1 (x_aload_n H rfl rfl) rfl
 (T1 (x_iload_n H rfl rfl) rfl
 (T1 (x_iconst H rfl ki_1) rfl
 (T1 (x_iadd H rfl) rfl
 ((x_iaload H rfl).trans (ldI_c fun v207 =>
 U1 rfl (T1 (x_aload_n H rfl rfl) rfl
 (T1 (x_iload_n H rfl rfl) rfl
 (T1 (x_iconst H rfl ki_2) rfl
 (T1 (x_iadd H rfl) rfl
 ((x_iaload H rfl).trans (ldI_c fun v208 =>
 U1 rfl ((x_callI (ci := 8) H rfl [.int v207, .int v208] rfl rfl rfl rfl).trans (isO_c (bi_c fun q209 => rI_c fun v211 h210 =>
 U1 rfl ((x_icmp_eq H rfl (t := 1209) (by decide)).trans (if_c
 (U2 [some (.ref a0), some (.ref a1), some (.ref a2), some (.int x3)] rfl rfl)
 (U1 rfl (T1 (x_iconst H rfl ki_0) rfl
 (x_zreturn H rfl rfl)))))))))))))))))))))))))))))))))))))))
 (swt_c (lo1 := 22) (by decide) ((jmp_eq (t := 915) (by decide)).trans (U1 rfl (T1 (x_aload_n H rfl rfl) rfl
 (T1 (x_aload_n H rfl rfl) rfl
 (T1 (x_iload_n H rfl rfl) rfl
 (T1 (x_iconst H rfl ki_1) rfl
 (T1 (x_iadd H rfl) rfl
 ((x_iaload H rfl).trans (ldI_c fun v212 =>
 U1 rfl (T1 (x_aload_n H rfl rfl) rfl
 (T1 (x_iload_n H rfl rfl) rfl
 (T1 (x_iconst H rfl ki_2) rfl
 (T1 (x_iadd H rfl) rfl
 ((x_iaload H rfl).trans (ldI_c fun v213 =>
 U1 rfl ((x_callI (ci := 7) H rfl [.int v212, .int v213] rfl rfl rfl rfl).trans (isO_c (bi_c fun q214 => rI_c fun v216 h215 =>
 U1 rfl (T1 (x_aload_n H rfl rfl) rfl
 (T1 (x_aload_n H rfl rfl) rfl
 (T1 (x_iload_n H rfl rfl) rfl
 (T1 (x_iconst H rfl ki_1) rfl
 (T1 (x_iadd H rfl) rfl
 ((x_iaload H rfl).trans (ldI_c fun v217 =>
 U1 rfl (T1 (x_aload_n H rfl rfl) rfl
 (T1 (x_iload_n H rfl rfl) rfl
 (T1 (x_iconst H rfl ki_2) rfl
 (T1 (x_iadd H rfl) rfl
 ((x_iaload H rfl).trans (ldI_c fun v218 =>
 U1 rfl ((x_callI (ci := 8) H rfl [.int v217, .int v218] rfl rfl rfl rfl).trans (isO_c (bi_c fun q219 => rI_c fun v221 h220 =>
 U1 rfl ((x_icmp_eq H rfl (t := 1209) (by decide)).trans (if_c
 (U2 [some (.ref a0), some (.ref a1), some (.ref a2), some (.int x3)] rfl rfl)
 (U1 rfl (T1 (x_iconst H rfl ki_0) rfl
 (x_zreturn H rfl rfl)))))))))))))))))))))))))))))))))))))))
 (swt_c (lo1 := 23) (by decide) ((jmp_eq (t := 948) (by decide)).trans (U1 rfl (T1 (x_aload_n H rfl rfl) rfl
 (T1 (x_aload_n H rfl rfl) rfl
 (T1 (x_iload_n H rfl rfl) rfl
 (T1 (x_iconst H rfl ki_1) rfl
 (T1 (x_iadd H rfl) rfl
 ((x_iaload H rfl).trans (ldI_c fun v222 =>
 U1 rfl ((x_callI (ci := 7) H rfl [.int v222] rfl rfl rfl rfl).trans (isO_c (bi_c fun q223 => rI_c fun v225 h224 =>
 U1 rfl (T1 (x_aload_n H rfl rfl) rfl
 (T1 (x_aload_n H rfl rfl) rfl
 (T1 (x_iload_n H rfl rfl) rfl
 (T1 (x_iconst H rfl ki_1) rfl
 (T1 (x_iadd H rfl) rfl
 ((x_iaload H rfl).trans (ldI_c fun v226 =>
 U1 rfl ((x_callI (ci := 8) H rfl [.int v226] rfl rfl rfl rfl).trans (isO_c (bi_c fun q227 => rI_c fun v229 h228 =>
 U1 rfl ((x_icmp_eq H rfl (t := 1209) (by decide)).trans (if_c
 (U2 [some (.ref a0), some (.ref a1), some (.ref a2), some (.int x3)] rfl rfl)
 (U1 rfl (T1 (x_iconst H rfl ki_0) rfl
 (x_zreturn H rfl rfl)))))))))))))))))))))))))))
 (swt_c (lo1 := 24) (by decide) ((jmp_eq (t := 971) (by decide)).trans (U1 rfl (T1 (x_aload_n H rfl rfl) rfl
 (T1 (x_aload_n H rfl rfl) rfl
 (T1 (x_iload_n H rfl rfl) rfl
 (T1 (x_iconst H rfl ki_1) rfl
 (T1 (x_iadd H rfl) rfl
 ((x_iaload H rfl).trans (ldI_c fun v230 =>
 U1 rfl (T1 (x_aload_n H rfl rfl) rfl
 (T1 (x_iload_n H rfl rfl) rfl
 (T1 (x_iconst H rfl ki_2) rfl
 (T1 (x_iadd H rfl) rfl
 ((x_iaload H rfl).trans (ldI_c fun v231 =>
 U1 rfl (T1 (x_aload_n H rfl rfl) rfl
 (T1 (x_iload_n H rfl rfl) rfl
 (T1 (x_iconst H rfl ki_3) rfl
 (T1 (x_iadd H rfl) rfl
 ((x_iaload H rfl).trans (ldI_c fun v232 =>
 U1 rfl ((x_callI (ci := 7) H rfl [.int v230, .int v231, .int v232] rfl rfl rfl rfl).trans (isO_c (bi_c fun q233 => rI_c fun v235 h234 =>
 U1 rfl (T1 (x_aload_n H rfl rfl) rfl
 (T1 (x_aload_n H rfl rfl) rfl
 (T1 (x_iload_n H rfl rfl) rfl
 (T1 (x_iconst H rfl ki_1) rfl
 (T1 (x_iadd H rfl) rfl
 ((x_iaload H rfl).trans (ldI_c fun v236 =>
 U1 rfl (T1 (x_aload_n H rfl rfl) rfl
 (T1 (x_iload_n H rfl rfl) rfl
 (T1 (x_iconst H rfl ki_2) rfl
 (T1 (x_iadd H rfl) rfl
 ((x_iaload H rfl).trans (ldI_c fun v237 =>
 U1 rfl (T1 (x_aload_n H rfl rfl) rfl
 (T1 (x_iload_n H rfl rfl) rfl
 (T1 (x_iconst H rfl ki_3) rfl
 (T1 (x_iadd H rfl) rfl
 ((x_iaload H rfl).trans (ldI_c fun v238 =>
 U1 rfl ((x_callI (ci := 8) H rfl [.int v236, .int v237, .int v238] rfl rfl rfl rfl).trans (isO_c (bi_c fun q239 => rI_c fun v241 h240 =>
 U1 rfl ((x_icmp_eq H rfl (t := 1209) (by decide)).trans (if_c
 (U2 [some (.ref a0), some (.ref a1), some (.ref a2), some (.int x3)] rfl rfl)
 (U1 rfl (T1 (x_iconst H rfl ki_0) rfl
 (x_zreturn H rfl rfl)))))))))))))))))))))))))))))))))))))))))))))))))))
 (swt_c (lo1 := 25) (by decide) ((jmp_eq (t := 1014) (by decide)).trans (U1 rfl (T1 (x_aload_n H rfl rfl) rfl
 (T1 (x_aload_n H rfl rfl) rfl
 (T1 (x_iload_n H rfl rfl) rfl
 (T1 (x_iconst H rfl ki_1) rfl
 (T1 (x_iadd H rfl) rfl
 ((x_iaload H rfl).trans (ldI_c fun v242 =>
 U1 rfl (T1 (x_aload_n H rfl rfl) rfl
 (T1 (x_iload_n H rfl rfl) rfl
 (T1 (x_iconst H rfl ki_2) rfl
 (T1 (x_iadd H rfl) rfl
 ((x_iaload H rfl).trans (ldI_c fun v243 =>
 U1 rfl ((x_callI (ci := 7) H rfl [.int v242, .int v243] rfl rfl rfl rfl).trans (isO_c (bi_c fun q244 => rI_c fun v246 h245 =>
 U1 rfl (T1 (x_aload_n H rfl rfl) rfl
 (T1 (x_aload_n H rfl rfl) rfl
 (T1 (x_iload_n H rfl rfl) rfl
 (T1 (x_iconst H rfl ki_1) rfl
 (T1 (x_iadd H rfl) rfl
 ((x_iaload H rfl).trans (ldI_c fun v247 =>
 U1 rfl (T1 (x_aload_n H rfl rfl) rfl
 (T1 (x_iload_n H rfl rfl) rfl
 (T1 (x_iconst H rfl ki_2) rfl
 (T1 (x_iadd H rfl) rfl
 ((x_iaload H rfl).trans (ldI_c fun v248 =>
 U1 rfl ((x_callI (ci := 8) H rfl [.int v247, .int v248] rfl rfl rfl rfl).trans (isO_c (bi_c fun q249 => rI_c fun v251 h250 =>
 U1 rfl ((x_icmp_eq H rfl (t := 1209) (by decide)).trans (if_c
 (U2 [some (.ref a0), some (.ref a1), some (.ref a2), some (.int x3)] rfl rfl)
 (U1 rfl (T1 (x_iconst H rfl ki_0) rfl
 (x_zreturn H rfl rfl)))))))))))))))))))))))))))))))))))))))
 (swt_c (lo1 := 26) (by decide) ((jmp_eq (t := 1047) (by decide)).trans (U1 rfl (T1 (x_aload_n H rfl rfl) rfl
 (T1 (x_aload_n H rfl rfl) rfl
 (T1 (x_iload_n H rfl rfl) rfl
 (T1 (x_iconst H rfl ki_1) rfl
 (T1 (x_iadd H rfl) rfl
 ((x_iaload H rfl).trans (ldI_c fun v252 =>
 U1 rfl (T1 (x_aload_n H rfl rfl) rfl
 (T1 (x_iload_n H rfl rfl) rfl
 (T1 (x_iconst H rfl ki_2) rfl
 (T1 (x_iadd H rfl) rfl
 ((x_iaload H rfl).trans (ldI_c fun v253 =>
 U1 rfl (T1 (x_aload_n H rfl rfl) rfl
 (T1 (x_iload_n H rfl rfl) rfl
 (T1 (x_iconst H rfl ki_3) rfl
 (T1 (x_iadd H rfl) rfl
 ((x_iaload H rfl).trans (ldI_c fun v254 =>
 U1 rfl ((x_callI (ci := 7) H rfl [.int v252, .int v253, .int v254] rfl rfl rfl rfl).trans (isO_c (bi_c fun q255 => rI_c fun v257 h256 =>
 U1 rfl (T1 (x_aload_n H rfl rfl) rfl
 (T1 (x_aload_n H rfl rfl) rfl
 (T1 (x_iload_n H rfl rfl) rfl
 (T1 (x_iconst H rfl ki_1) rfl
 (T1 (x_iadd H rfl) rfl
 ((x_iaload H rfl).trans (ldI_c fun v258 =>
 U1 rfl (T1 (x_aload_n H rfl rfl) rfl
 (T1 (x_iload_n H rfl rfl) rfl
 (T1 (x_iconst H rfl ki_2) rfl
 (T1 (x_iadd H rfl) rfl
 ((x_iaload H rfl).trans (ldI_c fun v259 =>
 U1 rfl (T1 (x_aload_n H rfl rfl) rfl
 (T1 (x_iload_n H rfl rfl) rfl
 (T1 (x_iconst H rfl ki_3) rfl
 (T1 (x_iadd H rfl) rfl
 ((x_iaload H rfl).trans (ldI_c fun v260 =>
 U1 rfl ((x_callI (ci := 8) H rfl [.int v258, .int v259, .int v260] rfl rfl rfl rfl).trans (isO_c (bi_c fun q261 => rI_c fun v263 h262 =>
 U1 rfl ((x_icmp_eq H rfl (t := 1209) (by decide)).trans (if_c
 (U2 [some (.ref a0), some (.ref a1), some (.ref a2), some (.int x3)] rfl rfl)
 (U1 rfl (T1 (x_iconst H rfl ki_0) rfl
 (x_zreturn H rfl rfl)))))))))))))))))))))))))))))))))))))))))))))))))))
 (swt_c (lo1 := 27) (by decide) ((jmp_eq (t := 1090) (by decide)).trans (U1 rfl (T1 (x_aload_n H rfl rfl) rfl
 (T1 (x_aload_n H rfl rfl) rfl
 (T1 (x_iload_n H rfl rfl) rfl
 (T1 (x_iconst H rfl ki_1) rfl
 (T1 (x_iadd H rfl) rfl
 ((x_iaload H rfl).trans (ldI_c fun v264 =>
 U1 rfl (T1 (x_aload_n H rfl rfl) rfl
 (T1 (x_iload_n H rfl rfl) rfl
 (T1 (x_iconst H rfl ki_2) rfl
 (T1 (x_iadd H rfl) rfl
 ((x_iaload H rfl).trans (ldI_c fun v265 =>
 U1 rfl (T1 (x_aload_n H rfl rfl) rfl
 (T1 (x_iload_n H rfl rfl) rfl
 (T1 (x_iconst H rfl ki_3) rfl
 (T1 (x_iadd H rfl) rfl
 ((x_iaload H rfl).trans (ldI_c fun v266 =>
 U1 rfl ((x_callI (ci := 7) H rfl [.int v264, .int v265, .int v266] rfl rfl rfl rfl).trans (isO_c (bi_c fun q267 => rI_c fun v269 h268 =>
 U1 rfl (T1 (x_aload_n H rfl rfl) rfl
 (T1 (x_aload_n H rfl rfl) rfl
 (T1 (x_iload_n H rfl rfl) rfl
 (T1 (x_iconst H rfl ki_1) rfl
 (T1 (x_iadd H rfl) rfl
 ((x_iaload H rfl).trans (ldI_c fun v270 =>
 U1 rfl (T1 (x_aload_n H rfl rfl) rfl
 (T1 (x_iload_n H rfl rfl) rfl
 (T1 (x_iconst H rfl ki_2) rfl
 (T1 (x_iadd H rfl) rfl
 ((x_iaload H rfl).trans (ldI_c fun v271 =>
 U1 rfl (T1 (x_aload_n H rfl rfl) rfl
 (T1 (x_iload_n H rfl rfl) rfl
 (T1 (x_iconst H rfl ki_3) rfl
 (T1 (x_iadd H rfl) rfl
 ((x_iaload H rfl).trans (ldI_c fun v272 =>
 U1 rfl ((x_callI (ci := 8) H rfl [.int v270, .int v271, .int v272] rfl rfl rfl rfl).trans (isO_c (bi_c fun q273 => rI_c fun v275 h274 =>
 U1 rfl ((x_icmp_eq H rfl (t := 1209) (by decide)).trans (if_c
 (U2 [some (.ref a0), some (.ref a1), some (.ref a2), some (.int x3)] rfl rfl)
 (U1 rfl (T1 (x_iconst H rfl ki_0) rfl
 (x_zreturn H rfl rfl)))))))))))))))))))))))))))))))))))))))))))))))))))
 (swt_c (lo1 := 28) (by decide) ((jmp_eq (t := 1133) (by decide)).trans (U1 rfl (T1 (x_aload_n H rfl rfl) rfl
 (T1 (x_aload_n H rfl rfl) rfl
 (T1 (x_iload_n H rfl rfl) rfl
 (T1 (x_iconst H rfl ki_1) rfl
 (T1 (x_iadd H rfl) rfl
 ((x_iaload H rfl).trans (ldI_c fun v276 =>
 U1 rfl (T1 (x_aload_n H rfl rfl) rfl
 (T1 (x_iload_n H rfl rfl) rfl
 (T1 (x_iconst H rfl ki_2) rfl
 (T1 (x_iadd H rfl) rfl
 ((x_iaload H rfl).trans (ldI_c fun v277 =>
 U1 rfl (T1 (x_aload_n H rfl rfl) rfl
 (T1 (x_iload_n H rfl rfl) rfl
 (T1 (x_iconst H rfl ki_3) rfl
 (T1 (x_iadd H rfl) rfl
 ((x_iaload H rfl).trans (ldI_c fun v278 =>
 U1 rfl (T1 (x_aload_n H rfl rfl) rfl
 (T1 (x_iload_n H rfl rfl) rfl
 (T1 (x_iconst H rfl ki_4) rfl
 (T1 (x_iadd H rfl) rfl
 ((x_iaload H rfl).trans (ldI_c fun v279 =>
 U1 rfl ((x_callI (ci := 7) H rfl [.int v276, .int v277, .int v278, .int v279] rfl rfl rfl rfl).trans (isO_c (bi_c fun q280 => rI_c fun v282 h281 =>
 U1 rfl (T1 (x_aload_n H rfl rfl) rfl
 (T1 (x_aload_n H rfl rfl) rfl
 (T1 (x_iload_n H rfl rfl) rfl
 (T1 (x_iconst H rfl ki_1) rfl
 (T1 (x_iadd H rfl) rfl
 ((x_iaload H rfl).trans (ldI_c fun v283 =>
 U1 rfl (T1 (x_aload_n H rfl rfl) rfl
 (T1 (x_iload_n H rfl rfl) rfl
 (T1 (x_iconst H rfl ki_2) rfl
 (T1 (x_iadd H rfl) rfl
 ((x_iaload H rfl).trans (ldI_c fun v284 =>
 U1 rfl (T1 (x_aload_n H rfl rfl) rfl
 (T1 (x_iload_n H rfl rfl) rfl
 (T1 (x_iconst H rfl ki_3) rfl
 (T1 (x_iadd H rfl) rfl
 ((x_iaload H rfl).trans (ldI_c fun v285 =>
 U1 rfl (T1 (x_aload_n H rfl rfl) rfl
 (T1 (x_iload_n H rfl rfl) rfl
 (T1 (x_iconst H rfl ki_4) rfl
 (T1 (x_iadd H rfl) rfl
 ((x_iaload H rfl).trans (ldI_c fun v286 =>
 U1 rfl ((x_callI (ci := 8) H rfl [.int v283, .int v284, .int v285, .int v286] rfl rfl rfl rfl).trans (isO_c (bi_c fun q287 => rI_c fun v289 h288 =>
 U1 rfl ((x_icmp_eq H rfl (t := 1209) (by decide)).trans (if_c
 (U2 [some (.ref a0), some (.ref a1), some (.ref a2), some (.int x3)] rfl rfl)
 (U1 rfl (T1 (x_iconst H rfl ki_0) rfl
 (x_zreturn H rfl rfl)))))))))))))))))))))))))))))))))))))))))))))))))))))))))))))))
 (swt_c (lo1 := 29) (by decide) ((jmp_eq (t := 1186) (by decide)).trans (U1 rfl (T1 (x_aload_n H rfl rfl) rfl
 (T1 (x_aload_n H rfl rfl) rfl
 (T1 (x_iload_n H rfl rfl) rfl
 (T1 (x_iconst H rfl ki_1) rfl
 (T1 (x_iadd H rfl) rfl
 ((x_iaload H rfl).trans (ldI_c fun v290 =>
 U1 rfl ((x_callI (ci := 7) H rfl [.int v290] rfl rfl rfl rfl).trans (isO_c (bi_c fun q291 => rI_c fun v293 h292 =>
 U1 rfl (T1 (x_aload_n H rfl rfl) rfl
 (T1 (x_aload_n H rfl rfl) rfl
 (T1 (x_iload_n H rfl rfl) rfl
 (T1 (x_iconst H rfl ki_1) rfl
 (T1 (x_iadd H rfl) rfl
 ((x_iaload H rfl).trans (ldI_c fun v294 =>
 U1 rfl ((x_callI (ci := 8) H rfl [.int v294] rfl rfl rfl rfl).trans (isO_c (bi_c fun q295 => rI_c fun v297 h296 =>
 U1 rfl ((x_icmp_eq H rfl (t := 1209) (by decide)).trans (if_c
 (U2 [some (.ref a0), some (.ref a1), some (.ref a2), some (.int x3)] rfl rfl)
 (U1 rfl (T1 (x_iconst H rfl ki_0) rfl
 (x_zreturn H rfl rfl)))))))))))))))))))))))))))
 (swt_0 ((jmp_eq (t := 1209) (by decide)).trans (U2 [some (.ref a0), some (.ref a1), some (.ref a2), some (.int x3)] rfl rfl)))))))))))))))))))))))))))))))))))))))))))))))
theorem nd_169_388 {c : Ct} {dd : Bool} {ρ : Kt} (H : St c dd mt_169 ρ) (h : AH) (a0 : Nat) (a1 : Nat) (a2 : Nat) (x3 : Int32) (s0_ : Int32) (s1_ : Int32) (s2_ : Int32) (c3_ : Nat) : ρ 388 [some (.ref a0), some (.ref a1), some (.ref a2), some (.int x3)] [.int s0_, .int s1_, .int s2_, .ref c3_] h = isO h c3_ 7 ((c 69 [.ref c3_, .int s2_, .int s1_, .int s0_] h).bind fun q1 => rI q1 fun v3 h2 => ldI h2 a0 (x3 + 1) fun v4 => ldI h2 a0 (x3 + 2) fun v5 => ldI h2 a0 (x3 + 3) fun v6 => if v6 = 0 then (ρ 415 [some (.ref a0), some (.ref a1), some (.ref a2), some (.int x3)] [.int 0, .int v5, .int v4, .ref a2, .int v3] h2) else (ρ 415 [some (.ref a0), some (.ref a1), some (.ref a2), some (.int x3)] [.int 1, .int v5, .int v4, .ref a2, .int v3] h2)) :=
 (x_callI (ci := 7) H rfl [.int s2_, .int s1_, .int s0_] rfl rfl rfl rfl).trans (isO_c (bi_c fun q1 => rI_c fun v3 h2 =>
 U1 rfl (T1 (x_aload_n H rfl rfl) rfl
 (T1 (x_aload_n H rfl rfl) rfl
 (T1 (x_iload_n H rfl rfl) rfl
 (T1 (x_iconst H rfl ki_1) rfl
 (T1 (x_iadd H rfl) rfl
 ((x_iaload H rfl).trans (ldI_c fun v4 =>
 U1 rfl (T1 (x_aload_n H rfl rfl) rfl
 (T1 (x_iload_n H rfl rfl) rfl
 (T1 (x_iconst H rfl ki_2) rfl
 (T1 (x_iadd H rfl) rfl
 ((x_iaload H rfl).trans (ldI_c fun v5 =>
 U1 rfl (T1 (x_aload_n H rfl rfl) rfl
 (T1 (x_iload_n H rfl rfl) rfl
 (T1 (x_iconst H rfl ki_3) rfl
 (T1 (x_iadd H rfl) rfl
 ((x_iaload H rfl).trans (ldI_c fun v6 =>
 U1 rfl ((x_if_eq H rfl (t := 414) (by decide)).trans (if_c
 (U1 rfl (T2 [some (.ref a0), some (.ref a1), some (.ref a2), some (.int x3)] (x_iconst H rfl ki_0) rfl rfl))
 (U1 rfl (T1 (x_iconst H rfl ki_1) rfl
 (T2 [some (.ref a0), some (.ref a1), some (.ref a2), some (.int x3)] (x_goto H rfl (t := 415) (by decide)) rfl rfl))))))))))))))))))))))))))
theorem nd_169_1209 {c : Ct} {dd : Bool} {ρ : Kt} (H : St c dd mt_169 ρ) (h : AH) (a0 : Nat) (a1 : Nat) (a2 : Nat) (x3 : Int32) : ρ 1209 [some (.ref a0), some (.ref a1), some (.ref a2), some (.int x3)] [] h = ρ 18 [some (.ref a0), some (.ref a1), some (.ref a2), some (.int (x3 + 7))] [] h :=
 T2 [some (.ref a0), some (.ref a1), some (.ref a2), some (.int (x3 + 7))] (x_iinc H rfl ki_7 rfl rfl) rfl
 (T2 [some (.ref a0), some (.ref a1), some (.ref a2), some (.int (x3 + 7))] (x_goto H rfl (t := 18) (by decide)) rfl rfl)
theorem nd_169_415 {c : Ct} {dd : Bool} {ρ : Kt} (H : St c dd mt_169 ρ) (h : AH) (a0 : Nat) (a1 : Nat) (a2 : Nat) (x3 : Int32) (s0_ : Int32) (s1_ : Int32) (s2_ : Int32) (c3_ : Nat) (s4_ : Int32) : ρ 415 [some (.ref a0), some (.ref a1), some (.ref a2), some (.int x3)] [.int s0_, .int s1_, .int s2_, .ref c3_, .int s4_] h = isO h c3_ 8 ((c 122 [.ref c3_, .int s2_, .int s1_, .int s0_] h).bind fun q1 => rI q1 fun v3 h2 => if s4_ = v3 then (ρ 1209 [some (.ref a0), some (.ref a1), some (.ref a2), some (.int x3)] [] h2) else (isZ 0 (some (some (.int 0), h2)))) :=
 (x_callI (ci := 8) H rfl [.int s2_, .int s1_, .int s0_] rfl rfl rfl rfl).trans (isO_c (bi_c fun q1 => rI_c fun v3 h2 =>
 U1 rfl ((x_icmp_eq H rfl (t := 1209) (by decide)).trans (if_c
 (U2 [some (.ref a0), some (.ref a1), some (.ref a2), some (.int x3)] rfl rfl)
 (U1 rfl (T1 (x_iconst H rfl ki_0) rfl
 (x_zreturn H rfl rfl)))))))
