theorem tw_1_114 : Cond.fieldLink RX7 14 "LatticeVault" "tape" "LLatticeVault$Row;" ∈ gt := g1 114 (by decide +kernel) (by decide +kernel)
theorem tw_1_158 : Cond.methodLink RX7 80 yX4_size ∈ gt := g1 158 (by decide +kernel) (by decide +kernel)
theorem tw_1_159 : Cond.instanceMethod yX4_size ∈ gt := g1 159 (by decide +kernel) (by decide +kernel)
theorem tw_1_160 : Cond.selects RX4 yX4_size yX4_size ∈ gt := g1 160 (by decide +kernel) (by decide +kernel)
theorem tw_1_161 : Cond.code yX4_size cX4_size 1 (some .int) ∈ gt := g1 161 rfl (by rfl)
theorem tw_1_162 : Cond.methodLink RX7 84 yX4_appendWord ∈ gt := g1 162 (by decide +kernel) (by decide +kernel)
theorem tw_1_163 : Cond.instanceMethod yX4_appendWord ∈ gt := g1 163 (by decide +kernel) (by decide +kernel)
theorem tw_1_164 : Cond.selects RX4 yX4_appendWord yX4_appendWord ∈ gt := g1 164 (by decide +kernel) (by decide +kernel)
theorem tw_1_165 : Cond.code yX4_appendWord cX4_appendWord 2 none ∈ gt := g1 165 rfl (by rfl)
theorem tw_1_178 : Cond.methodLink RX7 87 yX4_cutTo ∈ gt := g1 178 (by decide +kernel) (by decide +kernel)
theorem tw_1_179 : Cond.instanceMethod yX4_cutTo ∈ gt := g1 179 (by decide +kernel) (by decide +kernel)
theorem tw_1_180 : Cond.selects RX4 yX4_cutTo yX4_cutTo ∈ gt := g1 180 (by decide +kernel) (by decide +kernel)
theorem tw_1_181 : Cond.code yX4_cutTo cX4_cutTo 2 none ∈ gt := g1 181 rfl (by rfl)
theorem tw_1_115 : Cond.fieldLink RX7 18 "LatticeVault" "publicKey" "LLatticeVault$Row;" ∈ gt := g1 115 (by decide +kernel) (by decide +kernel)
theorem tw_1_116 : Cond.fieldLink RX7 21 "LatticeVault" "privateKey" "LLatticeVault$Row;" ∈ gt := g1 116 (by decide +kernel) (by decide +kernel)
theorem tw_1_117 : Cond.fieldLink RX7 24 "LatticeVault" "text" "LLatticeVault$Row;" ∈ gt := g1 117 (by decide +kernel) (by decide +kernel)
theorem tw_1_118 : Cond.fieldLink RX7 27 "LatticeVault" "secret" "LLatticeVault$Row;" ∈ gt := g1 118 (by decide +kernel) (by decide +kernel)
theorem tw_1_119 : Cond.fieldLink RX7 30 "LatticeVault" "out" "LLatticeVault$Row;" ∈ gt := g1 119 (by decide +kernel) (by decide +kernel)
theorem tw_1_186 : Cond.methodLink RX7 90 yX7_rowOf ∈ gt := g1 186 (by decide +kernel) (by decide +kernel)
theorem tw_1_188 : Cond.instanceMethod yX7_rowOf ∈ gt := g1 188 (by decide +kernel) (by decide +kernel)
theorem tw_0_0 : Cond.selects RX7 yX7_rowOf yX7_rowOf ∈ gt := g0 0 (by decide +kernel) (by decide +kernel)
theorem tw_1_1 : Cond.initialized RX7 ∈ gt := g1 1 (by decide +kernel) (by decide +kernel)
theorem tw_1_189 : Cond.code yX7_rowOf cX7_rowOf 2 (some (.object "LatticeVault$Row")) ∈ gt := g1 189 rfl (by rfl)
theorem tw_1_190 : Cond.methodLink RX7 94 yX4_become ∈ gt := g1 190 (by decide +kernel) (by decide +kernel)
theorem tw_1_201 : Cond.methodLink RX7 98 yX4_replace ∈ gt := g1 201 (by decide +kernel) (by decide +kernel)
theorem tw_1_126 : Cond.fieldLink RX7 76 "LatticeVault" "mostRounds" "I" ∈ gt := g1 126 (by decide +kernel) (by decide +kernel)
theorem tw_1_234 : Cond.methodLink RX7 112 yX4_byteAt ∈ gt := g1 234 (by decide +kernel) (by decide +kernel)
theorem tw_1_214 : Cond.methodLink RX7 106 yX4_clear ∈ gt := g1 214 (by decide +kernel) (by decide +kernel)
theorem tw_1_123 : Cond.fieldLink RX7 59 "LatticeVault" "locksmith" "LLatticeVault$Locksmith;" ∈ gt := g1 123 (by decide +kernel) (by decide +kernel)
theorem tw_2_129 : Cond.methodLink RX7 120 yX1_draft ∈ gt := g2 129 (by decide +kernel) (by decide +kernel)
theorem tw_2_130 : Cond.instanceMethod yX1_draft ∈ gt := g2 130 (by decide +kernel) (by decide +kernel)
theorem tw_2_131 : Cond.selects RX1 yX1_draft yX1_draft ∈ gt := g2 131 (by decide +kernel) (by decide +kernel)
theorem tw_2_132 : Cond.code yX1_draft cX1_draft 1 (some (.object "LatticeVault$Row")) ∈ gt := g2 132 rfl (by rfl)
theorem tw_1_125 : Cond.fieldLink RX7 73 "LatticeVault" "set" "LLatticeVault$ParameterSet;" ∈ gt := g1 125 (by decide +kernel) (by decide +kernel)
theorem tw_2_133 : Cond.methodLink RX7 123 yX2_innerLength ∈ gt := g2 133 (by decide +kernel) (by decide +kernel)
theorem tw_1_218 : Cond.methodLink RX7 109 yX2_publicLength ∈ gt := g1 218 (by decide +kernel) (by decide +kernel)
theorem tw_2_134 : Cond.methodLink RX7 126 yX4_appendPart ∈ gt := g2 134 (by decide +kernel) (by decide +kernel)
theorem tw_2_2 : Cond.methodLink RX7 116 yX1_makeKeys ∈ gt := g2 2 (by decide +kernel) (by decide +kernel)
theorem tw_2_3 : Cond.instanceMethod yX1_makeKeys ∈ gt := g2 3 (by decide +kernel) (by decide +kernel)
theorem tw_2_4 : Cond.selects RX1 yX1_makeKeys yX1_makeKeys ∈ gt := g2 4 (by decide +kernel) (by decide +kernel)
theorem tw_2_5 : Cond.code yX1_makeKeys cX1_makeKeys 6 (some .boolean) ∈ gt := g2 5 rfl (by rfl)
theorem tw_2_161 : Cond.methodLink RX7 240 yX2_textLength ∈ gt := g2 161 (by decide +kernel) (by decide +kernel)
theorem tw_2_149 : Cond.methodLink RX7 233 yX2_privateLength ∈ gt := g2 149 (by decide +kernel) (by decide +kernel)
theorem tw_2_153 : Cond.methodLink RX7 236 yX1_hashIsTrue ∈ gt := g2 153 (by decide +kernel) (by decide +kernel)
theorem tw_2_154 : Cond.instanceMethod yX1_hashIsTrue ∈ gt := g2 154 (by decide +kernel) (by decide +kernel)
theorem tw_2_155 : Cond.selects RX1 yX1_hashIsTrue yX1_hashIsTrue ∈ gt := g2 155 (by decide +kernel) (by decide +kernel)
theorem tw_2_156 : Cond.code yX1_hashIsTrue cX1_hashIsTrue 3 (some .boolean) ∈ gt := g2 156 rfl (by rfl)
theorem tw_2_143 : Cond.methodLink RX7 229 yX0_groupsAreSmall ∈ gt := g2 143 (by decide +kernel) (by decide +kernel)
theorem tw_2_144 : Cond.static yX0_groupsAreSmall ∈ gt := g2 144 (by decide +kernel) (by decide +kernel)
theorem tw_2_145 : Cond.code yX0_groupsAreSmall cX0_groupsAreSmall 4 (some .boolean) ∈ gt := g2 145 rfl (by rfl)
theorem tw_2_139 : Cond.methodLink RX7 130 yX7_checkTapeAs ∈ gt := g2 139 (by decide +kernel) (by decide +kernel)
theorem tw_2_141 : Cond.instanceMethod yX7_checkTapeAs ∈ gt := g2 141 (by decide +kernel) (by decide +kernel)
theorem tw_0_7 : Cond.selects RX7 yX7_checkTapeAs yX7_checkTapeAs ∈ gt := g0 7 (by decide +kernel) (by decide +kernel)
theorem tw_2_142 : Cond.code yX7_checkTapeAs cX7_checkTapeAs 2 (some .int) ∈ gt := g2 142 rfl (by rfl)
theorem tw_2_211 : Cond.methodLink RX7 141 yX1_seeds ∈ gt := g2 211 (by decide +kernel) (by decide +kernel)
theorem tw_2_212 : Cond.instanceMethod yX1_seeds ∈ gt := g2 212 (by decide +kernel) (by decide +kernel)
theorem tw_2_213 : Cond.selects RX1 yX1_seeds yX1_seeds ∈ gt := g2 213 (by decide +kernel) (by decide +kernel)
theorem tw_2_214 : Cond.code yX1_seeds cX1_seeds 1 (some (.object "LatticeVault$Row")) ∈ gt := g2 214 rfl (by rfl)
theorem tw_2_169 : Cond.methodLink RX7 133 yX1_readMessage ∈ gt := g2 169 (by decide +kernel) (by decide +kernel)
theorem tw_2_170 : Cond.instanceMethod yX1_readMessage ∈ gt := g2 170 (by decide +kernel) (by decide +kernel)
theorem tw_2_171 : Cond.selects RX1 yX1_readMessage yX1_readMessage ∈ gt := g2 171 (by decide +kernel) (by decide +kernel)
theorem tw_2_172 : Cond.code yX1_readMessage cX1_readMessage 4 none ∈ gt := g2 172 rfl (by rfl)
theorem tw_2_178 : Cond.methodLink RX7 137 yX1_lockMessage ∈ gt := g2 178 (by decide +kernel) (by decide +kernel)
theorem tw_2_179 : Cond.instanceMethod yX1_lockMessage ∈ gt := g2 179 (by decide +kernel) (by decide +kernel)
theorem tw_2_180 : Cond.selects RX1 yX1_lockMessage yX1_lockMessage ∈ gt := g2 180 (by decide +kernel) (by decide +kernel)
theorem tw_2_181 : Cond.code yX1_lockMessage cX1_lockMessage 7 (some .boolean) ∈ gt := g2 181 rfl (by rfl)
theorem tw_2_219 : Cond.methodLink RX7 144 yX1_unlockText ∈ gt := g2 219 (by decide +kernel) (by decide +kernel)
theorem tw_2_220 : Cond.instanceMethod yX1_unlockText ∈ gt := g2 220 (by decide +kernel) (by decide +kernel)
theorem tw_2_221 : Cond.selects RX1 yX1_unlockText yX1_unlockText ∈ gt := g2 221 (by decide +kernel) (by decide +kernel)
theorem tw_2_222 : Cond.code yX1_unlockText cX1_unlockText 6 none ∈ gt := g2 222 rfl (by rfl)
theorem tw_2_223 : Cond.methodLink RX7 147 yX4_sameAs ∈ gt := g2 223 (by decide +kernel) (by decide +kernel)
theorem tw_2_224 : Cond.instanceMethod yX4_sameAs ∈ gt := g2 224 (by decide +kernel) (by decide +kernel)
theorem tw_2_225 : Cond.selects RX4 yX4_sameAs yX4_sameAs ∈ gt := g2 225 (by decide +kernel) (by decide +kernel)
theorem tw_2_226 : Cond.code yX4_sameAs cX4_sameAs 2 (some .boolean) ∈ gt := g2 226 rfl (by rfl)
theorem tw_2_228 : Cond.methodLink RX7 151 yX1_tellRefusal ∈ gt := g2 228 (by decide +kernel) (by decide +kernel)
theorem tw_2_229 : Cond.instanceMethod yX1_tellRefusal ∈ gt := g2 229 (by decide +kernel) (by decide +kernel)
theorem tw_2_230 : Cond.selects RX1 yX1_tellRefusal yX1_tellRefusal ∈ gt := g2 230 (by decide +kernel) (by decide +kernel)
theorem tw_2_231 : Cond.code yX1_tellRefusal cX1_tellRefusal 5 none ∈ gt := g2 231 rfl (by rfl)
theorem tw_2_238 : Cond.methodLink RX7 155 yX7_hashLength ∈ gt := g2 238 (by decide +kernel) (by decide +kernel)
theorem tw_2_239 : Cond.static yX7_hashLength ∈ gt := g2 239 (by decide +kernel) (by decide +kernel)
theorem tw_3_0 : Cond.code yX7_hashLength cX7_hashLength 2 (some .int) ∈ gt := g3 0 rfl (by rfl)
theorem tw_1_121 : Cond.fieldLink RX7 41 "LatticeVault" "sponge" "LLatticeVault$Sponge;" ∈ gt := g1 121 (by decide +kernel) (by decide +kernel)
theorem tw_3_1 : Cond.methodLink RX7 159 yX6_begin ∈ gt := g3 1 (by decide +kernel) (by decide +kernel)
theorem tw_3_2 : Cond.methodLink RX7 162 yX6_absorb ∈ gt := g3 2 (by decide +kernel) (by decide +kernel)
theorem tw_3_3 : Cond.methodLink RX7 165 yX6_finish ∈ gt := g3 3 (by decide +kernel) (by decide +kernel)
theorem tw_3_4 : Cond.methodLink RX7 168 yX6_tellTo ∈ gt := g3 4 (by decide +kernel) (by decide +kernel)
theorem tw_3_9 : Cond.methodLink RX7 172 yX7_isPolynomial ∈ gt := g3 9 (by decide +kernel) (by decide +kernel)
theorem tw_3_10 : Cond.static yX7_isPolynomial ∈ gt := g3 10 (by decide +kernel) (by decide +kernel)
theorem tw_3_11 : Cond.code yX7_isPolynomial cX7_isPolynomial 1 (some .boolean) ∈ gt := g3 11 rfl (by rfl)
theorem tw_1_120 : Cond.fieldLink RX7 35 "LatticeVault" "polynomials" "[[I" ∈ gt := g1 120 (by decide +kernel) (by decide +kernel)
theorem tw_3_12 : Cond.methodLink RX7 176 yJ9_floorMod_7cf53 ∈ gt := g3 12 (by decide +kernel) (by decide +kernel)
theorem tw_3_13 : Cond.static yJ9_floorMod_7cf53 ∈ gt := g3 13 (by decide +kernel) (by decide +kernel)
theorem tw_1_3 : Cond.initialized RJ9 ∈ gt := g1 3 (by decide +kernel) (by decide +kernel)
theorem tw_3_14 : Cond.code yJ9_floorMod_7cf53 cJ9_floorMod_7cf53 3 (some .int) ∈ gt := g3 14 rfl (by rfl)
theorem tw_3_23 : Cond.methodLink RX7 181 yX3_toPairs ∈ gt := g3 23 (by decide +kernel) (by decide +kernel)
theorem tw_3_28 : Cond.methodLink RX7 187 yX3_fromPairs ∈ gt := g3 28 (by decide +kernel) (by decide +kernel)
theorem tw_3_33 : Cond.methodLink RX7 190 yX3_multiplyPairs ∈ gt := g3 33 (by decide +kernel) (by decide +kernel)
theorem tw_3_38 : Cond.methodLink RX7 194 yX3_addTimes ∈ gt := g3 38 (by decide +kernel) (by decide +kernel)
theorem tw_3_43 : Cond.methodLink RX7 198 yX0_compress ∈ gt := g3 43 (by decide +kernel) (by decide +kernel)
theorem tw_3_48 : Cond.methodLink RX7 204 yX0_decompress ∈ gt := g3 48 (by decide +kernel) (by decide +kernel)
theorem tw_3_53 : Cond.methodLink RX7 207 yX0_pack ∈ gt := g3 53 (by decide +kernel) (by decide +kernel)
theorem tw_3_58 : Cond.methodLink RX7 211 yX0_unpack ∈ gt := g3 58 (by decide +kernel) (by decide +kernel)
theorem tw_1_124 : Cond.fieldLink RX7 63 "LatticeVault" "draft" "[I" ∈ gt := g1 124 (by decide +kernel) (by decide +kernel)
theorem tw_3_64 : Cond.methodLink RX7 219 arraycopyName ∈ gt := g3 64 (by decide +kernel) (by decide +kernel)
theorem tw_1_122 : Cond.fieldLink RX7 50 "LatticeVault" "sampler" "LLatticeVault$Sampler;" ∈ gt := g1 122 (by decide +kernel) (by decide +kernel)
theorem tw_3_63 : Cond.methodLink RX7 215 yX5_drawUniform ∈ gt := g3 63 (by decide +kernel) (by decide +kernel)
theorem tw_3_69 : Cond.methodLink RX7 225 yX5_drawNoise ∈ gt := g3 69 (by decide +kernel) (by decide +kernel)
def wp_X7_feed (X : XT) (J : MJ) (x0 : Nat) (x1 : Int32) (x2 : Int32) (x3 : Int32) (x4 : Int32) (x5 : Int32) (I : MI) (L : ML) (q : Int32 → MI → ML → Prop) : Prop := (∃ r_1 : Nat, J x0 0 = some r_1 ∧ (wp_X4_size X J r_1 I L (fun v_4 I_2 L_3 => ((((v_4 + 20) ≤ 4000) → (wp_X4_appendWord X J r_1 x1 I_2 L_3 (fun I_5 L_6 => (wp_X4_appendWord X J r_1 x2 I_5 L_6 (fun I_7 L_8 => (wp_X4_appendWord X J r_1 x3 I_7 L_8 (fun I_9 L_10 => (wp_X4_appendWord X J r_1 x4 I_9 L_10 (fun I_11 L_12 => (wp_X4_appendWord X J r_1 x5 I_11 L_12 (fun I_13 L_14 => (wp_X4_size X J r_1 I_13 L_14 (fun v_17 I_15 L_16 => q v_17 I_15 L_16))))))))))))) ∧ (¬ ((v_4 + 20) ≤ 4000) → q (-1) I_2 L_3)))))
def wp_X7_end (X : XT) (J : MJ) (x0 : Nat) (x1 : Int32) (I : MI) (L : ML) (q : Int32 → MI → ML → Prop) : Prop := (((x1 < 0) → q (-1) I L) ∧ (¬ (x1 < 0) → (∃ r_1 : Nat, J x0 0 = some r_1 ∧ (wp_X4_size X J r_1 I L (fun v_4 I_2 L_3 => (((x1 ≤ v_4) → (wp_X4_cutTo X J r_1 x1 I_2 L_3 (fun I_5 L_6 => q x1 I_5 L_6))) ∧ (¬ (x1 ≤ v_4) → q (-1) I_2 L_3)))))))
def wp_X7_rowOf (X : XT) (J : MJ) (x0 : Nat) (x1 : Int32) (I : MI) (L : ML) (q : Option Nat → MI → ML → Prop) : Prop := ((x1.toInt < 0 ∨ 5 < x1.toInt → q none I L) ∧ ((x1 = nI 0 → (∃ r_1 : Nat, J x0 1 = some r_1 ∧ q (some r_1) I L)) ∧ ((x1 = nI 1 → (∃ r_2 : Nat, J x0 2 = some r_2 ∧ q (some r_2) I L)) ∧ ((x1 = nI 2 → (∃ r_3 : Nat, J x0 3 = some r_3 ∧ q (some r_3) I L)) ∧ ((x1 = nI 3 → (∃ r_4 : Nat, J x0 4 = some r_4 ∧ q (some r_4) I L)) ∧ ((x1 = nI 4 → (∃ r_5 : Nat, J x0 5 = some r_5 ∧ q (some r_5) I L)) ∧ (x1 = nI 5 → (∃ r_6 : Nat, J x0 0 = some r_6 ∧ q (some r_6) I L))))))))
def wj_X7_take_14 (X : XT) (J : MJ) (q : Int32 → MI → ML → Prop)  (x0 : Nat)  (I : MI) (L : ML) : Prop := q (-1) I L
def wj_X7_take_14_2 (X : XT) (J : MJ) (q : Int32 → MI → ML → Prop)  (x0 : Nat) (z0 : Nat) (I : MI) (L : ML) : Prop := (∃ r_5 : Nat, J x0 0 = some r_5 ∧ (wp_X4_become X J r_5 z0 I L (fun I_6 L_7 => (wp_X4_size X J r_5 I_6 L_7 (fun v_10 I_8 L_9 => q v_10 I_8 L_9)))))
def wp_X7_take (X : XT) (J : MJ) (x0 : Nat) (x1 : Int32) (I : MI) (L : ML) (q : Int32 → MI → ML → Prop) : Prop := ((¬ (x1 = 5) → (wp_X7_rowOf X J x0 x1 I L (fun o_3 I_1 L_2 => (o_3 = none → wj_X7_take_14 X J q  x0  I_1 L_2) ∧ (∀ r_4, o_3 = some r_4 → wj_X7_take_14_2 X J q  x0 r_4 I_1 L_2)))) ∧ ((x1 = 5) → wj_X7_take_14 X J q  x0  I L))
def wp_X7_alter (X : XT) (J : MJ) (x0 : Nat) (x1 : Int32) (x2 : Int32) (I : MI) (L : ML) (q : Int32 → MI → ML → Prop) : Prop := (∃ r_1 : Nat, J x0 0 = some r_1 ∧ (wp_X4_replace X J r_1 x1 x2 I L (fun v_4 I_2 L_3 => ((v_4 = 0 ∨ v_4 = 1) ∧ q v_4 I_2 L_3))))
def wp_X7_bound (X : XT) (J : MJ) (x0 : Nat) (x1 : Int32) (I : MI) (L : ML) (q : Int32 → MI → ML → Prop) : Prop := (((x1 < 1) → q (-1) I L) ∧ (¬ (x1 < 1) → (((x1 ≤ 280) → (∀ I_1, I_1 = ms I x0 12 x1 → q x1 I_1 L)) ∧ (¬ (x1 ≤ 280) → q (-1) I L))))
def wp_X7_length (X : XT) (J : MJ) (x0 : Nat) (x1 : Int32) (I : MI) (L : ML) (q : Int32 → MI → ML → Prop) : Prop := (wp_X7_rowOf X J x0 x1 I L (fun o_3 I_1 L_2 => (o_3 = none → q (-1) I_1 L_2) ∧ (∀ r_4, o_3 = some r_4 → (wp_X4_size X J r_4 I_1 L_2 (fun v_7 I_5 L_6 => q v_7 I_5 L_6)))))
def wp_X7_at (X : XT) (J : MJ) (x0 : Nat) (x1 : Int32) (x2 : Int32) (I : MI) (L : ML) (q : Int32 → MI → ML → Prop) : Prop := (wp_X7_rowOf X J x0 x1 I L (fun o_3 I_1 L_2 => (o_3 = none → q (-1) I_1 L_2) ∧ (∀ r_4, o_3 = some r_4 → (wp_X4_byteAt X J r_4 x2 I_1 L_2 (fun v_7 I_5 L_6 => q v_7 I_5 L_6)))))
def wj_X7_make_49 (X : XT) (J : MJ) (q : Int32 → MI → ML → Prop)  (x0 : Nat) (x1 : Int32) (z0 : Int32) (I : MI) (L : ML) : Prop := (∃ r_5 : Nat, J x0 0 = some r_5 ∧ (wp_X4_clear X J r_5 I L (fun I_6 L_7 => ((¬ (x1 = 0) → ((¬ (z0 = 0) → (∃ r_8 : Nat, J x0 2 = some r_8 ∧ (∃ r_9 : Nat, J x0 9 = some r_9 ∧ (wp_X1_draft X J r_9 I_6 L_7 (fun o_12 I_10 L_11 => ∃ r_13, o_12 = some r_13 ∧ (wp_X4_become X J r_8 r_13 I_10 L_11 (fun I_14 L_15 => (∃ r_16 : Nat, J x0 1 = some r_16 ∧ (wp_X4_clear X J r_16 I_14 L_15 (fun I_17 L_18 => (∃ r_19 : Nat, J x0 11 = some r_19 ∧ (wp_X2_innerLength X J r_19 I_17 L_18 (fun v_22 I_20 L_21 => (wp_X2_publicLength X J r_19 I_20 L_21 (fun v_25 I_23 L_24 => (wp_X4_appendPart X J r_16 r_8 v_22 v_25 I_23 L_24 (fun I_26 L_27 => (∃ r_28 : Nat, J x0 3 = some r_28 ∧ (wp_X4_clear X J r_28 I_26 L_27 (fun I_29 L_30 => (∃ r_31 : Nat, J x0 4 = some r_31 ∧ (wp_X4_clear X J r_31 I_29 L_30 (fun I_32 L_33 => (wp_X4_size X J r_16 I_32 L_33 (fun v_36 I_34 L_35 => q v_36 I_34 L_35))))))))))))))))))))))))) ∧ ((z0 = 0) → q (-2) I_6 L_7))) ∧ ((x1 = 0) → q (-1) I_6 L_7)))))
def wj_X7_make_48 (X : XT) (J : MJ) (q : Int32 → MI → ML → Prop)  (x0 : Nat) (x1 : Int32)  (I : MI) (L : ML) : Prop := wj_X7_make_49 X J q  x0 x1 0 I L
def wj_X7_make_17 (X : XT) (J : MJ) (q : Int32 → MI → ML → Prop)  (x0 : Nat) (z0 : Int32) (I : MI) (L : ML) : Prop := (((z0 = 0) → wj_X7_make_48 X J q  x0 z0  I L) ∧ (¬ (z0 = 0) → (∃ r_37 : Nat, J x0 9 = some r_37 ∧ (∃ r_38 : Nat, J x0 11 = some r_38 ∧ (∃ r_39 : Nat, J x0 0 = some r_39 ∧ (wp_X1_makeKeys X J r_37 r_38 r_39 (I x0 12) I L (fun v_42 I_40 L_41 => (((v_42 = 0) → wj_X7_make_48 X J q  x0 z0  I_40 L_41) ∧ (¬ (v_42 = 0) → wj_X7_make_49 X J q  x0 z0 1 I_40 L_41)))))))))
def wp_X7_make (X : XT) (J : MJ) (x0 : Nat) (I : MI) (L : ML) (q : Int32 → MI → ML → Prop) : Prop := (∃ r_1 : Nat, J x0 0 = some r_1 ∧ (wp_X4_size X J r_1 I L (fun v_4 I_2 L_3 => ((¬ (v_4 = 64) → wj_X7_make_17 X J q  x0 0 I_2 L_3) ∧ ((v_4 = 64) → wj_X7_make_17 X J q  x0 1 I_2 L_3)))))
def wp_X7_checkTapeAs (X : XT) (J : MJ) (x0 : Nat) (x1 : Int32) (I : MI) (L : ML) (q : Int32 → MI → ML → Prop) : Prop := ((¬ (x1 = 0) → ((¬ (x1 = 1) → (∃ r_1 : Nat, J x0 0 = some r_1 ∧ (wp_X4_size X J r_1 I L (fun v_4 I_2 L_3 => (∃ r_5 : Nat, J x0 11 = some r_5 ∧ (wp_X2_textLength X J r_5 I_2 L_3 (fun v_8 I_6 L_7 => ((¬ (v_4 = v_8) → q (-1) I_6 L_7) ∧ ((v_4 = v_8) → (wp_X4_size X J r_1 I_6 L_7 (fun v_11 I_9 L_10 => q v_11 I_9 L_10))))))))))) ∧ ((x1 = 1) → (∃ r_12 : Nat, J x0 0 = some r_12 ∧ (wp_X4_size X J r_12 I L (fun v_15 I_13 L_14 => (∃ r_16 : Nat, J x0 11 = some r_16 ∧ (wp_X2_privateLength X J r_16 I_13 L_14 (fun v_19 I_17 L_18 => (((v_15 = v_19) → (∃ r_20 : Nat, J x0 9 = some r_20 ∧ (wp_X1_hashIsTrue X J r_20 r_16 r_12 I_17 L_18 (fun v_23 I_21 L_22 => (((v_23 = 0) → q (-3) I_21 L_22) ∧ (¬ (v_23 = 0) → (wp_X4_size X J r_12 I_21 L_22 (fun v_26 I_24 L_25 => q v_26 I_24 L_25)))))))) ∧ (¬ (v_15 = v_19) → q (-1) I_17 L_18))))))))))) ∧ ((x1 = 0) → (∃ r_27 : Nat, J x0 0 = some r_27 ∧ (wp_X4_size X J r_27 I L (fun v_30 I_28 L_29 => (∃ r_31 : Nat, J x0 11 = some r_31 ∧ (wp_X2_publicLength X J r_31 I_28 L_29 (fun v_34 I_32 L_33 => (((v_30 = v_34) → (wp_X2_innerLength X J r_31 I_32 L_33 (fun v_37 I_35 L_36 => (wp_X0_groupsAreSmall X J r_27 v_37 I_35 L_36 (fun v_40 I_38 L_39 => (((v_40 = 0) → q (-2) I_38 L_39) ∧ (¬ (v_40 = 0) → (wp_X4_size X J r_27 I_38 L_39 (fun v_43 I_41 L_42 => q v_43 I_41 L_42))))))))) ∧ (¬ (v_30 = v_34) → q (-1) I_32 L_33))))))))))
def wj_X7_load_44 (X : XT) (J : MJ) (q : Int32 → MI → ML → Prop)  (x0 : Nat) (x2 : Int32)  (I : MI) (L : ML) : Prop := (∃ r_8 : Nat, J x0 0 = some r_8 ∧ (wp_X4_clear X J r_8 I L (fun I_9 L_10 => q x2 I_9 L_10)))
def wj_X7_load_16 (X : XT) (J : MJ) (q : Int32 → MI → ML → Prop)  (x0 : Nat) (x1 : Int32)  (I : MI) (L : ML) : Prop := (wp_X7_checkTapeAs X J x0 x1 I L (fun v_3 I_1 L_2 => (wp_X7_rowOf X J x0 x1 I_1 L_2 (fun o_6 I_4 L_5 => (o_6 = none → (((v_3 < 0) → wj_X7_load_44 X J q  x0 v_3  I_4 L_5) ∧ (¬ (v_3 < 0) → wj_X7_load_44 X J q  x0 v_3  I_4 L_5))) ∧ (∀ r_7, o_6 = some r_7 → (((v_3 < 0) → wj_X7_load_44 X J q  x0 v_3  I_4 L_5) ∧ (¬ (v_3 < 0) → (∃ r_11 : Nat, J x0 0 = some r_11 ∧ (wp_X4_become X J r_7 r_11 I_4 L_5 (fun I_12 L_13 => wj_X7_load_44 X J q  x0 v_3  I_12 L_13))))))))))
def wp_X7_load (X : XT) (J : MJ) (x0 : Nat) (x1 : Int32) (I : MI) (L : ML) (q : Int32 → MI → ML → Prop) : Prop := (((x1 = 0) → wj_X7_load_16 X J q  x0 x1  I L) ∧ (¬ (x1 = 0) → (((x1 = 1) → wj_X7_load_16 X J q  x0 x1  I L) ∧ (¬ (x1 = 1) → (((x1 = 2) → wj_X7_load_16 X J q  x0 x1  I L) ∧ (¬ (x1 = 2) → q (-1) I L))))))
def wj_X7_wrap_74 (X : XT) (J : MJ) (q : Int32 → MI → ML → Prop)  (x0 : Nat) (x1 : Int32) (x2 : Int32)  (I : MI) (L : ML) : Prop := (∃ r_5 : Nat, J x0 0 = some r_5 ∧ (wp_X4_clear X J r_5 I L (fun I_6 L_7 => ((¬ (x1 = 0) → ((¬ (x2 = 0) → (∃ r_8 : Nat, J x0 3 = some r_8 ∧ (∃ r_9 : Nat, J x0 9 = some r_9 ∧ (wp_X1_draft X J r_9 I_6 L_7 (fun o_12 I_10 L_11 => ∃ r_13, o_12 = some r_13 ∧ (wp_X4_become X J r_8 r_13 I_10 L_11 (fun I_14 L_15 => (∃ r_16 : Nat, J x0 4 = some r_16 ∧ (wp_X4_clear X J r_16 I_14 L_15 (fun I_17 L_18 => (wp_X1_seeds X J r_9 I_17 L_18 (fun o_21 I_19 L_20 => ∃ r_22, o_21 = some r_22 ∧ (wp_X4_appendPart X J r_16 r_22 0 32 I_19 L_20 (fun I_23 L_24 => (wp_X4_size X J r_8 I_23 L_24 (fun v_27 I_25 L_26 => q v_27 I_25 L_26)))))))))))))))) ∧ ((x2 = 0) → q (-2) I_6 L_7))) ∧ ((x1 = 0) → q (-1) I_6 L_7)))))
def wj_X7_wrap_27 (X : XT) (J : MJ) (q : Int32 → MI → ML → Prop)  (x0 : Nat) (z0 : Int32) (I : MI) (L : ML) : Prop := (((z0 = 0) → wj_X7_wrap_74 X J q  x0 z0 0  I L) ∧ (¬ (z0 = 0) → (∃ r_28 : Nat, J x0 9 = some r_28 ∧ (∃ r_29 : Nat, J x0 11 = some r_29 ∧ (∃ r_30 : Nat, J x0 1 = some r_30 ∧ (∃ r_31 : Nat, J x0 0 = some r_31 ∧ (wp_X1_readMessage X J r_28 r_29 r_30 r_31 I L (fun I_32 L_33 => (wp_X1_lockMessage X J r_28 r_29 r_30 0 (I_32 x0 12) I_32 L_33 (fun v_36 I_34 L_35 => wj_X7_wrap_74 X J q  x0 z0 v_36  I_34 L_35))))))))))
def wj_X7_wrap_26 (X : XT) (J : MJ) (q : Int32 → MI → ML → Prop)  (x0 : Nat)  (I : MI) (L : ML) : Prop := wj_X7_wrap_27 X J q  x0 0 I L
def wp_X7_wrap (X : XT) (J : MJ) (x0 : Nat) (I : MI) (L : ML) (q : Int32 → MI → ML → Prop) : Prop := (∃ r_1 : Nat, J x0 0 = some r_1 ∧ (wp_X4_size X J r_1 I L (fun v_4 I_2 L_3 => ((¬ (v_4 = 32) → wj_X7_wrap_26 X J q  x0  I_2 L_3) ∧ ((v_4 = 32) → (∃ r_37 : Nat, J x0 1 = some r_37 ∧ (wp_X4_size X J r_37 I_2 L_3 (fun v_40 I_38 L_39 => (((v_40 ≤ 0) → wj_X7_wrap_26 X J q  x0  I_38 L_39) ∧ (¬ (v_40 ≤ 0) → wj_X7_wrap_27 X J q  x0 1 I_38 L_39))))))))))
def wp_X7_unwrap (X : XT) (J : MJ) (x0 : Nat) (I : MI) (L : ML) (q : Int32 → MI → ML → Prop) : Prop := (∃ r_1 : Nat, J x0 2 = some r_1 ∧ (wp_X4_size X J r_1 I L (fun v_4 I_2 L_3 => (((v_4 = 0) → q (-1) I_2 L_3) ∧ (¬ (v_4 = 0) → (∃ r_5 : Nat, J x0 3 = some r_5 ∧ (wp_X4_size X J r_5 I_2 L_3 (fun v_8 I_6 L_7 => ((¬ (v_8 = 0) → (∃ r_9 : Nat, J x0 9 = some r_9 ∧ (∃ r_10 : Nat, J x0 11 = some r_10 ∧ (wp_X1_unlockText X J r_9 r_10 r_1 r_5 I_6 L_7 (fun I_11 L_12 => (wp_X2_innerLength X J r_10 I_11 L_12 (fun v_15 I_13 L_14 => (wp_X1_lockMessage X J r_9 r_10 r_1 v_15 (I_13 x0 12) I_13 L_14 (fun v_18 I_16 L_17 => ((¬ (v_18 = 0) → (∃ r_19 : Nat, J x0 4 = some r_19 ∧ (wp_X4_clear X J r_19 I_16 L_17 (fun I_20 L_21 => (wp_X1_draft X J r_9 I_20 L_21 (fun o_24 I_22 L_23 => ∃ r_25, o_24 = some r_25 ∧ (wp_X4_sameAs X J r_25 r_5 I_22 L_23 (fun v_28 I_26 L_27 => (((v_28 = 0) → (wp_X1_tellRefusal X J r_9 r_10 r_1 r_5 r_19 I_26 L_27 (fun I_29 L_30 => q 0 I_29 L_30))) ∧ (¬ (v_28 = 0) → (wp_X1_seeds X J r_9 I_26 L_27 (fun o_33 I_31 L_32 => ∃ r_34, o_33 = some r_34 ∧ (wp_X4_appendPart X J r_19 r_34 0 32 I_31 L_32 (fun I_35 L_36 => q 1 I_35 L_36)))))))))))))) ∧ ((v_18 = 0) → q (-2) I_16 L_17))))))))))) ∧ ((v_8 = 0) → q (-1) I_6 L_7))))))))))
def wj_X7_hashLength_38 (X : XT) (J : MJ) (q : Int32 → MI → ML → Prop)  (x1 : Int32)  (I : MI) (L : ML) : Prop := (((x1 < 0) → q (-1) I L) ∧ (¬ (x1 < 0) → (((1000 < x1) → q (-1) I L) ∧ (¬ (1000 < x1) → q x1 I L))))
def wp_X7_hashLength (X : XT) (J : MJ) (x0 : Int32) (x1 : Int32) (I : MI) (L : ML) (q : Int32 → MI → ML → Prop) : Prop := ((x0.toInt < 0 ∨ 3 < x0.toInt → q (-1) I L) ∧ ((x0 = nI 0 → q 32 I L) ∧ ((x0 = nI 1 → q 64 I L) ∧ ((x0 = nI 2 → wj_X7_hashLength_38 X J q  x1  I L) ∧ (x0 = nI 3 → wj_X7_hashLength_38 X J q  x1  I L)))))
def wp_X7_hash (X : XT) (J : MJ) (x0 : Nat) (x1 : Int32) (x2 : Int32) (I : MI) (L : ML) (q : Int32 → MI → ML → Prop) : Prop := (wp_X7_hashLength X J x1 x2 I L (fun v_3 I_1 L_2 => ((¬ (v_3 = (-1)) → (∃ r_4 : Nat, J x0 7 = some r_4 ∧ (wp_X6_begin X J r_4 x1 I_1 L_2 (fun I_5 L_6 => (∃ r_7 : Nat, J x0 0 = some r_7 ∧ (wp_X4_size X J r_7 I_5 L_6 (fun v_10 I_8 L_9 => (wp_X6_absorb X J r_4 r_7 0 v_10 I_8 L_9 (fun I_11 L_12 => (wp_X6_finish X J r_4 I_11 L_12 (fun I_13 L_14 => (∃ r_15 : Nat, J x0 5 = some r_15 ∧ (wp_X4_clear X J r_15 I_13 L_14 (fun I_16 L_17 => (wp_X6_tellTo X J r_4 r_15 v_3 I_16 L_17 (fun I_18 L_19 => (wp_X4_clear X J r_7 I_18 L_19 (fun I_20 L_21 => q v_3 I_20 L_21)))))))))))))))))) ∧ ((v_3 = (-1)) → q (-1) I_1 L_2))))
def wp_X7_isPolynomial (X : XT) (J : MJ) (x0 : Int32) (I : MI) (L : ML) (q : Int32 → MI → ML → Prop) : Prop := (((x0 < 0) → q 0 I L) ∧ (¬ (x0 < 0) → (((4 ≤ x0) → q 0 I L) ∧ (¬ (4 ≤ x0) → q 1 I L))))
def wp_X7_put (X : XT) (J : MJ) (x0 : Nat) (x1 : Int32) (x2 : Int32) (x3 : Int32) (I : MI) (L : ML) (q : Int32 → MI → ML → Prop) : Prop := (wp_X7_isPolynomial X J x1 I L (fun v_3 I_1 L_2 => (((v_3 = 0) → q (-1) I_1 L_2) ∧ (¬ (v_3 = 0) → (((x2 < 0) → q (-1) I_1 L_2) ∧ (¬ (x2 < 0) → (((x2 < 256) → (∃ r_4 : Nat, J x0 6 = some r_4 ∧ (vp_in x1 (sl X r_4) ∧ ∃ r_6 : Nat, J r_4 x1.toNatClampNeg = some r_6 ∧ (wp_J9_floorMod_7cf53 X J x3 3329 I_1 L_2 (fun v_9 I_7 L_8 => (vp_in x2 (sl X r_6) ∧ ∀ I_11, I_11 = ms I_7 r_6 x2.toNatClampNeg v_9 → (vp_in x1 (sl X r_4) ∧ ∃ r_13 : Nat, J r_4 x1.toNatClampNeg = some r_13 ∧ (vp_in x2 (sl X r_13) ∧ q (I_11 r_13 x2.toNatClampNeg) I_11 L_8)))))))) ∧ (¬ (x2 < 256) → q (-1) I_1 L_2))))))))
def wp_X7_number (X : XT) (J : MJ) (x0 : Nat) (x1 : Int32) (x2 : Int32) (I : MI) (L : ML) (q : Int32 → MI → ML → Prop) : Prop := (wp_X7_isPolynomial X J x1 I L (fun v_3 I_1 L_2 => (((v_3 = 0) → q (-1) I_1 L_2) ∧ (¬ (v_3 = 0) → (((x2 < 0) → q (-1) I_1 L_2) ∧ (¬ (x2 < 0) → (((x2 < 256) → (∃ r_4 : Nat, J x0 6 = some r_4 ∧ (vp_in x1 (sl X r_4) ∧ ∃ r_6 : Nat, J r_4 x1.toNatClampNeg = some r_6 ∧ (vp_in x2 (sl X r_6) ∧ q (I_1 r_6 x2.toNatClampNeg) I_1 L_2)))) ∧ (¬ (x2 < 256) → q (-1) I_1 L_2))))))))
def wp_X7_forward (X : XT) (J : MJ) (x0 : Nat) (x1 : Int32) (I : MI) (L : ML) (q : Int32 → MI → ML → Prop) : Prop := (wp_X7_isPolynomial X J x1 I L (fun v_3 I_1 L_2 => ((¬ (v_3 = 0) → (∃ r_4 : Nat, J x0 6 = some r_4 ∧ (vp_in x1 (sl X r_4) ∧ ∃ r_6 : Nat, J r_4 x1.toNatClampNeg = some r_6 ∧ (wp_X3_toPairs X J r_6 I_1 L_2 (fun I_7 L_8 => q 1 I_7 L_8))))) ∧ ((v_3 = 0) → q 0 I_1 L_2))))
def wp_X7_back (X : XT) (J : MJ) (x0 : Nat) (x1 : Int32) (I : MI) (L : ML) (q : Int32 → MI → ML → Prop) : Prop := (wp_X7_isPolynomial X J x1 I L (fun v_3 I_1 L_2 => ((¬ (v_3 = 0) → (∃ r_4 : Nat, J x0 6 = some r_4 ∧ (vp_in x1 (sl X r_4) ∧ ∃ r_6 : Nat, J r_4 x1.toNatClampNeg = some r_6 ∧ (wp_X3_fromPairs X J r_6 I_1 L_2 (fun I_7 L_8 => q 1 I_7 L_8))))) ∧ ((v_3 = 0) → q 0 I_1 L_2))))
def wp_X7_pairs (X : XT) (J : MJ) (x0 : Nat) (x1 : Int32) (x2 : Int32) (x3 : Int32) (I : MI) (L : ML) (q : Int32 → MI → ML → Prop) : Prop := (wp_X7_isPolynomial X J x1 I L (fun v_3 I_1 L_2 => (((v_3 = 0) → q 0 I_1 L_2) ∧ (¬ (v_3 = 0) → (wp_X7_isPolynomial X J x2 I_1 L_2 (fun v_6 I_4 L_5 => (((v_6 = 0) → q 0 I_4 L_5) ∧ (¬ (v_6 = 0) → (wp_X7_isPolynomial X J x3 I_4 L_5 (fun v_9 I_7 L_8 => ((¬ (v_9 = 0) → (∃ r_10 : Nat, J x0 6 = some r_10 ∧ (vp_in x1 (sl X r_10) ∧ ∃ r_12 : Nat, J r_10 x1.toNatClampNeg = some r_12 ∧ (vp_in x2 (sl X r_10) ∧ ∃ r_14 : Nat, J r_10 x2.toNatClampNeg = some r_14 ∧ (vp_in x3 (sl X r_10) ∧ ∃ r_16 : Nat, J r_10 x3.toNatClampNeg = some r_16 ∧ (wp_X3_multiplyPairs X J r_12 r_14 r_16 I_7 L_8 (fun I_17 L_18 => q 1 I_17 L_18))))))) ∧ ((v_9 = 0) → q 0 I_7 L_8))))))))))))
def wj_X7_add_26 (X : XT) (J : MJ) (q : Int32 → MI → ML → Prop)  (x0 : Nat) (x1 : Int32) (x2 : Int32) (x3 : Int32)  (I : MI) (L : ML) : Prop := (∃ r_7 : Nat, J x0 6 = some r_7 ∧ (vp_in x1 (sl X r_7) ∧ ∃ r_9 : Nat, J r_7 x1.toNatClampNeg = some r_9 ∧ (vp_in x2 (sl X r_7) ∧ ∃ r_11 : Nat, J r_7 x2.toNatClampNeg = some r_11 ∧ (wp_X3_addTimes X J r_9 r_11 x3 I L (fun I_12 L_13 => q 1 I_12 L_13)))))
def wp_X7_add (X : XT) (J : MJ) (x0 : Nat) (x1 : Int32) (x2 : Int32) (x3 : Int32) (I : MI) (L : ML) (q : Int32 → MI → ML → Prop) : Prop := (wp_X7_isPolynomial X J x1 I L (fun v_3 I_1 L_2 => (((v_3 = 0) → q 0 I_1 L_2) ∧ (¬ (v_3 = 0) → (wp_X7_isPolynomial X J x2 I_1 L_2 (fun v_6 I_4 L_5 => (((v_6 = 0) → q 0 I_4 L_5) ∧ (¬ (v_6 = 0) → (((x3 = 1) → wj_X7_add_26 X J q  x0 x1 x2 x3  I_4 L_5) ∧ (¬ (x3 = 1) → (((x3 = (-1)) → wj_X7_add_26 X J q  x0 x1 x2 x3  I_4 L_5) ∧ (¬ (x3 = (-1)) → q 0 I_4 L_5))))))))))))
def wp_X7_press (X : XT) (J : MJ) (x0 : Nat) (x1 : Int32) (x2 : Int32) (I : MI) (L : ML) (q : Int32 → MI → ML → Prop) : Prop := (wp_X7_isPolynomial X J x1 I L (fun v_3 I_1 L_2 => (((v_3 = 0) → q 0 I_1 L_2) ∧ (¬ (v_3 = 0) → (((x2 < 1) → q 0 I_1 L_2) ∧ (¬ (x2 < 1) → (((x2 ≤ 11) → (∃ r_4 : Nat, J x0 6 = some r_4 ∧ (vp_in x1 (sl X r_4) ∧ ∃ r_6 : Nat, J r_4 x1.toNatClampNeg = some r_6 ∧ (wp_X0_compress X J r_6 x2 I_1 L_2 (fun I_7 L_8 => q 1 I_7 L_8))))) ∧ (¬ (x2 ≤ 11) → q 0 I_1 L_2))))))))
def wp_X7_stretch (X : XT) (J : MJ) (x0 : Nat) (x1 : Int32) (x2 : Int32) (I : MI) (L : ML) (q : Int32 → MI → ML → Prop) : Prop := (wp_X7_isPolynomial X J x1 I L (fun v_3 I_1 L_2 => (((v_3 = 0) → q 0 I_1 L_2) ∧ (¬ (v_3 = 0) → (((x2 < 1) → q 0 I_1 L_2) ∧ (¬ (x2 < 1) → (((x2 ≤ 11) → (∃ r_4 : Nat, J x0 6 = some r_4 ∧ (vp_in x1 (sl X r_4) ∧ ∃ r_6 : Nat, J r_4 x1.toNatClampNeg = some r_6 ∧ (wp_X0_decompress X J r_6 x2 I_1 L_2 (fun I_7 L_8 => q 1 I_7 L_8))))) ∧ (¬ (x2 ≤ 11) → q 0 I_1 L_2))))))))
def wp_X7_encode (X : XT) (J : MJ) (x0 : Nat) (x1 : Int32) (x2 : Int32) (I : MI) (L : ML) (q : Int32 → MI → ML → Prop) : Prop := (wp_X7_isPolynomial X J x1 I L (fun v_3 I_1 L_2 => (((v_3 = 0) → q (-1) I_1 L_2) ∧ (¬ (v_3 = 0) → (((x2 < 1) → q (-1) I_1 L_2) ∧ (¬ (x2 < 1) → (((x2 ≤ 12) → (∃ r_4 : Nat, J x0 5 = some r_4 ∧ (wp_X4_clear X J r_4 I_1 L_2 (fun I_5 L_6 => (∃ r_7 : Nat, J x0 6 = some r_7 ∧ (vp_in x1 (sl X r_7) ∧ ∃ r_9 : Nat, J r_7 x1.toNatClampNeg = some r_9 ∧ (wp_X0_pack X J r_9 x2 r_4 I_5 L_6 (fun I_10 L_11 => (wp_X4_size X J r_4 I_10 L_11 (fun v_14 I_12 L_13 => q v_14 I_12 L_13)))))))))) ∧ (¬ (x2 ≤ 12) → q (-1) I_1 L_2))))))))
def wj_X7_decode_59 (X : XT) (J : MJ) (q : Int32 → MI → ML → Prop)  (x0 : Nat) (x3 : Int32)  (I : MI) (L : ML) : Prop := (∃ r_8 : Nat, J x0 0 = some r_8 ∧ (wp_X4_clear X J r_8 I L (fun I_9 L_10 => (((x3 = 0) → q (-1) I_9 L_10) ∧ (¬ (x3 = 0) → q 256 I_9 L_10)))))
def wj_X7_decode_39 (X : XT) (J : MJ) (q : Int32 → MI → ML → Prop)  (x0 : Nat) (x1 : Int32) (x2 : Int32) (z0 : Int32) (I : MI) (L : ML) : Prop := (((z0 = 0) → wj_X7_decode_59 X J q  x0 z0  I L) ∧ (¬ (z0 = 0) → (∃ r_11 : Nat, J x0 6 = some r_11 ∧ (vp_in x1 (sl X r_11) ∧ ∃ r_13 : Nat, J r_11 x1.toNatClampNeg = some r_13 ∧ (∃ r_14 : Nat, J x0 0 = some r_14 ∧ (wp_X0_unpack X J r_13 x2 r_14 0 I L (fun I_15 L_16 => wj_X7_decode_59 X J q  x0 z0  I_15 L_16)))))))
def wp_X7_decode (X : XT) (J : MJ) (x0 : Nat) (x1 : Int32) (x2 : Int32) (I : MI) (L : ML) (q : Int32 → MI → ML → Prop) : Prop := (wp_X7_isPolynomial X J x1 I L (fun v_3 I_1 L_2 => (((v_3 = 0) → q (-1) I_1 L_2) ∧ (¬ (v_3 = 0) → (((x2 < 1) → q (-1) I_1 L_2) ∧ (¬ (x2 < 1) → (((x2 ≤ 12) → (∃ r_4 : Nat, J x0 0 = some r_4 ∧ (wp_X4_size X J r_4 I_1 L_2 (fun v_7 I_5 L_6 => ((¬ (v_7 = (32 * x2)) → wj_X7_decode_39 X J q  x0 x1 x2 0 I_5 L_6) ∧ ((v_7 = (32 * x2)) → wj_X7_decode_39 X J q  x0 x1 x2 1 I_5 L_6)))))) ∧ (¬ (x2 ≤ 12) → q (-1) I_1 L_2))))))))
def wj_X7_sample_48 (X : XT) (J : MJ) (q : Int32 → MI → ML → Prop)  (x0 : Nat) (x1 : Int32) (x4 : Int32)  (I : MI) (L : ML) : Prop := (∃ r_8 : Nat, J x0 0 = some r_8 ∧ (wp_X4_clear X J r_8 I L (fun I_9 L_10 => (((x4 ≤ 0) → q x4 I_9 L_10) ∧ (¬ (x4 ≤ 0) → (∃ r_11 : Nat, J x0 10 = some r_11 ∧ (∃ r_12 : Nat, J x0 6 = some r_12 ∧ (vp_in x1 (sl X r_12) ∧ ∃ r_14 : Nat, J r_12 x1.toNatClampNeg = some r_14 ∧ (¬ (0 : Int32) < 0 ∧ ¬ (0 : Int32) < 0 ∧ ¬ (256 : Int32) < 0 ∧ (0 : Int32).toNatClampNeg + (256 : Int32).toNatClampNeg ≤ sl X r_11 ∧ (0 : Int32).toNatClampNeg + (256 : Int32).toNatClampNeg ≤ sl X r_14 ∧ ∀ I_16, I_16 = va_up I_9 r_14 (va_cpy (I_9 r_11) (I_9 r_14) (0 : Int32).toNatClampNeg (0 : Int32).toNatClampNeg (256 : Int32).toNatClampNeg) → q x4 I_16 L_10)))))))))
def wp_X7_sample (X : XT) (J : MJ) (x0 : Nat) (x1 : Int32) (x2 : Int32) (x3 : Int32) (I : MI) (L : ML) (q : Int32 → MI → ML → Prop) : Prop := (wp_X7_isPolynomial X J x1 I L (fun v_3 I_1 L_2 => ((¬ (v_3 = 0) → (∃ r_4 : Nat, J x0 0 = some r_4 ∧ (wp_X4_size X J r_4 I_1 L_2 (fun v_7 I_5 L_6 => ((¬ (v_7 = 32) → wj_X7_sample_48 X J q  x0 x1 (-1)  I_5 L_6) ∧ ((v_7 = 32) → (∃ r_17 : Nat, J x0 8 = some r_17 ∧ (∃ r_18 : Nat, J x0 10 = some r_18 ∧ (wp_X5_drawUniform X J r_17 r_18 r_4 0 x3 x2 (I_5 x0 12) I_5 L_6 (fun v_21 I_19 L_20 => wj_X7_sample_48 X J q  x0 x1 v_21  I_19 L_20)))))))))) ∧ ((v_3 = 0) → q (-1) I_1 L_2))))
def wj_X7_noise_63 (X : XT) (J : MJ) (q : Int32 → MI → ML → Prop)  (x0 : Nat) (x4 : Int32)  (I : MI) (L : ML) : Prop := (∃ r_8 : Nat, J x0 0 = some r_8 ∧ (wp_X4_clear X J r_8 I L (fun I_9 L_10 => (((x4 = 0) → q (-1) I_9 L_10) ∧ (¬ (x4 = 0) → q 256 I_9 L_10)))))
def wj_X7_noise_36 (X : XT) (J : MJ) (q : Int32 → MI → ML → Prop)  (x0 : Nat) (x1 : Int32) (x2 : Int32) (x3 : Int32) (z0 : Int32) (I : MI) (L : ML) : Prop := (((z0 = 0) → wj_X7_noise_63 X J q  x0 z0  I L) ∧ (¬ (z0 = 0) → (∃ r_11 : Nat, J x0 8 = some r_11 ∧ (∃ r_12 : Nat, J x0 6 = some r_12 ∧ (vp_in x1 (sl X r_12) ∧ ∃ r_14 : Nat, J r_12 x1.toNatClampNeg = some r_14 ∧ (∃ r_15 : Nat, J x0 0 = some r_15 ∧ (wp_X5_drawNoise X J r_11 r_14 r_15 0 x2 x3 I L (fun I_16 L_17 => wj_X7_noise_63 X J q  x0 z0  I_16 L_17))))))))
def wj_X7_noise_19 (X : XT) (J : MJ) (q : Int32 → MI → ML → Prop)  (x0 : Nat) (x1 : Int32) (x2 : Int32) (x3 : Int32)  (I : MI) (L : ML) : Prop := (∃ r_4 : Nat, J x0 0 = some r_4 ∧ (wp_X4_size X J r_4 I L (fun v_7 I_5 L_6 => ((¬ (v_7 = 32) → wj_X7_noise_36 X J q  x0 x1 x2 x3 0 I_5 L_6) ∧ ((v_7 = 32) → wj_X7_noise_36 X J q  x0 x1 x2 x3 1 I_5 L_6)))))
def wp_X7_noise (X : XT) (J : MJ) (x0 : Nat) (x1 : Int32) (x2 : Int32) (x3 : Int32) (I : MI) (L : ML) (q : Int32 → MI → ML → Prop) : Prop := (wp_X7_isPolynomial X J x1 I L (fun v_3 I_1 L_2 => (((v_3 = 0) → q (-1) I_1 L_2) ∧ (¬ (v_3 = 0) → (((x2 = 2) → wj_X7_noise_19 X J q  x0 x1 x2 x3  I_1 L_2) ∧ (¬ (x2 = 2) → (((x2 = 3) → wj_X7_noise_19 X J q  x0 x1 x2 x3  I_1 L_2) ∧ (¬ (x2 = 3) → q (-1) I_1 L_2))))))))
set_option maxHeartbeats 4000000 in
set_option maxRecDepth 100000 in
theorem s_X7_feed (l : Launch) (D : va_G) (X : XT) (ad : Nat → Nat) (n : Nat) (A : Nat → Prop) (J : MJ) (hWT : WT X n J) (x0 : Nat) (t0 : Ty X n x0 8) (x1 : Int32) (x2 : Int32) (x3 : Int32) (x4 : Int32) (x5 : Int32) (I : MI) (L : ML) (q : Int32 → MI → ML → Prop) (h : wp_X7_feed X J x0 x1 x2 x3 x4 x5 I L q) : Met l yX7_feed (wz yX7_feed cX7_feed 6 (some .int)) ({ frames := 3, cells := 0, slots := 0, locals := 65 } : Room) (va_Pc [.ref (ad x0), .int x1, .int x2, .int x3, .int x4, .int x5] (Pr D X ad n A J I L)) (QI D X ad n A J q) 0 0 A := by
  refine Met_go (by decide +kernel) (Nat.le_of_ble_eq_true rfl) (fun p e s m below meth c hx hb hr hml hown hlk hnm hts hK hZ hA hV ls hl => ?_)
  have C0 : Cx p s m meth c cX7_feed (some .int) 6 yX7_feed [.ref (ad x0), .int x1, .int x2, .int x3, .int x4, .int x5] D X ad n A J := ⟨hx, hb, hr, hml, hown, hlk, hnm, hts, hK, hZ, hA, hWT⟩
  unfold wp_X7_feed at h
  have hl : lv_has ls 6 [(0, .ref (ad x0)), (1, .int x1), (2, .int x2), (3, .int x3), (4, .int x4), (5, .int x5)] := hl
  refine lv_aload_n hx hb dX7_feed_0 rfl (lv_at hl 0 rfl) ?_
  obtain ⟨r_1, hr_1, h⟩ := h
  have tr_1 : Ty X n r_1 5 := hWT.r (c := 4) (j := 0) t0 rfl hr_1
  refine m_getr (C := RX7) (T := TX7) (N := 13) (ci := 4) hx hb hts iwX7 hown hK hV t0 rfl 0 (by decide) rfl rfl hr_1 (hts _ tw_1_114) (fun _ h9 => h9) dX7_feed_1 ?_
  refine k_calli (va_runV (As := []) (rest := []) ⟨hx, hb, hml, hown, hts⟩ (s_X4_size l D X ad n A J hWT r_1 tr_1 I L _ h) (cwV 0 hts (gV tw_1_158 tw_1_159 tw_1_160 tw_1_2 tw_1_161) rfl rfl rfl (by decide +kernel) (by decide)) (k_preV (ci := 1) hK hV hA hZ tr_1 rfl _) rfl rfl hl.1 rfl (lv_room (Nat.le_of_ble_eq_true rfl)) dX7_feed_4 ⟨Nat.zero_le _, Nat.zero_le _⟩) hV (fun v_4 I_2 L_3 H locs h hV => ?_)
  refine lv_bipush (v := 20) hx hb dX7_feed_7 (by decide) ?_
  refine lv_iadd hx hb dX7_feed_9 ?_
  refine lv_sipush (v := 4000) hx hb dX7_feed_10 (by decide) ?_
  refine lv_icmp_le (tgt := 18) hx hb dX7_feed_13 (by decide) (fun hc => ?_) (fun hc => ?_)
  · replace h := h.1 hc
    refine lv_aload_n hx hb dX7_feed_18 rfl (lv_at hl 0 rfl) ?_
    refine m_getr (C := RX7) (T := TX7) (N := 13) (ci := 4) hx hb hts iwX7 hown hK hV t0 rfl 0 (by decide) rfl rfl hr_1 (hts _ tw_1_114) (fun _ h9 => h9) dX7_feed_19 ?_
    refine lv_iload_n hx hb dX7_feed_22 rfl (lv_at hl 1 rfl) ?_
    refine k_callv (va_runV (As := [.int x1]) (rest := []) ⟨hx, hb, hml, hown, hts⟩ (s_X4_appendWord l D X ad n A J hWT r_1 tr_1 x1 I_2 L_3 _ h) (cwV 1 hts (gV tw_1_162 tw_1_163 tw_1_164 tw_1_2 tw_1_165) rfl rfl rfl (by decide +kernel) (by decide)) (k_preV (ci := 1) hK hV hA hZ tr_1 rfl _) rfl rfl hl.1 rfl (lv_room (Nat.le_of_ble_eq_true rfl)) dX7_feed_23 ⟨Nat.zero_le _, Nat.zero_le _⟩) hV (fun I_5 L_6 H locs h hV => ?_)
    refine lv_aload_n hx hb dX7_feed_26 rfl (lv_at hl 0 rfl) ?_
    refine m_getr (C := RX7) (T := TX7) (N := 13) (ci := 4) hx hb hts iwX7 hown hK hV t0 rfl 0 (by decide) rfl rfl hr_1 (hts _ tw_1_114) (fun _ h9 => h9) dX7_feed_27 ?_
    refine lv_iload_n hx hb dX7_feed_30 rfl (lv_at hl 2 rfl) ?_
    refine k_callv (va_runV (As := [.int x2]) (rest := []) ⟨hx, hb, hml, hown, hts⟩ (s_X4_appendWord l D X ad n A J hWT r_1 tr_1 x2 I_5 L_6 _ h) (cwV 1 hts (gV tw_1_162 tw_1_163 tw_1_164 tw_1_2 tw_1_165) rfl rfl rfl (by decide +kernel) (by decide)) (k_preV (ci := 1) hK hV hA hZ tr_1 rfl _) rfl rfl hl.1 rfl (lv_room (Nat.le_of_ble_eq_true rfl)) dX7_feed_31 ⟨Nat.zero_le _, Nat.zero_le _⟩) hV (fun I_7 L_8 H locs h hV => ?_)
    refine lv_aload_n hx hb dX7_feed_34 rfl (lv_at hl 0 rfl) ?_
    refine m_getr (C := RX7) (T := TX7) (N := 13) (ci := 4) hx hb hts iwX7 hown hK hV t0 rfl 0 (by decide) rfl rfl hr_1 (hts _ tw_1_114) (fun _ h9 => h9) dX7_feed_35 ?_
    refine lv_iload_n hx hb dX7_feed_38 rfl (lv_at hl 3 rfl) ?_
    refine k_callv (va_runV (As := [.int x3]) (rest := []) ⟨hx, hb, hml, hown, hts⟩ (s_X4_appendWord l D X ad n A J hWT r_1 tr_1 x3 I_7 L_8 _ h) (cwV 1 hts (gV tw_1_162 tw_1_163 tw_1_164 tw_1_2 tw_1_165) rfl rfl rfl (by decide +kernel) (by decide)) (k_preV (ci := 1) hK hV hA hZ tr_1 rfl _) rfl rfl hl.1 rfl (lv_room (Nat.le_of_ble_eq_true rfl)) dX7_feed_39 ⟨Nat.zero_le _, Nat.zero_le _⟩) hV (fun I_9 L_10 H locs h hV => ?_)
    refine lv_aload_n hx hb dX7_feed_42 rfl (lv_at hl 0 rfl) ?_
    refine m_getr (C := RX7) (T := TX7) (N := 13) (ci := 4) hx hb hts iwX7 hown hK hV t0 rfl 0 (by decide) rfl rfl hr_1 (hts _ tw_1_114) (fun _ h9 => h9) dX7_feed_43 ?_
    refine lv_iload hx hb dX7_feed_46 (lv_at hl 4 rfl) ?_
    refine k_callv (va_runV (As := [.int x4]) (rest := []) ⟨hx, hb, hml, hown, hts⟩ (s_X4_appendWord l D X ad n A J hWT r_1 tr_1 x4 I_9 L_10 _ h) (cwV 1 hts (gV tw_1_162 tw_1_163 tw_1_164 tw_1_2 tw_1_165) rfl rfl rfl (by decide +kernel) (by decide)) (k_preV (ci := 1) hK hV hA hZ tr_1 rfl _) rfl rfl hl.1 rfl (lv_room (Nat.le_of_ble_eq_true rfl)) dX7_feed_48 ⟨Nat.zero_le _, Nat.zero_le _⟩) hV (fun I_11 L_12 H locs h hV => ?_)
    refine lv_aload_n hx hb dX7_feed_51 rfl (lv_at hl 0 rfl) ?_
    refine m_getr (C := RX7) (T := TX7) (N := 13) (ci := 4) hx hb hts iwX7 hown hK hV t0 rfl 0 (by decide) rfl rfl hr_1 (hts _ tw_1_114) (fun _ h9 => h9) dX7_feed_52 ?_
    refine lv_iload hx hb dX7_feed_55 (lv_at hl 5 rfl) ?_
    refine k_callv (va_runV (As := [.int x5]) (rest := []) ⟨hx, hb, hml, hown, hts⟩ (s_X4_appendWord l D X ad n A J hWT r_1 tr_1 x5 I_11 L_12 _ h) (cwV 1 hts (gV tw_1_162 tw_1_163 tw_1_164 tw_1_2 tw_1_165) rfl rfl rfl (by decide +kernel) (by decide)) (k_preV (ci := 1) hK hV hA hZ tr_1 rfl _) rfl rfl hl.1 rfl (lv_room (Nat.le_of_ble_eq_true rfl)) dX7_feed_57 ⟨Nat.zero_le _, Nat.zero_le _⟩) hV (fun I_13 L_14 H locs h hV => ?_)
    refine lv_aload_n hx hb dX7_feed_60 rfl (lv_at hl 0 rfl) ?_
    refine m_getr (C := RX7) (T := TX7) (N := 13) (ci := 4) hx hb hts iwX7 hown hK hV t0 rfl 0 (by decide) rfl rfl hr_1 (hts _ tw_1_114) (fun _ h9 => h9) dX7_feed_61 ?_
    refine k_calli (va_runV (As := []) (rest := []) ⟨hx, hb, hml, hown, hts⟩ (s_X4_size l D X ad n A J hWT r_1 tr_1 I_13 L_14 _ h) (cwV 0 hts (gV tw_1_158 tw_1_159 tw_1_160 tw_1_2 tw_1_161) rfl rfl rfl (by decide +kernel) (by decide)) (k_preV (ci := 1) hK hV hA hZ tr_1 rfl _) rfl rfl hl.1 rfl (lv_room (Nat.le_of_ble_eq_true rfl)) dX7_feed_64 ⟨Nat.zero_le _, Nat.zero_le _⟩) hV (fun v_17 I_15 L_16 H locs h hV => ?_)
    exact m_iret hx hb hr hlk hK hZ hA hV h dX7_feed_67
  · replace h := h.2 hc
    refine lv_iconst (v := (-1)) hx hb dX7_feed_16 (by decide) ?_
    exact m_iret hx hb hr hlk hK hZ hA hV h dX7_feed_17
set_option maxHeartbeats 4000000 in
set_option maxRecDepth 100000 in
theorem s_X7_end (l : Launch) (D : va_G) (X : XT) (ad : Nat → Nat) (n : Nat) (A : Nat → Prop) (J : MJ) (hWT : WT X n J) (x0 : Nat) (t0 : Ty X n x0 8) (x1 : Int32) (I : MI) (L : ML) (q : Int32 → MI → ML → Prop) (h : wp_X7_end X J x0 x1 I L q) : Met l yX7_end (wz yX7_end cX7_end 2 (some .int)) ({ frames := 1, cells := 0, slots := 0, locals := 21 } : Room) (va_Pc [.ref (ad x0), .int x1] (Pr D X ad n A J I L)) (QI D X ad n A J q) 0 0 A := by
  refine Met_go (by decide +kernel) (Nat.le_of_ble_eq_true rfl) (fun p e s m below meth c hx hb hr hml hown hlk hnm hts hK hZ hA hV ls hl => ?_)
  have C0 : Cx p s m meth c cX7_end (some .int) 2 yX7_end [.ref (ad x0), .int x1] D X ad n A J := ⟨hx, hb, hr, hml, hown, hlk, hnm, hts, hK, hZ, hA, hWT⟩
  unfold wp_X7_end at h
  have hl : lv_has ls 2 [(0, .ref (ad x0)), (1, .int x1)] := hl
  refine lv_iload_n hx hb dX7_end_0 rfl (lv_at hl 1 rfl) ?_
  refine lv_if_lt (tgt := 15) hx hb dX7_end_1 (by decide) (fun hc => ?_) (fun hc => ?_)
  · replace h := h.1 hc
    refine lv_iconst (v := (-1)) hx hb dX7_end_15 (by decide) ?_
    exact m_iret hx hb hr hlk hK hZ hA hV h dX7_end_16
  · replace h := h.2 hc
    refine lv_iload_n hx hb dX7_end_4 rfl (lv_at hl 1 rfl) ?_
    refine lv_aload_n hx hb dX7_end_5 rfl (lv_at hl 0 rfl) ?_
    obtain ⟨r_1, hr_1, h⟩ := h
    have tr_1 : Ty X n r_1 5 := hWT.r (c := 4) (j := 0) t0 rfl hr_1
    refine m_getr (C := RX7) (T := TX7) (N := 13) (ci := 4) hx hb hts iwX7 hown hK hV t0 rfl 0 (by decide) rfl rfl hr_1 (hts _ tw_1_114) (fun _ h9 => h9) dX7_end_6 ?_
    refine k_calli (va_runV (As := []) (rest := [.int x1]) ⟨hx, hb, hml, hown, hts⟩ (s_X4_size l D X ad n A J hWT r_1 tr_1 I L _ h) (cwV 0 hts (gV tw_1_158 tw_1_159 tw_1_160 tw_1_2 tw_1_161) rfl rfl rfl (by decide +kernel) (by decide)) (k_preV (ci := 1) hK hV hA hZ tr_1 rfl _) rfl rfl hl.1 rfl (lv_room (Nat.le_of_ble_eq_true rfl)) dX7_end_9 ⟨Nat.zero_le _, Nat.zero_le _⟩) hV (fun v_4 I_2 L_3 H locs h hV => ?_)
    refine lv_icmp_le (tgt := 17) hx hb dX7_end_12 (by decide) (fun hc => ?_) (fun hc => ?_)
    · replace h := h.1 hc
      refine lv_aload_n hx hb dX7_end_17 rfl (lv_at hl 0 rfl) ?_
      refine m_getr (C := RX7) (T := TX7) (N := 13) (ci := 4) hx hb hts iwX7 hown hK hV t0 rfl 0 (by decide) rfl rfl hr_1 (hts _ tw_1_114) (fun _ h9 => h9) dX7_end_18 ?_
      refine lv_iload_n hx hb dX7_end_21 rfl (lv_at hl 1 rfl) ?_
      refine k_callv (va_runV (As := [.int x1]) (rest := []) ⟨hx, hb, hml, hown, hts⟩ (s_X4_cutTo l D X ad n A J hWT r_1 tr_1 x1 I_2 L_3 _ h) (cwV 1 hts (gV tw_1_178 tw_1_179 tw_1_180 tw_1_2 tw_1_181) rfl rfl rfl (by decide +kernel) (by decide)) (k_preV (ci := 1) hK hV hA hZ tr_1 rfl _) rfl rfl hl.1 rfl (lv_room (Nat.le_of_ble_eq_true rfl)) dX7_end_22 ⟨Nat.zero_le _, Nat.zero_le _⟩) hV (fun I_5 L_6 H locs h hV => ?_)
      refine lv_iload_n hx hb dX7_end_25 rfl (lv_at hl 1 rfl) ?_
      exact m_iret hx hb hr hlk hK hZ hA hV h dX7_end_26
    · replace h := h.2 hc
      refine lv_iconst (v := (-1)) hx hb dX7_end_15 (by decide) ?_
      exact m_iret hx hb hr hlk hK hZ hA hV h dX7_end_16
set_option maxHeartbeats 4000000 in
set_option maxRecDepth 100000 in
theorem s_X7_rowOf (l : Launch) (D : va_G) (X : XT) (ad : Nat → Nat) (n : Nat) (A : Nat → Prop) (J : MJ) (hWT : WT X n J) (x0 : Nat) (t0 : Ty X n x0 8) (x1 : Int32) (I : MI) (L : ML) (q : Option Nat → MI → ML → Prop) (h : wp_X7_rowOf X J x0 x1 I L q) : Met l yX7_rowOf (wz yX7_rowOf cX7_rowOf 2 (some (.object "LatticeVault$Row"))) ({ frames := 0, cells := 0, slots := 0, locals := 0 } : Room) (va_Pc [.ref (ad x0), .int x1] (Pr D X ad n A J I L)) (QE ad (fun k => Ty X n k 5) D X ad n A J q) 0 0 A := by
  refine Met_go (by decide +kernel) (Nat.le_of_ble_eq_true rfl) (fun p e s m below meth c hx hb hr hml hown hlk hnm hts hK hZ hA hV ls hl => ?_)
  have C0 : Cx p s m meth c cX7_rowOf (some (.object "LatticeVault$Row")) 2 yX7_rowOf [.ref (ad x0), .int x1] D X ad n A J := ⟨hx, hb, hr, hml, hown, hlk, hnm, hts, hK, hZ, hA, hWT⟩
  unfold wp_X7_rowOf at h
  have hl : lv_has ls 2 [(0, .ref (ad x0)), (1, .int x1)] := hl
  refine lv_iload_n hx hb dX7_rowOf_0 rfl (lv_at hl 1 rfl) ?_
  by_cases hsw : x1.toInt < 0 ∨ 5 < x1.toInt
  · replace h := h.1 hsw
    refine lv_tableOut (tgt := 70) hx hb dX7_rowOf_1 hsw (by decide) ?_
    refine lv_null hx hb dX7_rowOf_70 ?_
    exact m_eret hx hb hr (Or.inl ⟨_, rfl⟩) hlk hK hZ hA hV none rfl h (fun _ z => by cases z) dX7_rowOf_71
  · replace h := h.2
    obtain ⟨jsw, hjsw, ejsw⟩ := sw_in 0 5 (by decide) (by decide) (by decide) (fun z => hsw (Or.inl z)) (fun z => hsw (Or.inr z))
    rcases (show jsw = 0 ∨ jsw = 1 ∨ jsw = 2 ∨ jsw = 3 ∨ jsw = 4 ∨ jsw = 5 by omega) with rfl | rfl | rfl | rfl | rfl | rfl
    · replace h := h.1 ejsw
      refine lv_tableIn (off := 39) (tgt := 40) hx hb dX7_rowOf_1 (fun z => hsw (Or.inl z)) (fun z => hsw (Or.inr z)) (by rw [ejsw]; decide +kernel) (by decide) ?_
      refine lv_aload_n hx hb dX7_rowOf_40 rfl (lv_at hl 0 rfl) ?_
      obtain ⟨r_1, hr_1, h⟩ := h
      have tr_1 : Ty X n r_1 5 := hWT.r (c := 4) (j := 1) t0 rfl hr_1
      refine m_getr (C := RX7) (T := TX7) (N := 13) (ci := 4) hx hb hts iwX7 hown hK hV t0 rfl 1 (by decide) rfl rfl hr_1 (hts _ tw_1_115) (fun _ h9 => h9) dX7_rowOf_41 ?_
      exact m_eret hx hb hr (Or.inl ⟨_, rfl⟩) hlk hK hZ hA hV (some r_1) rfl h (fun _ z => by cases z; exact tr_1) dX7_rowOf_44
    · replace h := h.2.1 ejsw
      refine lv_tableIn (off := 44) (tgt := 45) hx hb dX7_rowOf_1 (fun z => hsw (Or.inl z)) (fun z => hsw (Or.inr z)) (by rw [ejsw]; decide +kernel) (by decide) ?_
      refine lv_aload_n hx hb dX7_rowOf_45 rfl (lv_at hl 0 rfl) ?_
      obtain ⟨r_2, hr_2, h⟩ := h
      have tr_2 : Ty X n r_2 5 := hWT.r (c := 4) (j := 2) t0 rfl hr_2
      refine m_getr (C := RX7) (T := TX7) (N := 13) (ci := 4) hx hb hts iwX7 hown hK hV t0 rfl 2 (by decide) rfl rfl hr_2 (hts _ tw_1_116) (fun _ h9 => h9) dX7_rowOf_46 ?_
      exact m_eret hx hb hr (Or.inl ⟨_, rfl⟩) hlk hK hZ hA hV (some r_2) rfl h (fun _ z => by cases z; exact tr_2) dX7_rowOf_49
    · replace h := h.2.2.1 ejsw
      refine lv_tableIn (off := 49) (tgt := 50) hx hb dX7_rowOf_1 (fun z => hsw (Or.inl z)) (fun z => hsw (Or.inr z)) (by rw [ejsw]; decide +kernel) (by decide) ?_
      refine lv_aload_n hx hb dX7_rowOf_50 rfl (lv_at hl 0 rfl) ?_
      obtain ⟨r_3, hr_3, h⟩ := h
      have tr_3 : Ty X n r_3 5 := hWT.r (c := 4) (j := 3) t0 rfl hr_3
      refine m_getr (C := RX7) (T := TX7) (N := 13) (ci := 4) hx hb hts iwX7 hown hK hV t0 rfl 3 (by decide) rfl rfl hr_3 (hts _ tw_1_117) (fun _ h9 => h9) dX7_rowOf_51 ?_
      exact m_eret hx hb hr (Or.inl ⟨_, rfl⟩) hlk hK hZ hA hV (some r_3) rfl h (fun _ z => by cases z; exact tr_3) dX7_rowOf_54
    · replace h := h.2.2.2.1 ejsw
      refine lv_tableIn (off := 54) (tgt := 55) hx hb dX7_rowOf_1 (fun z => hsw (Or.inl z)) (fun z => hsw (Or.inr z)) (by rw [ejsw]; decide +kernel) (by decide) ?_
      refine lv_aload_n hx hb dX7_rowOf_55 rfl (lv_at hl 0 rfl) ?_
      obtain ⟨r_4, hr_4, h⟩ := h
      have tr_4 : Ty X n r_4 5 := hWT.r (c := 4) (j := 4) t0 rfl hr_4
      refine m_getr (C := RX7) (T := TX7) (N := 13) (ci := 4) hx hb hts iwX7 hown hK hV t0 rfl 4 (by decide) rfl rfl hr_4 (hts _ tw_1_118) (fun _ h9 => h9) dX7_rowOf_56 ?_
      exact m_eret hx hb hr (Or.inl ⟨_, rfl⟩) hlk hK hZ hA hV (some r_4) rfl h (fun _ z => by cases z; exact tr_4) dX7_rowOf_59
    · replace h := h.2.2.2.2.1 ejsw
      refine lv_tableIn (off := 59) (tgt := 60) hx hb dX7_rowOf_1 (fun z => hsw (Or.inl z)) (fun z => hsw (Or.inr z)) (by rw [ejsw]; decide +kernel) (by decide) ?_
      refine lv_aload_n hx hb dX7_rowOf_60 rfl (lv_at hl 0 rfl) ?_
      obtain ⟨r_5, hr_5, h⟩ := h
      have tr_5 : Ty X n r_5 5 := hWT.r (c := 4) (j := 5) t0 rfl hr_5
      refine m_getr (C := RX7) (T := TX7) (N := 13) (ci := 4) hx hb hts iwX7 hown hK hV t0 rfl 5 (by decide) rfl rfl hr_5 (hts _ tw_1_119) (fun _ h9 => h9) dX7_rowOf_61 ?_
      exact m_eret hx hb hr (Or.inl ⟨_, rfl⟩) hlk hK hZ hA hV (some r_5) rfl h (fun _ z => by cases z; exact tr_5) dX7_rowOf_64
    · replace h := h.2.2.2.2.2 ejsw
      refine lv_tableIn (off := 64) (tgt := 65) hx hb dX7_rowOf_1 (fun z => hsw (Or.inl z)) (fun z => hsw (Or.inr z)) (by rw [ejsw]; decide +kernel) (by decide) ?_
      refine lv_aload_n hx hb dX7_rowOf_65 rfl (lv_at hl 0 rfl) ?_
      obtain ⟨r_6, hr_6, h⟩ := h
      have tr_6 : Ty X n r_6 5 := hWT.r (c := 4) (j := 0) t0 rfl hr_6
      refine m_getr (C := RX7) (T := TX7) (N := 13) (ci := 4) hx hb hts iwX7 hown hK hV t0 rfl 0 (by decide) rfl rfl hr_6 (hts _ tw_1_114) (fun _ h9 => h9) dX7_rowOf_66 ?_
      exact m_eret hx hb hr (Or.inl ⟨_, rfl⟩) hlk hK hZ hA hV (some r_6) rfl h (fun _ z => by cases z; exact tr_6) dX7_rowOf_69
set_option maxHeartbeats 4000000 in
set_option maxRecDepth 100000 in
theorem n_X7_take_14 {p : Program} {l : Launch} {e : Env} {s : State} {m : MethodId} {below : List Frame} {meth : Method} {c : Code} {D : va_G} {X : XT} {ad : Nat → Nat} {n : Nat} {A : Nat → Prop} {J : MJ} {av : List Value} {R : Room} (hR : R = ({ frames := 2, cells := 0, slots := 0, locals := 61 } : Room)) (C0 : Cx p s m meth c cX7_take (some .int) 3 yX7_take av D X ad n A J) {q : Int32 → MI → ML → Prop}  {x0 : Nat}  {I : MI} {L : ML} {H : Heap} {locs : List Loc} {ls : Array Slot} (t0 : Ty X n x0 8) (h : wj_X7_take_14 X J q  x0  I L) (hV : Wd D X ad n A s.heap J I L H locs) (hl : lv_has ls 3 [(0, .ref (ad x0))]) : W p l e R s m av.toArray below meth c H locs 0 0 (MQ below (QI D X ad n A J q) av.toArray s 0 0 A) (F0 m 14 ls [.null]) := by
  obtain ⟨hx, hb, hr, hml, hown, hlk, hnm, hts, hK, hZ, hA, hWT⟩ := id C0
  subst hR
  unfold wj_X7_take_14 at h
  refine lv_astore_nN (lv' := [(2, .null), (0, .ref (ad x0))]) hx hb dX7_take_14 rfl hl (by decide) rfl (fun ls hl => ?_)
  refine lv_aload_nN hx hb dX7_take_15 rfl (lv_at hl 0 rfl) ?_
  refine lv_ifnonnullN hx hb dX7_take_16 ?_
  refine lv_iconst (v := (-1)) hx hb dX7_take_19 (by decide) ?_
  exact m_iret hx hb hr hlk hK hZ hA hV h dX7_take_20
set_option maxHeartbeats 4000000 in
set_option maxRecDepth 100000 in
theorem n_X7_take_14_2 {p : Program} {l : Launch} {e : Env} {s : State} {m : MethodId} {below : List Frame} {meth : Method} {c : Code} {D : va_G} {X : XT} {ad : Nat → Nat} {n : Nat} {A : Nat → Prop} {J : MJ} {av : List Value} {R : Room} (hR : R = ({ frames := 2, cells := 0, slots := 0, locals := 61 } : Room)) (C0 : Cx p s m meth c cX7_take (some .int) 3 yX7_take av D X ad n A J) {q : Int32 → MI → ML → Prop}  {x0 : Nat} {z0 : Nat} {I : MI} {L : ML} {H : Heap} {locs : List Loc} {ls : Array Slot} (t0 : Ty X n x0 8) (u0 : Ty X n z0 5) (h : wj_X7_take_14_2 X J q  x0 z0 I L) (hV : Wd D X ad n A s.heap J I L H locs) (hl : lv_has ls 3 [(0, .ref (ad x0))]) : W p l e R s m av.toArray below meth c H locs 0 0 (MQ below (QI D X ad n A J q) av.toArray s 0 0 A) (F0 m 14 ls [.ref (ad z0)]) := by
  obtain ⟨hx, hb, hr, hml, hown, hlk, hnm, hts, hK, hZ, hA, hWT⟩ := id C0
  subst hR
  unfold wj_X7_take_14_2 at h
  refine lv_astore_n (lv' := [(2, .ref (ad z0)), (0, .ref (ad x0))]) hx hb dX7_take_14 rfl hl (by decide) rfl (fun ls hl => ?_)
  refine lv_aload_n hx hb dX7_take_15 rfl (lv_at hl 0 rfl) ?_
  refine lv_ifnonnull (tgt := 21) hx hb dX7_take_16 (by decide) ?_
  refine lv_aload_n hx hb dX7_take_21 rfl (lv_at hl 1 rfl) ?_
  obtain ⟨r_5, hr_5, h⟩ := h
  have tr_5 : Ty X n r_5 5 := hWT.r (c := 4) (j := 0) t0 rfl hr_5
  refine m_getr (C := RX7) (T := TX7) (N := 13) (ci := 4) hx hb hts iwX7 hown hK hV t0 rfl 0 (by decide) rfl rfl hr_5 (hts _ tw_1_114) (fun _ h9 => h9) dX7_take_22 ?_
  refine lv_aload_n hx hb dX7_take_25 rfl (lv_at hl 0 rfl) ?_
  refine k_callv (va_runV (As := [.ref (ad z0)]) (rest := []) ⟨hx, hb, hml, hown, hts⟩ (s_X4_become l D X ad n A J hWT r_5 tr_5 z0 u0 I L _ h) (cwV 1 hts (gV tw_1_190 tw_1_191 tw_1_192 tw_1_2 tw_1_193) rfl rfl rfl (by decide +kernel) (by decide)) (k_preV (ci := 1) hK hV hA hZ tr_5 rfl _) rfl rfl hl.1 rfl (lv_room (Nat.le_of_ble_eq_true rfl)) dX7_take_26 ⟨Nat.zero_le _, Nat.zero_le _⟩) hV (fun I_6 L_7 H locs h hV => ?_)
  refine lv_aload_n hx hb dX7_take_29 rfl (lv_at hl 1 rfl) ?_
  refine m_getr (C := RX7) (T := TX7) (N := 13) (ci := 4) hx hb hts iwX7 hown hK hV t0 rfl 0 (by decide) rfl rfl hr_5 (hts _ tw_1_114) (fun _ h9 => h9) dX7_take_30 ?_
  refine k_calli (va_runV (As := []) (rest := []) ⟨hx, hb, hml, hown, hts⟩ (s_X4_size l D X ad n A J hWT r_5 tr_5 I_6 L_7 _ h) (cwV 0 hts (gV tw_1_158 tw_1_159 tw_1_160 tw_1_2 tw_1_161) rfl rfl rfl (by decide +kernel) (by decide)) (k_preV (ci := 1) hK hV hA hZ tr_5 rfl _) rfl rfl hl.1 rfl (lv_room (Nat.le_of_ble_eq_true rfl)) dX7_take_33 ⟨Nat.zero_le _, Nat.zero_le _⟩) hV (fun v_10 I_8 L_9 H locs h hV => ?_)
  exact m_iret hx hb hr hlk hK hZ hA hV h dX7_take_36
set_option maxHeartbeats 4000000 in
set_option maxRecDepth 100000 in
theorem s_X7_take (l : Launch) (D : va_G) (X : XT) (ad : Nat → Nat) (n : Nat) (A : Nat → Prop) (J : MJ) (hWT : WT X n J) (x0 : Nat) (t0 : Ty X n x0 8) (x1 : Int32) (I : MI) (L : ML) (q : Int32 → MI → ML → Prop) (h : wp_X7_take X J x0 x1 I L q) : Met l yX7_take (wz yX7_take cX7_take 3 (some .int)) ({ frames := 2, cells := 0, slots := 0, locals := 61 } : Room) (va_Pc [.ref (ad x0), .int x1] (Pr D X ad n A J I L)) (QI D X ad n A J q) 0 0 A := by
  refine Met_go (by decide +kernel) (Nat.le_of_ble_eq_true rfl) (fun p e s m below meth c hx hb hr hml hown hlk hnm hts hK hZ hA hV ls hl => ?_)
  have C0 : Cx p s m meth c cX7_take (some .int) 3 yX7_take [.ref (ad x0), .int x1] D X ad n A J := ⟨hx, hb, hr, hml, hown, hlk, hnm, hts, hK, hZ, hA, hWT⟩
  unfold wp_X7_take at h
  have hl : lv_has ls 3 [(0, .ref (ad x0)), (1, .int x1)] := hl
  refine lv_iload_n hx hb dX7_take_0 rfl (lv_at hl 1 rfl) ?_
  refine lv_iconst (v := 5) hx hb dX7_take_1 (by decide) ?_
  refine lv_icmp_ne (tgt := 9) hx hb dX7_take_2 (by decide) (fun hc => ?_) (fun hc => ?_)
  · replace h := h.1 hc
    refine lv_aload_n hx hb dX7_take_9 rfl (lv_at hl 0 rfl) ?_
    refine lv_iload_n hx hb dX7_take_10 rfl (lv_at hl 1 rfl) ?_
    refine k_calle (va_runV (As := [.int x1]) (rest := []) ⟨hx, hb, hml, hown, hts⟩ (s_X7_rowOf l D X ad n A J hWT x0 t0 x1 I L _ h) (cwV 1 hts (gV tw_1_186 tw_1_188 tw_0_0 tw_1_1 tw_1_189) rfl rfl rfl (by decide +kernel) (by decide)) (k_preV (ci := 4) hK hV hA hZ t0 rfl _) rfl rfl hl.1 rfl (lv_room (Nat.le_of_ble_eq_true rfl)) dX7_take_11 ⟨Nat.zero_le _, Nat.zero_le _⟩) hV (fun o_3 I_1 L_2 H locs h ho_3 hV => ?_)
    cases eo_3 : o_3 with
    | none =>
      replace h := h.1 eo_3
      exact n_X7_take_14 rfl C0 t0   h hV (lv_sub hl [0] rfl)
    | some r_4 =>
      replace h := h.2 r_4 eo_3
      have tr_4 : Ty X n r_4 5 := ho_3 _ eo_3
      exact n_X7_take_14_2 rfl C0 t0 tr_4  h hV (lv_sub hl [0] rfl)
  · replace h := h.2 hc
    refine lv_null hx hb dX7_take_5 ?_
    refine lv_goto (tgt := 14) hx hb dX7_take_6 (by decide) ?_
    exact n_X7_take_14 rfl C0 t0   h hV (lv_sub hl [0] rfl)
set_option maxHeartbeats 4000000 in
set_option maxRecDepth 100000 in
theorem s_X7_alter (l : Launch) (D : va_G) (X : XT) (ad : Nat → Nat) (n : Nat) (A : Nat → Prop) (J : MJ) (hWT : WT X n J) (x0 : Nat) (t0 : Ty X n x0 8) (x1 : Int32) (x2 : Int32) (I : MI) (L : ML) (q : Int32 → MI → ML → Prop) (h : wp_X7_alter X J x0 x1 x2 I L q) : Met l yX7_alter (wz yX7_alter cX7_alter 3 (some .boolean)) ({ frames := 1, cells := 0, slots := 0, locals := 23 } : Room) (va_Pc [.ref (ad x0), .int x1, .int x2] (Pr D X ad n A J I L)) (QI D X ad n A J q) 0 0 A := by
  refine Met_go (by decide +kernel) (Nat.le_of_ble_eq_true rfl) (fun p e s m below meth c hx hb hr hml hown hlk hnm hts hK hZ hA hV ls hl => ?_)
  have C0 : Cx p s m meth c cX7_alter (some .boolean) 3 yX7_alter [.ref (ad x0), .int x1, .int x2] D X ad n A J := ⟨hx, hb, hr, hml, hown, hlk, hnm, hts, hK, hZ, hA, hWT⟩
  unfold wp_X7_alter at h
  have hl : lv_has ls 3 [(0, .ref (ad x0)), (1, .int x1), (2, .int x2)] := hl
  refine lv_aload_n hx hb dX7_alter_0 rfl (lv_at hl 0 rfl) ?_
  obtain ⟨r_1, hr_1, h⟩ := h
  have tr_1 : Ty X n r_1 5 := hWT.r (c := 4) (j := 0) t0 rfl hr_1
  refine m_getr (C := RX7) (T := TX7) (N := 13) (ci := 4) hx hb hts iwX7 hown hK hV t0 rfl 0 (by decide) rfl rfl hr_1 (hts _ tw_1_114) (fun _ h9 => h9) dX7_alter_1 ?_
  refine lv_iload_n hx hb dX7_alter_4 rfl (lv_at hl 1 rfl) ?_
  refine lv_iload_n hx hb dX7_alter_5 rfl (lv_at hl 2 rfl) ?_
  refine k_calli (va_runV (As := [.int x1, .int x2]) (rest := []) ⟨hx, hb, hml, hown, hts⟩ (s_X4_replace l D X ad n A J hWT r_1 tr_1 x1 x2 I L _ h) (cwV 2 hts (gV tw_1_201 tw_1_171 tw_1_172 tw_1_2 tw_1_173) rfl rfl rfl (by decide +kernel) (by decide)) (k_preV (ci := 1) hK hV hA hZ tr_1 rfl _) rfl rfl hl.1 rfl (lv_room (Nat.le_of_ble_eq_true rfl)) dX7_alter_6 ⟨Nat.zero_le _, Nat.zero_le _⟩) hV (fun v_4 I_2 L_3 H locs h hV => ?_)
  exact m_zret hx hb hr hlk hK hZ hA hV h.1 h.2 dX7_alter_9
set_option maxHeartbeats 4000000 in
set_option maxRecDepth 100000 in
theorem s_X7_bound (l : Launch) (D : va_G) (X : XT) (ad : Nat → Nat) (n : Nat) (A : Nat → Prop) (J : MJ) (hWT : WT X n J) (x0 : Nat) (t0 : Ty X n x0 8) (x1 : Int32) (I : MI) (L : ML) (q : Int32 → MI → ML → Prop) (h : wp_X7_bound X J x0 x1 I L q) : Met l yX7_bound (wz yX7_bound cX7_bound 2 (some .int)) ({ frames := 0, cells := 0, slots := 0, locals := 0 } : Room) (va_Pc [.ref (ad x0), .int x1] (Pr D X ad n A J I L)) (QI D X ad n A J q) 0 0 A := by
  refine Met_go (by decide +kernel) (Nat.le_of_ble_eq_true rfl) (fun p e s m below meth c hx hb hr hml hown hlk hnm hts hK hZ hA hV ls hl => ?_)
  have C0 : Cx p s m meth c cX7_bound (some .int) 2 yX7_bound [.ref (ad x0), .int x1] D X ad n A J := ⟨hx, hb, hr, hml, hown, hlk, hnm, hts, hK, hZ, hA, hWT⟩
  unfold wp_X7_bound at h
  have hl : lv_has ls 2 [(0, .ref (ad x0)), (1, .int x1)] := hl
  refine lv_iload_n hx hb dX7_bound_0 rfl (lv_at hl 1 rfl) ?_
  refine lv_iconst (v := 1) hx hb dX7_bound_1 (by decide) ?_
  refine lv_icmp_lt (tgt := 12) hx hb dX7_bound_2 (by decide) (fun hc => ?_) (fun hc => ?_)
  · replace h := h.1 hc
    refine lv_iconst (v := (-1)) hx hb dX7_bound_12 (by decide) ?_
    exact m_iret hx hb hr hlk hK hZ hA hV h dX7_bound_13
  · replace h := h.2 hc
    refine lv_iload_n hx hb dX7_bound_5 rfl (lv_at hl 1 rfl) ?_
    refine lv_sipush (v := 280) hx hb dX7_bound_6 (by decide) ?_
    refine lv_icmp_le (tgt := 14) hx hb dX7_bound_9 (by decide) (fun hc => ?_) (fun hc => ?_)
    · replace h := h.1 hc
      refine lv_aload_n hx hb dX7_bound_14 rfl (lv_at hl 0 rfl) ?_
      refine lv_iload_n hx hb dX7_bound_15 rfl (lv_at hl 1 rfl) ?_
      refine m_puti (C := RX7) (T := TX7) (N := 13) (ci := 4) (ty := .int) hx hb hts iwX7 hown hK hV tyX7 tyX7_ok nmX7 t0 rfl 12 (by decide) rfl rfl (hts _ tw_1_126) (fun _ h9 => h9) rfl (by decide +kernel) rfl rfl dX7_bound_16 (fun H locs hV => ?_)
      obtain ⟨I_1, eI_1⟩ : ∃ y, y = ms I x0 12 x1 := ⟨_, rfl⟩
      replace hV : Wd D X ad n A s.heap J I_1 L H locs := by rw [eI_1]; exact hV
      replace h := h I_1 eI_1
      refine lv_iload_n hx hb dX7_bound_19 rfl (lv_at hl 1 rfl) ?_
      exact m_iret hx hb hr hlk hK hZ hA hV h dX7_bound_20
    · replace h := h.2 hc
      refine lv_iconst (v := (-1)) hx hb dX7_bound_12 (by decide) ?_
      exact m_iret hx hb hr hlk hK hZ hA hV h dX7_bound_13
set_option maxHeartbeats 4000000 in
set_option maxRecDepth 100000 in
theorem s_X7_length (l : Launch) (D : va_G) (X : XT) (ad : Nat → Nat) (n : Nat) (A : Nat → Prop) (J : MJ) (hWT : WT X n J) (x0 : Nat) (t0 : Ty X n x0 8) (x1 : Int32) (I : MI) (L : ML) (q : Int32 → MI → ML → Prop) (h : wp_X7_length X J x0 x1 I L q) : Met l yX7_length (wz yX7_length cX7_length 3 (some .int)) ({ frames := 1, cells := 0, slots := 0, locals := 21 } : Room) (va_Pc [.ref (ad x0), .int x1] (Pr D X ad n A J I L)) (QI D X ad n A J q) 0 0 A := by
  refine Met_go (by decide +kernel) (Nat.le_of_ble_eq_true rfl) (fun p e s m below meth c hx hb hr hml hown hlk hnm hts hK hZ hA hV ls hl => ?_)
  have C0 : Cx p s m meth c cX7_length (some .int) 3 yX7_length [.ref (ad x0), .int x1] D X ad n A J := ⟨hx, hb, hr, hml, hown, hlk, hnm, hts, hK, hZ, hA, hWT⟩
  unfold wp_X7_length at h
  have hl : lv_has ls 3 [(0, .ref (ad x0)), (1, .int x1)] := hl
  refine lv_aload_n hx hb dX7_length_0 rfl (lv_at hl 0 rfl) ?_
  refine lv_iload_n hx hb dX7_length_1 rfl (lv_at hl 1 rfl) ?_
  refine k_calle (va_runV (As := [.int x1]) (rest := []) ⟨hx, hb, hml, hown, hts⟩ (s_X7_rowOf l D X ad n A J hWT x0 t0 x1 I L _ h) (cwV 1 hts (gV tw_1_186 tw_1_188 tw_0_0 tw_1_1 tw_1_189) rfl rfl rfl (by decide +kernel) (by decide)) (k_preV (ci := 4) hK hV hA hZ t0 rfl _) rfl rfl hl.1 rfl (lv_room (Nat.le_of_ble_eq_true rfl)) dX7_length_2 ⟨Nat.zero_le _, Nat.zero_le _⟩) hV (fun o_3 I_1 L_2 H locs h ho_3 hV => ?_)
  cases eo_3 : o_3 with
  | none =>
    replace h := h.1 eo_3
    refine lv_astore_nN (lv' := [(2, .null), (0, .ref (ad x0)), (1, .int x1)]) hx hb dX7_length_5 rfl hl (by decide) rfl (fun ls hl => ?_)
    refine lv_aload_nN hx hb dX7_length_6 rfl (lv_at hl 0 rfl) ?_
    refine lv_ifnonnullN hx hb dX7_length_7 ?_
    refine lv_iconst (v := (-1)) hx hb dX7_length_10 (by decide) ?_
    refine lv_goto (tgt := 18) hx hb dX7_length_11 (by decide) ?_
    exact m_iret hx hb hr hlk hK hZ hA hV h dX7_length_18
  | some r_4 =>
    replace h := h.2 r_4 eo_3
    have tr_4 : Ty X n r_4 5 := ho_3 _ eo_3
    refine lv_astore_n (lv' := [(2, .ref (ad r_4)), (0, .ref (ad x0)), (1, .int x1)]) hx hb dX7_length_5 rfl hl (by decide) rfl (fun ls hl => ?_)
    refine lv_aload_n hx hb dX7_length_6 rfl (lv_at hl 0 rfl) ?_
    refine lv_ifnonnull (tgt := 14) hx hb dX7_length_7 (by decide) ?_
    refine lv_aload_n hx hb dX7_length_14 rfl (lv_at hl 0 rfl) ?_
    refine k_calli (va_runV (As := []) (rest := []) ⟨hx, hb, hml, hown, hts⟩ (s_X4_size l D X ad n A J hWT r_4 tr_4 I_1 L_2 _ h) (cwV 0 hts (gV tw_1_158 tw_1_159 tw_1_160 tw_1_2 tw_1_161) rfl rfl rfl (by decide +kernel) (by decide)) (k_preV (ci := 1) hK hV hA hZ tr_4 rfl _) rfl rfl hl.1 rfl (lv_room (Nat.le_of_ble_eq_true rfl)) dX7_length_15 ⟨Nat.zero_le _, Nat.zero_le _⟩) hV (fun v_7 I_5 L_6 H locs h hV => ?_)
    exact m_iret hx hb hr hlk hK hZ hA hV h dX7_length_18
set_option maxHeartbeats 4000000 in
set_option maxRecDepth 100000 in
theorem s_X7_at (l : Launch) (D : va_G) (X : XT) (ad : Nat → Nat) (n : Nat) (A : Nat → Prop) (J : MJ) (hWT : WT X n J) (x0 : Nat) (t0 : Ty X n x0 8) (x1 : Int32) (x2 : Int32) (I : MI) (L : ML) (q : Int32 → MI → ML → Prop) (h : wp_X7_at X J x0 x1 x2 I L q) : Met l yX7_at (wz yX7_at cX7_at 4 (some .int)) ({ frames := 1, cells := 0, slots := 0, locals := 21 } : Room) (va_Pc [.ref (ad x0), .int x1, .int x2] (Pr D X ad n A J I L)) (QI D X ad n A J q) 0 0 A := by
  refine Met_go (by decide +kernel) (Nat.le_of_ble_eq_true rfl) (fun p e s m below meth c hx hb hr hml hown hlk hnm hts hK hZ hA hV ls hl => ?_)
  have C0 : Cx p s m meth c cX7_at (some .int) 4 yX7_at [.ref (ad x0), .int x1, .int x2] D X ad n A J := ⟨hx, hb, hr, hml, hown, hlk, hnm, hts, hK, hZ, hA, hWT⟩
  unfold wp_X7_at at h
  have hl : lv_has ls 4 [(0, .ref (ad x0)), (1, .int x1), (2, .int x2)] := hl
  refine lv_aload_n hx hb dX7_at_0 rfl (lv_at hl 0 rfl) ?_
  refine lv_iload_n hx hb dX7_at_1 rfl (lv_at hl 1 rfl) ?_
  refine k_calle (va_runV (As := [.int x1]) (rest := []) ⟨hx, hb, hml, hown, hts⟩ (s_X7_rowOf l D X ad n A J hWT x0 t0 x1 I L _ h) (cwV 1 hts (gV tw_1_186 tw_1_188 tw_0_0 tw_1_1 tw_1_189) rfl rfl rfl (by decide +kernel) (by decide)) (k_preV (ci := 4) hK hV hA hZ t0 rfl _) rfl rfl hl.1 rfl (lv_room (Nat.le_of_ble_eq_true rfl)) dX7_at_2 ⟨Nat.zero_le _, Nat.zero_le _⟩) hV (fun o_3 I_1 L_2 H locs h ho_3 hV => ?_)
  cases eo_3 : o_3 with
  | none =>
    replace h := h.1 eo_3
    refine lv_astore_nN (lv' := [(3, .null), (0, .ref (ad x0)), (1, .int x1), (2, .int x2)]) hx hb dX7_at_5 rfl hl (by decide) rfl (fun ls hl => ?_)
    refine lv_aload_nN hx hb dX7_at_6 rfl (lv_at hl 0 rfl) ?_
    refine lv_ifnonnullN hx hb dX7_at_7 ?_
    refine lv_iconst (v := (-1)) hx hb dX7_at_10 (by decide) ?_
    refine lv_goto (tgt := 19) hx hb dX7_at_11 (by decide) ?_
    exact m_iret hx hb hr hlk hK hZ hA hV h dX7_at_19
  | some r_4 =>
    replace h := h.2 r_4 eo_3
    have tr_4 : Ty X n r_4 5 := ho_3 _ eo_3
    refine lv_astore_n (lv' := [(3, .ref (ad r_4)), (0, .ref (ad x0)), (1, .int x1), (2, .int x2)]) hx hb dX7_at_5 rfl hl (by decide) rfl (fun ls hl => ?_)
    refine lv_aload_n hx hb dX7_at_6 rfl (lv_at hl 0 rfl) ?_
    refine lv_ifnonnull (tgt := 14) hx hb dX7_at_7 (by decide) ?_
    refine lv_aload_n hx hb dX7_at_14 rfl (lv_at hl 0 rfl) ?_
    refine lv_iload_n hx hb dX7_at_15 rfl (lv_at hl 3 rfl) ?_
    refine k_calli (va_runV (As := [.int x2]) (rest := []) ⟨hx, hb, hml, hown, hts⟩ (s_X4_byteAt l D X ad n A J hWT r_4 tr_4 x2 I_1 L_2 _ h) (cwV 1 hts (gV tw_1_234 tw_1_235 tw_1_236 tw_1_2 tw_1_237) rfl rfl rfl (by decide +kernel) (by decide)) (k_preV (ci := 1) hK hV hA hZ tr_4 rfl _) rfl rfl hl.1 rfl (lv_room (Nat.le_of_ble_eq_true rfl)) dX7_at_16 ⟨Nat.zero_le _, Nat.zero_le _⟩) hV (fun v_7 I_5 L_6 H locs h hV => ?_)
    exact m_iret hx hb hr hlk hK hZ hA hV h dX7_at_19
set_option maxHeartbeats 4000000 in
set_option maxRecDepth 100000 in
theorem n_X7_make_49 {p : Program} {l : Launch} {e : Env} {s : State} {m : MethodId} {below : List Frame} {meth : Method} {c : Code} {D : va_G} {X : XT} {ad : Nat → Nat} {n : Nat} {A : Nat → Prop} {J : MJ} {av : List Value} {R : Room} (hR : R = ({ frames := 6, cells := 0, slots := 0, locals := 178 } : Room)) (C0 : Cx p s m meth c cX7_make (some .int) 3 yX7_make av D X ad n A J) {q : Int32 → MI → ML → Prop}  {x0 : Nat} {x1 : Int32} {z0 : Int32} {I : MI} {L : ML} {H : Heap} {locs : List Loc} {ls : Array Slot} (t0 : Ty X n x0 8) (h : wj_X7_make_49 X J q  x0 x1 z0 I L) (hV : Wd D X ad n A s.heap J I L H locs) (hl : lv_has ls 3 [(0, .ref (ad x0)), (1, .int x1)]) : W p l e R s m av.toArray below meth c H locs 0 0 (MQ below (QI D X ad n A J q) av.toArray s 0 0 A) (F0 m 49 ls [.int z0]) := by
  obtain ⟨hx, hb, hr, hml, hown, hlk, hnm, hts, hK, hZ, hA, hWT⟩ := id C0
  subst hR
  unfold wj_X7_make_49 at h
  refine lv_istore_n (lv' := [(2, .int z0), (0, .ref (ad x0)), (1, .int x1)]) hx hb dX7_make_49 rfl hl (by decide) rfl (fun ls hl => ?_)
  refine lv_aload_n hx hb dX7_make_50 rfl (lv_at hl 1 rfl) ?_
  obtain ⟨r_5, hr_5, h⟩ := h
  have tr_5 : Ty X n r_5 5 := hWT.r (c := 4) (j := 0) t0 rfl hr_5
  refine m_getr (C := RX7) (T := TX7) (N := 13) (ci := 4) hx hb hts iwX7 hown hK hV t0 rfl 0 (by decide) rfl rfl hr_5 (hts _ tw_1_114) (fun _ h9 => h9) dX7_make_51 ?_
  refine k_callv (va_runV (As := []) (rest := []) ⟨hx, hb, hml, hown, hts⟩ (s_X4_clear l D X ad n A J hWT r_5 tr_5 I L _ h) (cwV 0 hts (gV tw_1_214 tw_1_215 tw_1_216 tw_1_2 tw_1_217) rfl rfl rfl (by decide +kernel) (by decide)) (k_preV (ci := 1) hK hV hA hZ tr_5 rfl _) rfl rfl hl.1 rfl (lv_room (Nat.le_of_ble_eq_true rfl)) dX7_make_54 ⟨Nat.zero_le _, Nat.zero_le _⟩) hV (fun I_6 L_7 H locs h hV => ?_)
  refine lv_iload_n hx hb dX7_make_57 rfl (lv_at hl 2 rfl) ?_
  refine lv_if_ne (tgt := 63) hx hb dX7_make_58 (by decide) (fun hc => ?_) (fun hc => ?_)
  · replace h := h.1 hc
    refine lv_iload_n hx hb dX7_make_63 rfl (lv_at hl 0 rfl) ?_
    refine lv_if_ne (tgt := 70) hx hb dX7_make_64 (by decide) (fun hc => ?_) (fun hc => ?_)
    · replace h := h.1 hc
      refine lv_aload_n hx hb dX7_make_70 rfl (lv_at hl 1 rfl) ?_
      obtain ⟨r_8, hr_8, h⟩ := h
      have tr_8 : Ty X n r_8 5 := hWT.r (c := 4) (j := 2) t0 rfl hr_8
      refine m_getr (C := RX7) (T := TX7) (N := 13) (ci := 4) hx hb hts iwX7 hown hK hV t0 rfl 2 (by decide) rfl rfl hr_8 (hts _ tw_1_116) (fun _ h9 => h9) dX7_make_71 ?_
      refine lv_aload_n hx hb dX7_make_74 rfl (lv_at hl 1 rfl) ?_
      obtain ⟨r_9, hr_9, h⟩ := h
      have tr_9 : Ty X n r_9 4 := hWT.r (c := 4) (j := 9) t0 rfl hr_9
      refine m_getr (C := RX7) (T := TX7) (N := 13) (ci := 4) hx hb hts iwX7 hown hK hV t0 rfl 9 (by decide) rfl rfl hr_9 (hts _ tw_1_123) (fun _ h9 => h9) dX7_make_75 ?_
      refine k_calle (va_runV (As := []) (rest := [.ref (ad r_8)]) ⟨hx, hb, hml, hown, hts⟩ (s_X1_draft l D X ad n A J hWT r_9 tr_9 I_6 L_7 _ h) (cwV 0 hts (gV tw_2_129 tw_2_130 tw_2_131 tw_1_6 tw_2_132) rfl rfl rfl (by decide +kernel) (by decide)) (k_preV (ci := 0) hK hV hA hZ tr_9 rfl _) rfl rfl hl.1 rfl (lv_room (Nat.le_of_ble_eq_true rfl)) dX7_make_78 ⟨Nat.zero_le _, Nat.zero_le _⟩) hV (fun o_12 I_10 L_11 H locs h ho_12 hV => ?_)
      obtain ⟨r_13, er_13, h⟩ := h
      have tr_13 : Ty X n r_13 5 := ho_12 _ er_13
      subst er_13
      refine k_callv (va_runV (As := [.ref (ad r_13)]) (rest := []) ⟨hx, hb, hml, hown, hts⟩ (s_X4_become l D X ad n A J hWT r_8 tr_8 r_13 tr_13 I_10 L_11 _ h) (cwV 1 hts (gV tw_1_190 tw_1_191 tw_1_192 tw_1_2 tw_1_193) rfl rfl rfl (by decide +kernel) (by decide)) (k_preV (ci := 1) hK hV hA hZ tr_8 rfl _) rfl rfl hl.1 rfl (lv_room (Nat.le_of_ble_eq_true rfl)) dX7_make_81 ⟨Nat.zero_le _, Nat.zero_le _⟩) hV (fun I_14 L_15 H locs h hV => ?_)
      refine lv_aload_n hx hb dX7_make_84 rfl (lv_at hl 1 rfl) ?_
      obtain ⟨r_16, hr_16, h⟩ := h
      have tr_16 : Ty X n r_16 5 := hWT.r (c := 4) (j := 1) t0 rfl hr_16
      refine m_getr (C := RX7) (T := TX7) (N := 13) (ci := 4) hx hb hts iwX7 hown hK hV t0 rfl 1 (by decide) rfl rfl hr_16 (hts _ tw_1_115) (fun _ h9 => h9) dX7_make_85 ?_
      refine k_callv (va_runV (As := []) (rest := []) ⟨hx, hb, hml, hown, hts⟩ (s_X4_clear l D X ad n A J hWT r_16 tr_16 I_14 L_15 _ h) (cwV 0 hts (gV tw_1_214 tw_1_215 tw_1_216 tw_1_2 tw_1_217) rfl rfl rfl (by decide +kernel) (by decide)) (k_preV (ci := 1) hK hV hA hZ tr_16 rfl _) rfl rfl hl.1 rfl (lv_room (Nat.le_of_ble_eq_true rfl)) dX7_make_88 ⟨Nat.zero_le _, Nat.zero_le _⟩) hV (fun I_17 L_18 H locs h hV => ?_)
      refine lv_aload_n hx hb dX7_make_91 rfl (lv_at hl 1 rfl) ?_
      refine m_getr (C := RX7) (T := TX7) (N := 13) (ci := 4) hx hb hts iwX7 hown hK hV t0 rfl 1 (by decide) rfl rfl hr_16 (hts _ tw_1_115) (fun _ h9 => h9) dX7_make_92 ?_
      refine lv_aload_n hx hb dX7_make_95 rfl (lv_at hl 1 rfl) ?_
      refine m_getr (C := RX7) (T := TX7) (N := 13) (ci := 4) hx hb hts iwX7 hown hK hV t0 rfl 2 (by decide) rfl rfl hr_8 (hts _ tw_1_116) (fun _ h9 => h9) dX7_make_96 ?_
      refine lv_aload_n hx hb dX7_make_99 rfl (lv_at hl 1 rfl) ?_
      obtain ⟨r_19, hr_19, h⟩ := h
      have tr_19 : r_19 < 3 := hWT.e (c := 4) (j := 11) t0 rfl hr_19
      refine m_gete (C := RX7) (T := TX7) (N := 13) (ci := 4) hx hb hts iwX7 hown hK hV t0 rfl 11 (by decide) rfl rfl hr_19 (hts _ tw_1_125) (fun _ h9 => h9) dX7_make_100 ?_
      refine k_calli (va_runV (As := []) (rest := [.ref (ad r_8), .ref (ad r_16)]) ⟨hx, hb, hml, hown, hts⟩ (s_X2_innerLength l D X ad n A J hWT r_19 tr_19 I_17 L_18 _ h) (cwV 0 hts (gV tw_2_133 tw_2_121 tw_2_122 tw_1_8 tw_2_123) rfl rfl rfl (by decide +kernel) (by decide)) (k_preE hK hV hA hZ tr_19 _) rfl rfl hl.1 rfl (lv_room (Nat.le_of_ble_eq_true rfl)) dX7_make_103 ⟨Nat.zero_le _, Nat.zero_le _⟩) hV (fun v_22 I_20 L_21 H locs h hV => ?_)
      refine lv_aload_n hx hb dX7_make_106 rfl (lv_at hl 1 rfl) ?_
      refine m_gete (C := RX7) (T := TX7) (N := 13) (ci := 4) hx hb hts iwX7 hown hK hV t0 rfl 11 (by decide) rfl rfl hr_19 (hts _ tw_1_125) (fun _ h9 => h9) dX7_make_107 ?_
      refine k_calli (va_runV (As := []) (rest := [.int v_22, .ref (ad r_8), .ref (ad r_16)]) ⟨hx, hb, hml, hown, hts⟩ (s_X2_publicLength l D X ad n A J hWT r_19 tr_19 I_20 L_21 _ h) (cwV 0 hts (gV tw_1_218 tw_1_219 tw_1_220 tw_1_8 tw_1_221) rfl rfl rfl (by decide +kernel) (by decide)) (k_preE hK hV hA hZ tr_19 _) rfl rfl hl.1 rfl (lv_room (Nat.le_of_ble_eq_true rfl)) dX7_make_110 ⟨Nat.zero_le _, Nat.zero_le _⟩) hV (fun v_25 I_23 L_24 H locs h hV => ?_)
      refine k_callv (va_runV (As := [.ref (ad r_8), .int v_22, .int v_25]) (rest := []) ⟨hx, hb, hml, hown, hts⟩ (s_X4_appendPart l D X ad n A J hWT r_16 tr_16 r_8 tr_8 v_22 v_25 I_23 L_24 _ h) (cwV 3 hts (gV tw_2_134 tw_2_116 tw_2_117 tw_1_2 tw_2_118) rfl rfl rfl (by decide +kernel) (by decide)) (k_preV (ci := 1) hK hV hA hZ tr_16 rfl _) rfl rfl hl.1 rfl (lv_room (Nat.le_of_ble_eq_true rfl)) dX7_make_113 ⟨Nat.zero_le _, Nat.zero_le _⟩) hV (fun I_26 L_27 H locs h hV => ?_)
      refine lv_aload_n hx hb dX7_make_116 rfl (lv_at hl 1 rfl) ?_
      obtain ⟨r_28, hr_28, h⟩ := h
      have tr_28 : Ty X n r_28 5 := hWT.r (c := 4) (j := 3) t0 rfl hr_28
      refine m_getr (C := RX7) (T := TX7) (N := 13) (ci := 4) hx hb hts iwX7 hown hK hV t0 rfl 3 (by decide) rfl rfl hr_28 (hts _ tw_1_117) (fun _ h9 => h9) dX7_make_117 ?_
      refine k_callv (va_runV (As := []) (rest := []) ⟨hx, hb, hml, hown, hts⟩ (s_X4_clear l D X ad n A J hWT r_28 tr_28 I_26 L_27 _ h) (cwV 0 hts (gV tw_1_214 tw_1_215 tw_1_216 tw_1_2 tw_1_217) rfl rfl rfl (by decide +kernel) (by decide)) (k_preV (ci := 1) hK hV hA hZ tr_28 rfl _) rfl rfl hl.1 rfl (lv_room (Nat.le_of_ble_eq_true rfl)) dX7_make_120 ⟨Nat.zero_le _, Nat.zero_le _⟩) hV (fun I_29 L_30 H locs h hV => ?_)
      refine lv_aload_n hx hb dX7_make_123 rfl (lv_at hl 1 rfl) ?_
      obtain ⟨r_31, hr_31, h⟩ := h
      have tr_31 : Ty X n r_31 5 := hWT.r (c := 4) (j := 4) t0 rfl hr_31
      refine m_getr (C := RX7) (T := TX7) (N := 13) (ci := 4) hx hb hts iwX7 hown hK hV t0 rfl 4 (by decide) rfl rfl hr_31 (hts _ tw_1_118) (fun _ h9 => h9) dX7_make_124 ?_
      refine k_callv (va_runV (As := []) (rest := []) ⟨hx, hb, hml, hown, hts⟩ (s_X4_clear l D X ad n A J hWT r_31 tr_31 I_29 L_30 _ h) (cwV 0 hts (gV tw_1_214 tw_1_215 tw_1_216 tw_1_2 tw_1_217) rfl rfl rfl (by decide +kernel) (by decide)) (k_preV (ci := 1) hK hV hA hZ tr_31 rfl _) rfl rfl hl.1 rfl (lv_room (Nat.le_of_ble_eq_true rfl)) dX7_make_127 ⟨Nat.zero_le _, Nat.zero_le _⟩) hV (fun I_32 L_33 H locs h hV => ?_)
      refine lv_aload_n hx hb dX7_make_130 rfl (lv_at hl 1 rfl) ?_
      refine m_getr (C := RX7) (T := TX7) (N := 13) (ci := 4) hx hb hts iwX7 hown hK hV t0 rfl 1 (by decide) rfl rfl hr_16 (hts _ tw_1_115) (fun _ h9 => h9) dX7_make_131 ?_
      refine k_calli (va_runV (As := []) (rest := []) ⟨hx, hb, hml, hown, hts⟩ (s_X4_size l D X ad n A J hWT r_16 tr_16 I_32 L_33 _ h) (cwV 0 hts (gV tw_1_158 tw_1_159 tw_1_160 tw_1_2 tw_1_161) rfl rfl rfl (by decide +kernel) (by decide)) (k_preV (ci := 1) hK hV hA hZ tr_16 rfl _) rfl rfl hl.1 rfl (lv_room (Nat.le_of_ble_eq_true rfl)) dX7_make_134 ⟨Nat.zero_le _, Nat.zero_le _⟩) hV (fun v_36 I_34 L_35 H locs h hV => ?_)
      exact m_iret hx hb hr hlk hK hZ hA hV h dX7_make_137
    · replace h := h.2 hc
      refine lv_bipush (v := (-2)) hx hb dX7_make_67 (by decide) ?_
      exact m_iret hx hb hr hlk hK hZ hA hV h dX7_make_69
  · replace h := h.2 hc
    refine lv_iconst (v := (-1)) hx hb dX7_make_61 (by decide) ?_
    exact m_iret hx hb hr hlk hK hZ hA hV h dX7_make_62
set_option maxHeartbeats 4000000 in
set_option maxRecDepth 100000 in
theorem n_X7_make_48 {p : Program} {l : Launch} {e : Env} {s : State} {m : MethodId} {below : List Frame} {meth : Method} {c : Code} {D : va_G} {X : XT} {ad : Nat → Nat} {n : Nat} {A : Nat → Prop} {J : MJ} {av : List Value} {R : Room} (hR : R = ({ frames := 6, cells := 0, slots := 0, locals := 178 } : Room)) (C0 : Cx p s m meth c cX7_make (some .int) 3 yX7_make av D X ad n A J) {q : Int32 → MI → ML → Prop}  {x0 : Nat} {x1 : Int32}  {I : MI} {L : ML} {H : Heap} {locs : List Loc} {ls : Array Slot} (t0 : Ty X n x0 8) (h : wj_X7_make_48 X J q  x0 x1  I L) (hV : Wd D X ad n A s.heap J I L H locs) (hl : lv_has ls 3 [(0, .ref (ad x0)), (1, .int x1)]) : W p l e R s m av.toArray below meth c H locs 0 0 (MQ below (QI D X ad n A J q) av.toArray s 0 0 A) (F0 m 48 ls []) := by
  obtain ⟨hx, hb, hr, hml, hown, hlk, hnm, hts, hK, hZ, hA, hWT⟩ := id C0
  subst hR
  unfold wj_X7_make_48 at h
  refine lv_iconst (v := 0) hx hb dX7_make_48 (by decide) ?_
  exact n_X7_make_49 rfl C0 t0   h hV (lv_sub hl [0, 1] rfl)
set_option maxHeartbeats 4000000 in
set_option maxRecDepth 100000 in
theorem n_X7_make_17 {p : Program} {l : Launch} {e : Env} {s : State} {m : MethodId} {below : List Frame} {meth : Method} {c : Code} {D : va_G} {X : XT} {ad : Nat → Nat} {n : Nat} {A : Nat → Prop} {J : MJ} {av : List Value} {R : Room} (hR : R = ({ frames := 6, cells := 0, slots := 0, locals := 178 } : Room)) (C0 : Cx p s m meth c cX7_make (some .int) 3 yX7_make av D X ad n A J) {q : Int32 → MI → ML → Prop}  {x0 : Nat} {z0 : Int32} {I : MI} {L : ML} {H : Heap} {locs : List Loc} {ls : Array Slot} (t0 : Ty X n x0 8) (h : wj_X7_make_17 X J q  x0 z0 I L) (hV : Wd D X ad n A s.heap J I L H locs) (hl : lv_has ls 3 [(0, .ref (ad x0))]) : W p l e R s m av.toArray below meth c H locs 0 0 (MQ below (QI D X ad n A J q) av.toArray s 0 0 A) (F0 m 17 ls [.int z0]) := by
  obtain ⟨hx, hb, hr, hml, hown, hlk, hnm, hts, hK, hZ, hA, hWT⟩ := id C0
  subst hR
  unfold wj_X7_make_17 at h
  refine lv_istore_n (lv' := [(1, .int z0), (0, .ref (ad x0))]) hx hb dX7_make_17 rfl hl (by decide) rfl (fun ls hl => ?_)
  refine lv_iload_n hx hb dX7_make_18 rfl (lv_at hl 0 rfl) ?_
  refine lv_if_eq (tgt := 48) hx hb dX7_make_19 (by decide) (fun hc => ?_) (fun hc => ?_)
  · replace h := h.1 hc
    exact n_X7_make_48 rfl C0 t0   h hV (lv_sub hl [1, 0] rfl)
  · replace h := h.2 hc
    refine lv_aload_n hx hb dX7_make_22 rfl (lv_at hl 1 rfl) ?_
    obtain ⟨r_37, hr_37, h⟩ := h
    have tr_37 : Ty X n r_37 4 := hWT.r (c := 4) (j := 9) t0 rfl hr_37
    refine m_getr (C := RX7) (T := TX7) (N := 13) (ci := 4) hx hb hts iwX7 hown hK hV t0 rfl 9 (by decide) rfl rfl hr_37 (hts _ tw_1_123) (fun _ h9 => h9) dX7_make_23 ?_
    refine lv_aload_n hx hb dX7_make_26 rfl (lv_at hl 1 rfl) ?_
    obtain ⟨r_38, hr_38, h⟩ := h
    have tr_38 : r_38 < 3 := hWT.e (c := 4) (j := 11) t0 rfl hr_38
    refine m_gete (C := RX7) (T := TX7) (N := 13) (ci := 4) hx hb hts iwX7 hown hK hV t0 rfl 11 (by decide) rfl rfl hr_38 (hts _ tw_1_125) (fun _ h9 => h9) dX7_make_27 ?_
    refine lv_aload_n hx hb dX7_make_30 rfl (lv_at hl 1 rfl) ?_
    obtain ⟨r_39, hr_39, h⟩ := h
    have tr_39 : Ty X n r_39 5 := hWT.r (c := 4) (j := 0) t0 rfl hr_39
    refine m_getr (C := RX7) (T := TX7) (N := 13) (ci := 4) hx hb hts iwX7 hown hK hV t0 rfl 0 (by decide) rfl rfl hr_39 (hts _ tw_1_114) (fun _ h9 => h9) dX7_make_31 ?_
    refine lv_aload_n hx hb dX7_make_34 rfl (lv_at hl 1 rfl) ?_
    refine m_geti (C := RX7) (T := TX7) (N := 13) (ci := 4) hx hb hts iwX7 hown hK hV t0 rfl 12 (by decide) rfl rfl (hts _ tw_1_126) (fun _ h9 => h9) dX7_make_35 ?_
    refine k_calli (va_runV (As := [.ref (X.2.1 r_38), .ref (ad r_39), .int (I x0 12)]) (rest := []) ⟨hx, hb, hml, hown, hts⟩ (s_X1_makeKeys l D X ad n A J hWT r_37 tr_37 r_38 tr_38 r_39 tr_39 (I x0 12) I L _ h) (cwV 3 hts (gV tw_2_2 tw_2_3 tw_2_4 tw_1_6 tw_2_5) rfl rfl rfl (by decide +kernel) (by decide)) (k_preV (ci := 0) hK hV hA hZ tr_37 rfl _) rfl rfl hl.1 rfl (lv_room (Nat.le_of_ble_eq_true rfl)) dX7_make_38 ⟨Nat.zero_le _, Nat.zero_le _⟩) hV (fun v_42 I_40 L_41 H locs h hV => ?_)
    refine lv_if_eq (tgt := 48) hx hb dX7_make_41 (by decide) (fun hc => ?_) (fun hc => ?_)
    · replace h := h.1 hc
      exact n_X7_make_48 rfl C0 t0   h hV (lv_sub hl [1, 0] rfl)
    · replace h := h.2 hc
      refine lv_iconst (v := 1) hx hb dX7_make_44 (by decide) ?_
      refine lv_goto (tgt := 49) hx hb dX7_make_45 (by decide) ?_
      exact n_X7_make_49 rfl C0 t0   h hV (lv_sub hl [1, 0] rfl)
set_option maxHeartbeats 4000000 in
set_option maxRecDepth 100000 in
theorem s_X7_make (l : Launch) (D : va_G) (X : XT) (ad : Nat → Nat) (n : Nat) (A : Nat → Prop) (J : MJ) (hWT : WT X n J) (x0 : Nat) (t0 : Ty X n x0 8) (I : MI) (L : ML) (q : Int32 → MI → ML → Prop) (h : wp_X7_make X J x0 I L q) : Met l yX7_make (wz yX7_make cX7_make 3 (some .int)) ({ frames := 6, cells := 0, slots := 0, locals := 178 } : Room) (va_Pc [.ref (ad x0)] (Pr D X ad n A J I L)) (QI D X ad n A J q) 0 0 A := by
  refine Met_go (by decide +kernel) (Nat.le_of_ble_eq_true rfl) (fun p e s m below meth c hx hb hr hml hown hlk hnm hts hK hZ hA hV ls hl => ?_)
  have C0 : Cx p s m meth c cX7_make (some .int) 3 yX7_make [.ref (ad x0)] D X ad n A J := ⟨hx, hb, hr, hml, hown, hlk, hnm, hts, hK, hZ, hA, hWT⟩
  unfold wp_X7_make at h
  have hl : lv_has ls 3 [(0, .ref (ad x0))] := hl
  refine lv_aload_n hx hb dX7_make_0 rfl (lv_at hl 0 rfl) ?_
  obtain ⟨r_1, hr_1, h⟩ := h
  have tr_1 : Ty X n r_1 5 := hWT.r (c := 4) (j := 0) t0 rfl hr_1
  refine m_getr (C := RX7) (T := TX7) (N := 13) (ci := 4) hx hb hts iwX7 hown hK hV t0 rfl 0 (by decide) rfl rfl hr_1 (hts _ tw_1_114) (fun _ h9 => h9) dX7_make_1 ?_
  refine k_calli (va_runV (As := []) (rest := []) ⟨hx, hb, hml, hown, hts⟩ (s_X4_size l D X ad n A J hWT r_1 tr_1 I L _ h) (cwV 0 hts (gV tw_1_158 tw_1_159 tw_1_160 tw_1_2 tw_1_161) rfl rfl rfl (by decide +kernel) (by decide)) (k_preV (ci := 1) hK hV hA hZ tr_1 rfl _) rfl rfl hl.1 rfl (lv_room (Nat.le_of_ble_eq_true rfl)) dX7_make_4 ⟨Nat.zero_le _, Nat.zero_le _⟩) hV (fun v_4 I_2 L_3 H locs h hV => ?_)
  refine lv_bipush (v := 64) hx hb dX7_make_7 (by decide) ?_
  refine lv_icmp_ne (tgt := 16) hx hb dX7_make_9 (by decide) (fun hc => ?_) (fun hc => ?_)
  · replace h := h.1 hc
    refine lv_iconst (v := 0) hx hb dX7_make_16 (by decide) ?_
    exact n_X7_make_17 rfl C0 t0   h hV (lv_sub hl [0] rfl)
  · replace h := h.2 hc
    refine lv_iconst (v := 1) hx hb dX7_make_12 (by decide) ?_
    refine lv_goto (tgt := 17) hx hb dX7_make_13 (by decide) ?_
    exact n_X7_make_17 rfl C0 t0   h hV (lv_sub hl [0] rfl)
set_option maxHeartbeats 4000000 in
set_option maxRecDepth 100000 in
theorem s_X7_checkTapeAs (l : Launch) (D : va_G) (X : XT) (ad : Nat → Nat) (n : Nat) (A : Nat → Prop) (J : MJ) (hWT : WT X n J) (x0 : Nat) (t0 : Ty X n x0 8) (x1 : Int32) (I : MI) (L : ML) (q : Int32 → MI → ML → Prop) (h : wp_X7_checkTapeAs X J x0 x1 I L q) : Met l yX7_checkTapeAs (wz yX7_checkTapeAs cX7_checkTapeAs 2 (some .int)) ({ frames := 5, cells := 0, slots := 0, locals := 145 } : Room) (va_Pc [.ref (ad x0), .int x1] (Pr D X ad n A J I L)) (QI D X ad n A J q) 0 0 A := by
  refine Met_go (by decide +kernel) (Nat.le_of_ble_eq_true rfl) (fun p e s m below meth c hx hb hr hml hown hlk hnm hts hK hZ hA hV ls hl => ?_)
  have C0 : Cx p s m meth c cX7_checkTapeAs (some .int) 2 yX7_checkTapeAs [.ref (ad x0), .int x1] D X ad n A J := ⟨hx, hb, hr, hml, hown, hlk, hnm, hts, hK, hZ, hA, hWT⟩
  unfold wp_X7_checkTapeAs at h
  have hl : lv_has ls 2 [(0, .ref (ad x0)), (1, .int x1)] := hl
  refine lv_iload_n hx hb dX7_checkTapeAs_0 rfl (lv_at hl 1 rfl) ?_
  refine lv_if_ne (tgt := 53) hx hb dX7_checkTapeAs_1 (by decide) (fun hc => ?_) (fun hc => ?_)
  · replace h := h.1 hc
    refine lv_iload_n hx hb dX7_checkTapeAs_53 rfl (lv_at hl 1 rfl) ?_
    refine lv_iconst (v := 1) hx hb dX7_checkTapeAs_54 (by decide) ?_
    refine lv_icmp_ne (tgt := 108) hx hb dX7_checkTapeAs_55 (by decide) (fun hc => ?_) (fun hc => ?_)
    · replace h := h.1 hc
      refine lv_aload_n hx hb dX7_checkTapeAs_108 rfl (lv_at hl 0 rfl) ?_
      obtain ⟨r_1, hr_1, h⟩ := h
      have tr_1 : Ty X n r_1 5 := hWT.r (c := 4) (j := 0) t0 rfl hr_1
      refine m_getr (C := RX7) (T := TX7) (N := 13) (ci := 4) hx hb hts iwX7 hown hK hV t0 rfl 0 (by decide) rfl rfl hr_1 (hts _ tw_1_114) (fun _ h9 => h9) dX7_checkTapeAs_109 ?_
      refine k_calli (va_runV (As := []) (rest := []) ⟨hx, hb, hml, hown, hts⟩ (s_X4_size l D X ad n A J hWT r_1 tr_1 I L _ h) (cwV 0 hts (gV tw_1_158 tw_1_159 tw_1_160 tw_1_2 tw_1_161) rfl rfl rfl (by decide +kernel) (by decide)) (k_preV (ci := 1) hK hV hA hZ tr_1 rfl _) rfl rfl hl.1 rfl (lv_room (Nat.le_of_ble_eq_true rfl)) dX7_checkTapeAs_112 ⟨Nat.zero_le _, Nat.zero_le _⟩) hV (fun v_4 I_2 L_3 H locs h hV => ?_)
      refine lv_aload_n hx hb dX7_checkTapeAs_115 rfl (lv_at hl 0 rfl) ?_
      obtain ⟨r_5, hr_5, h⟩ := h
      have tr_5 : r_5 < 3 := hWT.e (c := 4) (j := 11) t0 rfl hr_5
      refine m_gete (C := RX7) (T := TX7) (N := 13) (ci := 4) hx hb hts iwX7 hown hK hV t0 rfl 11 (by decide) rfl rfl hr_5 (hts _ tw_1_125) (fun _ h9 => h9) dX7_checkTapeAs_116 ?_
      refine k_calli (va_runV (As := []) (rest := [.int v_4]) ⟨hx, hb, hml, hown, hts⟩ (s_X2_textLength l D X ad n A J hWT r_5 tr_5 I_2 L_3 _ h) (cwV 0 hts (gV tw_2_161 tw_2_162 tw_2_163 tw_1_8 tw_2_164) rfl rfl rfl (by decide +kernel) (by decide)) (k_preE hK hV hA hZ tr_5 _) rfl rfl hl.1 rfl (lv_room (Nat.le_of_ble_eq_true rfl)) dX7_checkTapeAs_119 ⟨Nat.zero_le _, Nat.zero_le _⟩) hV (fun v_8 I_6 L_7 H locs h hV => ?_)
      refine lv_icmp_ne (tgt := 135) hx hb dX7_checkTapeAs_122 (by decide) (fun hc => ?_) (fun hc => ?_)
      · replace h := h.1 hc
        refine lv_iconst (v := (-1)) hx hb dX7_checkTapeAs_135 (by decide) ?_
        exact m_iret hx hb hr hlk hK hZ hA hV h dX7_checkTapeAs_136
      · replace h := h.2 hc
        refine lv_aload_n hx hb dX7_checkTapeAs_125 rfl (lv_at hl 0 rfl) ?_
        refine m_getr (C := RX7) (T := TX7) (N := 13) (ci := 4) hx hb hts iwX7 hown hK hV t0 rfl 0 (by decide) rfl rfl hr_1 (hts _ tw_1_114) (fun _ h9 => h9) dX7_checkTapeAs_126 ?_
        refine k_calli (va_runV (As := []) (rest := []) ⟨hx, hb, hml, hown, hts⟩ (s_X4_size l D X ad n A J hWT r_1 tr_1 I_6 L_7 _ h) (cwV 0 hts (gV tw_1_158 tw_1_159 tw_1_160 tw_1_2 tw_1_161) rfl rfl rfl (by decide +kernel) (by decide)) (k_preV (ci := 1) hK hV hA hZ tr_1 rfl _) rfl rfl hl.1 rfl (lv_room (Nat.le_of_ble_eq_true rfl)) dX7_checkTapeAs_129 ⟨Nat.zero_le _, Nat.zero_le _⟩) hV (fun v_11 I_9 L_10 H locs h hV => ?_)
        refine lv_goto (tgt := 136) hx hb dX7_checkTapeAs_132 (by decide) ?_
        exact m_iret hx hb hr hlk hK hZ hA hV h dX7_checkTapeAs_136
    · replace h := h.2 hc
      refine lv_aload_n hx hb dX7_checkTapeAs_58 rfl (lv_at hl 0 rfl) ?_
      obtain ⟨r_12, hr_12, h⟩ := h
      have tr_12 : Ty X n r_12 5 := hWT.r (c := 4) (j := 0) t0 rfl hr_12
      refine m_getr (C := RX7) (T := TX7) (N := 13) (ci := 4) hx hb hts iwX7 hown hK hV t0 rfl 0 (by decide) rfl rfl hr_12 (hts _ tw_1_114) (fun _ h9 => h9) dX7_checkTapeAs_59 ?_
      refine k_calli (va_runV (As := []) (rest := []) ⟨hx, hb, hml, hown, hts⟩ (s_X4_size l D X ad n A J hWT r_12 tr_12 I L _ h) (cwV 0 hts (gV tw_1_158 tw_1_159 tw_1_160 tw_1_2 tw_1_161) rfl rfl rfl (by decide +kernel) (by decide)) (k_preV (ci := 1) hK hV hA hZ tr_12 rfl _) rfl rfl hl.1 rfl (lv_room (Nat.le_of_ble_eq_true rfl)) dX7_checkTapeAs_62 ⟨Nat.zero_le _, Nat.zero_le _⟩) hV (fun v_15 I_13 L_14 H locs h hV => ?_)
      refine lv_aload_n hx hb dX7_checkTapeAs_65 rfl (lv_at hl 0 rfl) ?_
      obtain ⟨r_16, hr_16, h⟩ := h
      have tr_16 : r_16 < 3 := hWT.e (c := 4) (j := 11) t0 rfl hr_16
      refine m_gete (C := RX7) (T := TX7) (N := 13) (ci := 4) hx hb hts iwX7 hown hK hV t0 rfl 11 (by decide) rfl rfl hr_16 (hts _ tw_1_125) (fun _ h9 => h9) dX7_checkTapeAs_66 ?_
      refine k_calli (va_runV (As := []) (rest := [.int v_15]) ⟨hx, hb, hml, hown, hts⟩ (s_X2_privateLength l D X ad n A J hWT r_16 tr_16 I_13 L_14 _ h) (cwV 0 hts (gV tw_2_149 tw_2_150 tw_2_151 tw_1_8 tw_2_152) rfl rfl rfl (by decide +kernel) (by decide)) (k_preE hK hV hA hZ tr_16 _) rfl rfl hl.1 rfl (lv_room (Nat.le_of_ble_eq_true rfl)) dX7_checkTapeAs_69 ⟨Nat.zero_le _, Nat.zero_le _⟩) hV (fun v_19 I_17 L_18 H locs h hV => ?_)
      refine lv_icmp_eq (tgt := 77) hx hb dX7_checkTapeAs_72 (by decide) (fun hc => ?_) (fun hc => ?_)
      · replace h := h.1 hc
        refine lv_aload_n hx hb dX7_checkTapeAs_77 rfl (lv_at hl 0 rfl) ?_
        obtain ⟨r_20, hr_20, h⟩ := h
        have tr_20 : Ty X n r_20 4 := hWT.r (c := 4) (j := 9) t0 rfl hr_20
        refine m_getr (C := RX7) (T := TX7) (N := 13) (ci := 4) hx hb hts iwX7 hown hK hV t0 rfl 9 (by decide) rfl rfl hr_20 (hts _ tw_1_123) (fun _ h9 => h9) dX7_checkTapeAs_78 ?_
        refine lv_aload_n hx hb dX7_checkTapeAs_81 rfl (lv_at hl 0 rfl) ?_
        refine m_gete (C := RX7) (T := TX7) (N := 13) (ci := 4) hx hb hts iwX7 hown hK hV t0 rfl 11 (by decide) rfl rfl hr_16 (hts _ tw_1_125) (fun _ h9 => h9) dX7_checkTapeAs_82 ?_
        refine lv_aload_n hx hb dX7_checkTapeAs_85 rfl (lv_at hl 0 rfl) ?_
        refine m_getr (C := RX7) (T := TX7) (N := 13) (ci := 4) hx hb hts iwX7 hown hK hV t0 rfl 0 (by decide) rfl rfl hr_12 (hts _ tw_1_114) (fun _ h9 => h9) dX7_checkTapeAs_86 ?_
        refine k_calli (va_runV (As := [.ref (X.2.1 r_16), .ref (ad r_12)]) (rest := []) ⟨hx, hb, hml, hown, hts⟩ (s_X1_hashIsTrue l D X ad n A J hWT r_20 tr_20 r_16 tr_16 r_12 tr_12 I_17 L_18 _ h) (cwV 2 hts (gV tw_2_153 tw_2_154 tw_2_155 tw_1_6 tw_2_156) rfl rfl rfl (by decide +kernel) (by decide)) (k_preV (ci := 0) hK hV hA hZ tr_20 rfl _) rfl rfl hl.1 rfl (lv_room (Nat.le_of_ble_eq_true rfl)) dX7_checkTapeAs_89 ⟨Nat.zero_le _, Nat.zero_le _⟩) hV (fun v_23 I_21 L_22 H locs h hV => ?_)
        refine lv_if_eq (tgt := 105) hx hb dX7_checkTapeAs_92 (by decide) (fun hc => ?_) (fun hc => ?_)
        · replace h := h.1 hc
          refine lv_bipush (v := (-3)) hx hb dX7_checkTapeAs_105 (by decide) ?_
          exact m_iret hx hb hr hlk hK hZ hA hV h dX7_checkTapeAs_107
        · replace h := h.2 hc
          refine lv_aload_n hx hb dX7_checkTapeAs_95 rfl (lv_at hl 0 rfl) ?_
          refine m_getr (C := RX7) (T := TX7) (N := 13) (ci := 4) hx hb hts iwX7 hown hK hV t0 rfl 0 (by decide) rfl rfl hr_12 (hts _ tw_1_114) (fun _ h9 => h9) dX7_checkTapeAs_96 ?_
          refine k_calli (va_runV (As := []) (rest := []) ⟨hx, hb, hml, hown, hts⟩ (s_X4_size l D X ad n A J hWT r_12 tr_12 I_21 L_22 _ h) (cwV 0 hts (gV tw_1_158 tw_1_159 tw_1_160 tw_1_2 tw_1_161) rfl rfl rfl (by decide +kernel) (by decide)) (k_preV (ci := 1) hK hV hA hZ tr_12 rfl _) rfl rfl hl.1 rfl (lv_room (Nat.le_of_ble_eq_true rfl)) dX7_checkTapeAs_99 ⟨Nat.zero_le _, Nat.zero_le _⟩) hV (fun v_26 I_24 L_25 H locs h hV => ?_)
          refine lv_goto (tgt := 107) hx hb dX7_checkTapeAs_102 (by decide) ?_
          exact m_iret hx hb hr hlk hK hZ hA hV h dX7_checkTapeAs_107
      · replace h := h.2 hc
        refine lv_iconst (v := (-1)) hx hb dX7_checkTapeAs_75 (by decide) ?_
        exact m_iret hx hb hr hlk hK hZ hA hV h dX7_checkTapeAs_76
  · replace h := h.2 hc
    refine lv_aload_n hx hb dX7_checkTapeAs_4 rfl (lv_at hl 0 rfl) ?_
    obtain ⟨r_27, hr_27, h⟩ := h
    have tr_27 : Ty X n r_27 5 := hWT.r (c := 4) (j := 0) t0 rfl hr_27
    refine m_getr (C := RX7) (T := TX7) (N := 13) (ci := 4) hx hb hts iwX7 hown hK hV t0 rfl 0 (by decide) rfl rfl hr_27 (hts _ tw_1_114) (fun _ h9 => h9) dX7_checkTapeAs_5 ?_
    refine k_calli (va_runV (As := []) (rest := []) ⟨hx, hb, hml, hown, hts⟩ (s_X4_size l D X ad n A J hWT r_27 tr_27 I L _ h) (cwV 0 hts (gV tw_1_158 tw_1_159 tw_1_160 tw_1_2 tw_1_161) rfl rfl rfl (by decide +kernel) (by decide)) (k_preV (ci := 1) hK hV hA hZ tr_27 rfl _) rfl rfl hl.1 rfl (lv_room (Nat.le_of_ble_eq_true rfl)) dX7_checkTapeAs_8 ⟨Nat.zero_le _, Nat.zero_le _⟩) hV (fun v_30 I_28 L_29 H locs h hV => ?_)
    refine lv_aload_n hx hb dX7_checkTapeAs_11 rfl (lv_at hl 0 rfl) ?_
    obtain ⟨r_31, hr_31, h⟩ := h
    have tr_31 : r_31 < 3 := hWT.e (c := 4) (j := 11) t0 rfl hr_31
    refine m_gete (C := RX7) (T := TX7) (N := 13) (ci := 4) hx hb hts iwX7 hown hK hV t0 rfl 11 (by decide) rfl rfl hr_31 (hts _ tw_1_125) (fun _ h9 => h9) dX7_checkTapeAs_12 ?_
    refine k_calli (va_runV (As := []) (rest := [.int v_30]) ⟨hx, hb, hml, hown, hts⟩ (s_X2_publicLength l D X ad n A J hWT r_31 tr_31 I_28 L_29 _ h) (cwV 0 hts (gV tw_1_218 tw_1_219 tw_1_220 tw_1_8 tw_1_221) rfl rfl rfl (by decide +kernel) (by decide)) (k_preE hK hV hA hZ tr_31 _) rfl rfl hl.1 rfl (lv_room (Nat.le_of_ble_eq_true rfl)) dX7_checkTapeAs_15 ⟨Nat.zero_le _, Nat.zero_le _⟩) hV (fun v_34 I_32 L_33 H locs h hV => ?_)
    refine lv_icmp_eq (tgt := 23) hx hb dX7_checkTapeAs_18 (by decide) (fun hc => ?_) (fun hc => ?_)
    · replace h := h.1 hc
      refine lv_aload_n hx hb dX7_checkTapeAs_23 rfl (lv_at hl 0 rfl) ?_
      refine m_getr (C := RX7) (T := TX7) (N := 13) (ci := 4) hx hb hts iwX7 hown hK hV t0 rfl 0 (by decide) rfl rfl hr_27 (hts _ tw_1_114) (fun _ h9 => h9) dX7_checkTapeAs_24 ?_
      refine lv_aload_n hx hb dX7_checkTapeAs_27 rfl (lv_at hl 0 rfl) ?_
      refine m_gete (C := RX7) (T := TX7) (N := 13) (ci := 4) hx hb hts iwX7 hown hK hV t0 rfl 11 (by decide) rfl rfl hr_31 (hts _ tw_1_125) (fun _ h9 => h9) dX7_checkTapeAs_28 ?_
      refine k_calli (va_runV (As := []) (rest := [.ref (ad r_27)]) ⟨hx, hb, hml, hown, hts⟩ (s_X2_innerLength l D X ad n A J hWT r_31 tr_31 I_32 L_33 _ h) (cwV 0 hts (gV tw_2_133 tw_2_121 tw_2_122 tw_1_8 tw_2_123) rfl rfl rfl (by decide +kernel) (by decide)) (k_preE hK hV hA hZ tr_31 _) rfl rfl hl.1 rfl (lv_room (Nat.le_of_ble_eq_true rfl)) dX7_checkTapeAs_31 ⟨Nat.zero_le _, Nat.zero_le _⟩) hV (fun v_37 I_35 L_36 H locs h hV => ?_)
      refine k_calli (va_runS (As := [.ref (ad r_27), .int v_37]) (rest := []) ⟨hx, hb, hml, hown, hts⟩ (s_X0_groupsAreSmall l D X ad n A J hWT r_27 tr_27 v_37 I_35 L_36 _ h) (va_cwS 2 hts (gS tw_2_143 tw_2_144 tw_1_14 tw_2_145) rfl rfl rfl (by decide +kernel) (by decide)) (k_preS hK hV hA hZ _) rfl rfl hl.1 rfl (lv_room (Nat.le_of_ble_eq_true rfl)) dX7_checkTapeAs_34 ⟨Nat.zero_le _, Nat.zero_le _⟩) hV (fun v_40 I_38 L_39 H locs h hV => ?_)
      refine lv_if_eq (tgt := 50) hx hb dX7_checkTapeAs_37 (by decide) (fun hc => ?_) (fun hc => ?_)
      · replace h := h.1 hc
        refine lv_bipush (v := (-2)) hx hb dX7_checkTapeAs_50 (by decide) ?_
        exact m_iret hx hb hr hlk hK hZ hA hV h dX7_checkTapeAs_52
      · replace h := h.2 hc
        refine lv_aload_n hx hb dX7_checkTapeAs_40 rfl (lv_at hl 0 rfl) ?_
        refine m_getr (C := RX7) (T := TX7) (N := 13) (ci := 4) hx hb hts iwX7 hown hK hV t0 rfl 0 (by decide) rfl rfl hr_27 (hts _ tw_1_114) (fun _ h9 => h9) dX7_checkTapeAs_41 ?_
        refine k_calli (va_runV (As := []) (rest := []) ⟨hx, hb, hml, hown, hts⟩ (s_X4_size l D X ad n A J hWT r_27 tr_27 I_38 L_39 _ h) (cwV 0 hts (gV tw_1_158 tw_1_159 tw_1_160 tw_1_2 tw_1_161) rfl rfl rfl (by decide +kernel) (by decide)) (k_preV (ci := 1) hK hV hA hZ tr_27 rfl _) rfl rfl hl.1 rfl (lv_room (Nat.le_of_ble_eq_true rfl)) dX7_checkTapeAs_44 ⟨Nat.zero_le _, Nat.zero_le _⟩) hV (fun v_43 I_41 L_42 H locs h hV => ?_)
        refine lv_goto (tgt := 52) hx hb dX7_checkTapeAs_47 (by decide) ?_
        exact m_iret hx hb hr hlk hK hZ hA hV h dX7_checkTapeAs_52
    · replace h := h.2 hc
      refine lv_iconst (v := (-1)) hx hb dX7_checkTapeAs_21 (by decide) ?_
      exact m_iret hx hb hr hlk hK hZ hA hV h dX7_checkTapeAs_22
set_option maxHeartbeats 4000000 in
set_option maxRecDepth 100000 in
theorem n_X7_load_44 {p : Program} {l : Launch} {e : Env} {s : State} {m : MethodId} {below : List Frame} {meth : Method} {c : Code} {D : va_G} {X : XT} {ad : Nat → Nat} {n : Nat} {A : Nat → Prop} {J : MJ} {av : List Value} {R : Room} (hR : R = ({ frames := 6, cells := 0, slots := 0, locals := 166 } : Room)) (C0 : Cx p s m meth c cX7_load (some .int) 4 yX7_load av D X ad n A J) {q : Int32 → MI → ML → Prop}  {x0 : Nat} {x2 : Int32}  {I : MI} {L : ML} {H : Heap} {locs : List Loc} {ls : Array Slot} (t0 : Ty X n x0 8) (h : wj_X7_load_44 X J q  x0 x2  I L) (hV : Wd D X ad n A s.heap J I L H locs) (hl : lv_has ls 4 [(0, .ref (ad x0)), (2, .int x2)]) : W p l e R s m av.toArray below meth c H locs 0 0 (MQ below (QI D X ad n A J q) av.toArray s 0 0 A) (F0 m 44 ls []) := by
  obtain ⟨hx, hb, hr, hml, hown, hlk, hnm, hts, hK, hZ, hA, hWT⟩ := id C0
  subst hR
  unfold wj_X7_load_44 at h
  refine lv_aload_n hx hb dX7_load_44 rfl (lv_at hl 0 rfl) ?_
  obtain ⟨r_8, hr_8, h⟩ := h
  have tr_8 : Ty X n r_8 5 := hWT.r (c := 4) (j := 0) t0 rfl hr_8
  refine m_getr (C := RX7) (T := TX7) (N := 13) (ci := 4) hx hb hts iwX7 hown hK hV t0 rfl 0 (by decide) rfl rfl hr_8 (hts _ tw_1_114) (fun _ h9 => h9) dX7_load_45 ?_
  refine k_callv (va_runV (As := []) (rest := []) ⟨hx, hb, hml, hown, hts⟩ (s_X4_clear l D X ad n A J hWT r_8 tr_8 I L _ h) (cwV 0 hts (gV tw_1_214 tw_1_215 tw_1_216 tw_1_2 tw_1_217) rfl rfl rfl (by decide +kernel) (by decide)) (k_preV (ci := 1) hK hV hA hZ tr_8 rfl _) rfl rfl hl.1 rfl (lv_room (Nat.le_of_ble_eq_true rfl)) dX7_load_48 ⟨Nat.zero_le _, Nat.zero_le _⟩) hV (fun I_9 L_10 H locs h hV => ?_)
  refine lv_iload_n hx hb dX7_load_51 rfl (lv_at hl 1 rfl) ?_
  exact m_iret hx hb hr hlk hK hZ hA hV h dX7_load_52
set_option maxHeartbeats 4000000 in
set_option maxRecDepth 100000 in
theorem n_X7_load_16 {p : Program} {l : Launch} {e : Env} {s : State} {m : MethodId} {below : List Frame} {meth : Method} {c : Code} {D : va_G} {X : XT} {ad : Nat → Nat} {n : Nat} {A : Nat → Prop} {J : MJ} {av : List Value} {R : Room} (hR : R = ({ frames := 6, cells := 0, slots := 0, locals := 166 } : Room)) (C0 : Cx p s m meth c cX7_load (some .int) 4 yX7_load av D X ad n A J) {q : Int32 → MI → ML → Prop}  {x0 : Nat} {x1 : Int32}  {I : MI} {L : ML} {H : Heap} {locs : List Loc} {ls : Array Slot} (t0 : Ty X n x0 8) (h : wj_X7_load_16 X J q  x0 x1  I L) (hV : Wd D X ad n A s.heap J I L H locs) (hl : lv_has ls 4 [(0, .ref (ad x0)), (1, .int x1)]) : W p l e R s m av.toArray below meth c H locs 0 0 (MQ below (QI D X ad n A J q) av.toArray s 0 0 A) (F0 m 16 ls []) := by
  obtain ⟨hx, hb, hr, hml, hown, hlk, hnm, hts, hK, hZ, hA, hWT⟩ := id C0
  subst hR
  unfold wj_X7_load_16 at h
  refine lv_aload_n hx hb dX7_load_16 rfl (lv_at hl 0 rfl) ?_
  refine lv_iload_n hx hb dX7_load_17 rfl (lv_at hl 1 rfl) ?_
  refine k_calli (va_runV (As := [.int x1]) (rest := []) ⟨hx, hb, hml, hown, hts⟩ (s_X7_checkTapeAs l D X ad n A J hWT x0 t0 x1 I L _ h) (cwV 1 hts (gV tw_2_139 tw_2_141 tw_0_7 tw_1_1 tw_2_142) rfl rfl rfl (by decide +kernel) (by decide)) (k_preV (ci := 4) hK hV hA hZ t0 rfl _) rfl rfl hl.1 rfl (lv_room (Nat.le_of_ble_eq_true rfl)) dX7_load_18 ⟨Nat.zero_le _, Nat.zero_le _⟩) hV (fun v_3 I_1 L_2 H locs h hV => ?_)
  refine lv_istore_n (lv' := [(2, .int v_3), (0, .ref (ad x0)), (1, .int x1)]) hx hb dX7_load_21 rfl hl (by decide) rfl (fun ls hl => ?_)
  refine lv_aload_n hx hb dX7_load_22 rfl (lv_at hl 1 rfl) ?_
  refine lv_iload_n hx hb dX7_load_23 rfl (lv_at hl 2 rfl) ?_
  refine k_calle (va_runV (As := [.int x1]) (rest := []) ⟨hx, hb, hml, hown, hts⟩ (s_X7_rowOf l D X ad n A J hWT x0 t0 x1 I_1 L_2 _ h) (cwV 1 hts (gV tw_1_186 tw_1_188 tw_0_0 tw_1_1 tw_1_189) rfl rfl rfl (by decide +kernel) (by decide)) (k_preV (ci := 4) hK hV hA hZ t0 rfl _) rfl rfl hl.1 rfl (lv_room (Nat.le_of_ble_eq_true rfl)) dX7_load_24 ⟨Nat.zero_le _, Nat.zero_le _⟩) hV (fun o_6 I_4 L_5 H locs h ho_6 hV => ?_)
  cases eo_6 : o_6 with
  | none =>
    replace h := h.1 eo_6
    refine lv_astore_nN (lv' := [(3, .null), (2, .int v_3), (0, .ref (ad x0)), (1, .int x1)]) hx hb dX7_load_27 rfl hl (by decide) rfl (fun ls hl => ?_)
    refine lv_iload_n hx hb dX7_load_28 rfl (lv_at hl 1 rfl) ?_
    refine lv_if_lt (tgt := 44) hx hb dX7_load_29 (by decide) (fun hc => ?_) (fun hc => ?_)
    · replace h := h.1 hc
      exact n_X7_load_44 rfl C0 t0   h hV (lv_sub hl [2, 1] rfl)
    · replace h := h.2 hc
      refine lv_aload_nN hx hb dX7_load_32 rfl (lv_at hl 0 rfl) ?_
      refine lv_ifnullN (tgt := 44) hx hb dX7_load_33 (by decide) ?_
      exact n_X7_load_44 rfl C0 t0   h hV (lv_sub hl [2, 1] rfl)
  | some r_7 =>
    replace h := h.2 r_7 eo_6
    have tr_7 : Ty X n r_7 5 := ho_6 _ eo_6
    refine lv_astore_n (lv' := [(3, .ref (ad r_7)), (2, .int v_3), (0, .ref (ad x0)), (1, .int x1)]) hx hb dX7_load_27 rfl hl (by decide) rfl (fun ls hl => ?_)
    refine lv_iload_n hx hb dX7_load_28 rfl (lv_at hl 1 rfl) ?_
    refine lv_if_lt (tgt := 44) hx hb dX7_load_29 (by decide) (fun hc => ?_) (fun hc => ?_)
    · replace h := h.1 hc
      exact n_X7_load_44 rfl C0 t0   h hV (lv_sub hl [2, 1] rfl)
    · replace h := h.2 hc
      refine lv_aload_n hx hb dX7_load_32 rfl (lv_at hl 0 rfl) ?_
      refine lv_ifnull hx hb dX7_load_33 ?_
      refine lv_aload_n hx hb dX7_load_36 rfl (lv_at hl 0 rfl) ?_
      refine lv_aload_n hx hb dX7_load_37 rfl (lv_at hl 2 rfl) ?_
      obtain ⟨r_11, hr_11, h⟩ := h
      have tr_11 : Ty X n r_11 5 := hWT.r (c := 4) (j := 0) t0 rfl hr_11
      refine m_getr (C := RX7) (T := TX7) (N := 13) (ci := 4) hx hb hts iwX7 hown hK hV t0 rfl 0 (by decide) rfl rfl hr_11 (hts _ tw_1_114) (fun _ h9 => h9) dX7_load_38 ?_
      refine k_callv (va_runV (As := [.ref (ad r_11)]) (rest := []) ⟨hx, hb, hml, hown, hts⟩ (s_X4_become l D X ad n A J hWT r_7 tr_7 r_11 tr_11 I_4 L_5 _ h) (cwV 1 hts (gV tw_1_190 tw_1_191 tw_1_192 tw_1_2 tw_1_193) rfl rfl rfl (by decide +kernel) (by decide)) (k_preV (ci := 1) hK hV hA hZ tr_7 rfl _) rfl rfl hl.1 rfl (lv_room (Nat.le_of_ble_eq_true rfl)) dX7_load_41 ⟨Nat.zero_le _, Nat.zero_le _⟩) hV (fun I_12 L_13 H locs h hV => ?_)
      exact n_X7_load_44 rfl C0 t0   h hV (lv_sub hl [2, 1] rfl)
set_option maxHeartbeats 4000000 in
set_option maxRecDepth 100000 in
theorem s_X7_load (l : Launch) (D : va_G) (X : XT) (ad : Nat → Nat) (n : Nat) (A : Nat → Prop) (J : MJ) (hWT : WT X n J) (x0 : Nat) (t0 : Ty X n x0 8) (x1 : Int32) (I : MI) (L : ML) (q : Int32 → MI → ML → Prop) (h : wp_X7_load X J x0 x1 I L q) : Met l yX7_load (wz yX7_load cX7_load 4 (some .int)) ({ frames := 6, cells := 0, slots := 0, locals := 166 } : Room) (va_Pc [.ref (ad x0), .int x1] (Pr D X ad n A J I L)) (QI D X ad n A J q) 0 0 A := by
  refine Met_go (by decide +kernel) (Nat.le_of_ble_eq_true rfl) (fun p e s m below meth c hx hb hr hml hown hlk hnm hts hK hZ hA hV ls hl => ?_)
  have C0 : Cx p s m meth c cX7_load (some .int) 4 yX7_load [.ref (ad x0), .int x1] D X ad n A J := ⟨hx, hb, hr, hml, hown, hlk, hnm, hts, hK, hZ, hA, hWT⟩
  unfold wp_X7_load at h
  have hl : lv_has ls 4 [(0, .ref (ad x0)), (1, .int x1)] := hl
  refine lv_iload_n hx hb dX7_load_0 rfl (lv_at hl 1 rfl) ?_
  refine lv_if_eq (tgt := 16) hx hb dX7_load_1 (by decide) (fun hc => ?_) (fun hc => ?_)
  · replace h := h.1 hc
    exact n_X7_load_16 rfl C0 t0   h hV (lv_sub hl [0, 1] rfl)
  · replace h := h.2 hc
    refine lv_iload_n hx hb dX7_load_4 rfl (lv_at hl 1 rfl) ?_
    refine lv_iconst (v := 1) hx hb dX7_load_5 (by decide) ?_
    refine lv_icmp_eq (tgt := 16) hx hb dX7_load_6 (by decide) (fun hc => ?_) (fun hc => ?_)
    · replace h := h.1 hc
      exact n_X7_load_16 rfl C0 t0   h hV (lv_sub hl [0, 1] rfl)
    · replace h := h.2 hc
      refine lv_iload_n hx hb dX7_load_9 rfl (lv_at hl 1 rfl) ?_
      refine lv_iconst (v := 2) hx hb dX7_load_10 (by decide) ?_
      refine lv_icmp_eq (tgt := 16) hx hb dX7_load_11 (by decide) (fun hc => ?_) (fun hc => ?_)
      · replace h := h.1 hc
        exact n_X7_load_16 rfl C0 t0   h hV (lv_sub hl [0, 1] rfl)
      · replace h := h.2 hc
        refine lv_iconst (v := (-1)) hx hb dX7_load_14 (by decide) ?_
        exact m_iret hx hb hr hlk hK hZ hA hV h dX7_load_15
set_option maxHeartbeats 4000000 in
set_option maxRecDepth 100000 in
theorem n_X7_wrap_74 {p : Program} {l : Launch} {e : Env} {s : State} {m : MethodId} {below : List Frame} {meth : Method} {c : Code} {D : va_G} {X : XT} {ad : Nat → Nat} {n : Nat} {A : Nat → Prop} {J : MJ} {av : List Value} {R : Room} (hR : R = ({ frames := 6, cells := 0, slots := 0, locals := 181 } : Room)) (C0 : Cx p s m meth c cX7_wrap (some .int) 3 yX7_wrap av D X ad n A J) {q : Int32 → MI → ML → Prop}  {x0 : Nat} {x1 : Int32} {x2 : Int32}  {I : MI} {L : ML} {H : Heap} {locs : List Loc} {ls : Array Slot} (t0 : Ty X n x0 8) (h : wj_X7_wrap_74 X J q  x0 x1 x2  I L) (hV : Wd D X ad n A s.heap J I L H locs) (hl : lv_has ls 3 [(0, .ref (ad x0)), (1, .int x1), (2, .int x2)]) : W p l e R s m av.toArray below meth c H locs 0 0 (MQ below (QI D X ad n A J q) av.toArray s 0 0 A) (F0 m 74 ls []) := by
  obtain ⟨hx, hb, hr, hml, hown, hlk, hnm, hts, hK, hZ, hA, hWT⟩ := id C0
  subst hR
  unfold wj_X7_wrap_74 at h
  refine lv_aload_n hx hb dX7_wrap_74 rfl (lv_at hl 0 rfl) ?_
  obtain ⟨r_5, hr_5, h⟩ := h
  have tr_5 : Ty X n r_5 5 := hWT.r (c := 4) (j := 0) t0 rfl hr_5
  refine m_getr (C := RX7) (T := TX7) (N := 13) (ci := 4) hx hb hts iwX7 hown hK hV t0 rfl 0 (by decide) rfl rfl hr_5 (hts _ tw_1_114) (fun _ h9 => h9) dX7_wrap_75 ?_
  refine k_callv (va_runV (As := []) (rest := []) ⟨hx, hb, hml, hown, hts⟩ (s_X4_clear l D X ad n A J hWT r_5 tr_5 I L _ h) (cwV 0 hts (gV tw_1_214 tw_1_215 tw_1_216 tw_1_2 tw_1_217) rfl rfl rfl (by decide +kernel) (by decide)) (k_preV (ci := 1) hK hV hA hZ tr_5 rfl _) rfl rfl hl.1 rfl (lv_room (Nat.le_of_ble_eq_true rfl)) dX7_wrap_78 ⟨Nat.zero_le _, Nat.zero_le _⟩) hV (fun I_6 L_7 H locs h hV => ?_)
  refine lv_iload_n hx hb dX7_wrap_81 rfl (lv_at hl 1 rfl) ?_
  refine lv_if_ne (tgt := 87) hx hb dX7_wrap_82 (by decide) (fun hc => ?_) (fun hc => ?_)
  · replace h := h.1 hc
    refine lv_iload_n hx hb dX7_wrap_87 rfl (lv_at hl 2 rfl) ?_
    refine lv_if_ne (tgt := 94) hx hb dX7_wrap_88 (by decide) (fun hc => ?_) (fun hc => ?_)
    · replace h := h.1 hc
      refine lv_aload_n hx hb dX7_wrap_94 rfl (lv_at hl 0 rfl) ?_
      obtain ⟨r_8, hr_8, h⟩ := h
      have tr_8 : Ty X n r_8 5 := hWT.r (c := 4) (j := 3) t0 rfl hr_8
      refine m_getr (C := RX7) (T := TX7) (N := 13) (ci := 4) hx hb hts iwX7 hown hK hV t0 rfl 3 (by decide) rfl rfl hr_8 (hts _ tw_1_117) (fun _ h9 => h9) dX7_wrap_95 ?_
      refine lv_aload_n hx hb dX7_wrap_98 rfl (lv_at hl 0 rfl) ?_
      obtain ⟨r_9, hr_9, h⟩ := h
      have tr_9 : Ty X n r_9 4 := hWT.r (c := 4) (j := 9) t0 rfl hr_9
      refine m_getr (C := RX7) (T := TX7) (N := 13) (ci := 4) hx hb hts iwX7 hown hK hV t0 rfl 9 (by decide) rfl rfl hr_9 (hts _ tw_1_123) (fun _ h9 => h9) dX7_wrap_99 ?_
      refine k_calle (va_runV (As := []) (rest := [.ref (ad r_8)]) ⟨hx, hb, hml, hown, hts⟩ (s_X1_draft l D X ad n A J hWT r_9 tr_9 I_6 L_7 _ h) (cwV 0 hts (gV tw_2_129 tw_2_130 tw_2_131 tw_1_6 tw_2_132) rfl rfl rfl (by decide +kernel) (by decide)) (k_preV (ci := 0) hK hV hA hZ tr_9 rfl _) rfl rfl hl.1 rfl (lv_room (Nat.le_of_ble_eq_true rfl)) dX7_wrap_102 ⟨Nat.zero_le _, Nat.zero_le _⟩) hV (fun o_12 I_10 L_11 H locs h ho_12 hV => ?_)
      obtain ⟨r_13, er_13, h⟩ := h
      have tr_13 : Ty X n r_13 5 := ho_12 _ er_13
      subst er_13
      refine k_callv (va_runV (As := [.ref (ad r_13)]) (rest := []) ⟨hx, hb, hml, hown, hts⟩ (s_X4_become l D X ad n A J hWT r_8 tr_8 r_13 tr_13 I_10 L_11 _ h) (cwV 1 hts (gV tw_1_190 tw_1_191 tw_1_192 tw_1_2 tw_1_193) rfl rfl rfl (by decide +kernel) (by decide)) (k_preV (ci := 1) hK hV hA hZ tr_8 rfl _) rfl rfl hl.1 rfl (lv_room (Nat.le_of_ble_eq_true rfl)) dX7_wrap_105 ⟨Nat.zero_le _, Nat.zero_le _⟩) hV (fun I_14 L_15 H locs h hV => ?_)
      refine lv_aload_n hx hb dX7_wrap_108 rfl (lv_at hl 0 rfl) ?_
      obtain ⟨r_16, hr_16, h⟩ := h
      have tr_16 : Ty X n r_16 5 := hWT.r (c := 4) (j := 4) t0 rfl hr_16
      refine m_getr (C := RX7) (T := TX7) (N := 13) (ci := 4) hx hb hts iwX7 hown hK hV t0 rfl 4 (by decide) rfl rfl hr_16 (hts _ tw_1_118) (fun _ h9 => h9) dX7_wrap_109 ?_
      refine k_callv (va_runV (As := []) (rest := []) ⟨hx, hb, hml, hown, hts⟩ (s_X4_clear l D X ad n A J hWT r_16 tr_16 I_14 L_15 _ h) (cwV 0 hts (gV tw_1_214 tw_1_215 tw_1_216 tw_1_2 tw_1_217) rfl rfl rfl (by decide +kernel) (by decide)) (k_preV (ci := 1) hK hV hA hZ tr_16 rfl _) rfl rfl hl.1 rfl (lv_room (Nat.le_of_ble_eq_true rfl)) dX7_wrap_112 ⟨Nat.zero_le _, Nat.zero_le _⟩) hV (fun I_17 L_18 H locs h hV => ?_)
      refine lv_aload_n hx hb dX7_wrap_115 rfl (lv_at hl 0 rfl) ?_
      refine m_getr (C := RX7) (T := TX7) (N := 13) (ci := 4) hx hb hts iwX7 hown hK hV t0 rfl 4 (by decide) rfl rfl hr_16 (hts _ tw_1_118) (fun _ h9 => h9) dX7_wrap_116 ?_
      refine lv_aload_n hx hb dX7_wrap_119 rfl (lv_at hl 0 rfl) ?_
      refine m_getr (C := RX7) (T := TX7) (N := 13) (ci := 4) hx hb hts iwX7 hown hK hV t0 rfl 9 (by decide) rfl rfl hr_9 (hts _ tw_1_123) (fun _ h9 => h9) dX7_wrap_120 ?_
      refine k_calle (va_runV (As := []) (rest := [.ref (ad r_16)]) ⟨hx, hb, hml, hown, hts⟩ (s_X1_seeds l D X ad n A J hWT r_9 tr_9 I_17 L_18 _ h) (cwV 0 hts (gV tw_2_211 tw_2_212 tw_2_213 tw_1_6 tw_2_214) rfl rfl rfl (by decide +kernel) (by decide)) (k_preV (ci := 0) hK hV hA hZ tr_9 rfl _) rfl rfl hl.1 rfl (lv_room (Nat.le_of_ble_eq_true rfl)) dX7_wrap_123 ⟨Nat.zero_le _, Nat.zero_le _⟩) hV (fun o_21 I_19 L_20 H locs h ho_21 hV => ?_)
      obtain ⟨r_22, er_22, h⟩ := h
      have tr_22 : Ty X n r_22 5 := ho_21 _ er_22
      subst er_22
      refine lv_iconst (v := 0) hx hb dX7_wrap_126 (by decide) ?_
      refine lv_bipush (v := 32) hx hb dX7_wrap_127 (by decide) ?_
      refine k_callv (va_runV (As := [.ref (ad r_22), .int 0, .int 32]) (rest := []) ⟨hx, hb, hml, hown, hts⟩ (s_X4_appendPart l D X ad n A J hWT r_16 tr_16 r_22 tr_22 0 32 I_19 L_20 _ h) (cwV 3 hts (gV tw_2_134 tw_2_116 tw_2_117 tw_1_2 tw_2_118) rfl rfl rfl (by decide +kernel) (by decide)) (k_preV (ci := 1) hK hV hA hZ tr_16 rfl _) rfl rfl hl.1 rfl (lv_room (Nat.le_of_ble_eq_true rfl)) dX7_wrap_129 ⟨Nat.zero_le _, Nat.zero_le _⟩) hV (fun I_23 L_24 H locs h hV => ?_)
      refine lv_aload_n hx hb dX7_wrap_132 rfl (lv_at hl 0 rfl) ?_
      refine m_getr (C := RX7) (T := TX7) (N := 13) (ci := 4) hx hb hts iwX7 hown hK hV t0 rfl 3 (by decide) rfl rfl hr_8 (hts _ tw_1_117) (fun _ h9 => h9) dX7_wrap_133 ?_
      refine k_calli (va_runV (As := []) (rest := []) ⟨hx, hb, hml, hown, hts⟩ (s_X4_size l D X ad n A J hWT r_8 tr_8 I_23 L_24 _ h) (cwV 0 hts (gV tw_1_158 tw_1_159 tw_1_160 tw_1_2 tw_1_161) rfl rfl rfl (by decide +kernel) (by decide)) (k_preV (ci := 1) hK hV hA hZ tr_8 rfl _) rfl rfl hl.1 rfl (lv_room (Nat.le_of_ble_eq_true rfl)) dX7_wrap_136 ⟨Nat.zero_le _, Nat.zero_le _⟩) hV (fun v_27 I_25 L_26 H locs h hV => ?_)
      exact m_iret hx hb hr hlk hK hZ hA hV h dX7_wrap_139
    · replace h := h.2 hc
      refine lv_bipush (v := (-2)) hx hb dX7_wrap_91 (by decide) ?_
      exact m_iret hx hb hr hlk hK hZ hA hV h dX7_wrap_93
  · replace h := h.2 hc
    refine lv_iconst (v := (-1)) hx hb dX7_wrap_85 (by decide) ?_
    exact m_iret hx hb hr hlk hK hZ hA hV h dX7_wrap_86
set_option maxHeartbeats 4000000 in
set_option maxRecDepth 100000 in
theorem n_X7_wrap_27 {p : Program} {l : Launch} {e : Env} {s : State} {m : MethodId} {below : List Frame} {meth : Method} {c : Code} {D : va_G} {X : XT} {ad : Nat → Nat} {n : Nat} {A : Nat → Prop} {J : MJ} {av : List Value} {R : Room} (hR : R = ({ frames := 6, cells := 0, slots := 0, locals := 181 } : Room)) (C0 : Cx p s m meth c cX7_wrap (some .int) 3 yX7_wrap av D X ad n A J) {q : Int32 → MI → ML → Prop}  {x0 : Nat} {z0 : Int32} {I : MI} {L : ML} {H : Heap} {locs : List Loc} {ls : Array Slot} (t0 : Ty X n x0 8) (h : wj_X7_wrap_27 X J q  x0 z0 I L) (hV : Wd D X ad n A s.heap J I L H locs) (hl : lv_has ls 3 [(0, .ref (ad x0))]) : W p l e R s m av.toArray below meth c H locs 0 0 (MQ below (QI D X ad n A J q) av.toArray s 0 0 A) (F0 m 27 ls [.int z0]) := by
  obtain ⟨hx, hb, hr, hml, hown, hlk, hnm, hts, hK, hZ, hA, hWT⟩ := id C0
  subst hR
  unfold wj_X7_wrap_27 at h
  refine lv_istore_n (lv' := [(1, .int z0), (0, .ref (ad x0))]) hx hb dX7_wrap_27 rfl hl (by decide) rfl (fun ls hl => ?_)
  refine lv_iconst (v := 0) hx hb dX7_wrap_28 (by decide) ?_
  refine lv_istore_n (lv' := [(2, .int 0), (1, .int z0), (0, .ref (ad x0))]) hx hb dX7_wrap_29 rfl hl (by decide) rfl (fun ls hl => ?_)
  refine lv_iload_n hx hb dX7_wrap_30 rfl (lv_at hl 1 rfl) ?_
  refine lv_if_eq (tgt := 74) hx hb dX7_wrap_31 (by decide) (fun hc => ?_) (fun hc => ?_)
  · replace h := h.1 hc
    exact n_X7_wrap_74 rfl C0 t0   h hV (lv_sub hl [2, 1, 0] rfl)
  · replace h := h.2 hc
    refine lv_aload_n hx hb dX7_wrap_34 rfl (lv_at hl 2 rfl) ?_
    obtain ⟨r_28, hr_28, h⟩ := h
    have tr_28 : Ty X n r_28 4 := hWT.r (c := 4) (j := 9) t0 rfl hr_28
    refine m_getr (C := RX7) (T := TX7) (N := 13) (ci := 4) hx hb hts iwX7 hown hK hV t0 rfl 9 (by decide) rfl rfl hr_28 (hts _ tw_1_123) (fun _ h9 => h9) dX7_wrap_35 ?_
    refine lv_aload_n hx hb dX7_wrap_38 rfl (lv_at hl 2 rfl) ?_
    obtain ⟨r_29, hr_29, h⟩ := h
    have tr_29 : r_29 < 3 := hWT.e (c := 4) (j := 11) t0 rfl hr_29
    refine m_gete (C := RX7) (T := TX7) (N := 13) (ci := 4) hx hb hts iwX7 hown hK hV t0 rfl 11 (by decide) rfl rfl hr_29 (hts _ tw_1_125) (fun _ h9 => h9) dX7_wrap_39 ?_
    refine lv_aload_n hx hb dX7_wrap_42 rfl (lv_at hl 2 rfl) ?_
    obtain ⟨r_30, hr_30, h⟩ := h
    have tr_30 : Ty X n r_30 5 := hWT.r (c := 4) (j := 1) t0 rfl hr_30
    refine m_getr (C := RX7) (T := TX7) (N := 13) (ci := 4) hx hb hts iwX7 hown hK hV t0 rfl 1 (by decide) rfl rfl hr_30 (hts _ tw_1_115) (fun _ h9 => h9) dX7_wrap_43 ?_
    refine lv_aload_n hx hb dX7_wrap_46 rfl (lv_at hl 2 rfl) ?_
    obtain ⟨r_31, hr_31, h⟩ := h
    have tr_31 : Ty X n r_31 5 := hWT.r (c := 4) (j := 0) t0 rfl hr_31
    refine m_getr (C := RX7) (T := TX7) (N := 13) (ci := 4) hx hb hts iwX7 hown hK hV t0 rfl 0 (by decide) rfl rfl hr_31 (hts _ tw_1_114) (fun _ h9 => h9) dX7_wrap_47 ?_
    refine k_callv (va_runV (As := [.ref (X.2.1 r_29), .ref (ad r_30), .ref (ad r_31)]) (rest := []) ⟨hx, hb, hml, hown, hts⟩ (s_X1_readMessage l D X ad n A J hWT r_28 tr_28 r_29 tr_29 r_30 tr_30 r_31 tr_31 I L _ h) (cwV 3 hts (gV tw_2_169 tw_2_170 tw_2_171 tw_1_6 tw_2_172) rfl rfl rfl (by decide +kernel) (by decide)) (k_preV (ci := 0) hK hV hA hZ tr_28 rfl _) rfl rfl hl.1 rfl (lv_room (Nat.le_of_ble_eq_true rfl)) dX7_wrap_50 ⟨Nat.zero_le _, Nat.zero_le _⟩) hV (fun I_32 L_33 H locs h hV => ?_)
    refine lv_aload_n hx hb dX7_wrap_53 rfl (lv_at hl 2 rfl) ?_
    refine m_getr (C := RX7) (T := TX7) (N := 13) (ci := 4) hx hb hts iwX7 hown hK hV t0 rfl 9 (by decide) rfl rfl hr_28 (hts _ tw_1_123) (fun _ h9 => h9) dX7_wrap_54 ?_
    refine lv_aload_n hx hb dX7_wrap_57 rfl (lv_at hl 2 rfl) ?_
    refine m_gete (C := RX7) (T := TX7) (N := 13) (ci := 4) hx hb hts iwX7 hown hK hV t0 rfl 11 (by decide) rfl rfl hr_29 (hts _ tw_1_125) (fun _ h9 => h9) dX7_wrap_58 ?_
    refine lv_aload_n hx hb dX7_wrap_61 rfl (lv_at hl 2 rfl) ?_
    refine m_getr (C := RX7) (T := TX7) (N := 13) (ci := 4) hx hb hts iwX7 hown hK hV t0 rfl 1 (by decide) rfl rfl hr_30 (hts _ tw_1_115) (fun _ h9 => h9) dX7_wrap_62 ?_
    refine lv_iconst (v := 0) hx hb dX7_wrap_65 (by decide) ?_
    refine lv_aload_n hx hb dX7_wrap_66 rfl (lv_at hl 2 rfl) ?_
    refine m_geti (C := RX7) (T := TX7) (N := 13) (ci := 4) hx hb hts iwX7 hown hK hV t0 rfl 12 (by decide) rfl rfl (hts _ tw_1_126) (fun _ h9 => h9) dX7_wrap_67 ?_
    refine k_calli (va_runV (As := [.ref (X.2.1 r_29), .ref (ad r_30), .int 0, .int (I_32 x0 12)]) (rest := []) ⟨hx, hb, hml, hown, hts⟩ (s_X1_lockMessage l D X ad n A J hWT r_28 tr_28 r_29 tr_29 r_30 tr_30 0 (I_32 x0 12) I_32 L_33 _ h) (cwV 4 hts (gV tw_2_178 tw_2_179 tw_2_180 tw_1_6 tw_2_181) rfl rfl rfl (by decide +kernel) (by decide)) (k_preV (ci := 0) hK hV hA hZ tr_28 rfl _) rfl rfl hl.1 rfl (lv_room (Nat.le_of_ble_eq_true rfl)) dX7_wrap_70 ⟨Nat.zero_le _, Nat.zero_le _⟩) hV (fun v_36 I_34 L_35 H locs h hV => ?_)
    refine lv_istore_n (lv' := [(2, .int v_36), (1, .int z0), (0, .ref (ad x0))]) hx hb dX7_wrap_73 rfl hl (by decide) rfl (fun ls hl => ?_)
    exact n_X7_wrap_74 rfl C0 t0   h hV (lv_sub hl [2, 1, 0] rfl)
set_option maxHeartbeats 4000000 in
set_option maxRecDepth 100000 in
theorem n_X7_wrap_26 {p : Program} {l : Launch} {e : Env} {s : State} {m : MethodId} {below : List Frame} {meth : Method} {c : Code} {D : va_G} {X : XT} {ad : Nat → Nat} {n : Nat} {A : Nat → Prop} {J : MJ} {av : List Value} {R : Room} (hR : R = ({ frames := 6, cells := 0, slots := 0, locals := 181 } : Room)) (C0 : Cx p s m meth c cX7_wrap (some .int) 3 yX7_wrap av D X ad n A J) {q : Int32 → MI → ML → Prop}  {x0 : Nat}  {I : MI} {L : ML} {H : Heap} {locs : List Loc} {ls : Array Slot} (t0 : Ty X n x0 8) (h : wj_X7_wrap_26 X J q  x0  I L) (hV : Wd D X ad n A s.heap J I L H locs) (hl : lv_has ls 3 [(0, .ref (ad x0))]) : W p l e R s m av.toArray below meth c H locs 0 0 (MQ below (QI D X ad n A J q) av.toArray s 0 0 A) (F0 m 26 ls []) := by
  obtain ⟨hx, hb, hr, hml, hown, hlk, hnm, hts, hK, hZ, hA, hWT⟩ := id C0
  subst hR
  unfold wj_X7_wrap_26 at h
  refine lv_iconst (v := 0) hx hb dX7_wrap_26 (by decide) ?_
  exact n_X7_wrap_27 rfl C0 t0   h hV (lv_sub hl [0] rfl)
set_option maxHeartbeats 4000000 in
set_option maxRecDepth 100000 in
theorem s_X7_wrap (l : Launch) (D : va_G) (X : XT) (ad : Nat → Nat) (n : Nat) (A : Nat → Prop) (J : MJ) (hWT : WT X n J) (x0 : Nat) (t0 : Ty X n x0 8) (I : MI) (L : ML) (q : Int32 → MI → ML → Prop) (h : wp_X7_wrap X J x0 I L q) : Met l yX7_wrap (wz yX7_wrap cX7_wrap 3 (some .int)) ({ frames := 6, cells := 0, slots := 0, locals := 181 } : Room) (va_Pc [.ref (ad x0)] (Pr D X ad n A J I L)) (QI D X ad n A J q) 0 0 A := by
  refine Met_go (by decide +kernel) (Nat.le_of_ble_eq_true rfl) (fun p e s m below meth c hx hb hr hml hown hlk hnm hts hK hZ hA hV ls hl => ?_)
  have C0 : Cx p s m meth c cX7_wrap (some .int) 3 yX7_wrap [.ref (ad x0)] D X ad n A J := ⟨hx, hb, hr, hml, hown, hlk, hnm, hts, hK, hZ, hA, hWT⟩
  unfold wp_X7_wrap at h
  have hl : lv_has ls 3 [(0, .ref (ad x0))] := hl
  refine lv_aload_n hx hb dX7_wrap_0 rfl (lv_at hl 0 rfl) ?_
  obtain ⟨r_1, hr_1, h⟩ := h
  have tr_1 : Ty X n r_1 5 := hWT.r (c := 4) (j := 0) t0 rfl hr_1
  refine m_getr (C := RX7) (T := TX7) (N := 13) (ci := 4) hx hb hts iwX7 hown hK hV t0 rfl 0 (by decide) rfl rfl hr_1 (hts _ tw_1_114) (fun _ h9 => h9) dX7_wrap_1 ?_
  refine k_calli (va_runV (As := []) (rest := []) ⟨hx, hb, hml, hown, hts⟩ (s_X4_size l D X ad n A J hWT r_1 tr_1 I L _ h) (cwV 0 hts (gV tw_1_158 tw_1_159 tw_1_160 tw_1_2 tw_1_161) rfl rfl rfl (by decide +kernel) (by decide)) (k_preV (ci := 1) hK hV hA hZ tr_1 rfl _) rfl rfl hl.1 rfl (lv_room (Nat.le_of_ble_eq_true rfl)) dX7_wrap_4 ⟨Nat.zero_le _, Nat.zero_le _⟩) hV (fun v_4 I_2 L_3 H locs h hV => ?_)
  refine lv_bipush (v := 32) hx hb dX7_wrap_7 (by decide) ?_
  refine lv_icmp_ne (tgt := 26) hx hb dX7_wrap_9 (by decide) (fun hc => ?_) (fun hc => ?_)
  · replace h := h.1 hc
    exact n_X7_wrap_26 rfl C0 t0   h hV (lv_sub hl [0] rfl)
  · replace h := h.2 hc
    refine lv_aload_n hx hb dX7_wrap_12 rfl (lv_at hl 0 rfl) ?_
    obtain ⟨r_37, hr_37, h⟩ := h
    have tr_37 : Ty X n r_37 5 := hWT.r (c := 4) (j := 1) t0 rfl hr_37
    refine m_getr (C := RX7) (T := TX7) (N := 13) (ci := 4) hx hb hts iwX7 hown hK hV t0 rfl 1 (by decide) rfl rfl hr_37 (hts _ tw_1_115) (fun _ h9 => h9) dX7_wrap_13 ?_
    refine k_calli (va_runV (As := []) (rest := []) ⟨hx, hb, hml, hown, hts⟩ (s_X4_size l D X ad n A J hWT r_37 tr_37 I_2 L_3 _ h) (cwV 0 hts (gV tw_1_158 tw_1_159 tw_1_160 tw_1_2 tw_1_161) rfl rfl rfl (by decide +kernel) (by decide)) (k_preV (ci := 1) hK hV hA hZ tr_37 rfl _) rfl rfl hl.1 rfl (lv_room (Nat.le_of_ble_eq_true rfl)) dX7_wrap_16 ⟨Nat.zero_le _, Nat.zero_le _⟩) hV (fun v_40 I_38 L_39 H locs h hV => ?_)
    refine lv_if_le (tgt := 26) hx hb dX7_wrap_19 (by decide) (fun hc => ?_) (fun hc => ?_)
    · replace h := h.1 hc
      exact n_X7_wrap_26 rfl C0 t0   h hV (lv_sub hl [0] rfl)
    · replace h := h.2 hc
      refine lv_iconst (v := 1) hx hb dX7_wrap_22 (by decide) ?_
      refine lv_goto (tgt := 27) hx hb dX7_wrap_23 (by decide) ?_
      exact n_X7_wrap_27 rfl C0 t0   h hV (lv_sub hl [0] rfl)
set_option maxHeartbeats 4000000 in
set_option maxRecDepth 100000 in
theorem s_X7_unwrap (l : Launch) (D : va_G) (X : XT) (ad : Nat → Nat) (n : Nat) (A : Nat → Prop) (J : MJ) (hWT : WT X n J) (x0 : Nat) (t0 : Ty X n x0 8) (I : MI) (L : ML) (q : Int32 → MI → ML → Prop) (h : wp_X7_unwrap X J x0 I L q) : Met l yX7_unwrap (wz yX7_unwrap cX7_unwrap 1 (some .int)) ({ frames := 6, cells := 0, slots := 0, locals := 181 } : Room) (va_Pc [.ref (ad x0)] (Pr D X ad n A J I L)) (QI D X ad n A J q) 0 0 A := by
  refine Met_go (by decide +kernel) (Nat.le_of_ble_eq_true rfl) (fun p e s m below meth c hx hb hr hml hown hlk hnm hts hK hZ hA hV ls hl => ?_)
  have C0 : Cx p s m meth c cX7_unwrap (some .int) 1 yX7_unwrap [.ref (ad x0)] D X ad n A J := ⟨hx, hb, hr, hml, hown, hlk, hnm, hts, hK, hZ, hA, hWT⟩
  unfold wp_X7_unwrap at h
  have hl : lv_has ls 1 [(0, .ref (ad x0))] := hl
  refine lv_aload_n hx hb dX7_unwrap_0 rfl (lv_at hl 0 rfl) ?_
  obtain ⟨r_1, hr_1, h⟩ := h
  have tr_1 : Ty X n r_1 5 := hWT.r (c := 4) (j := 2) t0 rfl hr_1
  refine m_getr (C := RX7) (T := TX7) (N := 13) (ci := 4) hx hb hts iwX7 hown hK hV t0 rfl 2 (by decide) rfl rfl hr_1 (hts _ tw_1_116) (fun _ h9 => h9) dX7_unwrap_1 ?_
  refine k_calli (va_runV (As := []) (rest := []) ⟨hx, hb, hml, hown, hts⟩ (s_X4_size l D X ad n A J hWT r_1 tr_1 I L _ h) (cwV 0 hts (gV tw_1_158 tw_1_159 tw_1_160 tw_1_2 tw_1_161) rfl rfl rfl (by decide +kernel) (by decide)) (k_preV (ci := 1) hK hV hA hZ tr_1 rfl _) rfl rfl hl.1 rfl (lv_room (Nat.le_of_ble_eq_true rfl)) dX7_unwrap_4 ⟨Nat.zero_le _, Nat.zero_le _⟩) hV (fun v_4 I_2 L_3 H locs h hV => ?_)
  refine lv_if_eq (tgt := 20) hx hb dX7_unwrap_7 (by decide) (fun hc => ?_) (fun hc => ?_)
  · replace h := h.1 hc
    refine lv_iconst (v := (-1)) hx hb dX7_unwrap_20 (by decide) ?_
    exact m_iret hx hb hr hlk hK hZ hA hV h dX7_unwrap_21
  · replace h := h.2 hc
    refine lv_aload_n hx hb dX7_unwrap_10 rfl (lv_at hl 0 rfl) ?_
    obtain ⟨r_5, hr_5, h⟩ := h
    have tr_5 : Ty X n r_5 5 := hWT.r (c := 4) (j := 3) t0 rfl hr_5
    refine m_getr (C := RX7) (T := TX7) (N := 13) (ci := 4) hx hb hts iwX7 hown hK hV t0 rfl 3 (by decide) rfl rfl hr_5 (hts _ tw_1_117) (fun _ h9 => h9) dX7_unwrap_11 ?_
    refine k_calli (va_runV (As := []) (rest := []) ⟨hx, hb, hml, hown, hts⟩ (s_X4_size l D X ad n A J hWT r_5 tr_5 I_2 L_3 _ h) (cwV 0 hts (gV tw_1_158 tw_1_159 tw_1_160 tw_1_2 tw_1_161) rfl rfl rfl (by decide +kernel) (by decide)) (k_preV (ci := 1) hK hV hA hZ tr_5 rfl _) rfl rfl hl.1 rfl (lv_room (Nat.le_of_ble_eq_true rfl)) dX7_unwrap_14 ⟨Nat.zero_le _, Nat.zero_le _⟩) hV (fun v_8 I_6 L_7 H locs h hV => ?_)
    refine lv_if_ne (tgt := 22) hx hb dX7_unwrap_17 (by decide) (fun hc => ?_) (fun hc => ?_)
    · replace h := h.1 hc
      refine lv_aload_n hx hb dX7_unwrap_22 rfl (lv_at hl 0 rfl) ?_
      obtain ⟨r_9, hr_9, h⟩ := h
      have tr_9 : Ty X n r_9 4 := hWT.r (c := 4) (j := 9) t0 rfl hr_9
      refine m_getr (C := RX7) (T := TX7) (N := 13) (ci := 4) hx hb hts iwX7 hown hK hV t0 rfl 9 (by decide) rfl rfl hr_9 (hts _ tw_1_123) (fun _ h9 => h9) dX7_unwrap_23 ?_
      refine lv_aload_n hx hb dX7_unwrap_26 rfl (lv_at hl 0 rfl) ?_
      obtain ⟨r_10, hr_10, h⟩ := h
      have tr_10 : r_10 < 3 := hWT.e (c := 4) (j := 11) t0 rfl hr_10
      refine m_gete (C := RX7) (T := TX7) (N := 13) (ci := 4) hx hb hts iwX7 hown hK hV t0 rfl 11 (by decide) rfl rfl hr_10 (hts _ tw_1_125) (fun _ h9 => h9) dX7_unwrap_27 ?_
      refine lv_aload_n hx hb dX7_unwrap_30 rfl (lv_at hl 0 rfl) ?_
      refine m_getr (C := RX7) (T := TX7) (N := 13) (ci := 4) hx hb hts iwX7 hown hK hV t0 rfl 2 (by decide) rfl rfl hr_1 (hts _ tw_1_116) (fun _ h9 => h9) dX7_unwrap_31 ?_
      refine lv_aload_n hx hb dX7_unwrap_34 rfl (lv_at hl 0 rfl) ?_
      refine m_getr (C := RX7) (T := TX7) (N := 13) (ci := 4) hx hb hts iwX7 hown hK hV t0 rfl 3 (by decide) rfl rfl hr_5 (hts _ tw_1_117) (fun _ h9 => h9) dX7_unwrap_35 ?_
      refine k_callv (va_runV (As := [.ref (X.2.1 r_10), .ref (ad r_1), .ref (ad r_5)]) (rest := []) ⟨hx, hb, hml, hown, hts⟩ (s_X1_unlockText l D X ad n A J hWT r_9 tr_9 r_10 tr_10 r_1 tr_1 r_5 tr_5 I_6 L_7 _ h) (cwV 3 hts (gV tw_2_219 tw_2_220 tw_2_221 tw_1_6 tw_2_222) rfl rfl rfl (by decide +kernel) (by decide)) (k_preV (ci := 0) hK hV hA hZ tr_9 rfl _) rfl rfl hl.1 rfl (lv_room (Nat.le_of_ble_eq_true rfl)) dX7_unwrap_38 ⟨Nat.zero_le _, Nat.zero_le _⟩) hV (fun I_11 L_12 H locs h hV => ?_)
      refine lv_aload_n hx hb dX7_unwrap_41 rfl (lv_at hl 0 rfl) ?_
      refine m_getr (C := RX7) (T := TX7) (N := 13) (ci := 4) hx hb hts iwX7 hown hK hV t0 rfl 9 (by decide) rfl rfl hr_9 (hts _ tw_1_123) (fun _ h9 => h9) dX7_unwrap_42 ?_
      refine lv_aload_n hx hb dX7_unwrap_45 rfl (lv_at hl 0 rfl) ?_
      refine m_gete (C := RX7) (T := TX7) (N := 13) (ci := 4) hx hb hts iwX7 hown hK hV t0 rfl 11 (by decide) rfl rfl hr_10 (hts _ tw_1_125) (fun _ h9 => h9) dX7_unwrap_46 ?_
      refine lv_aload_n hx hb dX7_unwrap_49 rfl (lv_at hl 0 rfl) ?_
      refine m_getr (C := RX7) (T := TX7) (N := 13) (ci := 4) hx hb hts iwX7 hown hK hV t0 rfl 2 (by decide) rfl rfl hr_1 (hts _ tw_1_116) (fun _ h9 => h9) dX7_unwrap_50 ?_
      refine lv_aload_n hx hb dX7_unwrap_53 rfl (lv_at hl 0 rfl) ?_
      refine m_gete (C := RX7) (T := TX7) (N := 13) (ci := 4) hx hb hts iwX7 hown hK hV t0 rfl 11 (by decide) rfl rfl hr_10 (hts _ tw_1_125) (fun _ h9 => h9) dX7_unwrap_54 ?_
      refine k_calli (va_runV (As := []) (rest := [.ref (ad r_1), .ref (X.2.1 r_10), .ref (ad r_9)]) ⟨hx, hb, hml, hown, hts⟩ (s_X2_innerLength l D X ad n A J hWT r_10 tr_10 I_11 L_12 _ h) (cwV 0 hts (gV tw_2_133 tw_2_121 tw_2_122 tw_1_8 tw_2_123) rfl rfl rfl (by decide +kernel) (by decide)) (k_preE hK hV hA hZ tr_10 _) rfl rfl hl.1 rfl (lv_room (Nat.le_of_ble_eq_true rfl)) dX7_unwrap_57 ⟨Nat.zero_le _, Nat.zero_le _⟩) hV (fun v_15 I_13 L_14 H locs h hV => ?_)
      refine lv_aload_n hx hb dX7_unwrap_60 rfl (lv_at hl 0 rfl) ?_
      refine m_geti (C := RX7) (T := TX7) (N := 13) (ci := 4) hx hb hts iwX7 hown hK hV t0 rfl 12 (by decide) rfl rfl (hts _ tw_1_126) (fun _ h9 => h9) dX7_unwrap_61 ?_
      refine k_calli (va_runV (As := [.ref (X.2.1 r_10), .ref (ad r_1), .int v_15, .int (I_13 x0 12)]) (rest := []) ⟨hx, hb, hml, hown, hts⟩ (s_X1_lockMessage l D X ad n A J hWT r_9 tr_9 r_10 tr_10 r_1 tr_1 v_15 (I_13 x0 12) I_13 L_14 _ h) (cwV 4 hts (gV tw_2_178 tw_2_179 tw_2_180 tw_1_6 tw_2_181) rfl rfl rfl (by decide +kernel) (by decide)) (k_preV (ci := 0) hK hV hA hZ tr_9 rfl _) rfl rfl hl.1 rfl (lv_room (Nat.le_of_ble_eq_true rfl)) dX7_unwrap_64 ⟨Nat.zero_le _, Nat.zero_le _⟩) hV (fun v_18 I_16 L_17 H locs h hV => ?_)
      refine lv_if_ne (tgt := 73) hx hb dX7_unwrap_67 (by decide) (fun hc => ?_) (fun hc => ?_)
      · replace h := h.1 hc
        refine lv_aload_n hx hb dX7_unwrap_73 rfl (lv_at hl 0 rfl) ?_
        obtain ⟨r_19, hr_19, h⟩ := h
        have tr_19 : Ty X n r_19 5 := hWT.r (c := 4) (j := 4) t0 rfl hr_19
        refine m_getr (C := RX7) (T := TX7) (N := 13) (ci := 4) hx hb hts iwX7 hown hK hV t0 rfl 4 (by decide) rfl rfl hr_19 (hts _ tw_1_118) (fun _ h9 => h9) dX7_unwrap_74 ?_
        refine k_callv (va_runV (As := []) (rest := []) ⟨hx, hb, hml, hown, hts⟩ (s_X4_clear l D X ad n A J hWT r_19 tr_19 I_16 L_17 _ h) (cwV 0 hts (gV tw_1_214 tw_1_215 tw_1_216 tw_1_2 tw_1_217) rfl rfl rfl (by decide +kernel) (by decide)) (k_preV (ci := 1) hK hV hA hZ tr_19 rfl _) rfl rfl hl.1 rfl (lv_room (Nat.le_of_ble_eq_true rfl)) dX7_unwrap_77 ⟨Nat.zero_le _, Nat.zero_le _⟩) hV (fun I_20 L_21 H locs h hV => ?_)
        refine lv_aload_n hx hb dX7_unwrap_80 rfl (lv_at hl 0 rfl) ?_
        refine m_getr (C := RX7) (T := TX7) (N := 13) (ci := 4) hx hb hts iwX7 hown hK hV t0 rfl 9 (by decide) rfl rfl hr_9 (hts _ tw_1_123) (fun _ h9 => h9) dX7_unwrap_81 ?_
        refine k_calle (va_runV (As := []) (rest := []) ⟨hx, hb, hml, hown, hts⟩ (s_X1_draft l D X ad n A J hWT r_9 tr_9 I_20 L_21 _ h) (cwV 0 hts (gV tw_2_129 tw_2_130 tw_2_131 tw_1_6 tw_2_132) rfl rfl rfl (by decide +kernel) (by decide)) (k_preV (ci := 0) hK hV hA hZ tr_9 rfl _) rfl rfl hl.1 rfl (lv_room (Nat.le_of_ble_eq_true rfl)) dX7_unwrap_84 ⟨Nat.zero_le _, Nat.zero_le _⟩) hV (fun o_24 I_22 L_23 H locs h ho_24 hV => ?_)
        obtain ⟨r_25, er_25, h⟩ := h
        have tr_25 : Ty X n r_25 5 := ho_24 _ er_25
        subst er_25
        refine lv_aload_n hx hb dX7_unwrap_87 rfl (lv_at hl 0 rfl) ?_
        refine m_getr (C := RX7) (T := TX7) (N := 13) (ci := 4) hx hb hts iwX7 hown hK hV t0 rfl 3 (by decide) rfl rfl hr_5 (hts _ tw_1_117) (fun _ h9 => h9) dX7_unwrap_88 ?_
        refine k_calli (va_runV (As := [.ref (ad r_5)]) (rest := []) ⟨hx, hb, hml, hown, hts⟩ (s_X4_sameAs l D X ad n A J hWT r_25 tr_25 r_5 tr_5 I_22 L_23 _ h) (cwV 1 hts (gV tw_2_223 tw_2_224 tw_2_225 tw_1_2 tw_2_226) rfl rfl rfl (by decide +kernel) (by decide)) (k_preV (ci := 1) hK hV hA hZ tr_25 rfl _) rfl rfl hl.1 rfl (lv_room (Nat.le_of_ble_eq_true rfl)) dX7_unwrap_91 ⟨Nat.zero_le _, Nat.zero_le _⟩) hV (fun v_28 I_26 L_27 H locs h hV => ?_)
        refine lv_if_eq (tgt := 116) hx hb dX7_unwrap_94 (by decide) (fun hc => ?_) (fun hc => ?_)
        · replace h := h.1 hc
          refine lv_aload_n hx hb dX7_unwrap_116 rfl (lv_at hl 0 rfl) ?_
          refine m_getr (C := RX7) (T := TX7) (N := 13) (ci := 4) hx hb hts iwX7 hown hK hV t0 rfl 9 (by decide) rfl rfl hr_9 (hts _ tw_1_123) (fun _ h9 => h9) dX7_unwrap_117 ?_
          refine lv_aload_n hx hb dX7_unwrap_120 rfl (lv_at hl 0 rfl) ?_
          refine m_gete (C := RX7) (T := TX7) (N := 13) (ci := 4) hx hb hts iwX7 hown hK hV t0 rfl 11 (by decide) rfl rfl hr_10 (hts _ tw_1_125) (fun _ h9 => h9) dX7_unwrap_121 ?_
          refine lv_aload_n hx hb dX7_unwrap_124 rfl (lv_at hl 0 rfl) ?_
          refine m_getr (C := RX7) (T := TX7) (N := 13) (ci := 4) hx hb hts iwX7 hown hK hV t0 rfl 2 (by decide) rfl rfl hr_1 (hts _ tw_1_116) (fun _ h9 => h9) dX7_unwrap_125 ?_
          refine lv_aload_n hx hb dX7_unwrap_128 rfl (lv_at hl 0 rfl) ?_
          refine m_getr (C := RX7) (T := TX7) (N := 13) (ci := 4) hx hb hts iwX7 hown hK hV t0 rfl 3 (by decide) rfl rfl hr_5 (hts _ tw_1_117) (fun _ h9 => h9) dX7_unwrap_129 ?_
          refine lv_aload_n hx hb dX7_unwrap_132 rfl (lv_at hl 0 rfl) ?_
          refine m_getr (C := RX7) (T := TX7) (N := 13) (ci := 4) hx hb hts iwX7 hown hK hV t0 rfl 4 (by decide) rfl rfl hr_19 (hts _ tw_1_118) (fun _ h9 => h9) dX7_unwrap_133 ?_
          refine k_callv (va_runV (As := [.ref (X.2.1 r_10), .ref (ad r_1), .ref (ad r_5), .ref (ad r_19)]) (rest := []) ⟨hx, hb, hml, hown, hts⟩ (s_X1_tellRefusal l D X ad n A J hWT r_9 tr_9 r_10 tr_10 r_1 tr_1 r_5 tr_5 r_19 tr_19 I_26 L_27 _ h) (cwV 4 hts (gV tw_2_228 tw_2_229 tw_2_230 tw_1_6 tw_2_231) rfl rfl rfl (by decide +kernel) (by decide)) (k_preV (ci := 0) hK hV hA hZ tr_9 rfl _) rfl rfl hl.1 rfl (lv_room (Nat.le_of_ble_eq_true rfl)) dX7_unwrap_136 ⟨Nat.zero_le _, Nat.zero_le _⟩) hV (fun I_29 L_30 H locs h hV => ?_)
          refine lv_iconst (v := 0) hx hb dX7_unwrap_139 (by decide) ?_
          exact m_iret hx hb hr hlk hK hZ hA hV h dX7_unwrap_140
        · replace h := h.2 hc
          refine lv_aload_n hx hb dX7_unwrap_97 rfl (lv_at hl 0 rfl) ?_
          refine m_getr (C := RX7) (T := TX7) (N := 13) (ci := 4) hx hb hts iwX7 hown hK hV t0 rfl 4 (by decide) rfl rfl hr_19 (hts _ tw_1_118) (fun _ h9 => h9) dX7_unwrap_98 ?_
          refine lv_aload_n hx hb dX7_unwrap_101 rfl (lv_at hl 0 rfl) ?_
          refine m_getr (C := RX7) (T := TX7) (N := 13) (ci := 4) hx hb hts iwX7 hown hK hV t0 rfl 9 (by decide) rfl rfl hr_9 (hts _ tw_1_123) (fun _ h9 => h9) dX7_unwrap_102 ?_
          refine k_calle (va_runV (As := []) (rest := [.ref (ad r_19)]) ⟨hx, hb, hml, hown, hts⟩ (s_X1_seeds l D X ad n A J hWT r_9 tr_9 I_26 L_27 _ h) (cwV 0 hts (gV tw_2_211 tw_2_212 tw_2_213 tw_1_6 tw_2_214) rfl rfl rfl (by decide +kernel) (by decide)) (k_preV (ci := 0) hK hV hA hZ tr_9 rfl _) rfl rfl hl.1 rfl (lv_room (Nat.le_of_ble_eq_true rfl)) dX7_unwrap_105 ⟨Nat.zero_le _, Nat.zero_le _⟩) hV (fun o_33 I_31 L_32 H locs h ho_33 hV => ?_)
          obtain ⟨r_34, er_34, h⟩ := h
          have tr_34 : Ty X n r_34 5 := ho_33 _ er_34
          subst er_34
          refine lv_iconst (v := 0) hx hb dX7_unwrap_108 (by decide) ?_
          refine lv_bipush (v := 32) hx hb dX7_unwrap_109 (by decide) ?_
          refine k_callv (va_runV (As := [.ref (ad r_34), .int 0, .int 32]) (rest := []) ⟨hx, hb, hml, hown, hts⟩ (s_X4_appendPart l D X ad n A J hWT r_19 tr_19 r_34 tr_34 0 32 I_31 L_32 _ h) (cwV 3 hts (gV tw_2_134 tw_2_116 tw_2_117 tw_1_2 tw_2_118) rfl rfl rfl (by decide +kernel) (by decide)) (k_preV (ci := 1) hK hV hA hZ tr_19 rfl _) rfl rfl hl.1 rfl (lv_room (Nat.le_of_ble_eq_true rfl)) dX7_unwrap_111 ⟨Nat.zero_le _, Nat.zero_le _⟩) hV (fun I_35 L_36 H locs h hV => ?_)
          refine lv_iconst (v := 1) hx hb dX7_unwrap_114 (by decide) ?_
          exact m_iret hx hb hr hlk hK hZ hA hV h dX7_unwrap_115
      · replace h := h.2 hc
        refine lv_bipush (v := (-2)) hx hb dX7_unwrap_70 (by decide) ?_
        exact m_iret hx hb hr hlk hK hZ hA hV h dX7_unwrap_72
    · replace h := h.2 hc
      refine lv_iconst (v := (-1)) hx hb dX7_unwrap_20 (by decide) ?_
      exact m_iret hx hb hr hlk hK hZ hA hV h dX7_unwrap_21
set_option maxHeartbeats 4000000 in
set_option maxRecDepth 100000 in
theorem n_X7_hashLength_38 {p : Program} {l : Launch} {e : Env} {s : State} {m : MethodId} {below : List Frame} {meth : Method} {c : Code} {D : va_G} {X : XT} {ad : Nat → Nat} {n : Nat} {A : Nat → Prop} {J : MJ} {av : List Value} {R : Room} (hR : R = ({ frames := 0, cells := 0, slots := 0, locals := 0 } : Room)) (C0 : Cx p s m meth c cX7_hashLength (some .int) 2 yX7_hashLength av D X ad n A J) {q : Int32 → MI → ML → Prop}  {x1 : Int32}  {I : MI} {L : ML} {H : Heap} {locs : List Loc} {ls : Array Slot} (h : wj_X7_hashLength_38 X J q  x1  I L) (hV : Wd D X ad n A s.heap J I L H locs) (hl : lv_has ls 2 [(1, .int x1)]) : W p l e R s m av.toArray below meth c H locs 0 0 (MQ below (QI D X ad n A J q) av.toArray s 0 0 A) (F0 m 38 ls []) := by
  obtain ⟨hx, hb, hr, hml, hown, hlk, hnm, hts, hK, hZ, hA, hWT⟩ := id C0
  subst hR
  unfold wj_X7_hashLength_38 at h
  refine lv_iload_n hx hb dX7_hashLength_38 rfl (lv_at hl 0 rfl) ?_
  refine lv_if_lt (tgt := 53) hx hb dX7_hashLength_39 (by decide) (fun hc => ?_) (fun hc => ?_)
  · replace h := h.1 hc
    refine lv_iconst (v := (-1)) hx hb dX7_hashLength_53 (by decide) ?_
    exact m_iret hx hb hr hlk hK hZ hA hV h dX7_hashLength_54
  · replace h := h.2 hc
    refine lv_iload_n hx hb dX7_hashLength_42 rfl (lv_at hl 0 rfl) ?_
    refine lv_sipush (v := 1000) hx hb dX7_hashLength_43 (by decide) ?_
    refine lv_icmp_gt (tgt := 53) hx hb dX7_hashLength_46 (by decide) (fun hc => ?_) (fun hc => ?_)
    · replace h := h.1 hc
      refine lv_iconst (v := (-1)) hx hb dX7_hashLength_53 (by decide) ?_
      exact m_iret hx hb hr hlk hK hZ hA hV h dX7_hashLength_54
    · replace h := h.2 hc
      refine lv_iload_n hx hb dX7_hashLength_49 rfl (lv_at hl 0 rfl) ?_
      refine lv_goto (tgt := 54) hx hb dX7_hashLength_50 (by decide) ?_
      exact m_iret hx hb hr hlk hK hZ hA hV h dX7_hashLength_54
set_option maxHeartbeats 4000000 in
set_option maxRecDepth 100000 in
theorem s_X7_hashLength (l : Launch) (D : va_G) (X : XT) (ad : Nat → Nat) (n : Nat) (A : Nat → Prop) (J : MJ) (hWT : WT X n J) (x0 : Int32) (x1 : Int32) (I : MI) (L : ML) (q : Int32 → MI → ML → Prop) (h : wp_X7_hashLength X J x0 x1 I L q) : Met l yX7_hashLength (wz yX7_hashLength cX7_hashLength 2 (some .int)) ({ frames := 0, cells := 0, slots := 0, locals := 0 } : Room) (va_Pc [.int x0, .int x1] (Pr D X ad n A J I L)) (QI D X ad n A J q) 0 0 A := by
  refine Met_go (by decide +kernel) (Nat.le_of_ble_eq_true rfl) (fun p e s m below meth c hx hb hr hml hown hlk hnm hts hK hZ hA hV ls hl => ?_)
  have C0 : Cx p s m meth c cX7_hashLength (some .int) 2 yX7_hashLength [.int x0, .int x1] D X ad n A J := ⟨hx, hb, hr, hml, hown, hlk, hnm, hts, hK, hZ, hA, hWT⟩
  unfold wp_X7_hashLength at h
  have hl : lv_has ls 2 [(0, .int x0), (1, .int x1)] := hl
  refine lv_iload_n hx hb dX7_hashLength_0 rfl (lv_at hl 0 rfl) ?_
  by_cases hsw : x0.toInt < 0 ∨ 3 < x0.toInt
  · replace h := h.1 hsw
    refine lv_tableOut (tgt := 55) hx hb dX7_hashLength_1 hsw (by decide) ?_
    refine lv_iconst (v := (-1)) hx hb dX7_hashLength_55 (by decide) ?_
    exact m_iret hx hb hr hlk hK hZ hA hV h dX7_hashLength_56
  · replace h := h.2
    obtain ⟨jsw, hjsw, ejsw⟩ := sw_in 0 3 (by decide) (by decide) (by decide) (fun z => hsw (Or.inl z)) (fun z => hsw (Or.inr z))
    rcases (show jsw = 0 ∨ jsw = 1 ∨ jsw = 2 ∨ jsw = 3 by omega) with rfl | rfl | rfl | rfl
    · replace h := h.1 ejsw
      refine lv_tableIn (off := 31) (tgt := 32) hx hb dX7_hashLength_1 (fun z => hsw (Or.inl z)) (fun z => hsw (Or.inr z)) (by rw [ejsw]; decide +kernel) (by decide) ?_
      refine lv_bipush (v := 32) hx hb dX7_hashLength_32 (by decide) ?_
      exact m_iret hx hb hr hlk hK hZ hA hV h dX7_hashLength_34
    · replace h := h.2.1 ejsw
      refine lv_tableIn (off := 34) (tgt := 35) hx hb dX7_hashLength_1 (fun z => hsw (Or.inl z)) (fun z => hsw (Or.inr z)) (by rw [ejsw]; decide +kernel) (by decide) ?_
      refine lv_bipush (v := 64) hx hb dX7_hashLength_35 (by decide) ?_
      exact m_iret hx hb hr hlk hK hZ hA hV h dX7_hashLength_37
    · replace h := h.2.2.1 ejsw
      refine lv_tableIn (off := 37) (tgt := 38) hx hb dX7_hashLength_1 (fun z => hsw (Or.inl z)) (fun z => hsw (Or.inr z)) (by rw [ejsw]; decide +kernel) (by decide) ?_
      exact n_X7_hashLength_38 rfl C0    h hV (lv_sub hl [1] rfl)
    · replace h := h.2.2.2 ejsw
      refine lv_tableIn (off := 37) (tgt := 38) hx hb dX7_hashLength_1 (fun z => hsw (Or.inl z)) (fun z => hsw (Or.inr z)) (by rw [ejsw]; decide +kernel) (by decide) ?_
      exact n_X7_hashLength_38 rfl C0    h hV (lv_sub hl [1] rfl)
set_option maxHeartbeats 4000000 in
set_option maxRecDepth 100000 in
theorem s_X7_hash (l : Launch) (D : va_G) (X : XT) (ad : Nat → Nat) (n : Nat) (A : Nat → Prop) (J : MJ) (hWT : WT X n J) (x0 : Nat) (t0 : Ty X n x0 8) (x1 : Int32) (x2 : Int32) (I : MI) (L : ML) (q : Int32 → MI → ML → Prop) (h : wp_X7_hash X J x0 x1 x2 I L q) : Met l yX7_hash (wz yX7_hash cX7_hash 4 (some .int)) ({ frames := 3, cells := 0, slots := 0, locals := 100 } : Room) (va_Pc [.ref (ad x0), .int x1, .int x2] (Pr D X ad n A J I L)) (QI D X ad n A J q) 0 0 A := by
  refine Met_go (by decide +kernel) (Nat.le_of_ble_eq_true rfl) (fun p e s m below meth c hx hb hr hml hown hlk hnm hts hK hZ hA hV ls hl => ?_)
  have C0 : Cx p s m meth c cX7_hash (some .int) 4 yX7_hash [.ref (ad x0), .int x1, .int x2] D X ad n A J := ⟨hx, hb, hr, hml, hown, hlk, hnm, hts, hK, hZ, hA, hWT⟩
  unfold wp_X7_hash at h
  have hl : lv_has ls 4 [(0, .ref (ad x0)), (1, .int x1), (2, .int x2)] := hl
  refine lv_iload_n hx hb dX7_hash_0 rfl (lv_at hl 1 rfl) ?_
  refine lv_iload_n hx hb dX7_hash_1 rfl (lv_at hl 2 rfl) ?_
  refine k_calli (va_runS (As := [.int x1, .int x2]) (rest := []) ⟨hx, hb, hml, hown, hts⟩ (s_X7_hashLength l D X ad n A J hWT x1 x2 I L _ h) (va_cwS 2 hts (gS tw_2_238 tw_2_239 tw_1_1 tw_3_0) rfl rfl rfl (by decide +kernel) (by decide)) (k_preS hK hV hA hZ _) rfl rfl hl.1 rfl (lv_room (Nat.le_of_ble_eq_true rfl)) dX7_hash_2 ⟨Nat.zero_le _, Nat.zero_le _⟩) hV (fun v_3 I_1 L_2 H locs h hV => ?_)
  refine lv_istore_n (lv' := [(3, .int v_3), (0, .ref (ad x0)), (1, .int x1), (2, .int x2)]) hx hb dX7_hash_5 rfl hl (by decide) rfl (fun ls hl => ?_)
  refine lv_iload_n hx hb dX7_hash_6 rfl (lv_at hl 0 rfl) ?_
  refine lv_iconst (v := (-1)) hx hb dX7_hash_7 (by decide) ?_
  refine lv_icmp_ne (tgt := 13) hx hb dX7_hash_8 (by decide) (fun hc => ?_) (fun hc => ?_)
  · replace h := h.1 hc
    refine lv_aload_n hx hb dX7_hash_13 rfl (lv_at hl 1 rfl) ?_
    obtain ⟨r_4, hr_4, h⟩ := h
    have tr_4 : Ty X n r_4 7 := hWT.r (c := 4) (j := 7) t0 rfl hr_4
    refine m_getr (C := RX7) (T := TX7) (N := 13) (ci := 4) hx hb hts iwX7 hown hK hV t0 rfl 7 (by decide) rfl rfl hr_4 (hts _ tw_1_121) (fun _ h9 => h9) dX7_hash_14 ?_
    refine lv_iload_n hx hb dX7_hash_17 rfl (lv_at hl 2 rfl) ?_
    refine k_callv (va_runV (As := [.int x1]) (rest := []) ⟨hx, hb, hml, hown, hts⟩ (s_X6_begin l D X ad n A J hWT r_4 tr_4 x1 I_1 L_2 _ h) (cwV 1 hts (gV tw_3_1 tw_2_7 tw_2_8 tw_1_4 tw_2_9) rfl rfl rfl (by decide +kernel) (by decide)) (k_preV (ci := 3) hK hV hA hZ tr_4 rfl _) rfl rfl hl.1 rfl (lv_room (Nat.le_of_ble_eq_true rfl)) dX7_hash_18 ⟨Nat.zero_le _, Nat.zero_le _⟩) hV (fun I_5 L_6 H locs h hV => ?_)
    refine lv_aload_n hx hb dX7_hash_21 rfl (lv_at hl 1 rfl) ?_
    refine m_getr (C := RX7) (T := TX7) (N := 13) (ci := 4) hx hb hts iwX7 hown hK hV t0 rfl 7 (by decide) rfl rfl hr_4 (hts _ tw_1_121) (fun _ h9 => h9) dX7_hash_22 ?_
    refine lv_aload_n hx hb dX7_hash_25 rfl (lv_at hl 1 rfl) ?_
    obtain ⟨r_7, hr_7, h⟩ := h
    have tr_7 : Ty X n r_7 5 := hWT.r (c := 4) (j := 0) t0 rfl hr_7
    refine m_getr (C := RX7) (T := TX7) (N := 13) (ci := 4) hx hb hts iwX7 hown hK hV t0 rfl 0 (by decide) rfl rfl hr_7 (hts _ tw_1_114) (fun _ h9 => h9) dX7_hash_26 ?_
    refine lv_iconst (v := 0) hx hb dX7_hash_29 (by decide) ?_
    refine lv_aload_n hx hb dX7_hash_30 rfl (lv_at hl 1 rfl) ?_
    refine m_getr (C := RX7) (T := TX7) (N := 13) (ci := 4) hx hb hts iwX7 hown hK hV t0 rfl 0 (by decide) rfl rfl hr_7 (hts _ tw_1_114) (fun _ h9 => h9) dX7_hash_31 ?_
    refine k_calli (va_runV (As := []) (rest := [.int 0, .ref (ad r_7), .ref (ad r_4)]) ⟨hx, hb, hml, hown, hts⟩ (s_X4_size l D X ad n A J hWT r_7 tr_7 I_5 L_6 _ h) (cwV 0 hts (gV tw_1_158 tw_1_159 tw_1_160 tw_1_2 tw_1_161) rfl rfl rfl (by decide +kernel) (by decide)) (k_preV (ci := 1) hK hV hA hZ tr_7 rfl _) rfl rfl hl.1 rfl (lv_room (Nat.le_of_ble_eq_true rfl)) dX7_hash_34 ⟨Nat.zero_le _, Nat.zero_le _⟩) hV (fun v_10 I_8 L_9 H locs h hV => ?_)
    refine k_callv (va_runV (As := [.ref (ad r_7), .int 0, .int v_10]) (rest := []) ⟨hx, hb, hml, hown, hts⟩ (s_X6_absorb l D X ad n A J hWT r_4 tr_4 r_7 tr_7 0 v_10 I_8 L_9 _ h) (cwV 3 hts (gV tw_3_2 tw_2_16 tw_2_17 tw_1_4 tw_2_18) rfl rfl rfl (by decide +kernel) (by decide)) (k_preV (ci := 3) hK hV hA hZ tr_4 rfl _) rfl rfl hl.1 rfl (lv_room (Nat.le_of_ble_eq_true rfl)) dX7_hash_37 ⟨Nat.zero_le _, Nat.zero_le _⟩) hV (fun I_11 L_12 H locs h hV => ?_)
    refine lv_aload_n hx hb dX7_hash_40 rfl (lv_at hl 1 rfl) ?_
    refine m_getr (C := RX7) (T := TX7) (N := 13) (ci := 4) hx hb hts iwX7 hown hK hV t0 rfl 7 (by decide) rfl rfl hr_4 (hts _ tw_1_121) (fun _ h9 => h9) dX7_hash_41 ?_
    refine k_callv (va_runV (As := []) (rest := []) ⟨hx, hb, hml, hown, hts⟩ (s_X6_finish l D X ad n A J hWT r_4 tr_4 I_11 L_12 _ h) (cwV 0 hts (gV tw_3_3 tw_2_45 tw_2_46 tw_1_4 tw_2_47) rfl rfl rfl (by decide +kernel) (by decide)) (k_preV (ci := 3) hK hV hA hZ tr_4 rfl _) rfl rfl hl.1 rfl (lv_room (Nat.le_of_ble_eq_true rfl)) dX7_hash_44 ⟨Nat.zero_le _, Nat.zero_le _⟩) hV (fun I_13 L_14 H locs h hV => ?_)
    refine lv_aload_n hx hb dX7_hash_47 rfl (lv_at hl 1 rfl) ?_
    obtain ⟨r_15, hr_15, h⟩ := h
    have tr_15 : Ty X n r_15 5 := hWT.r (c := 4) (j := 5) t0 rfl hr_15
    refine m_getr (C := RX7) (T := TX7) (N := 13) (ci := 4) hx hb hts iwX7 hown hK hV t0 rfl 5 (by decide) rfl rfl hr_15 (hts _ tw_1_119) (fun _ h9 => h9) dX7_hash_48 ?_
    refine k_callv (va_runV (As := []) (rest := []) ⟨hx, hb, hml, hown, hts⟩ (s_X4_clear l D X ad n A J hWT r_15 tr_15 I_13 L_14 _ h) (cwV 0 hts (gV tw_1_214 tw_1_215 tw_1_216 tw_1_2 tw_1_217) rfl rfl rfl (by decide +kernel) (by decide)) (k_preV (ci := 1) hK hV hA hZ tr_15 rfl _) rfl rfl hl.1 rfl (lv_room (Nat.le_of_ble_eq_true rfl)) dX7_hash_51 ⟨Nat.zero_le _, Nat.zero_le _⟩) hV (fun I_16 L_17 H locs h hV => ?_)
    refine lv_aload_n hx hb dX7_hash_54 rfl (lv_at hl 1 rfl) ?_
    refine m_getr (C := RX7) (T := TX7) (N := 13) (ci := 4) hx hb hts iwX7 hown hK hV t0 rfl 7 (by decide) rfl rfl hr_4 (hts _ tw_1_121) (fun _ h9 => h9) dX7_hash_55 ?_
    refine lv_aload_n hx hb dX7_hash_58 rfl (lv_at hl 1 rfl) ?_
    refine m_getr (C := RX7) (T := TX7) (N := 13) (ci := 4) hx hb hts iwX7 hown hK hV t0 rfl 5 (by decide) rfl rfl hr_15 (hts _ tw_1_119) (fun _ h9 => h9) dX7_hash_59 ?_
    refine lv_iload_n hx hb dX7_hash_62 rfl (lv_at hl 0 rfl) ?_
    refine k_callv (va_runV (As := [.ref (ad r_15), .int v_3]) (rest := []) ⟨hx, hb, hml, hown, hts⟩ (s_X6_tellTo l D X ad n A J hWT r_4 tr_4 r_15 tr_15 v_3 I_16 L_17 _ h) (cwV 2 hts (gV tw_3_4 tw_2_50 tw_2_51 tw_1_4 tw_2_52) rfl rfl rfl (by decide +kernel) (by decide)) (k_preV (ci := 3) hK hV hA hZ tr_4 rfl _) rfl rfl hl.1 rfl (lv_room (Nat.le_of_ble_eq_true rfl)) dX7_hash_63 ⟨Nat.zero_le _, Nat.zero_le _⟩) hV (fun I_18 L_19 H locs h hV => ?_)
    refine lv_aload_n hx hb dX7_hash_66 rfl (lv_at hl 1 rfl) ?_
    refine m_getr (C := RX7) (T := TX7) (N := 13) (ci := 4) hx hb hts iwX7 hown hK hV t0 rfl 0 (by decide) rfl rfl hr_7 (hts _ tw_1_114) (fun _ h9 => h9) dX7_hash_67 ?_
    refine k_callv (va_runV (As := []) (rest := []) ⟨hx, hb, hml, hown, hts⟩ (s_X4_clear l D X ad n A J hWT r_7 tr_7 I_18 L_19 _ h) (cwV 0 hts (gV tw_1_214 tw_1_215 tw_1_216 tw_1_2 tw_1_217) rfl rfl rfl (by decide +kernel) (by decide)) (k_preV (ci := 1) hK hV hA hZ tr_7 rfl _) rfl rfl hl.1 rfl (lv_room (Nat.le_of_ble_eq_true rfl)) dX7_hash_70 ⟨Nat.zero_le _, Nat.zero_le _⟩) hV (fun I_20 L_21 H locs h hV => ?_)
    refine lv_iload_n hx hb dX7_hash_73 rfl (lv_at hl 0 rfl) ?_
    exact m_iret hx hb hr hlk hK hZ hA hV h dX7_hash_74
  · replace h := h.2 hc
    refine lv_iconst (v := (-1)) hx hb dX7_hash_11 (by decide) ?_
    exact m_iret hx hb hr hlk hK hZ hA hV h dX7_hash_12
set_option maxHeartbeats 4000000 in
set_option maxRecDepth 100000 in
theorem s_X7_isPolynomial (l : Launch) (D : va_G) (X : XT) (ad : Nat → Nat) (n : Nat) (A : Nat → Prop) (J : MJ) (hWT : WT X n J) (x0 : Int32) (I : MI) (L : ML) (q : Int32 → MI → ML → Prop) (h : wp_X7_isPolynomial X J x0 I L q) : Met l yX7_isPolynomial (wz yX7_isPolynomial cX7_isPolynomial 1 (some .boolean)) ({ frames := 0, cells := 0, slots := 0, locals := 0 } : Room) (va_Pc [.int x0] (Pr D X ad n A J I L)) (QI D X ad n A J q) 0 0 A := by
  refine Met_go (by decide +kernel) (Nat.le_of_ble_eq_true rfl) (fun p e s m below meth c hx hb hr hml hown hlk hnm hts hK hZ hA hV ls hl => ?_)
  have C0 : Cx p s m meth c cX7_isPolynomial (some .boolean) 1 yX7_isPolynomial [.int x0] D X ad n A J := ⟨hx, hb, hr, hml, hown, hlk, hnm, hts, hK, hZ, hA, hWT⟩
  unfold wp_X7_isPolynomial at h
  have hl : lv_has ls 1 [(0, .int x0)] := hl
  refine lv_iload_n hx hb dX7_isPolynomial_0 rfl (lv_at hl 0 rfl) ?_
  refine lv_if_lt (tgt := 13) hx hb dX7_isPolynomial_1 (by decide) (fun hc => ?_) (fun hc => ?_)
  · replace h := h.1 hc
    refine lv_iconst (v := 0) hx hb dX7_isPolynomial_13 (by decide) ?_
    exact m_zret hx hb hr hlk hK hZ hA hV (by decide) h dX7_isPolynomial_14
  · replace h := h.2 hc
    refine lv_iload_n hx hb dX7_isPolynomial_4 rfl (lv_at hl 0 rfl) ?_
    refine lv_iconst (v := 4) hx hb dX7_isPolynomial_5 (by decide) ?_
    refine lv_icmp_ge (tgt := 13) hx hb dX7_isPolynomial_6 (by decide) (fun hc => ?_) (fun hc => ?_)
    · replace h := h.1 hc
      refine lv_iconst (v := 0) hx hb dX7_isPolynomial_13 (by decide) ?_
      exact m_zret hx hb hr hlk hK hZ hA hV (by decide) h dX7_isPolynomial_14
    · replace h := h.2 hc
      refine lv_iconst (v := 1) hx hb dX7_isPolynomial_9 (by decide) ?_
      refine lv_goto (tgt := 14) hx hb dX7_isPolynomial_10 (by decide) ?_
      exact m_zret hx hb hr hlk hK hZ hA hV (by decide) h dX7_isPolynomial_14
set_option maxHeartbeats 4000000 in
set_option maxRecDepth 100000 in
theorem s_X7_put (l : Launch) (D : va_G) (X : XT) (ad : Nat → Nat) (n : Nat) (A : Nat → Prop) (J : MJ) (hWT : WT X n J) (x0 : Nat) (t0 : Ty X n x0 8) (x1 : Int32) (x2 : Int32) (x3 : Int32) (I : MI) (L : ML) (q : Int32 → MI → ML → Prop) (h : wp_X7_put X J x0 x1 x2 x3 I L q) : Met l yX7_put (wz yX7_put cX7_put 4 (some .int)) ({ frames := 1, cells := 0, slots := 0, locals := 22 } : Room) (va_Pc [.ref (ad x0), .int x1, .int x2, .int x3] (Pr D X ad n A J I L)) (QI D X ad n A J q) 0 0 A := by
  refine Met_go (by decide +kernel) (Nat.le_of_ble_eq_true rfl) (fun p e s m below meth c hx hb hr hml hown hlk hnm hts hK hZ hA hV ls hl => ?_)
  have C0 : Cx p s m meth c cX7_put (some .int) 4 yX7_put [.ref (ad x0), .int x1, .int x2, .int x3] D X ad n A J := ⟨hx, hb, hr, hml, hown, hlk, hnm, hts, hK, hZ, hA, hWT⟩
  unfold wp_X7_put at h
  have hl : lv_has ls 4 [(0, .ref (ad x0)), (1, .int x1), (2, .int x2), (3, .int x3)] := hl
  refine lv_iload_n hx hb dX7_put_0 rfl (lv_at hl 1 rfl) ?_
  refine k_calli (va_runS (As := [.int x1]) (rest := []) ⟨hx, hb, hml, hown, hts⟩ (s_X7_isPolynomial l D X ad n A J hWT x1 I L _ h) (va_cwS 1 hts (gS tw_3_9 tw_3_10 tw_1_1 tw_3_11) rfl rfl rfl (by decide +kernel) (by decide)) (k_preS hK hV hA hZ _) rfl rfl hl.1 rfl (lv_room (Nat.le_of_ble_eq_true rfl)) dX7_put_1 ⟨Nat.zero_le _, Nat.zero_le _⟩) hV (fun v_3 I_1 L_2 H locs h hV => ?_)
  refine lv_if_eq (tgt := 18) hx hb dX7_put_4 (by decide) (fun hc => ?_) (fun hc => ?_)
  · replace h := h.1 hc
    refine lv_iconst (v := (-1)) hx hb dX7_put_18 (by decide) ?_
    exact m_iret hx hb hr hlk hK hZ hA hV h dX7_put_19
  · replace h := h.2 hc
    refine lv_iload_n hx hb dX7_put_7 rfl (lv_at hl 2 rfl) ?_
    refine lv_if_lt (tgt := 18) hx hb dX7_put_8 (by decide) (fun hc => ?_) (fun hc => ?_)
    · replace h := h.1 hc
      refine lv_iconst (v := (-1)) hx hb dX7_put_18 (by decide) ?_
      exact m_iret hx hb hr hlk hK hZ hA hV h dX7_put_19
    · replace h := h.2 hc
      refine lv_iload_n hx hb dX7_put_11 rfl (lv_at hl 2 rfl) ?_
      refine lv_sipush (v := 256) hx hb dX7_put_12 (by decide) ?_
      refine lv_icmp_lt (tgt := 20) hx hb dX7_put_15 (by decide) (fun hc => ?_) (fun hc => ?_)
      · replace h := h.1 hc
        refine lv_aload_n hx hb dX7_put_20 rfl (lv_at hl 0 rfl) ?_
        obtain ⟨r_4, hr_4, h⟩ := h
        have tr_4 : Ty X n r_4 3 := hWT.r (c := 4) (j := 6) t0 rfl hr_4
        refine m_getr (C := RX7) (T := TX7) (N := 13) (ci := 4) hx hb hts iwX7 hown hK hV t0 rfl 6 (by decide) rfl rfl hr_4 (hts _ tw_1_120) (fun _ h9 => h9) dX7_put_21 ?_
        refine lv_iload_n hx hb dX7_put_24 rfl (lv_at hl 1 rfl) ?_
        obtain ⟨hi_5, r_6, hr_6, h⟩ := h
        have tr_6 : Ty X n r_6 0 := hWT.a tr_4 hr_6
        refine m_aald hx hb hK hV tr_4 hi_5 hr_6 dX7_put_25 ?_
        refine lv_iload_n hx hb dX7_put_26 rfl (lv_at hl 2 rfl) ?_
        refine lv_iload_n hx hb dX7_put_27 rfl (lv_at hl 3 rfl) ?_
        refine lv_sipush (v := 3329) hx hb dX7_put_28 (by decide) ?_
        refine k_calli (va_runS (As := [.int x3, .int 3329]) (rest := [.int x2, .ref (ad r_6)]) ⟨hx, hb, hml, hown, hts⟩ (s_J9_floorMod_7cf53 l D X ad n A J hWT x3 3329 I_1 L_2 _ h) (va_cwS 2 hts (gS tw_3_12 tw_3_13 tw_1_3 tw_3_14) rfl rfl rfl (by decide +kernel) (by decide)) (k_preS hK hV hA hZ _) rfl rfl hl.1 rfl (lv_room (Nat.le_of_ble_eq_true rfl)) dX7_put_31 ⟨Nat.zero_le _, Nat.zero_le _⟩) hV (fun v_9 I_7 L_8 H locs h hV => ?_)
        obtain ⟨hi_10, h⟩ := h
        refine m_iast hx hb hK hV tr_6 hi_10 dX7_put_34 (fun H locs hV => ?_)
        obtain ⟨I_11, eI_11⟩ : ∃ y, y = ms I_7 r_6 x2.toNatClampNeg v_9 := ⟨_, rfl⟩
        replace hV : Wd D X ad n A s.heap J I_11 L_8 H locs := by rw [eI_11]; exact hV
        replace h := h I_11 eI_11
        refine lv_aload_n hx hb dX7_put_35 rfl (lv_at hl 0 rfl) ?_
        refine m_getr (C := RX7) (T := TX7) (N := 13) (ci := 4) hx hb hts iwX7 hown hK hV t0 rfl 6 (by decide) rfl rfl hr_4 (hts _ tw_1_120) (fun _ h9 => h9) dX7_put_36 ?_
        refine lv_iload_n hx hb dX7_put_39 rfl (lv_at hl 1 rfl) ?_
        obtain ⟨hi_12, r_13, hr_13, h⟩ := h
        have tr_13 : Ty X n r_13 0 := hWT.a tr_4 hr_13
        refine m_aald hx hb hK hV tr_4 hi_12 hr_13 dX7_put_40 ?_
        refine lv_iload_n hx hb dX7_put_41 rfl (lv_at hl 2 rfl) ?_
        obtain ⟨hi_14, h⟩ := h
        refine m_iald hx hb hK hV tr_13 hi_14 dX7_put_42 ?_
        exact m_iret hx hb hr hlk hK hZ hA hV h dX7_put_43
      · replace h := h.2 hc
        refine lv_iconst (v := (-1)) hx hb dX7_put_18 (by decide) ?_
        exact m_iret hx hb hr hlk hK hZ hA hV h dX7_put_19
set_option maxHeartbeats 4000000 in
set_option maxRecDepth 100000 in
theorem s_X7_number (l : Launch) (D : va_G) (X : XT) (ad : Nat → Nat) (n : Nat) (A : Nat → Prop) (J : MJ) (hWT : WT X n J) (x0 : Nat) (t0 : Ty X n x0 8) (x1 : Int32) (x2 : Int32) (I : MI) (L : ML) (q : Int32 → MI → ML → Prop) (h : wp_X7_number X J x0 x1 x2 I L q) : Met l yX7_number (wz yX7_number cX7_number 3 (some .int)) ({ frames := 1, cells := 0, slots := 0, locals := 20 } : Room) (va_Pc [.ref (ad x0), .int x1, .int x2] (Pr D X ad n A J I L)) (QI D X ad n A J q) 0 0 A := by
  refine Met_go (by decide +kernel) (Nat.le_of_ble_eq_true rfl) (fun p e s m below meth c hx hb hr hml hown hlk hnm hts hK hZ hA hV ls hl => ?_)
  have C0 : Cx p s m meth c cX7_number (some .int) 3 yX7_number [.ref (ad x0), .int x1, .int x2] D X ad n A J := ⟨hx, hb, hr, hml, hown, hlk, hnm, hts, hK, hZ, hA, hWT⟩
  unfold wp_X7_number at h
  have hl : lv_has ls 3 [(0, .ref (ad x0)), (1, .int x1), (2, .int x2)] := hl
  refine lv_iload_n hx hb dX7_number_0 rfl (lv_at hl 1 rfl) ?_
  refine k_calli (va_runS (As := [.int x1]) (rest := []) ⟨hx, hb, hml, hown, hts⟩ (s_X7_isPolynomial l D X ad n A J hWT x1 I L _ h) (va_cwS 1 hts (gS tw_3_9 tw_3_10 tw_1_1 tw_3_11) rfl rfl rfl (by decide +kernel) (by decide)) (k_preS hK hV hA hZ _) rfl rfl hl.1 rfl (lv_room (Nat.le_of_ble_eq_true rfl)) dX7_number_1 ⟨Nat.zero_le _, Nat.zero_le _⟩) hV (fun v_3 I_1 L_2 H locs h hV => ?_)
  refine lv_if_eq (tgt := 18) hx hb dX7_number_4 (by decide) (fun hc => ?_) (fun hc => ?_)
  · replace h := h.1 hc
    refine lv_iconst (v := (-1)) hx hb dX7_number_18 (by decide) ?_
    exact m_iret hx hb hr hlk hK hZ hA hV h dX7_number_19
  · replace h := h.2 hc
    refine lv_iload_n hx hb dX7_number_7 rfl (lv_at hl 2 rfl) ?_
    refine lv_if_lt (tgt := 18) hx hb dX7_number_8 (by decide) (fun hc => ?_) (fun hc => ?_)
    · replace h := h.1 hc
      refine lv_iconst (v := (-1)) hx hb dX7_number_18 (by decide) ?_
      exact m_iret hx hb hr hlk hK hZ hA hV h dX7_number_19
    · replace h := h.2 hc
      refine lv_iload_n hx hb dX7_number_11 rfl (lv_at hl 2 rfl) ?_
      refine lv_sipush (v := 256) hx hb dX7_number_12 (by decide) ?_
      refine lv_icmp_lt (tgt := 20) hx hb dX7_number_15 (by decide) (fun hc => ?_) (fun hc => ?_)
      · replace h := h.1 hc
        refine lv_aload_n hx hb dX7_number_20 rfl (lv_at hl 0 rfl) ?_
        obtain ⟨r_4, hr_4, h⟩ := h
        have tr_4 : Ty X n r_4 3 := hWT.r (c := 4) (j := 6) t0 rfl hr_4
        refine m_getr (C := RX7) (T := TX7) (N := 13) (ci := 4) hx hb hts iwX7 hown hK hV t0 rfl 6 (by decide) rfl rfl hr_4 (hts _ tw_1_120) (fun _ h9 => h9) dX7_number_21 ?_
        refine lv_iload_n hx hb dX7_number_24 rfl (lv_at hl 1 rfl) ?_
        obtain ⟨hi_5, r_6, hr_6, h⟩ := h
        have tr_6 : Ty X n r_6 0 := hWT.a tr_4 hr_6
        refine m_aald hx hb hK hV tr_4 hi_5 hr_6 dX7_number_25 ?_
        refine lv_iload_n hx hb dX7_number_26 rfl (lv_at hl 2 rfl) ?_
        obtain ⟨hi_7, h⟩ := h
        refine m_iald hx hb hK hV tr_6 hi_7 dX7_number_27 ?_
        exact m_iret hx hb hr hlk hK hZ hA hV h dX7_number_28
      · replace h := h.2 hc
        refine lv_iconst (v := (-1)) hx hb dX7_number_18 (by decide) ?_
        exact m_iret hx hb hr hlk hK hZ hA hV h dX7_number_19
set_option maxHeartbeats 4000000 in
set_option maxRecDepth 100000 in
theorem s_X7_forward (l : Launch) (D : va_G) (X : XT) (ad : Nat → Nat) (n : Nat) (A : Nat → Prop) (J : MJ) (hWT : WT X n J) (x0 : Nat) (t0 : Ty X n x0 8) (x1 : Int32) (I : MI) (L : ML) (q : Int32 → MI → ML → Prop) (h : wp_X7_forward X J x0 x1 I L q) : Met l yX7_forward (wz yX7_forward cX7_forward 2 (some .boolean)) ({ frames := 2, cells := 0, slots := 0, locals := 49 } : Room) (va_Pc [.ref (ad x0), .int x1] (Pr D X ad n A J I L)) (QI D X ad n A J q) 0 0 A := by
  refine Met_go (by decide +kernel) (Nat.le_of_ble_eq_true rfl) (fun p e s m below meth c hx hb hr hml hown hlk hnm hts hK hZ hA hV ls hl => ?_)
  have C0 : Cx p s m meth c cX7_forward (some .boolean) 2 yX7_forward [.ref (ad x0), .int x1] D X ad n A J := ⟨hx, hb, hr, hml, hown, hlk, hnm, hts, hK, hZ, hA, hWT⟩
  unfold wp_X7_forward at h
  have hl : lv_has ls 2 [(0, .ref (ad x0)), (1, .int x1)] := hl
  refine lv_iload_n hx hb dX7_forward_0 rfl (lv_at hl 1 rfl) ?_
  refine k_calli (va_runS (As := [.int x1]) (rest := []) ⟨hx, hb, hml, hown, hts⟩ (s_X7_isPolynomial l D X ad n A J hWT x1 I L _ h) (va_cwS 1 hts (gS tw_3_9 tw_3_10 tw_1_1 tw_3_11) rfl rfl rfl (by decide +kernel) (by decide)) (k_preS hK hV hA hZ _) rfl rfl hl.1 rfl (lv_room (Nat.le_of_ble_eq_true rfl)) dX7_forward_1 ⟨Nat.zero_le _, Nat.zero_le _⟩) hV (fun v_3 I_1 L_2 H locs h hV => ?_)
  refine lv_if_ne (tgt := 9) hx hb dX7_forward_4 (by decide) (fun hc => ?_) (fun hc => ?_)
  · replace h := h.1 hc
    refine lv_aload_n hx hb dX7_forward_9 rfl (lv_at hl 0 rfl) ?_
    obtain ⟨r_4, hr_4, h⟩ := h
    have tr_4 : Ty X n r_4 3 := hWT.r (c := 4) (j := 6) t0 rfl hr_4
    refine m_getr (C := RX7) (T := TX7) (N := 13) (ci := 4) hx hb hts iwX7 hown hK hV t0 rfl 6 (by decide) rfl rfl hr_4 (hts _ tw_1_120) (fun _ h9 => h9) dX7_forward_10 ?_
    refine lv_iload_n hx hb dX7_forward_13 rfl (lv_at hl 1 rfl) ?_
    obtain ⟨hi_5, r_6, hr_6, h⟩ := h
    have tr_6 : Ty X n r_6 0 := hWT.a tr_4 hr_6
    refine m_aald hx hb hK hV tr_4 hi_5 hr_6 dX7_forward_14 ?_
    refine k_callv (va_runS (As := [.ref (ad r_6)]) (rest := []) ⟨hx, hb, hml, hown, hts⟩ (s_X3_toPairs l D X ad n A J hWT r_6 tr_6 I_1 L_2 _ h) (va_cwS 1 hts (gS tw_3_23 tw_2_78 tw_1_13 tw_2_79) rfl rfl rfl (by decide +kernel) (by decide)) (k_preS hK hV hA hZ _) rfl rfl hl.1 rfl (lv_room (Nat.le_of_ble_eq_true rfl)) dX7_forward_15 ⟨Nat.zero_le _, Nat.zero_le _⟩) hV (fun I_7 L_8 H locs h hV => ?_)
    refine lv_iconst (v := 1) hx hb dX7_forward_18 (by decide) ?_
    exact m_zret hx hb hr hlk hK hZ hA hV (by decide) h dX7_forward_19
  · replace h := h.2 hc
    refine lv_iconst (v := 0) hx hb dX7_forward_7 (by decide) ?_
    exact m_zret hx hb hr hlk hK hZ hA hV (by decide) h dX7_forward_8
set_option maxHeartbeats 4000000 in
set_option maxRecDepth 100000 in
theorem s_X7_back (l : Launch) (D : va_G) (X : XT) (ad : Nat → Nat) (n : Nat) (A : Nat → Prop) (J : MJ) (hWT : WT X n J) (x0 : Nat) (t0 : Ty X n x0 8) (x1 : Int32) (I : MI) (L : ML) (q : Int32 → MI → ML → Prop) (h : wp_X7_back X J x0 x1 I L q) : Met l yX7_back (wz yX7_back cX7_back 2 (some .boolean)) ({ frames := 2, cells := 0, slots := 0, locals := 49 } : Room) (va_Pc [.ref (ad x0), .int x1] (Pr D X ad n A J I L)) (QI D X ad n A J q) 0 0 A := by
  refine Met_go (by decide +kernel) (Nat.le_of_ble_eq_true rfl) (fun p e s m below meth c hx hb hr hml hown hlk hnm hts hK hZ hA hV ls hl => ?_)
  have C0 : Cx p s m meth c cX7_back (some .boolean) 2 yX7_back [.ref (ad x0), .int x1] D X ad n A J := ⟨hx, hb, hr, hml, hown, hlk, hnm, hts, hK, hZ, hA, hWT⟩
  unfold wp_X7_back at h
  have hl : lv_has ls 2 [(0, .ref (ad x0)), (1, .int x1)] := hl
  refine lv_iload_n hx hb dX7_back_0 rfl (lv_at hl 1 rfl) ?_
  refine k_calli (va_runS (As := [.int x1]) (rest := []) ⟨hx, hb, hml, hown, hts⟩ (s_X7_isPolynomial l D X ad n A J hWT x1 I L _ h) (va_cwS 1 hts (gS tw_3_9 tw_3_10 tw_1_1 tw_3_11) rfl rfl rfl (by decide +kernel) (by decide)) (k_preS hK hV hA hZ _) rfl rfl hl.1 rfl (lv_room (Nat.le_of_ble_eq_true rfl)) dX7_back_1 ⟨Nat.zero_le _, Nat.zero_le _⟩) hV (fun v_3 I_1 L_2 H locs h hV => ?_)
  refine lv_if_ne (tgt := 9) hx hb dX7_back_4 (by decide) (fun hc => ?_) (fun hc => ?_)
  · replace h := h.1 hc
    refine lv_aload_n hx hb dX7_back_9 rfl (lv_at hl 0 rfl) ?_
    obtain ⟨r_4, hr_4, h⟩ := h
    have tr_4 : Ty X n r_4 3 := hWT.r (c := 4) (j := 6) t0 rfl hr_4
    refine m_getr (C := RX7) (T := TX7) (N := 13) (ci := 4) hx hb hts iwX7 hown hK hV t0 rfl 6 (by decide) rfl rfl hr_4 (hts _ tw_1_120) (fun _ h9 => h9) dX7_back_10 ?_
    refine lv_iload_n hx hb dX7_back_13 rfl (lv_at hl 1 rfl) ?_
    obtain ⟨hi_5, r_6, hr_6, h⟩ := h
    have tr_6 : Ty X n r_6 0 := hWT.a tr_4 hr_6
    refine m_aald hx hb hK hV tr_4 hi_5 hr_6 dX7_back_14 ?_
    refine k_callv (va_runS (As := [.ref (ad r_6)]) (rest := []) ⟨hx, hb, hml, hown, hts⟩ (s_X3_fromPairs l D X ad n A J hWT r_6 tr_6 I_1 L_2 _ h) (va_cwS 1 hts (gS tw_3_28 tw_2_186 tw_1_13 tw_2_187) rfl rfl rfl (by decide +kernel) (by decide)) (k_preS hK hV hA hZ _) rfl rfl hl.1 rfl (lv_room (Nat.le_of_ble_eq_true rfl)) dX7_back_15 ⟨Nat.zero_le _, Nat.zero_le _⟩) hV (fun I_7 L_8 H locs h hV => ?_)
    refine lv_iconst (v := 1) hx hb dX7_back_18 (by decide) ?_
    exact m_zret hx hb hr hlk hK hZ hA hV (by decide) h dX7_back_19
  · replace h := h.2 hc
    refine lv_iconst (v := 0) hx hb dX7_back_7 (by decide) ?_
    exact m_zret hx hb hr hlk hK hZ hA hV (by decide) h dX7_back_8
set_option maxHeartbeats 4000000 in
set_option maxRecDepth 100000 in
theorem s_X7_pairs (l : Launch) (D : va_G) (X : XT) (ad : Nat → Nat) (n : Nat) (A : Nat → Prop) (J : MJ) (hWT : WT X n J) (x0 : Nat) (t0 : Ty X n x0 8) (x1 : Int32) (x2 : Int32) (x3 : Int32) (I : MI) (L : ML) (q : Int32 → MI → ML → Prop) (h : wp_X7_pairs X J x0 x1 x2 x3 I L q) : Met l yX7_pairs (wz yX7_pairs cX7_pairs 4 (some .boolean)) ({ frames := 2, cells := 0, slots := 0, locals := 50 } : Room) (va_Pc [.ref (ad x0), .int x1, .int x2, .int x3] (Pr D X ad n A J I L)) (QI D X ad n A J q) 0 0 A := by
  refine Met_go (by decide +kernel) (Nat.le_of_ble_eq_true rfl) (fun p e s m below meth c hx hb hr hml hown hlk hnm hts hK hZ hA hV ls hl => ?_)
  have C0 : Cx p s m meth c cX7_pairs (some .boolean) 4 yX7_pairs [.ref (ad x0), .int x1, .int x2, .int x3] D X ad n A J := ⟨hx, hb, hr, hml, hown, hlk, hnm, hts, hK, hZ, hA, hWT⟩
  unfold wp_X7_pairs at h
  have hl : lv_has ls 4 [(0, .ref (ad x0)), (1, .int x1), (2, .int x2), (3, .int x3)] := hl
  refine lv_iload_n hx hb dX7_pairs_0 rfl (lv_at hl 1 rfl) ?_
  refine k_calli (va_runS (As := [.int x1]) (rest := []) ⟨hx, hb, hml, hown, hts⟩ (s_X7_isPolynomial l D X ad n A J hWT x1 I L _ h) (va_cwS 1 hts (gS tw_3_9 tw_3_10 tw_1_1 tw_3_11) rfl rfl rfl (by decide +kernel) (by decide)) (k_preS hK hV hA hZ _) rfl rfl hl.1 rfl (lv_room (Nat.le_of_ble_eq_true rfl)) dX7_pairs_1 ⟨Nat.zero_le _, Nat.zero_le _⟩) hV (fun v_3 I_1 L_2 H locs h hV => ?_)
  refine lv_if_eq (tgt := 21) hx hb dX7_pairs_4 (by decide) (fun hc => ?_) (fun hc => ?_)
  · replace h := h.1 hc
    refine lv_iconst (v := 0) hx hb dX7_pairs_21 (by decide) ?_
    exact m_zret hx hb hr hlk hK hZ hA hV (by decide) h dX7_pairs_22
  · replace h := h.2 hc
    refine lv_iload_n hx hb dX7_pairs_7 rfl (lv_at hl 2 rfl) ?_
    refine k_calli (va_runS (As := [.int x2]) (rest := []) ⟨hx, hb, hml, hown, hts⟩ (s_X7_isPolynomial l D X ad n A J hWT x2 I_1 L_2 _ h) (va_cwS 1 hts (gS tw_3_9 tw_3_10 tw_1_1 tw_3_11) rfl rfl rfl (by decide +kernel) (by decide)) (k_preS hK hV hA hZ _) rfl rfl hl.1 rfl (lv_room (Nat.le_of_ble_eq_true rfl)) dX7_pairs_8 ⟨Nat.zero_le _, Nat.zero_le _⟩) hV (fun v_6 I_4 L_5 H locs h hV => ?_)
    refine lv_if_eq (tgt := 21) hx hb dX7_pairs_11 (by decide) (fun hc => ?_) (fun hc => ?_)
    · replace h := h.1 hc
      refine lv_iconst (v := 0) hx hb dX7_pairs_21 (by decide) ?_
      exact m_zret hx hb hr hlk hK hZ hA hV (by decide) h dX7_pairs_22
    · replace h := h.2 hc
      refine lv_iload_n hx hb dX7_pairs_14 rfl (lv_at hl 3 rfl) ?_
      refine k_calli (va_runS (As := [.int x3]) (rest := []) ⟨hx, hb, hml, hown, hts⟩ (s_X7_isPolynomial l D X ad n A J hWT x3 I_4 L_5 _ h) (va_cwS 1 hts (gS tw_3_9 tw_3_10 tw_1_1 tw_3_11) rfl rfl rfl (by decide +kernel) (by decide)) (k_preS hK hV hA hZ _) rfl rfl hl.1 rfl (lv_room (Nat.le_of_ble_eq_true rfl)) dX7_pairs_15 ⟨Nat.zero_le _, Nat.zero_le _⟩) hV (fun v_9 I_7 L_8 H locs h hV => ?_)
      refine lv_if_ne (tgt := 23) hx hb dX7_pairs_18 (by decide) (fun hc => ?_) (fun hc => ?_)
      · replace h := h.1 hc
        refine lv_aload_n hx hb dX7_pairs_23 rfl (lv_at hl 0 rfl) ?_
        obtain ⟨r_10, hr_10, h⟩ := h
        have tr_10 : Ty X n r_10 3 := hWT.r (c := 4) (j := 6) t0 rfl hr_10
        refine m_getr (C := RX7) (T := TX7) (N := 13) (ci := 4) hx hb hts iwX7 hown hK hV t0 rfl 6 (by decide) rfl rfl hr_10 (hts _ tw_1_120) (fun _ h9 => h9) dX7_pairs_24 ?_
        refine lv_iload_n hx hb dX7_pairs_27 rfl (lv_at hl 1 rfl) ?_
        obtain ⟨hi_11, r_12, hr_12, h⟩ := h
        have tr_12 : Ty X n r_12 0 := hWT.a tr_10 hr_12
        refine m_aald hx hb hK hV tr_10 hi_11 hr_12 dX7_pairs_28 ?_
        refine lv_aload_n hx hb dX7_pairs_29 rfl (lv_at hl 0 rfl) ?_
        refine m_getr (C := RX7) (T := TX7) (N := 13) (ci := 4) hx hb hts iwX7 hown hK hV t0 rfl 6 (by decide) rfl rfl hr_10 (hts _ tw_1_120) (fun _ h9 => h9) dX7_pairs_30 ?_
        refine lv_iload_n hx hb dX7_pairs_33 rfl (lv_at hl 2 rfl) ?_
        obtain ⟨hi_13, r_14, hr_14, h⟩ := h
        have tr_14 : Ty X n r_14 0 := hWT.a tr_10 hr_14
        refine m_aald hx hb hK hV tr_10 hi_13 hr_14 dX7_pairs_34 ?_
        refine lv_aload_n hx hb dX7_pairs_35 rfl (lv_at hl 0 rfl) ?_
        refine m_getr (C := RX7) (T := TX7) (N := 13) (ci := 4) hx hb hts iwX7 hown hK hV t0 rfl 6 (by decide) rfl rfl hr_10 (hts _ tw_1_120) (fun _ h9 => h9) dX7_pairs_36 ?_
        refine lv_iload_n hx hb dX7_pairs_39 rfl (lv_at hl 3 rfl) ?_
        obtain ⟨hi_15, r_16, hr_16, h⟩ := h
        have tr_16 : Ty X n r_16 0 := hWT.a tr_10 hr_16
        refine m_aald hx hb hK hV tr_10 hi_15 hr_16 dX7_pairs_40 ?_
        refine k_callv (va_runS (As := [.ref (ad r_12), .ref (ad r_14), .ref (ad r_16)]) (rest := []) ⟨hx, hb, hml, hown, hts⟩ (s_X3_multiplyPairs l D X ad n A J hWT r_12 tr_12 r_14 tr_14 r_16 tr_16 I_7 L_8 _ h) (va_cwS 3 hts (gS tw_3_33 tw_2_107 tw_1_13 tw_2_108) rfl rfl rfl (by decide +kernel) (by decide)) (k_preS hK hV hA hZ _) rfl rfl hl.1 rfl (lv_room (Nat.le_of_ble_eq_true rfl)) dX7_pairs_41 ⟨Nat.zero_le _, Nat.zero_le _⟩) hV (fun I_17 L_18 H locs h hV => ?_)
        refine lv_iconst (v := 1) hx hb dX7_pairs_44 (by decide) ?_
        exact m_zret hx hb hr hlk hK hZ hA hV (by decide) h dX7_pairs_45
      · replace h := h.2 hc
        refine lv_iconst (v := 0) hx hb dX7_pairs_21 (by decide) ?_
        exact m_zret hx hb hr hlk hK hZ hA hV (by decide) h dX7_pairs_22
set_option maxHeartbeats 4000000 in
set_option maxRecDepth 100000 in
theorem n_X7_add_26 {p : Program} {l : Launch} {e : Env} {s : State} {m : MethodId} {below : List Frame} {meth : Method} {c : Code} {D : va_G} {X : XT} {ad : Nat → Nat} {n : Nat} {A : Nat → Prop} {J : MJ} {av : List Value} {R : Room} (hR : R = ({ frames := 1, cells := 0, slots := 0, locals := 23 } : Room)) (C0 : Cx p s m meth c cX7_add (some .boolean) 4 yX7_add av D X ad n A J) {q : Int32 → MI → ML → Prop}  {x0 : Nat} {x1 : Int32} {x2 : Int32} {x3 : Int32}  {I : MI} {L : ML} {H : Heap} {locs : List Loc} {ls : Array Slot} (t0 : Ty X n x0 8) (h : wj_X7_add_26 X J q  x0 x1 x2 x3  I L) (hV : Wd D X ad n A s.heap J I L H locs) (hl : lv_has ls 4 [(0, .ref (ad x0)), (1, .int x1), (2, .int x2), (3, .int x3)]) : W p l e R s m av.toArray below meth c H locs 0 0 (MQ below (QI D X ad n A J q) av.toArray s 0 0 A) (F0 m 26 ls []) := by
  obtain ⟨hx, hb, hr, hml, hown, hlk, hnm, hts, hK, hZ, hA, hWT⟩ := id C0
  subst hR
  unfold wj_X7_add_26 at h
  refine lv_aload_n hx hb dX7_add_26 rfl (lv_at hl 0 rfl) ?_
  obtain ⟨r_7, hr_7, h⟩ := h
  have tr_7 : Ty X n r_7 3 := hWT.r (c := 4) (j := 6) t0 rfl hr_7
  refine m_getr (C := RX7) (T := TX7) (N := 13) (ci := 4) hx hb hts iwX7 hown hK hV t0 rfl 6 (by decide) rfl rfl hr_7 (hts _ tw_1_120) (fun _ h9 => h9) dX7_add_27 ?_
  refine lv_iload_n hx hb dX7_add_30 rfl (lv_at hl 1 rfl) ?_
  obtain ⟨hi_8, r_9, hr_9, h⟩ := h
  have tr_9 : Ty X n r_9 0 := hWT.a tr_7 hr_9
  refine m_aald hx hb hK hV tr_7 hi_8 hr_9 dX7_add_31 ?_
  refine lv_aload_n hx hb dX7_add_32 rfl (lv_at hl 0 rfl) ?_
  refine m_getr (C := RX7) (T := TX7) (N := 13) (ci := 4) hx hb hts iwX7 hown hK hV t0 rfl 6 (by decide) rfl rfl hr_7 (hts _ tw_1_120) (fun _ h9 => h9) dX7_add_33 ?_
  refine lv_iload_n hx hb dX7_add_36 rfl (lv_at hl 2 rfl) ?_
  obtain ⟨hi_10, r_11, hr_11, h⟩ := h
  have tr_11 : Ty X n r_11 0 := hWT.a tr_7 hr_11
  refine m_aald hx hb hK hV tr_7 hi_10 hr_11 dX7_add_37 ?_
  refine lv_iload_n hx hb dX7_add_38 rfl (lv_at hl 3 rfl) ?_
  refine k_callv (va_runS (As := [.ref (ad r_9), .ref (ad r_11), .int x3]) (rest := []) ⟨hx, hb, hml, hown, hts⟩ (s_X3_addTimes l D X ad n A J hWT r_9 tr_9 r_11 tr_11 x3 I L _ h) (va_cwS 3 hts (gS tw_3_38 tw_2_113 tw_1_13 tw_2_114) rfl rfl rfl (by decide +kernel) (by decide)) (k_preS hK hV hA hZ _) rfl rfl hl.1 rfl (lv_room (Nat.le_of_ble_eq_true rfl)) dX7_add_39 ⟨Nat.zero_le _, Nat.zero_le _⟩) hV (fun I_12 L_13 H locs h hV => ?_)
  refine lv_iconst (v := 1) hx hb dX7_add_42 (by decide) ?_
  exact m_zret hx hb hr hlk hK hZ hA hV (by decide) h dX7_add_43
set_option maxHeartbeats 4000000 in
set_option maxRecDepth 100000 in
theorem s_X7_add (l : Launch) (D : va_G) (X : XT) (ad : Nat → Nat) (n : Nat) (A : Nat → Prop) (J : MJ) (hWT : WT X n J) (x0 : Nat) (t0 : Ty X n x0 8) (x1 : Int32) (x2 : Int32) (x3 : Int32) (I : MI) (L : ML) (q : Int32 → MI → ML → Prop) (h : wp_X7_add X J x0 x1 x2 x3 I L q) : Met l yX7_add (wz yX7_add cX7_add 4 (some .boolean)) ({ frames := 1, cells := 0, slots := 0, locals := 23 } : Room) (va_Pc [.ref (ad x0), .int x1, .int x2, .int x3] (Pr D X ad n A J I L)) (QI D X ad n A J q) 0 0 A := by
  refine Met_go (by decide +kernel) (Nat.le_of_ble_eq_true rfl) (fun p e s m below meth c hx hb hr hml hown hlk hnm hts hK hZ hA hV ls hl => ?_)
  have C0 : Cx p s m meth c cX7_add (some .boolean) 4 yX7_add [.ref (ad x0), .int x1, .int x2, .int x3] D X ad n A J := ⟨hx, hb, hr, hml, hown, hlk, hnm, hts, hK, hZ, hA, hWT⟩
  unfold wp_X7_add at h
  have hl : lv_has ls 4 [(0, .ref (ad x0)), (1, .int x1), (2, .int x2), (3, .int x3)] := hl
  refine lv_iload_n hx hb dX7_add_0 rfl (lv_at hl 1 rfl) ?_
  refine k_calli (va_runS (As := [.int x1]) (rest := []) ⟨hx, hb, hml, hown, hts⟩ (s_X7_isPolynomial l D X ad n A J hWT x1 I L _ h) (va_cwS 1 hts (gS tw_3_9 tw_3_10 tw_1_1 tw_3_11) rfl rfl rfl (by decide +kernel) (by decide)) (k_preS hK hV hA hZ _) rfl rfl hl.1 rfl (lv_room (Nat.le_of_ble_eq_true rfl)) dX7_add_1 ⟨Nat.zero_le _, Nat.zero_le _⟩) hV (fun v_3 I_1 L_2 H locs h hV => ?_)
  refine lv_if_eq (tgt := 24) hx hb dX7_add_4 (by decide) (fun hc => ?_) (fun hc => ?_)
  · replace h := h.1 hc
    refine lv_iconst (v := 0) hx hb dX7_add_24 (by decide) ?_
    exact m_zret hx hb hr hlk hK hZ hA hV (by decide) h dX7_add_25
  · replace h := h.2 hc
    refine lv_iload_n hx hb dX7_add_7 rfl (lv_at hl 2 rfl) ?_
    refine k_calli (va_runS (As := [.int x2]) (rest := []) ⟨hx, hb, hml, hown, hts⟩ (s_X7_isPolynomial l D X ad n A J hWT x2 I_1 L_2 _ h) (va_cwS 1 hts (gS tw_3_9 tw_3_10 tw_1_1 tw_3_11) rfl rfl rfl (by decide +kernel) (by decide)) (k_preS hK hV hA hZ _) rfl rfl hl.1 rfl (lv_room (Nat.le_of_ble_eq_true rfl)) dX7_add_8 ⟨Nat.zero_le _, Nat.zero_le _⟩) hV (fun v_6 I_4 L_5 H locs h hV => ?_)
    refine lv_if_eq (tgt := 24) hx hb dX7_add_11 (by decide) (fun hc => ?_) (fun hc => ?_)
    · replace h := h.1 hc
      refine lv_iconst (v := 0) hx hb dX7_add_24 (by decide) ?_
      exact m_zret hx hb hr hlk hK hZ hA hV (by decide) h dX7_add_25
    · replace h := h.2 hc
      refine lv_iload_n hx hb dX7_add_14 rfl (lv_at hl 3 rfl) ?_
      refine lv_iconst (v := 1) hx hb dX7_add_15 (by decide) ?_
      refine lv_icmp_eq (tgt := 26) hx hb dX7_add_16 (by decide) (fun hc => ?_) (fun hc => ?_)
      · replace h := h.1 hc
        exact n_X7_add_26 rfl C0 t0   h hV (lv_sub hl [0, 1, 2, 3] rfl)
      · replace h := h.2 hc
        refine lv_iload_n hx hb dX7_add_19 rfl (lv_at hl 3 rfl) ?_
        refine lv_iconst (v := (-1)) hx hb dX7_add_20 (by decide) ?_
        refine lv_icmp_eq (tgt := 26) hx hb dX7_add_21 (by decide) (fun hc => ?_) (fun hc => ?_)
        · replace h := h.1 hc
          exact n_X7_add_26 rfl C0 t0   h hV (lv_sub hl [0, 1, 2, 3] rfl)
        · replace h := h.2 hc
          refine lv_iconst (v := 0) hx hb dX7_add_24 (by decide) ?_
          exact m_zret hx hb hr hlk hK hZ hA hV (by decide) h dX7_add_25
set_option maxHeartbeats 4000000 in
set_option maxRecDepth 100000 in
theorem s_X7_press (l : Launch) (D : va_G) (X : XT) (ad : Nat → Nat) (n : Nat) (A : Nat → Prop) (J : MJ) (hWT : WT X n J) (x0 : Nat) (t0 : Ty X n x0 8) (x1 : Int32) (x2 : Int32) (I : MI) (L : ML) (q : Int32 → MI → ML → Prop) (h : wp_X7_press X J x0 x1 x2 I L q) : Met l yX7_press (wz yX7_press cX7_press 3 (some .boolean)) ({ frames := 1, cells := 0, slots := 0, locals := 23 } : Room) (va_Pc [.ref (ad x0), .int x1, .int x2] (Pr D X ad n A J I L)) (QI D X ad n A J q) 0 0 A := by
  refine Met_go (by decide +kernel) (Nat.le_of_ble_eq_true rfl) (fun p e s m below meth c hx hb hr hml hown hlk hnm hts hK hZ hA hV ls hl => ?_)
  have C0 : Cx p s m meth c cX7_press (some .boolean) 3 yX7_press [.ref (ad x0), .int x1, .int x2] D X ad n A J := ⟨hx, hb, hr, hml, hown, hlk, hnm, hts, hK, hZ, hA, hWT⟩
  unfold wp_X7_press at h
  have hl : lv_has ls 3 [(0, .ref (ad x0)), (1, .int x1), (2, .int x2)] := hl
  refine lv_iload_n hx hb dX7_press_0 rfl (lv_at hl 1 rfl) ?_
  refine k_calli (va_runS (As := [.int x1]) (rest := []) ⟨hx, hb, hml, hown, hts⟩ (s_X7_isPolynomial l D X ad n A J hWT x1 I L _ h) (va_cwS 1 hts (gS tw_3_9 tw_3_10 tw_1_1 tw_3_11) rfl rfl rfl (by decide +kernel) (by decide)) (k_preS hK hV hA hZ _) rfl rfl hl.1 rfl (lv_room (Nat.le_of_ble_eq_true rfl)) dX7_press_1 ⟨Nat.zero_le _, Nat.zero_le _⟩) hV (fun v_3 I_1 L_2 H locs h hV => ?_)
  refine lv_if_eq (tgt := 18) hx hb dX7_press_4 (by decide) (fun hc => ?_) (fun hc => ?_)
  · replace h := h.1 hc
    refine lv_iconst (v := 0) hx hb dX7_press_18 (by decide) ?_
    exact m_zret hx hb hr hlk hK hZ hA hV (by decide) h dX7_press_19
  · replace h := h.2 hc
    refine lv_iload_n hx hb dX7_press_7 rfl (lv_at hl 2 rfl) ?_
    refine lv_iconst (v := 1) hx hb dX7_press_8 (by decide) ?_
    refine lv_icmp_lt (tgt := 18) hx hb dX7_press_9 (by decide) (fun hc => ?_) (fun hc => ?_)
    · replace h := h.1 hc
      refine lv_iconst (v := 0) hx hb dX7_press_18 (by decide) ?_
      exact m_zret hx hb hr hlk hK hZ hA hV (by decide) h dX7_press_19
    · replace h := h.2 hc
      refine lv_iload_n hx hb dX7_press_12 rfl (lv_at hl 2 rfl) ?_
      refine lv_bipush (v := 11) hx hb dX7_press_13 (by decide) ?_
      refine lv_icmp_le (tgt := 20) hx hb dX7_press_15 (by decide) (fun hc => ?_) (fun hc => ?_)
      · replace h := h.1 hc
        refine lv_aload_n hx hb dX7_press_20 rfl (lv_at hl 0 rfl) ?_
        obtain ⟨r_4, hr_4, h⟩ := h
        have tr_4 : Ty X n r_4 3 := hWT.r (c := 4) (j := 6) t0 rfl hr_4
        refine m_getr (C := RX7) (T := TX7) (N := 13) (ci := 4) hx hb hts iwX7 hown hK hV t0 rfl 6 (by decide) rfl rfl hr_4 (hts _ tw_1_120) (fun _ h9 => h9) dX7_press_21 ?_
        refine lv_iload_n hx hb dX7_press_24 rfl (lv_at hl 1 rfl) ?_
        obtain ⟨hi_5, r_6, hr_6, h⟩ := h
        have tr_6 : Ty X n r_6 0 := hWT.a tr_4 hr_6
        refine m_aald hx hb hK hV tr_4 hi_5 hr_6 dX7_press_25 ?_
        refine lv_iload_n hx hb dX7_press_26 rfl (lv_at hl 2 rfl) ?_
        refine k_callv (va_runS (As := [.ref (ad r_6), .int x2]) (rest := []) ⟨hx, hb, hml, hown, hts⟩ (s_X0_compress l D X ad n A J hWT r_6 tr_6 x2 I_1 L_2 _ h) (va_cwS 2 hts (gS tw_3_43 tw_2_196 tw_1_14 tw_2_197) rfl rfl rfl (by decide +kernel) (by decide)) (k_preS hK hV hA hZ _) rfl rfl hl.1 rfl (lv_room (Nat.le_of_ble_eq_true rfl)) dX7_press_27 ⟨Nat.zero_le _, Nat.zero_le _⟩) hV (fun I_7 L_8 H locs h hV => ?_)
        refine lv_iconst (v := 1) hx hb dX7_press_30 (by decide) ?_
        exact m_zret hx hb hr hlk hK hZ hA hV (by decide) h dX7_press_31
      · replace h := h.2 hc
        refine lv_iconst (v := 0) hx hb dX7_press_18 (by decide) ?_
        exact m_zret hx hb hr hlk hK hZ hA hV (by decide) h dX7_press_19
set_option maxHeartbeats 4000000 in
set_option maxRecDepth 100000 in
theorem s_X7_stretch (l : Launch) (D : va_G) (X : XT) (ad : Nat → Nat) (n : Nat) (A : Nat → Prop) (J : MJ) (hWT : WT X n J) (x0 : Nat) (t0 : Ty X n x0 8) (x1 : Int32) (x2 : Int32) (I : MI) (L : ML) (q : Int32 → MI → ML → Prop) (h : wp_X7_stretch X J x0 x1 x2 I L q) : Met l yX7_stretch (wz yX7_stretch cX7_stretch 3 (some .boolean)) ({ frames := 1, cells := 0, slots := 0, locals := 24 } : Room) (va_Pc [.ref (ad x0), .int x1, .int x2] (Pr D X ad n A J I L)) (QI D X ad n A J q) 0 0 A := by
  refine Met_go (by decide +kernel) (Nat.le_of_ble_eq_true rfl) (fun p e s m below meth c hx hb hr hml hown hlk hnm hts hK hZ hA hV ls hl => ?_)
  have C0 : Cx p s m meth c cX7_stretch (some .boolean) 3 yX7_stretch [.ref (ad x0), .int x1, .int x2] D X ad n A J := ⟨hx, hb, hr, hml, hown, hlk, hnm, hts, hK, hZ, hA, hWT⟩
  unfold wp_X7_stretch at h
  have hl : lv_has ls 3 [(0, .ref (ad x0)), (1, .int x1), (2, .int x2)] := hl
  refine lv_iload_n hx hb dX7_stretch_0 rfl (lv_at hl 1 rfl) ?_
  refine k_calli (va_runS (As := [.int x1]) (rest := []) ⟨hx, hb, hml, hown, hts⟩ (s_X7_isPolynomial l D X ad n A J hWT x1 I L _ h) (va_cwS 1 hts (gS tw_3_9 tw_3_10 tw_1_1 tw_3_11) rfl rfl rfl (by decide +kernel) (by decide)) (k_preS hK hV hA hZ _) rfl rfl hl.1 rfl (lv_room (Nat.le_of_ble_eq_true rfl)) dX7_stretch_1 ⟨Nat.zero_le _, Nat.zero_le _⟩) hV (fun v_3 I_1 L_2 H locs h hV => ?_)
  refine lv_if_eq (tgt := 18) hx hb dX7_stretch_4 (by decide) (fun hc => ?_) (fun hc => ?_)
  · replace h := h.1 hc
    refine lv_iconst (v := 0) hx hb dX7_stretch_18 (by decide) ?_
    exact m_zret hx hb hr hlk hK hZ hA hV (by decide) h dX7_stretch_19
  · replace h := h.2 hc
    refine lv_iload_n hx hb dX7_stretch_7 rfl (lv_at hl 2 rfl) ?_
    refine lv_iconst (v := 1) hx hb dX7_stretch_8 (by decide) ?_
    refine lv_icmp_lt (tgt := 18) hx hb dX7_stretch_9 (by decide) (fun hc => ?_) (fun hc => ?_)
    · replace h := h.1 hc
      refine lv_iconst (v := 0) hx hb dX7_stretch_18 (by decide) ?_
      exact m_zret hx hb hr hlk hK hZ hA hV (by decide) h dX7_stretch_19
    · replace h := h.2 hc
      refine lv_iload_n hx hb dX7_stretch_12 rfl (lv_at hl 2 rfl) ?_
      refine lv_bipush (v := 11) hx hb dX7_stretch_13 (by decide) ?_
      refine lv_icmp_le (tgt := 20) hx hb dX7_stretch_15 (by decide) (fun hc => ?_) (fun hc => ?_)
      · replace h := h.1 hc
        refine lv_aload_n hx hb dX7_stretch_20 rfl (lv_at hl 0 rfl) ?_
        obtain ⟨r_4, hr_4, h⟩ := h
        have tr_4 : Ty X n r_4 3 := hWT.r (c := 4) (j := 6) t0 rfl hr_4
        refine m_getr (C := RX7) (T := TX7) (N := 13) (ci := 4) hx hb hts iwX7 hown hK hV t0 rfl 6 (by decide) rfl rfl hr_4 (hts _ tw_1_120) (fun _ h9 => h9) dX7_stretch_21 ?_
        refine lv_iload_n hx hb dX7_stretch_24 rfl (lv_at hl 1 rfl) ?_
        obtain ⟨hi_5, r_6, hr_6, h⟩ := h
        have tr_6 : Ty X n r_6 0 := hWT.a tr_4 hr_6
        refine m_aald hx hb hK hV tr_4 hi_5 hr_6 dX7_stretch_25 ?_
        refine lv_iload_n hx hb dX7_stretch_26 rfl (lv_at hl 2 rfl) ?_
        refine k_callv (va_runS (As := [.ref (ad r_6), .int x2]) (rest := []) ⟨hx, hb, hml, hown, hts⟩ (s_X0_decompress l D X ad n A J hWT r_6 tr_6 x2 I_1 L_2 _ h) (va_cwS 2 hts (gS tw_3_48 tw_2_209 tw_1_14 tw_2_210) rfl rfl rfl (by decide +kernel) (by decide)) (k_preS hK hV hA hZ _) rfl rfl hl.1 rfl (lv_room (Nat.le_of_ble_eq_true rfl)) dX7_stretch_27 ⟨Nat.zero_le _, Nat.zero_le _⟩) hV (fun I_7 L_8 H locs h hV => ?_)
        refine lv_iconst (v := 1) hx hb dX7_stretch_30 (by decide) ?_
        exact m_zret hx hb hr hlk hK hZ hA hV (by decide) h dX7_stretch_31
      · replace h := h.2 hc
        refine lv_iconst (v := 0) hx hb dX7_stretch_18 (by decide) ?_
        exact m_zret hx hb hr hlk hK hZ hA hV (by decide) h dX7_stretch_19
set_option maxHeartbeats 4000000 in
set_option maxRecDepth 100000 in
theorem s_X7_encode (l : Launch) (D : va_G) (X : XT) (ad : Nat → Nat) (n : Nat) (A : Nat → Prop) (J : MJ) (hWT : WT X n J) (x0 : Nat) (t0 : Ty X n x0 8) (x1 : Int32) (x2 : Int32) (I : MI) (L : ML) (q : Int32 → MI → ML → Prop) (h : wp_X7_encode X J x0 x1 x2 I L q) : Met l yX7_encode (wz yX7_encode cX7_encode 3 (some .int)) ({ frames := 3, cells := 0, slots := 0, locals := 70 } : Room) (va_Pc [.ref (ad x0), .int x1, .int x2] (Pr D X ad n A J I L)) (QI D X ad n A J q) 0 0 A := by
  refine Met_go (by decide +kernel) (Nat.le_of_ble_eq_true rfl) (fun p e s m below meth c hx hb hr hml hown hlk hnm hts hK hZ hA hV ls hl => ?_)
  have C0 : Cx p s m meth c cX7_encode (some .int) 3 yX7_encode [.ref (ad x0), .int x1, .int x2] D X ad n A J := ⟨hx, hb, hr, hml, hown, hlk, hnm, hts, hK, hZ, hA, hWT⟩
  unfold wp_X7_encode at h
  have hl : lv_has ls 3 [(0, .ref (ad x0)), (1, .int x1), (2, .int x2)] := hl
  refine lv_iload_n hx hb dX7_encode_0 rfl (lv_at hl 1 rfl) ?_
  refine k_calli (va_runS (As := [.int x1]) (rest := []) ⟨hx, hb, hml, hown, hts⟩ (s_X7_isPolynomial l D X ad n A J hWT x1 I L _ h) (va_cwS 1 hts (gS tw_3_9 tw_3_10 tw_1_1 tw_3_11) rfl rfl rfl (by decide +kernel) (by decide)) (k_preS hK hV hA hZ _) rfl rfl hl.1 rfl (lv_room (Nat.le_of_ble_eq_true rfl)) dX7_encode_1 ⟨Nat.zero_le _, Nat.zero_le _⟩) hV (fun v_3 I_1 L_2 H locs h hV => ?_)
  refine lv_if_eq (tgt := 18) hx hb dX7_encode_4 (by decide) (fun hc => ?_) (fun hc => ?_)
  · replace h := h.1 hc
    refine lv_iconst (v := (-1)) hx hb dX7_encode_18 (by decide) ?_
    exact m_iret hx hb hr hlk hK hZ hA hV h dX7_encode_19
  · replace h := h.2 hc
    refine lv_iload_n hx hb dX7_encode_7 rfl (lv_at hl 2 rfl) ?_
    refine lv_iconst (v := 1) hx hb dX7_encode_8 (by decide) ?_
    refine lv_icmp_lt (tgt := 18) hx hb dX7_encode_9 (by decide) (fun hc => ?_) (fun hc => ?_)
    · replace h := h.1 hc
      refine lv_iconst (v := (-1)) hx hb dX7_encode_18 (by decide) ?_
      exact m_iret hx hb hr hlk hK hZ hA hV h dX7_encode_19
    · replace h := h.2 hc
      refine lv_iload_n hx hb dX7_encode_12 rfl (lv_at hl 2 rfl) ?_
      refine lv_bipush (v := 12) hx hb dX7_encode_13 (by decide) ?_
      refine lv_icmp_le (tgt := 20) hx hb dX7_encode_15 (by decide) (fun hc => ?_) (fun hc => ?_)
      · replace h := h.1 hc
        refine lv_aload_n hx hb dX7_encode_20 rfl (lv_at hl 0 rfl) ?_
        obtain ⟨r_4, hr_4, h⟩ := h
        have tr_4 : Ty X n r_4 5 := hWT.r (c := 4) (j := 5) t0 rfl hr_4
        refine m_getr (C := RX7) (T := TX7) (N := 13) (ci := 4) hx hb hts iwX7 hown hK hV t0 rfl 5 (by decide) rfl rfl hr_4 (hts _ tw_1_119) (fun _ h9 => h9) dX7_encode_21 ?_
        refine k_callv (va_runV (As := []) (rest := []) ⟨hx, hb, hml, hown, hts⟩ (s_X4_clear l D X ad n A J hWT r_4 tr_4 I_1 L_2 _ h) (cwV 0 hts (gV tw_1_214 tw_1_215 tw_1_216 tw_1_2 tw_1_217) rfl rfl rfl (by decide +kernel) (by decide)) (k_preV (ci := 1) hK hV hA hZ tr_4 rfl _) rfl rfl hl.1 rfl (lv_room (Nat.le_of_ble_eq_true rfl)) dX7_encode_24 ⟨Nat.zero_le _, Nat.zero_le _⟩) hV (fun I_5 L_6 H locs h hV => ?_)
        refine lv_aload_n hx hb dX7_encode_27 rfl (lv_at hl 0 rfl) ?_
        obtain ⟨r_7, hr_7, h⟩ := h
        have tr_7 : Ty X n r_7 3 := hWT.r (c := 4) (j := 6) t0 rfl hr_7
        refine m_getr (C := RX7) (T := TX7) (N := 13) (ci := 4) hx hb hts iwX7 hown hK hV t0 rfl 6 (by decide) rfl rfl hr_7 (hts _ tw_1_120) (fun _ h9 => h9) dX7_encode_28 ?_
        refine lv_iload_n hx hb dX7_encode_31 rfl (lv_at hl 1 rfl) ?_
        obtain ⟨hi_8, r_9, hr_9, h⟩ := h
        have tr_9 : Ty X n r_9 0 := hWT.a tr_7 hr_9
        refine m_aald hx hb hK hV tr_7 hi_8 hr_9 dX7_encode_32 ?_
        refine lv_iload_n hx hb dX7_encode_33 rfl (lv_at hl 2 rfl) ?_
        refine lv_aload_n hx hb dX7_encode_34 rfl (lv_at hl 0 rfl) ?_
        refine m_getr (C := RX7) (T := TX7) (N := 13) (ci := 4) hx hb hts iwX7 hown hK hV t0 rfl 5 (by decide) rfl rfl hr_4 (hts _ tw_1_119) (fun _ h9 => h9) dX7_encode_35 ?_
        refine k_callv (va_runS (As := [.ref (ad r_9), .int x2, .ref (ad r_4)]) (rest := []) ⟨hx, hb, hml, hown, hts⟩ (s_X0_pack l D X ad n A J hWT r_9 tr_9 x2 r_4 tr_4 I_5 L_6 _ h) (va_cwS 3 hts (gS tw_3_53 tw_2_86 tw_1_14 tw_2_87) rfl rfl rfl (by decide +kernel) (by decide)) (k_preS hK hV hA hZ _) rfl rfl hl.1 rfl (lv_room (Nat.le_of_ble_eq_true rfl)) dX7_encode_38 ⟨Nat.zero_le _, Nat.zero_le _⟩) hV (fun I_10 L_11 H locs h hV => ?_)
        refine lv_aload_n hx hb dX7_encode_41 rfl (lv_at hl 0 rfl) ?_
        refine m_getr (C := RX7) (T := TX7) (N := 13) (ci := 4) hx hb hts iwX7 hown hK hV t0 rfl 5 (by decide) rfl rfl hr_4 (hts _ tw_1_119) (fun _ h9 => h9) dX7_encode_42 ?_
        refine k_calli (va_runV (As := []) (rest := []) ⟨hx, hb, hml, hown, hts⟩ (s_X4_size l D X ad n A J hWT r_4 tr_4 I_10 L_11 _ h) (cwV 0 hts (gV tw_1_158 tw_1_159 tw_1_160 tw_1_2 tw_1_161) rfl rfl rfl (by decide +kernel) (by decide)) (k_preV (ci := 1) hK hV hA hZ tr_4 rfl _) rfl rfl hl.1 rfl (lv_room (Nat.le_of_ble_eq_true rfl)) dX7_encode_45 ⟨Nat.zero_le _, Nat.zero_le _⟩) hV (fun v_14 I_12 L_13 H locs h hV => ?_)
        exact m_iret hx hb hr hlk hK hZ hA hV h dX7_encode_48
      · replace h := h.2 hc
        refine lv_iconst (v := (-1)) hx hb dX7_encode_18 (by decide) ?_
        exact m_iret hx hb hr hlk hK hZ hA hV h dX7_encode_19
set_option maxHeartbeats 4000000 in
set_option maxRecDepth 100000 in
theorem n_X7_decode_59 {p : Program} {l : Launch} {e : Env} {s : State} {m : MethodId} {below : List Frame} {meth : Method} {c : Code} {D : va_G} {X : XT} {ad : Nat → Nat} {n : Nat} {A : Nat → Prop} {J : MJ} {av : List Value} {R : Room} (hR : R = ({ frames := 2, cells := 0, slots := 0, locals := 49 } : Room)) (C0 : Cx p s m meth c cX7_decode (some .int) 4 yX7_decode av D X ad n A J) {q : Int32 → MI → ML → Prop}  {x0 : Nat} {x3 : Int32}  {I : MI} {L : ML} {H : Heap} {locs : List Loc} {ls : Array Slot} (t0 : Ty X n x0 8) (h : wj_X7_decode_59 X J q  x0 x3  I L) (hV : Wd D X ad n A s.heap J I L H locs) (hl : lv_has ls 4 [(0, .ref (ad x0)), (3, .int x3)]) : W p l e R s m av.toArray below meth c H locs 0 0 (MQ below (QI D X ad n A J q) av.toArray s 0 0 A) (F0 m 59 ls []) := by
  obtain ⟨hx, hb, hr, hml, hown, hlk, hnm, hts, hK, hZ, hA, hWT⟩ := id C0
  subst hR
  unfold wj_X7_decode_59 at h
  refine lv_aload_n hx hb dX7_decode_59 rfl (lv_at hl 0 rfl) ?_
  obtain ⟨r_8, hr_8, h⟩ := h
  have tr_8 : Ty X n r_8 5 := hWT.r (c := 4) (j := 0) t0 rfl hr_8
  refine m_getr (C := RX7) (T := TX7) (N := 13) (ci := 4) hx hb hts iwX7 hown hK hV t0 rfl 0 (by decide) rfl rfl hr_8 (hts _ tw_1_114) (fun _ h9 => h9) dX7_decode_60 ?_
  refine k_callv (va_runV (As := []) (rest := []) ⟨hx, hb, hml, hown, hts⟩ (s_X4_clear l D X ad n A J hWT r_8 tr_8 I L _ h) (cwV 0 hts (gV tw_1_214 tw_1_215 tw_1_216 tw_1_2 tw_1_217) rfl rfl rfl (by decide +kernel) (by decide)) (k_preV (ci := 1) hK hV hA hZ tr_8 rfl _) rfl rfl hl.1 rfl (lv_room (Nat.le_of_ble_eq_true rfl)) dX7_decode_63 ⟨Nat.zero_le _, Nat.zero_le _⟩) hV (fun I_9 L_10 H locs h hV => ?_)
  refine lv_iload_n hx hb dX7_decode_66 rfl (lv_at hl 1 rfl) ?_
  refine lv_if_eq (tgt := 76) hx hb dX7_decode_67 (by decide) (fun hc => ?_) (fun hc => ?_)
  · replace h := h.1 hc
    refine lv_iconst (v := (-1)) hx hb dX7_decode_76 (by decide) ?_
    exact m_iret hx hb hr hlk hK hZ hA hV h dX7_decode_77
  · replace h := h.2 hc
    refine lv_sipush (v := 256) hx hb dX7_decode_70 (by decide) ?_
    refine lv_goto (tgt := 77) hx hb dX7_decode_73 (by decide) ?_
    exact m_iret hx hb hr hlk hK hZ hA hV h dX7_decode_77
set_option maxHeartbeats 4000000 in
set_option maxRecDepth 100000 in
theorem n_X7_decode_39 {p : Program} {l : Launch} {e : Env} {s : State} {m : MethodId} {below : List Frame} {meth : Method} {c : Code} {D : va_G} {X : XT} {ad : Nat → Nat} {n : Nat} {A : Nat → Prop} {J : MJ} {av : List Value} {R : Room} (hR : R = ({ frames := 2, cells := 0, slots := 0, locals := 49 } : Room)) (C0 : Cx p s m meth c cX7_decode (some .int) 4 yX7_decode av D X ad n A J) {q : Int32 → MI → ML → Prop}  {x0 : Nat} {x1 : Int32} {x2 : Int32} {z0 : Int32} {I : MI} {L : ML} {H : Heap} {locs : List Loc} {ls : Array Slot} (t0 : Ty X n x0 8) (h : wj_X7_decode_39 X J q  x0 x1 x2 z0 I L) (hV : Wd D X ad n A s.heap J I L H locs) (hl : lv_has ls 4 [(0, .ref (ad x0)), (1, .int x1), (2, .int x2)]) : W p l e R s m av.toArray below meth c H locs 0 0 (MQ below (QI D X ad n A J q) av.toArray s 0 0 A) (F0 m 39 ls [.int z0]) := by
  obtain ⟨hx, hb, hr, hml, hown, hlk, hnm, hts, hK, hZ, hA, hWT⟩ := id C0
  subst hR
  unfold wj_X7_decode_39 at h
  refine lv_istore_n (lv' := [(3, .int z0), (0, .ref (ad x0)), (1, .int x1), (2, .int x2)]) hx hb dX7_decode_39 rfl hl (by decide) rfl (fun ls hl => ?_)
  refine lv_iload_n hx hb dX7_decode_40 rfl (lv_at hl 0 rfl) ?_
  refine lv_if_eq (tgt := 59) hx hb dX7_decode_41 (by decide) (fun hc => ?_) (fun hc => ?_)
  · replace h := h.1 hc
    exact n_X7_decode_59 rfl C0 t0   h hV (lv_sub hl [1, 0] rfl)
  · replace h := h.2 hc
    refine lv_aload_n hx hb dX7_decode_44 rfl (lv_at hl 1 rfl) ?_
    obtain ⟨r_11, hr_11, h⟩ := h
    have tr_11 : Ty X n r_11 3 := hWT.r (c := 4) (j := 6) t0 rfl hr_11
    refine m_getr (C := RX7) (T := TX7) (N := 13) (ci := 4) hx hb hts iwX7 hown hK hV t0 rfl 6 (by decide) rfl rfl hr_11 (hts _ tw_1_120) (fun _ h9 => h9) dX7_decode_45 ?_
    refine lv_iload_n hx hb dX7_decode_48 rfl (lv_at hl 2 rfl) ?_
    obtain ⟨hi_12, r_13, hr_13, h⟩ := h
    have tr_13 : Ty X n r_13 0 := hWT.a tr_11 hr_13
    refine m_aald hx hb hK hV tr_11 hi_12 hr_13 dX7_decode_49 ?_
    refine lv_iload_n hx hb dX7_decode_50 rfl (lv_at hl 3 rfl) ?_
    refine lv_aload_n hx hb dX7_decode_51 rfl (lv_at hl 1 rfl) ?_
    obtain ⟨r_14, hr_14, h⟩ := h
    have tr_14 : Ty X n r_14 5 := hWT.r (c := 4) (j := 0) t0 rfl hr_14
    refine m_getr (C := RX7) (T := TX7) (N := 13) (ci := 4) hx hb hts iwX7 hown hK hV t0 rfl 0 (by decide) rfl rfl hr_14 (hts _ tw_1_114) (fun _ h9 => h9) dX7_decode_52 ?_
    refine lv_iconst (v := 0) hx hb dX7_decode_55 (by decide) ?_
    refine k_callv (va_runS (As := [.ref (ad r_13), .int x2, .ref (ad r_14), .int 0]) (rest := []) ⟨hx, hb, hml, hown, hts⟩ (s_X0_unpack l D X ad n A J hWT r_13 tr_13 x2 r_14 tr_14 0 I L _ h) (va_cwS 4 hts (gS tw_3_58 tw_2_203 tw_1_14 tw_2_204) rfl rfl rfl (by decide +kernel) (by decide)) (k_preS hK hV hA hZ _) rfl rfl hl.1 rfl (lv_room (Nat.le_of_ble_eq_true rfl)) dX7_decode_56 ⟨Nat.zero_le _, Nat.zero_le _⟩) hV (fun I_15 L_16 H locs h hV => ?_)
    exact n_X7_decode_59 rfl C0 t0   h hV (lv_sub hl [1, 0] rfl)
set_option maxHeartbeats 4000000 in
set_option maxRecDepth 100000 in
theorem s_X7_decode (l : Launch) (D : va_G) (X : XT) (ad : Nat → Nat) (n : Nat) (A : Nat → Prop) (J : MJ) (hWT : WT X n J) (x0 : Nat) (t0 : Ty X n x0 8) (x1 : Int32) (x2 : Int32) (I : MI) (L : ML) (q : Int32 → MI → ML → Prop) (h : wp_X7_decode X J x0 x1 x2 I L q) : Met l yX7_decode (wz yX7_decode cX7_decode 4 (some .int)) ({ frames := 2, cells := 0, slots := 0, locals := 49 } : Room) (va_Pc [.ref (ad x0), .int x1, .int x2] (Pr D X ad n A J I L)) (QI D X ad n A J q) 0 0 A := by
  refine Met_go (by decide +kernel) (Nat.le_of_ble_eq_true rfl) (fun p e s m below meth c hx hb hr hml hown hlk hnm hts hK hZ hA hV ls hl => ?_)
  have C0 : Cx p s m meth c cX7_decode (some .int) 4 yX7_decode [.ref (ad x0), .int x1, .int x2] D X ad n A J := ⟨hx, hb, hr, hml, hown, hlk, hnm, hts, hK, hZ, hA, hWT⟩
  unfold wp_X7_decode at h
  have hl : lv_has ls 4 [(0, .ref (ad x0)), (1, .int x1), (2, .int x2)] := hl
  refine lv_iload_n hx hb dX7_decode_0 rfl (lv_at hl 1 rfl) ?_
  refine k_calli (va_runS (As := [.int x1]) (rest := []) ⟨hx, hb, hml, hown, hts⟩ (s_X7_isPolynomial l D X ad n A J hWT x1 I L _ h) (va_cwS 1 hts (gS tw_3_9 tw_3_10 tw_1_1 tw_3_11) rfl rfl rfl (by decide +kernel) (by decide)) (k_preS hK hV hA hZ _) rfl rfl hl.1 rfl (lv_room (Nat.le_of_ble_eq_true rfl)) dX7_decode_1 ⟨Nat.zero_le _, Nat.zero_le _⟩) hV (fun v_3 I_1 L_2 H locs h hV => ?_)
  refine lv_if_eq (tgt := 18) hx hb dX7_decode_4 (by decide) (fun hc => ?_) (fun hc => ?_)
  · replace h := h.1 hc
    refine lv_iconst (v := (-1)) hx hb dX7_decode_18 (by decide) ?_
    exact m_iret hx hb hr hlk hK hZ hA hV h dX7_decode_19
  · replace h := h.2 hc
    refine lv_iload_n hx hb dX7_decode_7 rfl (lv_at hl 2 rfl) ?_
    refine lv_iconst (v := 1) hx hb dX7_decode_8 (by decide) ?_
    refine lv_icmp_lt (tgt := 18) hx hb dX7_decode_9 (by decide) (fun hc => ?_) (fun hc => ?_)
    · replace h := h.1 hc
      refine lv_iconst (v := (-1)) hx hb dX7_decode_18 (by decide) ?_
      exact m_iret hx hb hr hlk hK hZ hA hV h dX7_decode_19
    · replace h := h.2 hc
      refine lv_iload_n hx hb dX7_decode_12 rfl (lv_at hl 2 rfl) ?_
      refine lv_bipush (v := 12) hx hb dX7_decode_13 (by decide) ?_
      refine lv_icmp_le (tgt := 20) hx hb dX7_decode_15 (by decide) (fun hc => ?_) (fun hc => ?_)
      · replace h := h.1 hc
        refine lv_aload_n hx hb dX7_decode_20 rfl (lv_at hl 0 rfl) ?_
        obtain ⟨r_4, hr_4, h⟩ := h
        have tr_4 : Ty X n r_4 5 := hWT.r (c := 4) (j := 0) t0 rfl hr_4
        refine m_getr (C := RX7) (T := TX7) (N := 13) (ci := 4) hx hb hts iwX7 hown hK hV t0 rfl 0 (by decide) rfl rfl hr_4 (hts _ tw_1_114) (fun _ h9 => h9) dX7_decode_21 ?_
        refine k_calli (va_runV (As := []) (rest := []) ⟨hx, hb, hml, hown, hts⟩ (s_X4_size l D X ad n A J hWT r_4 tr_4 I_1 L_2 _ h) (cwV 0 hts (gV tw_1_158 tw_1_159 tw_1_160 tw_1_2 tw_1_161) rfl rfl rfl (by decide +kernel) (by decide)) (k_preV (ci := 1) hK hV hA hZ tr_4 rfl _) rfl rfl hl.1 rfl (lv_room (Nat.le_of_ble_eq_true rfl)) dX7_decode_24 ⟨Nat.zero_le _, Nat.zero_le _⟩) hV (fun v_7 I_5 L_6 H locs h hV => ?_)
        refine lv_bipush (v := 32) hx hb dX7_decode_27 (by decide) ?_
        refine lv_iload_n hx hb dX7_decode_29 rfl (lv_at hl 2 rfl) ?_
        refine lv_imul hx hb dX7_decode_30 ?_
        refine lv_icmp_ne (tgt := 38) hx hb dX7_decode_31 (by decide) (fun hc => ?_) (fun hc => ?_)
        · replace h := h.1 hc
          refine lv_iconst (v := 0) hx hb dX7_decode_38 (by decide) ?_
          exact n_X7_decode_39 rfl C0 t0   h hV (lv_sub hl [0, 1, 2] rfl)
        · replace h := h.2 hc
          refine lv_iconst (v := 1) hx hb dX7_decode_34 (by decide) ?_
          refine lv_goto (tgt := 39) hx hb dX7_decode_35 (by decide) ?_
          exact n_X7_decode_39 rfl C0 t0   h hV (lv_sub hl [0, 1, 2] rfl)
      · replace h := h.2 hc
        refine lv_iconst (v := (-1)) hx hb dX7_decode_18 (by decide) ?_
        exact m_iret hx hb hr hlk hK hZ hA hV h dX7_decode_19
set_option maxHeartbeats 4000000 in
set_option maxRecDepth 100000 in
theorem n_X7_sample_48 {p : Program} {l : Launch} {e : Env} {s : State} {m : MethodId} {below : List Frame} {meth : Method} {c : Code} {D : va_G} {X : XT} {ad : Nat → Nat} {n : Nat} {A : Nat → Prop} {J : MJ} {av : List Value} {R : Room} (hR : R = ({ frames := 4, cells := 0, slots := 0, locals := 131 } : Room)) (C0 : Cx p s m meth c cX7_sample (some .int) 5 yX7_sample av D X ad n A J) {q : Int32 → MI → ML → Prop}  {x0 : Nat} {x1 : Int32} {x4 : Int32}  {I : MI} {L : ML} {H : Heap} {locs : List Loc} {ls : Array Slot} (t0 : Ty X n x0 8) (h : wj_X7_sample_48 X J q  x0 x1 x4  I L) (hV : Wd D X ad n A s.heap J I L H locs) (hl : lv_has ls 5 [(0, .ref (ad x0)), (1, .int x1), (4, .int x4)]) : W p l e R s m av.toArray below meth c H locs 0 0 (MQ below (QI D X ad n A J q) av.toArray s 0 0 A) (F0 m 48 ls []) := by
  obtain ⟨hx, hb, hr, hml, hown, hlk, hnm, hts, hK, hZ, hA, hWT⟩ := id C0
  subst hR
  unfold wj_X7_sample_48 at h
  refine lv_aload_n hx hb dX7_sample_48 rfl (lv_at hl 0 rfl) ?_
  obtain ⟨r_8, hr_8, h⟩ := h
  have tr_8 : Ty X n r_8 5 := hWT.r (c := 4) (j := 0) t0 rfl hr_8
  refine m_getr (C := RX7) (T := TX7) (N := 13) (ci := 4) hx hb hts iwX7 hown hK hV t0 rfl 0 (by decide) rfl rfl hr_8 (hts _ tw_1_114) (fun _ h9 => h9) dX7_sample_49 ?_
  refine k_callv (va_runV (As := []) (rest := []) ⟨hx, hb, hml, hown, hts⟩ (s_X4_clear l D X ad n A J hWT r_8 tr_8 I L _ h) (cwV 0 hts (gV tw_1_214 tw_1_215 tw_1_216 tw_1_2 tw_1_217) rfl rfl rfl (by decide +kernel) (by decide)) (k_preV (ci := 1) hK hV hA hZ tr_8 rfl _) rfl rfl hl.1 rfl (lv_room (Nat.le_of_ble_eq_true rfl)) dX7_sample_52 ⟨Nat.zero_le _, Nat.zero_le _⟩) hV (fun I_9 L_10 H locs h hV => ?_)
  refine lv_iload hx hb dX7_sample_55 (lv_at hl 2 rfl) ?_
  refine lv_if_le (tgt := 78) hx hb dX7_sample_57 (by decide) (fun hc => ?_) (fun hc => ?_)
  · replace h := h.1 hc
    refine lv_iload hx hb dX7_sample_78 (lv_at hl 2 rfl) ?_
    exact m_iret hx hb hr hlk hK hZ hA hV h dX7_sample_80
  · replace h := h.2 hc
    refine lv_aload_n hx hb dX7_sample_60 rfl (lv_at hl 0 rfl) ?_
    obtain ⟨r_11, hr_11, h⟩ := h
    have tr_11 : Ty X n r_11 0 := hWT.r (c := 4) (j := 10) t0 rfl hr_11
    refine m_getr (C := RX7) (T := TX7) (N := 13) (ci := 4) hx hb hts iwX7 hown hK hV t0 rfl 10 (by decide) rfl rfl hr_11 (hts _ tw_1_124) (fun _ h9 => h9) dX7_sample_61 ?_
    refine lv_iconst (v := 0) hx hb dX7_sample_64 (by decide) ?_
    refine lv_aload_n hx hb dX7_sample_65 rfl (lv_at hl 0 rfl) ?_
    obtain ⟨r_12, hr_12, h⟩ := h
    have tr_12 : Ty X n r_12 3 := hWT.r (c := 4) (j := 6) t0 rfl hr_12
    refine m_getr (C := RX7) (T := TX7) (N := 13) (ci := 4) hx hb hts iwX7 hown hK hV t0 rfl 6 (by decide) rfl rfl hr_12 (hts _ tw_1_120) (fun _ h9 => h9) dX7_sample_66 ?_
    refine lv_iload_n hx hb dX7_sample_69 rfl (lv_at hl 1 rfl) ?_
    obtain ⟨hi_13, r_14, hr_14, h⟩ := h
    have tr_14 : Ty X n r_14 0 := hWT.a tr_12 hr_14
    refine m_aald hx hb hK hV tr_12 hi_13 hr_14 dX7_sample_70 ?_
    refine lv_iconst (v := 0) hx hb dX7_sample_71 (by decide) ?_
    refine lv_sipush (v := 256) hx hb dX7_sample_72 (by decide) ?_
    obtain ⟨hc_15a, hc_15b, hc_15c, hc_15d, hc_15e, h⟩ := h
    refine m_copyi hx hb (hml.trans hl.1.symm) hown (hts _ tw_3_64) (hts _ tw_1_196) (hts _ tw_1_195) (hts _ tw_1_10) hK hV tr_11 tr_14 hc_15a hc_15b hc_15c hc_15d hc_15e (by decide) (by decide) dX7_sample_75 (fun H locs hV => ?_)
    obtain ⟨I_16, eI_16⟩ : ∃ y, y = va_up I_9 r_14 (va_cpy (I_9 r_11) (I_9 r_14) (0 : Int32).toNatClampNeg (0 : Int32).toNatClampNeg (256 : Int32).toNatClampNeg) := ⟨_, rfl⟩
    replace hV : Wd D X ad n A s.heap J I_16 L_10 H locs := by rw [eI_16]; exact hV
    replace h := h I_16 eI_16
    refine lv_iload hx hb dX7_sample_78 (lv_at hl 2 rfl) ?_
    exact m_iret hx hb hr hlk hK hZ hA hV h dX7_sample_80
set_option maxHeartbeats 4000000 in
set_option maxRecDepth 100000 in
theorem s_X7_sample (l : Launch) (D : va_G) (X : XT) (ad : Nat → Nat) (n : Nat) (A : Nat → Prop) (J : MJ) (hWT : WT X n J) (x0 : Nat) (t0 : Ty X n x0 8) (x1 : Int32) (x2 : Int32) (x3 : Int32) (I : MI) (L : ML) (q : Int32 → MI → ML → Prop) (h : wp_X7_sample X J x0 x1 x2 x3 I L q) : Met l yX7_sample (wz yX7_sample cX7_sample 5 (some .int)) ({ frames := 4, cells := 0, slots := 0, locals := 131 } : Room) (va_Pc [.ref (ad x0), .int x1, .int x2, .int x3] (Pr D X ad n A J I L)) (QI D X ad n A J q) 0 0 A := by
  refine Met_go (by decide +kernel) (Nat.le_of_ble_eq_true rfl) (fun p e s m below meth c hx hb hr hml hown hlk hnm hts hK hZ hA hV ls hl => ?_)
  have C0 : Cx p s m meth c cX7_sample (some .int) 5 yX7_sample [.ref (ad x0), .int x1, .int x2, .int x3] D X ad n A J := ⟨hx, hb, hr, hml, hown, hlk, hnm, hts, hK, hZ, hA, hWT⟩
  unfold wp_X7_sample at h
  have hl : lv_has ls 5 [(0, .ref (ad x0)), (1, .int x1), (2, .int x2), (3, .int x3)] := hl
  refine lv_iload_n hx hb dX7_sample_0 rfl (lv_at hl 1 rfl) ?_
  refine k_calli (va_runS (As := [.int x1]) (rest := []) ⟨hx, hb, hml, hown, hts⟩ (s_X7_isPolynomial l D X ad n A J hWT x1 I L _ h) (va_cwS 1 hts (gS tw_3_9 tw_3_10 tw_1_1 tw_3_11) rfl rfl rfl (by decide +kernel) (by decide)) (k_preS hK hV hA hZ _) rfl rfl hl.1 rfl (lv_room (Nat.le_of_ble_eq_true rfl)) dX7_sample_1 ⟨Nat.zero_le _, Nat.zero_le _⟩) hV (fun v_3 I_1 L_2 H locs h hV => ?_)
  refine lv_if_ne (tgt := 9) hx hb dX7_sample_4 (by decide) (fun hc => ?_) (fun hc => ?_)
  · replace h := h.1 hc
    refine lv_iconst (v := (-1)) hx hb dX7_sample_9 (by decide) ?_
    refine lv_istore (lv' := [(4, .int (-1)), (0, .ref (ad x0)), (1, .int x1), (2, .int x2), (3, .int x3)]) hx hb dX7_sample_10 hl (by decide) rfl (fun ls hl => ?_)
    refine lv_aload_n hx hb dX7_sample_12 rfl (lv_at hl 1 rfl) ?_
    obtain ⟨r_4, hr_4, h⟩ := h
    have tr_4 : Ty X n r_4 5 := hWT.r (c := 4) (j := 0) t0 rfl hr_4
    refine m_getr (C := RX7) (T := TX7) (N := 13) (ci := 4) hx hb hts iwX7 hown hK hV t0 rfl 0 (by decide) rfl rfl hr_4 (hts _ tw_1_114) (fun _ h9 => h9) dX7_sample_13 ?_
    refine k_calli (va_runV (As := []) (rest := []) ⟨hx, hb, hml, hown, hts⟩ (s_X4_size l D X ad n A J hWT r_4 tr_4 I_1 L_2 _ h) (cwV 0 hts (gV tw_1_158 tw_1_159 tw_1_160 tw_1_2 tw_1_161) rfl rfl rfl (by decide +kernel) (by decide)) (k_preV (ci := 1) hK hV hA hZ tr_4 rfl _) rfl rfl hl.1 rfl (lv_room (Nat.le_of_ble_eq_true rfl)) dX7_sample_16 ⟨Nat.zero_le _, Nat.zero_le _⟩) hV (fun v_7 I_5 L_6 H locs h hV => ?_)
    refine lv_bipush (v := 32) hx hb dX7_sample_19 (by decide) ?_
    refine lv_icmp_ne (tgt := 48) hx hb dX7_sample_21 (by decide) (fun hc => ?_) (fun hc => ?_)
    · replace h := h.1 hc
      exact n_X7_sample_48 rfl C0 t0   h hV (lv_sub hl [1, 2, 0] rfl)
    · replace h := h.2 hc
      refine lv_aload_n hx hb dX7_sample_24 rfl (lv_at hl 1 rfl) ?_
      obtain ⟨r_17, hr_17, h⟩ := h
      have tr_17 : Ty X n r_17 6 := hWT.r (c := 4) (j := 8) t0 rfl hr_17
      refine m_getr (C := RX7) (T := TX7) (N := 13) (ci := 4) hx hb hts iwX7 hown hK hV t0 rfl 8 (by decide) rfl rfl hr_17 (hts _ tw_1_122) (fun _ h9 => h9) dX7_sample_25 ?_
      refine lv_aload_n hx hb dX7_sample_28 rfl (lv_at hl 1 rfl) ?_
      obtain ⟨r_18, hr_18, h⟩ := h
      have tr_18 : Ty X n r_18 0 := hWT.r (c := 4) (j := 10) t0 rfl hr_18
      refine m_getr (C := RX7) (T := TX7) (N := 13) (ci := 4) hx hb hts iwX7 hown hK hV t0 rfl 10 (by decide) rfl rfl hr_18 (hts _ tw_1_124) (fun _ h9 => h9) dX7_sample_29 ?_
      refine lv_aload_n hx hb dX7_sample_32 rfl (lv_at hl 1 rfl) ?_
      refine m_getr (C := RX7) (T := TX7) (N := 13) (ci := 4) hx hb hts iwX7 hown hK hV t0 rfl 0 (by decide) rfl rfl hr_4 (hts _ tw_1_114) (fun _ h9 => h9) dX7_sample_33 ?_
      refine lv_iconst (v := 0) hx hb dX7_sample_36 (by decide) ?_
      refine lv_iload_n hx hb dX7_sample_37 rfl (lv_at hl 4 rfl) ?_
      refine lv_iload_n hx hb dX7_sample_38 rfl (lv_at hl 3 rfl) ?_
      refine lv_aload_n hx hb dX7_sample_39 rfl (lv_at hl 1 rfl) ?_
      refine m_geti (C := RX7) (T := TX7) (N := 13) (ci := 4) hx hb hts iwX7 hown hK hV t0 rfl 12 (by decide) rfl rfl (hts _ tw_1_126) (fun _ h9 => h9) dX7_sample_40 ?_
      refine k_calli (va_runV (As := [.ref (ad r_18), .ref (ad r_4), .int 0, .int x3, .int x2, .int (I_5 x0 12)]) (rest := []) ⟨hx, hb, hml, hown, hts⟩ (s_X5_drawUniform l D X ad n A J hWT r_17 tr_17 r_18 tr_18 r_4 tr_4 0 x3 x2 (I_5 x0 12) I_5 L_6 _ h) (cwV 6 hts (gV tw_3_63 tw_2_90 tw_2_91 tw_1_5 tw_2_92) rfl rfl rfl (by decide +kernel) (by decide)) (k_preV (ci := 2) hK hV hA hZ tr_17 rfl _) rfl rfl hl.1 rfl (lv_room (Nat.le_of_ble_eq_true rfl)) dX7_sample_43 ⟨Nat.zero_le _, Nat.zero_le _⟩) hV (fun v_21 I_19 L_20 H locs h hV => ?_)
      refine lv_istore (lv' := [(4, .int v_21), (0, .ref (ad x0)), (1, .int x1), (2, .int x2), (3, .int x3)]) hx hb dX7_sample_46 hl (by decide) rfl (fun ls hl => ?_)
      exact n_X7_sample_48 rfl C0 t0   h hV (lv_sub hl [1, 2, 0] rfl)
  · replace h := h.2 hc
    refine lv_iconst (v := (-1)) hx hb dX7_sample_7 (by decide) ?_
    exact m_iret hx hb hr hlk hK hZ hA hV h dX7_sample_8
set_option maxHeartbeats 4000000 in
set_option maxRecDepth 100000 in
theorem n_X7_noise_63 {p : Program} {l : Launch} {e : Env} {s : State} {m : MethodId} {below : List Frame} {meth : Method} {c : Code} {D : va_G} {X : XT} {ad : Nat → Nat} {n : Nat} {A : Nat → Prop} {J : MJ} {av : List Value} {R : Room} (hR : R = ({ frames := 4, cells := 0, slots := 0, locals := 131 } : Room)) (C0 : Cx p s m meth c cX7_noise (some .int) 5 yX7_noise av D X ad n A J) {q : Int32 → MI → ML → Prop}  {x0 : Nat} {x4 : Int32}  {I : MI} {L : ML} {H : Heap} {locs : List Loc} {ls : Array Slot} (t0 : Ty X n x0 8) (h : wj_X7_noise_63 X J q  x0 x4  I L) (hV : Wd D X ad n A s.heap J I L H locs) (hl : lv_has ls 5 [(0, .ref (ad x0)), (4, .int x4)]) : W p l e R s m av.toArray below meth c H locs 0 0 (MQ below (QI D X ad n A J q) av.toArray s 0 0 A) (F0 m 63 ls []) := by
  obtain ⟨hx, hb, hr, hml, hown, hlk, hnm, hts, hK, hZ, hA, hWT⟩ := id C0
  subst hR
  unfold wj_X7_noise_63 at h
  refine lv_aload_n hx hb dX7_noise_63 rfl (lv_at hl 0 rfl) ?_
  obtain ⟨r_8, hr_8, h⟩ := h
  have tr_8 : Ty X n r_8 5 := hWT.r (c := 4) (j := 0) t0 rfl hr_8
  refine m_getr (C := RX7) (T := TX7) (N := 13) (ci := 4) hx hb hts iwX7 hown hK hV t0 rfl 0 (by decide) rfl rfl hr_8 (hts _ tw_1_114) (fun _ h9 => h9) dX7_noise_64 ?_
  refine k_callv (va_runV (As := []) (rest := []) ⟨hx, hb, hml, hown, hts⟩ (s_X4_clear l D X ad n A J hWT r_8 tr_8 I L _ h) (cwV 0 hts (gV tw_1_214 tw_1_215 tw_1_216 tw_1_2 tw_1_217) rfl rfl rfl (by decide +kernel) (by decide)) (k_preV (ci := 1) hK hV hA hZ tr_8 rfl _) rfl rfl hl.1 rfl (lv_room (Nat.le_of_ble_eq_true rfl)) dX7_noise_67 ⟨Nat.zero_le _, Nat.zero_le _⟩) hV (fun I_9 L_10 H locs h hV => ?_)
  refine lv_iload hx hb dX7_noise_70 (lv_at hl 1 rfl) ?_
  refine lv_if_eq (tgt := 81) hx hb dX7_noise_72 (by decide) (fun hc => ?_) (fun hc => ?_)
  · replace h := h.1 hc
    refine lv_iconst (v := (-1)) hx hb dX7_noise_81 (by decide) ?_
    exact m_iret hx hb hr hlk hK hZ hA hV h dX7_noise_82
  · replace h := h.2 hc
    refine lv_sipush (v := 256) hx hb dX7_noise_75 (by decide) ?_
    refine lv_goto (tgt := 82) hx hb dX7_noise_78 (by decide) ?_
    exact m_iret hx hb hr hlk hK hZ hA hV h dX7_noise_82
set_option maxHeartbeats 4000000 in
set_option maxRecDepth 100000 in
theorem n_X7_noise_36 {p : Program} {l : Launch} {e : Env} {s : State} {m : MethodId} {below : List Frame} {meth : Method} {c : Code} {D : va_G} {X : XT} {ad : Nat → Nat} {n : Nat} {A : Nat → Prop} {J : MJ} {av : List Value} {R : Room} (hR : R = ({ frames := 4, cells := 0, slots := 0, locals := 131 } : Room)) (C0 : Cx p s m meth c cX7_noise (some .int) 5 yX7_noise av D X ad n A J) {q : Int32 → MI → ML → Prop}  {x0 : Nat} {x1 : Int32} {x2 : Int32} {x3 : Int32} {z0 : Int32} {I : MI} {L : ML} {H : Heap} {locs : List Loc} {ls : Array Slot} (t0 : Ty X n x0 8) (h : wj_X7_noise_36 X J q  x0 x1 x2 x3 z0 I L) (hV : Wd D X ad n A s.heap J I L H locs) (hl : lv_has ls 5 [(0, .ref (ad x0)), (1, .int x1), (2, .int x2), (3, .int x3)]) : W p l e R s m av.toArray below meth c H locs 0 0 (MQ below (QI D X ad n A J q) av.toArray s 0 0 A) (F0 m 36 ls [.int z0]) := by
  obtain ⟨hx, hb, hr, hml, hown, hlk, hnm, hts, hK, hZ, hA, hWT⟩ := id C0
  subst hR
  unfold wj_X7_noise_36 at h
  refine lv_istore (lv' := [(4, .int z0), (0, .ref (ad x0)), (1, .int x1), (2, .int x2), (3, .int x3)]) hx hb dX7_noise_36 hl (by decide) rfl (fun ls hl => ?_)
  refine lv_iload hx hb dX7_noise_38 (lv_at hl 0 rfl) ?_
  refine lv_if_eq (tgt := 63) hx hb dX7_noise_40 (by decide) (fun hc => ?_) (fun hc => ?_)
  · replace h := h.1 hc
    exact n_X7_noise_63 rfl C0 t0   h hV (lv_sub hl [1, 0] rfl)
  · replace h := h.2 hc
    refine lv_aload_n hx hb dX7_noise_43 rfl (lv_at hl 1 rfl) ?_
    obtain ⟨r_11, hr_11, h⟩ := h
    have tr_11 : Ty X n r_11 6 := hWT.r (c := 4) (j := 8) t0 rfl hr_11
    refine m_getr (C := RX7) (T := TX7) (N := 13) (ci := 4) hx hb hts iwX7 hown hK hV t0 rfl 8 (by decide) rfl rfl hr_11 (hts _ tw_1_122) (fun _ h9 => h9) dX7_noise_44 ?_
    refine lv_aload_n hx hb dX7_noise_47 rfl (lv_at hl 1 rfl) ?_
    obtain ⟨r_12, hr_12, h⟩ := h
    have tr_12 : Ty X n r_12 3 := hWT.r (c := 4) (j := 6) t0 rfl hr_12
    refine m_getr (C := RX7) (T := TX7) (N := 13) (ci := 4) hx hb hts iwX7 hown hK hV t0 rfl 6 (by decide) rfl rfl hr_12 (hts _ tw_1_120) (fun _ h9 => h9) dX7_noise_48 ?_
    refine lv_iload_n hx hb dX7_noise_51 rfl (lv_at hl 2 rfl) ?_
    obtain ⟨hi_13, r_14, hr_14, h⟩ := h
    have tr_14 : Ty X n r_14 0 := hWT.a tr_12 hr_14
    refine m_aald hx hb hK hV tr_12 hi_13 hr_14 dX7_noise_52 ?_
    refine lv_aload_n hx hb dX7_noise_53 rfl (lv_at hl 1 rfl) ?_
    obtain ⟨r_15, hr_15, h⟩ := h
    have tr_15 : Ty X n r_15 5 := hWT.r (c := 4) (j := 0) t0 rfl hr_15
    refine m_getr (C := RX7) (T := TX7) (N := 13) (ci := 4) hx hb hts iwX7 hown hK hV t0 rfl 0 (by decide) rfl rfl hr_15 (hts _ tw_1_114) (fun _ h9 => h9) dX7_noise_54 ?_
    refine lv_iconst (v := 0) hx hb dX7_noise_57 (by decide) ?_
    refine lv_iload_n hx hb dX7_noise_58 rfl (lv_at hl 3 rfl) ?_
    refine lv_iload_n hx hb dX7_noise_59 rfl (lv_at hl 4 rfl) ?_
    refine k_callv (va_runV (As := [.ref (ad r_14), .ref (ad r_15), .int 0, .int x2, .int x3]) (rest := []) ⟨hx, hb, hml, hown, hts⟩ (s_X5_drawNoise l D X ad n A J hWT r_11 tr_11 r_14 tr_14 r_15 tr_15 0 x2 x3 I L _ h) (cwV 5 hts (gV tw_3_69 tw_2_63 tw_2_64 tw_1_5 tw_2_65) rfl rfl rfl (by decide +kernel) (by decide)) (k_preV (ci := 2) hK hV hA hZ tr_11 rfl _) rfl rfl hl.1 rfl (lv_room (Nat.le_of_ble_eq_true rfl)) dX7_noise_60 ⟨Nat.zero_le _, Nat.zero_le _⟩) hV (fun I_16 L_17 H locs h hV => ?_)
    exact n_X7_noise_63 rfl C0 t0   h hV (lv_sub hl [1, 0] rfl)
set_option maxHeartbeats 4000000 in
set_option maxRecDepth 100000 in
theorem n_X7_noise_19 {p : Program} {l : Launch} {e : Env} {s : State} {m : MethodId} {below : List Frame} {meth : Method} {c : Code} {D : va_G} {X : XT} {ad : Nat → Nat} {n : Nat} {A : Nat → Prop} {J : MJ} {av : List Value} {R : Room} (hR : R = ({ frames := 4, cells := 0, slots := 0, locals := 131 } : Room)) (C0 : Cx p s m meth c cX7_noise (some .int) 5 yX7_noise av D X ad n A J) {q : Int32 → MI → ML → Prop}  {x0 : Nat} {x1 : Int32} {x2 : Int32} {x3 : Int32}  {I : MI} {L : ML} {H : Heap} {locs : List Loc} {ls : Array Slot} (t0 : Ty X n x0 8) (h : wj_X7_noise_19 X J q  x0 x1 x2 x3  I L) (hV : Wd D X ad n A s.heap J I L H locs) (hl : lv_has ls 5 [(0, .ref (ad x0)), (1, .int x1), (2, .int x2), (3, .int x3)]) : W p l e R s m av.toArray below meth c H locs 0 0 (MQ below (QI D X ad n A J q) av.toArray s 0 0 A) (F0 m 19 ls []) := by
  obtain ⟨hx, hb, hr, hml, hown, hlk, hnm, hts, hK, hZ, hA, hWT⟩ := id C0
  subst hR
  unfold wj_X7_noise_19 at h
  refine lv_aload_n hx hb dX7_noise_19 rfl (lv_at hl 0 rfl) ?_
  obtain ⟨r_4, hr_4, h⟩ := h
  have tr_4 : Ty X n r_4 5 := hWT.r (c := 4) (j := 0) t0 rfl hr_4
  refine m_getr (C := RX7) (T := TX7) (N := 13) (ci := 4) hx hb hts iwX7 hown hK hV t0 rfl 0 (by decide) rfl rfl hr_4 (hts _ tw_1_114) (fun _ h9 => h9) dX7_noise_20 ?_
  refine k_calli (va_runV (As := []) (rest := []) ⟨hx, hb, hml, hown, hts⟩ (s_X4_size l D X ad n A J hWT r_4 tr_4 I L _ h) (cwV 0 hts (gV tw_1_158 tw_1_159 tw_1_160 tw_1_2 tw_1_161) rfl rfl rfl (by decide +kernel) (by decide)) (k_preV (ci := 1) hK hV hA hZ tr_4 rfl _) rfl rfl hl.1 rfl (lv_room (Nat.le_of_ble_eq_true rfl)) dX7_noise_23 ⟨Nat.zero_le _, Nat.zero_le _⟩) hV (fun v_7 I_5 L_6 H locs h hV => ?_)
  refine lv_bipush (v := 32) hx hb dX7_noise_26 (by decide) ?_
  refine lv_icmp_ne (tgt := 35) hx hb dX7_noise_28 (by decide) (fun hc => ?_) (fun hc => ?_)
  · replace h := h.1 hc
    refine lv_iconst (v := 0) hx hb dX7_noise_35 (by decide) ?_
    exact n_X7_noise_36 rfl C0 t0   h hV (lv_sub hl [0, 1, 2, 3] rfl)
  · replace h := h.2 hc
    refine lv_iconst (v := 1) hx hb dX7_noise_31 (by decide) ?_
    refine lv_goto (tgt := 36) hx hb dX7_noise_32 (by decide) ?_
    exact n_X7_noise_36 rfl C0 t0   h hV (lv_sub hl [0, 1, 2, 3] rfl)
set_option maxHeartbeats 4000000 in
set_option maxRecDepth 100000 in
theorem s_X7_noise (l : Launch) (D : va_G) (X : XT) (ad : Nat → Nat) (n : Nat) (A : Nat → Prop) (J : MJ) (hWT : WT X n J) (x0 : Nat) (t0 : Ty X n x0 8) (x1 : Int32) (x2 : Int32) (x3 : Int32) (I : MI) (L : ML) (q : Int32 → MI → ML → Prop) (h : wp_X7_noise X J x0 x1 x2 x3 I L q) : Met l yX7_noise (wz yX7_noise cX7_noise 5 (some .int)) ({ frames := 4, cells := 0, slots := 0, locals := 131 } : Room) (va_Pc [.ref (ad x0), .int x1, .int x2, .int x3] (Pr D X ad n A J I L)) (QI D X ad n A J q) 0 0 A := by
  refine Met_go (by decide +kernel) (Nat.le_of_ble_eq_true rfl) (fun p e s m below meth c hx hb hr hml hown hlk hnm hts hK hZ hA hV ls hl => ?_)
  have C0 : Cx p s m meth c cX7_noise (some .int) 5 yX7_noise [.ref (ad x0), .int x1, .int x2, .int x3] D X ad n A J := ⟨hx, hb, hr, hml, hown, hlk, hnm, hts, hK, hZ, hA, hWT⟩
  unfold wp_X7_noise at h
  have hl : lv_has ls 5 [(0, .ref (ad x0)), (1, .int x1), (2, .int x2), (3, .int x3)] := hl
  refine lv_iload_n hx hb dX7_noise_0 rfl (lv_at hl 1 rfl) ?_
  refine k_calli (va_runS (As := [.int x1]) (rest := []) ⟨hx, hb, hml, hown, hts⟩ (s_X7_isPolynomial l D X ad n A J hWT x1 I L _ h) (va_cwS 1 hts (gS tw_3_9 tw_3_10 tw_1_1 tw_3_11) rfl rfl rfl (by decide +kernel) (by decide)) (k_preS hK hV hA hZ _) rfl rfl hl.1 rfl (lv_room (Nat.le_of_ble_eq_true rfl)) dX7_noise_1 ⟨Nat.zero_le _, Nat.zero_le _⟩) hV (fun v_3 I_1 L_2 H locs h hV => ?_)
  refine lv_if_eq (tgt := 17) hx hb dX7_noise_4 (by decide) (fun hc => ?_) (fun hc => ?_)
  · replace h := h.1 hc
    refine lv_iconst (v := (-1)) hx hb dX7_noise_17 (by decide) ?_
    exact m_iret hx hb hr hlk hK hZ hA hV h dX7_noise_18
  · replace h := h.2 hc
    refine lv_iload_n hx hb dX7_noise_7 rfl (lv_at hl 2 rfl) ?_
    refine lv_iconst (v := 2) hx hb dX7_noise_8 (by decide) ?_
    refine lv_icmp_eq (tgt := 19) hx hb dX7_noise_9 (by decide) (fun hc => ?_) (fun hc => ?_)
    · replace h := h.1 hc
      exact n_X7_noise_19 rfl C0 t0   h hV (lv_sub hl [0, 1, 2, 3] rfl)
    · replace h := h.2 hc
      refine lv_iload_n hx hb dX7_noise_12 rfl (lv_at hl 2 rfl) ?_
      refine lv_iconst (v := 3) hx hb dX7_noise_13 (by decide) ?_
      refine lv_icmp_eq (tgt := 19) hx hb dX7_noise_14 (by decide) (fun hc => ?_) (fun hc => ?_)
      · replace h := h.1 hc
        exact n_X7_noise_19 rfl C0 t0   h hV (lv_sub hl [0, 1, 2, 3] rfl)
      · replace h := h.2 hc
        refine lv_iconst (v := (-1)) hx hb dX7_noise_17 (by decide) ?_
        exact m_iret hx hb hr hlk hK hZ hA hV h dX7_noise_18
