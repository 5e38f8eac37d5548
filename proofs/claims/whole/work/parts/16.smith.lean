theorem tw_1_86 : Cond.fieldLink RX1 14 "LatticeVault$Locksmith" "draft" "LLatticeVault$Row;" ∈ gt := g1 86 (by decide +kernel) (by decide +kernel)
theorem tw_1_87 : Cond.fieldLink RX1 20 "LatticeVault$Locksmith" "seeds" "LLatticeVault$Row;" ∈ gt := g1 87 (by decide +kernel) (by decide +kernel)
theorem tw_1_84 : Cond.fieldLink RX1 41 "LatticeVault$Locksmith" "sponge" "LLatticeVault$Sponge;" ∈ gt := g1 84 (by decide +kernel) (by decide +kernel)
theorem tw_2_44 : Cond.methodLink RX1 162 yX6_finish ∈ gt := g2 44 (by decide +kernel) (by decide +kernel)
theorem tw_2_48 : Cond.methodLink RX1 74 yX4_clear ∈ gt := g2 48 (by decide +kernel) (by decide +kernel)
theorem tw_1_215 : Cond.instanceMethod yX4_clear ∈ gt := g1 215 (by decide +kernel) (by decide +kernel)
theorem tw_1_216 : Cond.selects RX4 yX4_clear yX4_clear ∈ gt := g1 216 (by decide +kernel) (by decide +kernel)
theorem tw_1_217 : Cond.code yX4_clear cX4_clear 1 none ∈ gt := g1 217 rfl (by rfl)
theorem tw_2_49 : Cond.methodLink RX1 165 yX6_tellTo ∈ gt := g2 49 (by decide +kernel) (by decide +kernel)
theorem tw_2_50 : Cond.instanceMethod yX6_tellTo ∈ gt := g2 50 (by decide +kernel) (by decide +kernel)
theorem tw_2_51 : Cond.selects RX6 yX6_tellTo yX6_tellTo ∈ gt := g2 51 (by decide +kernel) (by decide +kernel)
theorem tw_2_52 : Cond.code yX6_tellTo cX6_tellTo 4 none ∈ gt := g2 52 rfl (by rfl)
theorem tw_4_158 : Cond.fieldLink RX1 58 "LatticeVault$ParameterSet" "rank" "I" ∈ gt := g4 158 (by decide +kernel) (by decide +kernel)
theorem tw_1_85 : Cond.fieldLink RX1 45 "LatticeVault$Locksmith" "sampler" "LLatticeVault$Sampler;" ∈ gt := g1 85 (by decide +kernel) (by decide +kernel)
theorem tw_1_90 : Cond.fieldLink RX1 31 "LatticeVault$Locksmith" "vector" "[[I" ∈ gt := g1 90 (by decide +kernel) (by decide +kernel)
theorem tw_4_159 : Cond.fieldLink RX1 83 "LatticeVault$ParameterSet" "eta1" "I" ∈ gt := g4 159 (by decide +kernel) (by decide +kernel)
theorem tw_2_62 : Cond.methodLink RX1 86 yX5_drawNoise ∈ gt := g2 62 (by decide +kernel) (by decide +kernel)
theorem tw_2_63 : Cond.instanceMethod yX5_drawNoise ∈ gt := g2 63 (by decide +kernel) (by decide +kernel)
theorem tw_2_64 : Cond.selects RX5 yX5_drawNoise yX5_drawNoise ∈ gt := g2 64 (by decide +kernel) (by decide +kernel)
theorem tw_2_65 : Cond.code yX5_drawNoise cX5_drawNoise 12 none ∈ gt := g2 65 rfl (by rfl)
theorem tw_2_77 : Cond.methodLink RX1 92 yX3_toPairs ∈ gt := g2 77 (by decide +kernel) (by decide +kernel)
theorem tw_2_78 : Cond.static yX3_toPairs ∈ gt := g2 78 (by decide +kernel) (by decide +kernel)
theorem tw_2_79 : Cond.code yX3_toPairs cX3_toPairs 4 none ∈ gt := g2 79 rfl (by rfl)
theorem tw_1_92 : Cond.fieldLink RX1 38 "LatticeVault$Locksmith" "term" "[I" ∈ gt := g1 92 (by decide +kernel) (by decide +kernel)
theorem tw_2_106 : Cond.methodLink RX1 182 yX3_multiplyPairs ∈ gt := g2 106 (by decide +kernel) (by decide +kernel)
theorem tw_2_107 : Cond.static yX3_multiplyPairs ∈ gt := g2 107 (by decide +kernel) (by decide +kernel)
theorem tw_2_108 : Cond.code yX3_multiplyPairs cX3_multiplyPairs 5 none ∈ gt := g2 108 rfl (by rfl)
theorem tw_1_91 : Cond.fieldLink RX1 34 "LatticeVault$Locksmith" "sum" "[I" ∈ gt := g1 91 (by decide +kernel) (by decide +kernel)
theorem tw_2_112 : Cond.methodLink RX1 149 yX3_addTimes ∈ gt := g2 112 (by decide +kernel) (by decide +kernel)
theorem tw_2_113 : Cond.static yX3_addTimes ∈ gt := g2 113 (by decide +kernel) (by decide +kernel)
theorem tw_2_114 : Cond.code yX3_addTimes cX3_addTimes 4 none ∈ gt := g2 114 rfl (by rfl)
theorem tw_2_6 : Cond.methodLink RX1 49 yX6_begin ∈ gt := g2 6 (by decide +kernel) (by decide +kernel)
theorem tw_2_15 : Cond.methodLink RX1 54 yX6_absorb ∈ gt := g2 15 (by decide +kernel) (by decide +kernel)
theorem tw_1_89 : Cond.fieldLink RX1 26 "LatticeVault$Locksmith" "digest" "LLatticeVault$Row;" ∈ gt := g1 89 (by decide +kernel) (by decide +kernel)
theorem tw_2_39 : Cond.methodLink RX1 64 yX6_absorbByte ∈ gt := g2 39 (by decide +kernel) (by decide +kernel)
theorem tw_2_40 : Cond.methodLink RX1 67 yX1_tellSeeds ∈ gt := g2 40 (by decide +kernel) (by decide +kernel)
theorem tw_2_42 : Cond.instanceMethod yX1_tellSeeds ∈ gt := g2 42 (by decide +kernel) (by decide +kernel)
theorem tw_0_3 : Cond.selects RX1 yX1_tellSeeds yX1_tellSeeds ∈ gt := g0 3 (by decide +kernel) (by decide +kernel)
theorem tw_1_6 : Cond.initialized RX1 ∈ gt := g1 6 (by decide +kernel) (by decide +kernel)
theorem tw_2_43 : Cond.code yX1_tellSeeds cX1_tellSeeds 1 none ∈ gt := g2 43 rfl (by rfl)
theorem tw_2_58 : Cond.methodLink RX1 70 yX1_drawVector ∈ gt := g2 58 (by decide +kernel) (by decide +kernel)
theorem tw_2_60 : Cond.instanceMethod yX1_drawVector ∈ gt := g2 60 (by decide +kernel) (by decide +kernel)
theorem tw_0_4 : Cond.selects RX1 yX1_drawVector yX1_drawVector ∈ gt := g0 4 (by decide +kernel) (by decide +kernel)
theorem tw_2_61 : Cond.code yX1_drawVector cX1_drawVector 3 none ∈ gt := g2 61 rfl (by rfl)
theorem tw_2_115 : Cond.methodLink RX1 105 yX4_appendPart ∈ gt := g2 115 (by decide +kernel) (by decide +kernel)
theorem tw_2_116 : Cond.instanceMethod yX4_appendPart ∈ gt := g2 116 (by decide +kernel) (by decide +kernel)
theorem tw_2_117 : Cond.selects RX4 yX4_appendPart yX4_appendPart ∈ gt := g2 117 (by decide +kernel) (by decide +kernel)
theorem tw_2_118 : Cond.code yX4_appendPart cX4_appendPart 5 none ∈ gt := g2 118 rfl (by rfl)
theorem tw_2_120 : Cond.methodLink RX1 108 yX2_innerLength ∈ gt := g2 120 (by decide +kernel) (by decide +kernel)
theorem tw_2_121 : Cond.instanceMethod yX2_innerLength ∈ gt := g2 121 (by decide +kernel) (by decide +kernel)
theorem tw_2_122 : Cond.selects RX2 yX2_innerLength yX2_innerLength ∈ gt := g2 122 (by decide +kernel) (by decide +kernel)
theorem tw_1_8 : Cond.initialized RX2 ∈ gt := g1 8 (by decide +kernel) (by decide +kernel)
theorem tw_2_123 : Cond.code yX2_innerLength cX2_innerLength 1 (some .int) ∈ gt := g2 123 rfl (by rfl)
theorem tw_2_124 : Cond.methodLink RX1 112 yX2_publicLength ∈ gt := g2 124 (by decide +kernel) (by decide +kernel)
theorem tw_1_219 : Cond.instanceMethod yX2_publicLength ∈ gt := g1 219 (by decide +kernel) (by decide +kernel)
theorem tw_1_220 : Cond.selects RX2 yX2_publicLength yX2_publicLength ∈ gt := g1 220 (by decide +kernel) (by decide +kernel)
theorem tw_1_221 : Cond.code yX2_publicLength cX2_publicLength 1 (some .int) ∈ gt := g1 221 rfl (by rfl)
theorem tw_2_125 : Cond.methodLink RX1 115 yX1_tellDigest ∈ gt := g2 125 (by decide +kernel) (by decide +kernel)
theorem tw_2_127 : Cond.instanceMethod yX1_tellDigest ∈ gt := g2 127 (by decide +kernel) (by decide +kernel)
theorem tw_0_6 : Cond.selects RX1 yX1_tellDigest yX1_tellDigest ∈ gt := g0 6 (by decide +kernel) (by decide +kernel)
theorem tw_2_128 : Cond.code yX1_tellDigest cX1_tellDigest 4 none ∈ gt := g2 128 rfl (by rfl)
theorem tw_2_85 : Cond.methodLink RX1 77 yX0_pack ∈ gt := g2 85 (by decide +kernel) (by decide +kernel)
theorem tw_2_86 : Cond.static yX0_pack ∈ gt := g2 86 (by decide +kernel) (by decide +kernel)
theorem tw_2_87 : Cond.code yX0_pack cX0_pack 7 none ∈ gt := g2 87 rfl (by rfl)
theorem tw_2_89 : Cond.methodLink RX1 98 yX5_drawUniform ∈ gt := g2 89 (by decide +kernel) (by decide +kernel)
theorem tw_2_90 : Cond.instanceMethod yX5_drawUniform ∈ gt := g2 90 (by decide +kernel) (by decide +kernel)
theorem tw_2_91 : Cond.selects RX5 yX5_drawUniform yX5_drawUniform ∈ gt := g2 91 (by decide +kernel) (by decide +kernel)
theorem tw_2_92 : Cond.code yX5_drawUniform cX5_drawUniform 12 (some .int) ∈ gt := g2 92 rfl (by rfl)
theorem tw_2_102 : Cond.methodLink RX1 102 yX1_addProduct ∈ gt := g2 102 (by decide +kernel) (by decide +kernel)
theorem tw_2_104 : Cond.instanceMethod yX1_addProduct ∈ gt := g2 104 (by decide +kernel) (by decide +kernel)
theorem tw_0_5 : Cond.selects RX1 yX1_addProduct yX1_addProduct ∈ gt := g0 5 (by decide +kernel) (by decide +kernel)
theorem tw_2_105 : Cond.code yX1_addProduct cX1_addProduct 2 none ∈ gt := g2 105 rfl (by rfl)
theorem tw_1_88 : Cond.fieldLink RX1 23 "LatticeVault$Locksmith" "message" "LLatticeVault$Row;" ∈ gt := g1 88 (by decide +kernel) (by decide +kernel)
theorem tw_2_173 : Cond.methodLink RX1 118 yX4_become ∈ gt := g2 173 (by decide +kernel) (by decide +kernel)
theorem tw_1_191 : Cond.instanceMethod yX4_become ∈ gt := g1 191 (by decide +kernel) (by decide +kernel)
theorem tw_1_192 : Cond.selects RX4 yX4_become yX4_become ∈ gt := g1 192 (by decide +kernel) (by decide +kernel)
theorem tw_1_193 : Cond.code yX4_become cX4_become 2 none ∈ gt := g1 193 rfl (by rfl)
theorem tw_2_174 : Cond.methodLink RX1 122 yX1_seedFromMessage ∈ gt := g2 174 (by decide +kernel) (by decide +kernel)
theorem tw_2_176 : Cond.instanceMethod yX1_seedFromMessage ∈ gt := g2 176 (by decide +kernel) (by decide +kernel)
theorem tw_0_8 : Cond.selects RX1 yX1_seedFromMessage yX1_seedFromMessage ∈ gt := g0 8 (by decide +kernel) (by decide +kernel)
theorem tw_2_177 : Cond.code yX1_seedFromMessage cX1_seedFromMessage 3 none ∈ gt := g2 177 rfl (by rfl)
theorem tw_2_202 : Cond.methodLink RX1 139 yX0_unpack ∈ gt := g2 202 (by decide +kernel) (by decide +kernel)
theorem tw_2_203 : Cond.static yX0_unpack ∈ gt := g2 203 (by decide +kernel) (by decide +kernel)
theorem tw_2_204 : Cond.code yX0_unpack cX0_unpack 9 none ∈ gt := g2 204 rfl (by rfl)
theorem tw_2_208 : Cond.methodLink RX1 186 yX0_decompress ∈ gt := g2 208 (by decide +kernel) (by decide +kernel)
theorem tw_2_209 : Cond.static yX0_decompress ∈ gt := g2 209 (by decide +kernel) (by decide +kernel)
theorem tw_2_210 : Cond.code yX0_decompress cX0_decompress 5 none ∈ gt := g2 210 rfl (by rfl)
theorem tw_2_182 : Cond.methodLink RX1 126 yJ7_fill_53178 ∈ gt := g2 182 (by decide +kernel) (by decide +kernel)
theorem tw_2_183 : Cond.static yJ7_fill_53178 ∈ gt := g2 183 (by decide +kernel) (by decide +kernel)
theorem tw_2_184 : Cond.code yJ7_fill_53178 cJ7_fill_53178 4 none ∈ gt := g2 184 rfl (by rfl)
theorem tw_2_185 : Cond.methodLink RX1 143 yX3_fromPairs ∈ gt := g2 185 (by decide +kernel) (by decide +kernel)
theorem tw_2_186 : Cond.static yX3_fromPairs ∈ gt := g2 186 (by decide +kernel) (by decide +kernel)
theorem tw_2_187 : Cond.code yX3_fromPairs cX3_fromPairs 4 none ∈ gt := g2 187 rfl (by rfl)
theorem tw_4_163 : Cond.fieldLink RX1 132 "LatticeVault$ParameterSet" "du" "I" ∈ gt := g4 163 (by decide +kernel) (by decide +kernel)
theorem tw_4_164 : Cond.fieldLink RX1 146 "LatticeVault$ParameterSet" "dv" "I" ∈ gt := g4 164 (by decide +kernel) (by decide +kernel)
theorem tw_2_205 : Cond.methodLink RX1 135 yX1_unpackStretched ∈ gt := g2 205 (by decide +kernel) (by decide +kernel)
theorem tw_2_206 : Cond.static yX1_unpackStretched ∈ gt := g2 206 (by decide +kernel) (by decide +kernel)
theorem tw_2_207 : Cond.code yX1_unpackStretched cX1_unpackStretched 4 none ∈ gt := g2 207 rfl (by rfl)
theorem tw_2_195 : Cond.methodLink RX1 153 yX0_compress ∈ gt := g2 195 (by decide +kernel) (by decide +kernel)
theorem tw_2_196 : Cond.static yX0_compress ∈ gt := g2 196 (by decide +kernel) (by decide +kernel)
theorem tw_2_197 : Cond.code yX0_compress cX0_compress 4 none ∈ gt := g2 197 rfl (by rfl)
theorem tw_2_232 : Cond.methodLink RX1 156 yX2_privateLength ∈ gt := g2 232 (by decide +kernel) (by decide +kernel)
theorem tw_2_150 : Cond.instanceMethod yX2_privateLength ∈ gt := g2 150 (by decide +kernel) (by decide +kernel)
theorem tw_2_151 : Cond.selects RX2 yX2_privateLength yX2_privateLength ∈ gt := g2 151 (by decide +kernel) (by decide +kernel)
theorem tw_2_152 : Cond.code yX2_privateLength cX2_privateLength 1 (some .int) ∈ gt := g2 152 rfl (by rfl)
theorem tw_2_233 : Cond.methodLink RX1 159 yX2_textLength ∈ gt := g2 233 (by decide +kernel) (by decide +kernel)
theorem tw_2_162 : Cond.instanceMethod yX2_textLength ∈ gt := g2 162 (by decide +kernel) (by decide +kernel)
theorem tw_2_163 : Cond.selects RX2 yX2_textLength yX2_textLength ∈ gt := g2 163 (by decide +kernel) (by decide +kernel)
theorem tw_2_164 : Cond.code yX2_textLength cX2_textLength 1 (some .int) ∈ gt := g2 164 rfl (by rfl)
theorem tw_2_157 : Cond.methodLink RX1 168 yX4_partIsSame ∈ gt := g2 157 (by decide +kernel) (by decide +kernel)
theorem tw_4_162 : Cond.fieldLink RX1 172 "LatticeVault$ParameterSet" "eta2" "I" ∈ gt := g4 162 (by decide +kernel) (by decide +kernel)
theorem tw_2_191 : Cond.methodLink RX1 175 yX1_packCompressed ∈ gt := g2 191 (by decide +kernel) (by decide +kernel)
theorem tw_2_193 : Cond.instanceMethod yX1_packCompressed ∈ gt := g2 193 (by decide +kernel) (by decide +kernel)
theorem tw_0_9 : Cond.selects RX1 yX1_packCompressed yX1_packCompressed ∈ gt := g0 9 (by decide +kernel) (by decide +kernel)
theorem tw_2_194 : Cond.code yX1_packCompressed cX1_packCompressed 2 none ∈ gt := g2 194 rfl (by rfl)
theorem tw_2_198 : Cond.methodLink RX1 178 yX1_lockLast ∈ gt := g2 198 (by decide +kernel) (by decide +kernel)
theorem tw_2_200 : Cond.instanceMethod yX1_lockLast ∈ gt := g2 200 (by decide +kernel) (by decide +kernel)
theorem tw_0_10 : Cond.selects RX1 yX1_lockLast yX1_lockLast ∈ gt := g0 10 (by decide +kernel) (by decide +kernel)
theorem tw_2_201 : Cond.code yX1_lockLast cX1_lockLast 5 none ∈ gt := g2 201 rfl (by rfl)
def wp_X1_draft (X : XT) (J : MJ) (x0 : Nat) (I : MI) (L : ML) (q : Option Nat → MI → ML → Prop) : Prop := (∃ r_1 : Nat, J x0 2 = some r_1 ∧ q (some r_1) I L)
def wp_X1_seeds (X : XT) (J : MJ) (x0 : Nat) (I : MI) (L : ML) (q : Option Nat → MI → ML → Prop) : Prop := (∃ r_1 : Nat, J x0 3 = some r_1 ∧ q (some r_1) I L)
def wp_X1_tellSeeds (X : XT) (J : MJ) (x0 : Nat) (I : MI) (L : ML) (q : MI → ML → Prop) : Prop := (∃ r_1 : Nat, J x0 0 = some r_1 ∧ (wp_X6_finish X J r_1 I L (fun I_2 L_3 => (∃ r_4 : Nat, J x0 3 = some r_4 ∧ (wp_X4_clear X J r_4 I_2 L_3 (fun I_5 L_6 => (wp_X6_tellTo X J r_1 r_4 64 I_5 L_6 (fun I_7 L_8 => q I_7 L_8))))))))
def wl_X1_drawVector_2 (X : XT) (J : MJ) (q : MI → ML → Prop)  (x0 : Nat) (x1 : Nat) : Nat → Int32 → MI → ML → Prop
  | 0 => fun _ _ _ => False
  | fu + 1 => fun x2 I L => ((((enI 0 x1) ≤ x2) → q I L) ∧ (¬ ((enI 0 x1) ≤ x2) → (∃ r_1 : Nat, J x0 1 = some r_1 ∧ (∃ r_2 : Nat, J x0 6 = some r_2 ∧ (vp_in x2 (sl X r_2) ∧ ∃ r_4 : Nat, J r_2 x2.toNatClampNeg = some r_4 ∧ (∃ r_5 : Nat, J x0 3 = some r_5 ∧ (wp_X5_drawNoise X J r_1 r_4 r_5 32 (enI 1 x1) x2 I L (fun I_6 L_7 => (vp_in x2 (sl X r_2) ∧ ∃ r_9 : Nat, J r_2 x2.toNatClampNeg = some r_9 ∧ (wp_X3_toPairs X J r_9 I_6 L_7 (fun I_10 L_11 => (∀ x2_12 : Int32, x2_12 = x2 + 1 → wl_X1_drawVector_2 X J q  x0 x1 fu x2_12 I_10 L_11))))))))))))
def wp_X1_drawVector (X : XT) (J : MJ) (x0 : Nat) (x1 : Nat) (I : MI) (L : ML) (q : MI → ML → Prop) : Prop := ∃ fu0 : Nat, wl_X1_drawVector_2 X J q  x0 x1 fu0 0 I L
def wp_X1_addProduct (X : XT) (J : MJ) (x0 : Nat) (x1 : Nat) (I : MI) (L : ML) (q : MI → ML → Prop) : Prop := (∃ r_1 : Nat, J x0 8 = some r_1 ∧ (wp_X3_multiplyPairs X J r_1 x1 r_1 I L (fun I_2 L_3 => (∃ r_4 : Nat, J x0 7 = some r_4 ∧ (wp_X3_addTimes X J r_4 r_1 1 I_2 L_3 (fun I_5 L_6 => q I_5 L_6))))))
def wp_X1_tellDigest (X : XT) (J : MJ) (x0 : Nat) (x1 : Nat) (x2 : Int32) (x3 : Int32) (I : MI) (L : ML) (q : MI → ML → Prop) : Prop := (∃ r_1 : Nat, J x0 0 = some r_1 ∧ (wp_X6_begin X J r_1 0 I L (fun I_2 L_3 => (wp_X6_absorb X J r_1 x1 x2 x3 I_2 L_3 (fun I_4 L_5 => (wp_X6_finish X J r_1 I_4 L_5 (fun I_6 L_7 => (∃ r_8 : Nat, J x0 5 = some r_8 ∧ (wp_X4_clear X J r_8 I_6 L_7 (fun I_9 L_10 => (wp_X6_tellTo X J r_1 r_8 32 I_9 L_10 (fun I_11 L_12 => q I_11 L_12))))))))))))
def wl_X1_makeKeys_130 (X : XT) (J : MJ) (q : Int32 → MI → ML → Prop) (k83 : Int32 → MI → ML → Prop) (x0 : Nat) (x1 : Nat) (x2 : Nat) (x3 : Int32) (x4 : Int32) : Nat → Int32 → MI → ML → Prop
  | 0 => fun _ _ _ => False
  | fu + 1 => fun x5 I L => ((((enI 0 x1) ≤ x5) → (∃ r_39 : Nat, J x0 7 = some r_39 ∧ (∃ r_40 : Nat, J x0 2 = some r_40 ∧ (wp_X0_pack X J r_39 12 r_40 I L (fun I_41 L_42 => (∀ x4_43 : Int32, x4_43 = x4 + 1 → k83 x4_43 I_41 L_42)))))) ∧ (¬ ((enI 0 x1) ≤ x5) → (∃ r_44 : Nat, J x0 1 = some r_44 ∧ (∃ r_45 : Nat, J x0 8 = some r_45 ∧ (∃ r_46 : Nat, J x0 3 = some r_46 ∧ (wp_X5_drawUniform X J r_44 r_45 r_46 0 x5 x4 x3 I L (fun v_49 I_47 L_48 => ((¬ (v_49 = (-2)) → (∃ r_50 : Nat, J x0 6 = some r_50 ∧ (vp_in x5 (sl X r_50) ∧ ∃ r_52 : Nat, J r_50 x5.toNatClampNeg = some r_52 ∧ (wp_X1_addProduct X J x0 r_52 I_47 L_48 (fun I_53 L_54 => (∀ x5_55 : Int32, x5_55 = x5 + 1 → wl_X1_makeKeys_130 X J q k83 x0 x1 x2 x3 x4 fu x5_55 I_53 L_54)))))) ∧ ((v_49 = (-2)) → q 0 I_47 L_48)))))))))
def wl_X1_makeKeys_83 (X : XT) (J : MJ) (q : Int32 → MI → ML → Prop)  (x0 : Nat) (x1 : Nat) (x2 : Nat) (x3 : Int32) : Nat → Int32 → MI → ML → Prop
  | 0 => fun _ _ _ => False
  | fu + 1 => fun x4 I L => ((((enI 0 x1) ≤ x4) → (∃ r_15 : Nat, J x0 2 = some r_15 ∧ (∃ r_16 : Nat, J x0 3 = some r_16 ∧ (wp_X4_appendPart X J r_15 r_16 0 32 I L (fun I_17 L_18 => (wp_X2_innerLength X J x1 I_17 L_18 (fun v_21 I_19 L_20 => (wp_X2_publicLength X J x1 I_19 L_20 (fun v_24 I_22 L_23 => (wp_X1_tellDigest X J x0 r_15 v_21 v_24 I_22 L_23 (fun I_25 L_26 => (∃ r_27 : Nat, J x0 5 = some r_27 ∧ (wp_X4_appendPart X J r_15 r_27 0 32 I_25 L_26 (fun I_28 L_29 => (wp_X4_appendPart X J r_15 x2 32 32 I_28 L_29 (fun I_30 L_31 => q 1 I_30 L_31)))))))))))))))) ∧ (¬ ((enI 0 x1) ≤ x4) → (∃ r_32 : Nat, J x0 1 = some r_32 ∧ (∃ r_33 : Nat, J x0 7 = some r_33 ∧ (∃ r_34 : Nat, J x0 3 = some r_34 ∧ (wp_X5_drawNoise X J r_32 r_33 r_34 32 (enI 1 x1) ((enI 0 x1) + x4) I L (fun I_35 L_36 => (wp_X3_toPairs X J r_33 I_35 L_36 (fun I_37 L_38 => ∃ fu0 : Nat, wl_X1_makeKeys_130 X J q (wl_X1_makeKeys_83 X J q  x0 x1 x2 x3 fu) x0 x1 x2 x3 x4 fu0 0 I_37 L_38)))))))))
def wl_X1_makeKeys_49 (X : XT) (J : MJ) (q : Int32 → MI → ML → Prop)  (x0 : Nat) (x1 : Nat) (x2 : Nat) (x3 : Int32) : Nat → Int32 → MI → ML → Prop
  | 0 => fun _ _ _ => False
  | fu + 1 => fun x4 I L => ((((enI 0 x1) ≤ x4) → ∃ fu0 : Nat, wl_X1_makeKeys_83 X J q  x0 x1 x2 x3 fu0 0 I L) ∧ (¬ ((enI 0 x1) ≤ x4) → (∃ r_56 : Nat, J x0 6 = some r_56 ∧ (vp_in x4 (sl X r_56) ∧ ∃ r_58 : Nat, J r_56 x4.toNatClampNeg = some r_58 ∧ (∃ r_59 : Nat, J x0 2 = some r_59 ∧ (wp_X0_pack X J r_58 12 r_59 I L (fun I_60 L_61 => (∀ x4_62 : Int32, x4_62 = x4 + 1 → wl_X1_makeKeys_49 X J q  x0 x1 x2 x3 fu x4_62 I_60 L_61))))))))
def wp_X1_makeKeys (X : XT) (J : MJ) (x0 : Nat) (x1 : Nat) (x2 : Nat) (x3 : Int32) (I : MI) (L : ML) (q : Int32 → MI → ML → Prop) : Prop := (∃ r_1 : Nat, J x0 0 = some r_1 ∧ (wp_X6_begin X J r_1 1 I L (fun I_2 L_3 => (wp_X6_absorb X J r_1 x2 0 32 I_2 L_3 (fun I_4 L_5 => (wp_X6_absorbByte X J r_1 (enI 0 x1) I_4 L_5 (fun I_6 L_7 => (wp_X1_tellSeeds X J x0 I_6 L_7 (fun I_8 L_9 => (wp_X1_drawVector X J x0 x1 I_8 L_9 (fun I_10 L_11 => (∃ r_12 : Nat, J x0 2 = some r_12 ∧ (wp_X4_clear X J r_12 I_10 L_11 (fun I_13 L_14 => ∃ fu0 : Nat, wl_X1_makeKeys_49 X J q  x0 x1 x2 x3 fu0 0 I_13 L_14))))))))))))))
def wp_X1_seedFromMessage (X : XT) (J : MJ) (x0 : Nat) (x1 : Nat) (x2 : Int32) (I : MI) (L : ML) (q : MI → ML → Prop) : Prop := (∃ r_1 : Nat, J x0 0 = some r_1 ∧ (wp_X6_begin X J r_1 1 I L (fun I_2 L_3 => (∃ r_4 : Nat, J x0 4 = some r_4 ∧ (wp_X6_absorb X J r_1 r_4 0 32 I_2 L_3 (fun I_5 L_6 => (wp_X6_absorb X J r_1 x1 x2 32 I_5 L_6 (fun I_7 L_8 => (wp_X1_tellSeeds X J x0 I_7 L_8 (fun I_9 L_10 => q I_9 L_10))))))))))
def wp_X1_readMessage (X : XT) (J : MJ) (x0 : Nat) (x1 : Nat) (x2 : Nat) (x3 : Nat) (I : MI) (L : ML) (q : MI → ML → Prop) : Prop := (∃ r_1 : Nat, J x0 4 = some r_1 ∧ (wp_X4_become X J r_1 x3 I L (fun I_2 L_3 => (wp_X2_publicLength X J x1 I_2 L_3 (fun v_6 I_4 L_5 => (wp_X1_tellDigest X J x0 x2 0 v_6 I_4 L_5 (fun I_7 L_8 => (∃ r_9 : Nat, J x0 5 = some r_9 ∧ (wp_X1_seedFromMessage X J x0 r_9 0 I_7 L_8 (fun I_10 L_11 => q I_10 L_11))))))))))
def wp_X1_unpackStretched (X : XT) (J : MJ) (x0 : Nat) (x1 : Nat) (x2 : Int32) (x3 : Int32) (I : MI) (L : ML) (q : MI → ML → Prop) : Prop := (wp_X0_unpack X J x0 x3 x1 x2 I L (fun I_1 L_2 => (wp_X0_decompress X J x0 x3 I_1 L_2 (fun I_3 L_4 => q I_3 L_4))))
def wl_X1_unlockText_19 (X : XT) (J : MJ) (q : MI → ML → Prop)  (x0 : Nat) (x1 : Nat) (x2 : Nat) (x3 : Nat) (x4 : Nat) : Nat → Int32 → MI → ML → Prop
  | 0 => fun _ _ _ => False
  | fu + 1 => fun x5 I L => ((((enI 0 x1) ≤ x5) → (∃ r_7 : Nat, J x0 7 = some r_7 ∧ (wp_X3_fromPairs X J r_7 I L (fun I_8 L_9 => (∃ r_10 : Nat, J x0 8 = some r_10 ∧ (wp_X1_unpackStretched X J r_10 x3 ((32 * (enI 3 x1)) * (enI 0 x1)) (enI 4 x1) I_8 L_9 (fun I_11 L_12 => (wp_X3_addTimes X J r_10 r_7 (-1) I_11 L_12 (fun I_13 L_14 => (wp_X0_compress X J r_10 1 I_13 L_14 (fun I_15 L_16 => (∃ r_17 : Nat, J x0 4 = some r_17 ∧ (wp_X4_clear X J r_17 I_15 L_16 (fun I_18 L_19 => (wp_X0_pack X J r_10 1 r_17 I_18 L_19 (fun I_20 L_21 => (wp_X2_innerLength X J x1 I_20 L_21 (fun v_24 I_22 L_23 => (wp_X2_publicLength X J x1 I_22 L_23 (fun v_27 I_25 L_26 => (wp_X1_seedFromMessage X J x0 x2 (v_24 + v_27) I_25 L_26 (fun I_28 L_29 => q I_28 L_29)))))))))))))))))))))) ∧ (¬ ((enI 0 x1) ≤ x5) → (wp_X1_unpackStretched X J x4 x3 ((32 * (enI 3 x1)) * x5) (enI 3 x1) I L (fun I_30 L_31 => (wp_X3_toPairs X J x4 I_30 L_31 (fun I_32 L_33 => (∃ r_34 : Nat, J x0 8 = some r_34 ∧ (wp_X0_unpack X J r_34 12 x2 (384 * x5) I_32 L_33 (fun I_35 L_36 => (wp_X1_addProduct X J x0 x4 I_35 L_36 (fun I_37 L_38 => (∀ x5_39 : Int32, x5_39 = x5 + 1 → wl_X1_unlockText_19 X J q  x0 x1 x2 x3 x4 fu x5_39 I_37 L_38))))))))))))
def wp_X1_unlockText (X : XT) (J : MJ) (x0 : Nat) (x1 : Nat) (x2 : Nat) (x3 : Nat) (I : MI) (L : ML) (q : MI → ML → Prop) : Prop := (∃ r_1 : Nat, J x0 6 = some r_1 ∧ (vp_in 0 (sl X r_1) ∧ ∃ r_3 : Nat, J r_1 (0 : Int32).toNatClampNeg = some r_3 ∧ (∃ r_4 : Nat, J x0 7 = some r_4 ∧ (wp_J7_fill_53178 X J r_4 0 I L (fun I_5 L_6 => ∃ fu0 : Nat, wl_X1_unlockText_19 X J q  x0 x1 x2 x3 r_3 fu0 0 I_5 L_6)))))
def wp_X1_tellRefusal (X : XT) (J : MJ) (x0 : Nat) (x1 : Nat) (x2 : Nat) (x3 : Nat) (x4 : Nat) (I : MI) (L : ML) (q : MI → ML → Prop) : Prop := (∃ r_1 : Nat, J x0 0 = some r_1 ∧ (wp_X6_begin X J r_1 3 I L (fun I_2 L_3 => (wp_X2_privateLength X J x1 I_2 L_3 (fun v_6 I_4 L_5 => (wp_X6_absorb X J r_1 x2 (v_6 - 32) 32 I_4 L_5 (fun I_7 L_8 => (wp_X2_textLength X J x1 I_7 L_8 (fun v_11 I_9 L_10 => (wp_X6_absorb X J r_1 x3 0 v_11 I_9 L_10 (fun I_12 L_13 => (wp_X6_finish X J r_1 I_12 L_13 (fun I_14 L_15 => (wp_X6_tellTo X J r_1 x4 32 I_14 L_15 (fun I_16 L_17 => q I_16 L_17)))))))))))))))
def wp_X1_hashIsTrue (X : XT) (J : MJ) (x0 : Nat) (x1 : Nat) (x2 : Nat) (I : MI) (L : ML) (q : Int32 → MI → ML → Prop) : Prop := (wp_X2_innerLength X J x1 I L (fun v_3 I_1 L_2 => (wp_X2_publicLength X J x1 I_1 L_2 (fun v_6 I_4 L_5 => (wp_X1_tellDigest X J x0 x2 v_3 v_6 I_4 L_5 (fun I_7 L_8 => (∃ r_9 : Nat, J x0 5 = some r_9 ∧ (wp_X2_innerLength X J x1 I_7 L_8 (fun v_12 I_10 L_11 => (wp_X2_publicLength X J x1 I_10 L_11 (fun v_15 I_13 L_14 => (wp_X4_partIsSame X J r_9 0 x2 (v_12 + v_15) 32 I_13 L_14 (fun v_18 I_16 L_17 => ((v_18 = 0 ∨ v_18 = 1) ∧ q v_18 I_16 L_17))))))))))))))
def wp_X1_packCompressed (X : XT) (J : MJ) (x0 : Nat) (x1 : Int32) (I : MI) (L : ML) (q : MI → ML → Prop) : Prop := (∃ r_1 : Nat, J x0 7 = some r_1 ∧ (wp_X0_compress X J r_1 x1 I L (fun I_2 L_3 => (∃ r_4 : Nat, J x0 2 = some r_4 ∧ (wp_X0_pack X J r_1 x1 r_4 I_2 L_3 (fun I_5 L_6 => q I_5 L_6))))))
def wl_X1_lockLast_11 (X : XT) (J : MJ) (q : MI → ML → Prop)  (x0 : Nat) (x1 : Nat) (x2 : Nat) (x3 : Int32) : Nat → Int32 → MI → ML → Prop
  | 0 => fun _ _ _ => False
  | fu + 1 => fun x4 I L => ((((enI 0 x1) ≤ x4) → (∃ r_4 : Nat, J x0 7 = some r_4 ∧ (wp_X3_fromPairs X J r_4 I L (fun I_5 L_6 => (∃ r_7 : Nat, J x0 1 = some r_7 ∧ (∃ r_8 : Nat, J x0 8 = some r_8 ∧ (∃ r_9 : Nat, J x0 3 = some r_9 ∧ (wp_X5_drawNoise X J r_7 r_8 r_9 32 (enI 2 x1) (2 * (enI 0 x1)) I_5 L_6 (fun I_10 L_11 => (wp_X3_addTimes X J r_4 r_8 1 I_10 L_11 (fun I_12 L_13 => (∃ r_14 : Nat, J x0 4 = some r_14 ∧ (wp_X1_unpackStretched X J r_8 r_14 0 1 I_12 L_13 (fun I_15 L_16 => (wp_X3_addTimes X J r_4 r_8 1 I_15 L_16 (fun I_17 L_18 => (wp_X1_packCompressed X J x0 (enI 4 x1) I_17 L_18 (fun I_19 L_20 => q I_19 L_20)))))))))))))))))) ∧ (¬ ((enI 0 x1) ≤ x4) → (∃ r_21 : Nat, J x0 8 = some r_21 ∧ (wp_X0_unpack X J r_21 12 x2 (x3 + (384 * x4)) I L (fun I_22 L_23 => (∃ r_24 : Nat, J x0 6 = some r_24 ∧ (vp_in x4 (sl X r_24) ∧ ∃ r_26 : Nat, J r_24 x4.toNatClampNeg = some r_26 ∧ (wp_X1_addProduct X J x0 r_26 I_22 L_23 (fun I_27 L_28 => (∀ x4_29 : Int32, x4_29 = x4 + 1 → wl_X1_lockLast_11 X J q  x0 x1 x2 x3 fu x4_29 I_27 L_28))))))))))
def wp_X1_lockLast (X : XT) (J : MJ) (x0 : Nat) (x1 : Nat) (x2 : Nat) (x3 : Int32) (I : MI) (L : ML) (q : MI → ML → Prop) : Prop := (∃ r_1 : Nat, J x0 7 = some r_1 ∧ (wp_J7_fill_53178 X J r_1 0 I L (fun I_2 L_3 => ∃ fu0 : Nat, wl_X1_lockLast_11 X J q  x0 x1 x2 x3 fu0 0 I_2 L_3)))
def wl_X1_lockMessage_35 (X : XT) (J : MJ) (q : Int32 → MI → ML → Prop) (k15 : Int32 → MI → ML → Prop) (x0 : Nat) (x1 : Nat) (x2 : Nat) (x3 : Int32) (x4 : Int32) (x5 : Int32) : Nat → Int32 → MI → ML → Prop
  | 0 => fun _ _ _ => False
  | fu + 1 => fun x6 I L => ((((enI 0 x1) ≤ x6) → (∃ r_11 : Nat, J x0 7 = some r_11 ∧ (wp_X3_fromPairs X J r_11 I L (fun I_12 L_13 => (∃ r_14 : Nat, J x0 1 = some r_14 ∧ (∃ r_15 : Nat, J x0 8 = some r_15 ∧ (∃ r_16 : Nat, J x0 3 = some r_16 ∧ (wp_X5_drawNoise X J r_14 r_15 r_16 32 (enI 2 x1) ((enI 0 x1) + x5) I_12 L_13 (fun I_17 L_18 => (wp_X3_addTimes X J r_11 r_15 1 I_17 L_18 (fun I_19 L_20 => (wp_X1_packCompressed X J x0 (enI 3 x1) I_19 L_20 (fun I_21 L_22 => (∀ x5_23 : Int32, x5_23 = x5 + 1 → k15 x5_23 I_21 L_22)))))))))))))) ∧ (¬ ((enI 0 x1) ≤ x6) → (∃ r_24 : Nat, J x0 1 = some r_24 ∧ (∃ r_25 : Nat, J x0 8 = some r_25 ∧ (wp_X2_innerLength X J x1 I L (fun v_28 I_26 L_27 => (wp_X5_drawUniform X J r_24 r_25 x2 (x3 + v_28) x5 x6 x4 I_26 L_27 (fun v_31 I_29 L_30 => ((¬ (v_31 = (-2)) → (∃ r_32 : Nat, J x0 6 = some r_32 ∧ (vp_in x6 (sl X r_32) ∧ ∃ r_34 : Nat, J r_32 x6.toNatClampNeg = some r_34 ∧ (wp_X1_addProduct X J x0 r_34 I_29 L_30 (fun I_35 L_36 => (∀ x6_37 : Int32, x6_37 = x6 + 1 → wl_X1_lockMessage_35 X J q k15 x0 x1 x2 x3 x4 x5 fu x6_37 I_35 L_36)))))) ∧ ((v_31 = (-2)) → q 0 I_29 L_30))))))))))
def wl_X1_lockMessage_15 (X : XT) (J : MJ) (q : Int32 → MI → ML → Prop)  (x0 : Nat) (x1 : Nat) (x2 : Nat) (x3 : Int32) (x4 : Int32) : Nat → Int32 → MI → ML → Prop
  | 0 => fun _ _ _ => False
  | fu + 1 => fun x5 I L => ((((enI 0 x1) ≤ x5) → (wp_X1_lockLast X J x0 x1 x2 x3 I L (fun I_6 L_7 => q 1 I_6 L_7))) ∧ (¬ ((enI 0 x1) ≤ x5) → (∃ r_8 : Nat, J x0 7 = some r_8 ∧ (wp_J7_fill_53178 X J r_8 0 I L (fun I_9 L_10 => ∃ fu0 : Nat, wl_X1_lockMessage_35 X J q (wl_X1_lockMessage_15 X J q  x0 x1 x2 x3 x4 fu) x0 x1 x2 x3 x4 x5 fu0 0 I_9 L_10)))))
def wp_X1_lockMessage (X : XT) (J : MJ) (x0 : Nat) (x1 : Nat) (x2 : Nat) (x3 : Int32) (x4 : Int32) (I : MI) (L : ML) (q : Int32 → MI → ML → Prop) : Prop := (wp_X1_drawVector X J x0 x1 I L (fun I_1 L_2 => (∃ r_3 : Nat, J x0 2 = some r_3 ∧ (wp_X4_clear X J r_3 I_1 L_2 (fun I_4 L_5 => ∃ fu0 : Nat, wl_X1_lockMessage_15 X J q  x0 x1 x2 x3 x4 fu0 0 I_4 L_5)))))
set_option maxHeartbeats 4000000 in
set_option maxRecDepth 100000 in
theorem s_X1_draft (l : Launch) (D : va_G) (X : XT) (ad : Nat → Nat) (n : Nat) (A : Nat → Prop) (J : MJ) (hWT : WT X n J) (x0 : Nat) (t0 : Ty X n x0 4) (I : MI) (L : ML) (q : Option Nat → MI → ML → Prop) (h : wp_X1_draft X J x0 I L q) : Met l yX1_draft (wz yX1_draft cX1_draft 1 (some (.object "LatticeVault$Row"))) ({ frames := 0, cells := 0, slots := 0, locals := 0 } : Room) (va_Pc [.ref (ad x0)] (Pr D X ad n A J I L)) (QE ad (fun k => Ty X n k 5) D X ad n A J q) 0 0 A := by
  refine Met_go (by decide +kernel) (Nat.le_of_ble_eq_true rfl) (fun p e s m below meth c hx hb hr hml hown hlk hnm hts hK hZ hA hV ls hl => ?_)
  have C0 : Cx p s m meth c cX1_draft (some (.object "LatticeVault$Row")) 1 yX1_draft [.ref (ad x0)] D X ad n A J := ⟨hx, hb, hr, hml, hown, hlk, hnm, hts, hK, hZ, hA, hWT⟩
  unfold wp_X1_draft at h
  have hl : lv_has ls 1 [(0, .ref (ad x0))] := hl
  refine lv_aload_n hx hb dX1_draft_0 rfl (lv_at hl 0 rfl) ?_
  obtain ⟨r_1, hr_1, h⟩ := h
  have tr_1 : Ty X n r_1 5 := hWT.r (c := 0) (j := 2) t0 rfl hr_1
  refine m_getr (C := RX1) (T := TX1) (N := 9) (ci := 0) hx hb hts iwX1 hown hK hV t0 rfl 2 (by decide) rfl rfl hr_1 (hts _ tw_1_86) (fun _ h9 => h9) dX1_draft_1 ?_
  exact m_eret hx hb hr (Or.inl ⟨_, rfl⟩) hlk hK hZ hA hV (some r_1) rfl h (fun _ z => by cases z; exact tr_1) dX1_draft_4
set_option maxHeartbeats 4000000 in
set_option maxRecDepth 100000 in
theorem s_X1_seeds (l : Launch) (D : va_G) (X : XT) (ad : Nat → Nat) (n : Nat) (A : Nat → Prop) (J : MJ) (hWT : WT X n J) (x0 : Nat) (t0 : Ty X n x0 4) (I : MI) (L : ML) (q : Option Nat → MI → ML → Prop) (h : wp_X1_seeds X J x0 I L q) : Met l yX1_seeds (wz yX1_seeds cX1_seeds 1 (some (.object "LatticeVault$Row"))) ({ frames := 0, cells := 0, slots := 0, locals := 0 } : Room) (va_Pc [.ref (ad x0)] (Pr D X ad n A J I L)) (QE ad (fun k => Ty X n k 5) D X ad n A J q) 0 0 A := by
  refine Met_go (by decide +kernel) (Nat.le_of_ble_eq_true rfl) (fun p e s m below meth c hx hb hr hml hown hlk hnm hts hK hZ hA hV ls hl => ?_)
  have C0 : Cx p s m meth c cX1_seeds (some (.object "LatticeVault$Row")) 1 yX1_seeds [.ref (ad x0)] D X ad n A J := ⟨hx, hb, hr, hml, hown, hlk, hnm, hts, hK, hZ, hA, hWT⟩
  unfold wp_X1_seeds at h
  have hl : lv_has ls 1 [(0, .ref (ad x0))] := hl
  refine lv_aload_n hx hb dX1_seeds_0 rfl (lv_at hl 0 rfl) ?_
  obtain ⟨r_1, hr_1, h⟩ := h
  have tr_1 : Ty X n r_1 5 := hWT.r (c := 0) (j := 3) t0 rfl hr_1
  refine m_getr (C := RX1) (T := TX1) (N := 9) (ci := 0) hx hb hts iwX1 hown hK hV t0 rfl 3 (by decide) rfl rfl hr_1 (hts _ tw_1_87) (fun _ h9 => h9) dX1_seeds_1 ?_
  exact m_eret hx hb hr (Or.inl ⟨_, rfl⟩) hlk hK hZ hA hV (some r_1) rfl h (fun _ z => by cases z; exact tr_1) dX1_seeds_4
set_option maxHeartbeats 4000000 in
set_option maxRecDepth 100000 in
theorem s_X1_tellSeeds (l : Launch) (D : va_G) (X : XT) (ad : Nat → Nat) (n : Nat) (A : Nat → Prop) (J : MJ) (hWT : WT X n J) (x0 : Nat) (t0 : Ty X n x0 4) (I : MI) (L : ML) (q : MI → ML → Prop) (h : wp_X1_tellSeeds X J x0 I L q) : Met l yX1_tellSeeds (wz yX1_tellSeeds cX1_tellSeeds 1 none) ({ frames := 3, cells := 0, slots := 0, locals := 99 } : Room) (va_Pc [.ref (ad x0)] (Pr D X ad n A J I L)) (QV D X ad n A J q) 0 0 A := by
  refine Met_go (by decide +kernel) (Nat.le_of_ble_eq_true rfl) (fun p e s m below meth c hx hb hr hml hown hlk hnm hts hK hZ hA hV ls hl => ?_)
  have C0 : Cx p s m meth c cX1_tellSeeds none 1 yX1_tellSeeds [.ref (ad x0)] D X ad n A J := ⟨hx, hb, hr, hml, hown, hlk, hnm, hts, hK, hZ, hA, hWT⟩
  unfold wp_X1_tellSeeds at h
  have hl : lv_has ls 1 [(0, .ref (ad x0))] := hl
  refine lv_aload_n hx hb dX1_tellSeeds_0 rfl (lv_at hl 0 rfl) ?_
  obtain ⟨r_1, hr_1, h⟩ := h
  have tr_1 : Ty X n r_1 7 := hWT.r (c := 0) (j := 0) t0 rfl hr_1
  refine m_getr (C := RX1) (T := TX1) (N := 9) (ci := 0) hx hb hts iwX1 hown hK hV t0 rfl 0 (by decide) rfl rfl hr_1 (hts _ tw_1_84) (fun _ h9 => h9) dX1_tellSeeds_1 ?_
  refine k_callv (va_runV (As := []) (rest := []) ⟨hx, hb, hml, hown, hts⟩ (s_X6_finish l D X ad n A J hWT r_1 tr_1 I L _ h) (cwV 0 hts (gV tw_2_44 tw_2_45 tw_2_46 tw_1_4 tw_2_47) rfl rfl rfl (by decide +kernel) (by decide)) (k_preV (ci := 3) hK hV hA hZ tr_1 rfl _) rfl rfl hl.1 rfl (lv_room (Nat.le_of_ble_eq_true rfl)) dX1_tellSeeds_4 ⟨Nat.zero_le _, Nat.zero_le _⟩) hV (fun I_2 L_3 H locs h hV => ?_)
  refine lv_aload_n hx hb dX1_tellSeeds_7 rfl (lv_at hl 0 rfl) ?_
  obtain ⟨r_4, hr_4, h⟩ := h
  have tr_4 : Ty X n r_4 5 := hWT.r (c := 0) (j := 3) t0 rfl hr_4
  refine m_getr (C := RX1) (T := TX1) (N := 9) (ci := 0) hx hb hts iwX1 hown hK hV t0 rfl 3 (by decide) rfl rfl hr_4 (hts _ tw_1_87) (fun _ h9 => h9) dX1_tellSeeds_8 ?_
  refine k_callv (va_runV (As := []) (rest := []) ⟨hx, hb, hml, hown, hts⟩ (s_X4_clear l D X ad n A J hWT r_4 tr_4 I_2 L_3 _ h) (cwV 0 hts (gV tw_2_48 tw_1_215 tw_1_216 tw_1_2 tw_1_217) rfl rfl rfl (by decide +kernel) (by decide)) (k_preV (ci := 1) hK hV hA hZ tr_4 rfl _) rfl rfl hl.1 rfl (lv_room (Nat.le_of_ble_eq_true rfl)) dX1_tellSeeds_11 ⟨Nat.zero_le _, Nat.zero_le _⟩) hV (fun I_5 L_6 H locs h hV => ?_)
  refine lv_aload_n hx hb dX1_tellSeeds_14 rfl (lv_at hl 0 rfl) ?_
  refine m_getr (C := RX1) (T := TX1) (N := 9) (ci := 0) hx hb hts iwX1 hown hK hV t0 rfl 0 (by decide) rfl rfl hr_1 (hts _ tw_1_84) (fun _ h9 => h9) dX1_tellSeeds_15 ?_
  refine lv_aload_n hx hb dX1_tellSeeds_18 rfl (lv_at hl 0 rfl) ?_
  refine m_getr (C := RX1) (T := TX1) (N := 9) (ci := 0) hx hb hts iwX1 hown hK hV t0 rfl 3 (by decide) rfl rfl hr_4 (hts _ tw_1_87) (fun _ h9 => h9) dX1_tellSeeds_19 ?_
  refine lv_bipush (v := 64) hx hb dX1_tellSeeds_22 (by decide) ?_
  refine k_callv (va_runV (As := [.ref (ad r_4), .int 64]) (rest := []) ⟨hx, hb, hml, hown, hts⟩ (s_X6_tellTo l D X ad n A J hWT r_1 tr_1 r_4 tr_4 64 I_5 L_6 _ h) (cwV 2 hts (gV tw_2_49 tw_2_50 tw_2_51 tw_1_4 tw_2_52) rfl rfl rfl (by decide +kernel) (by decide)) (k_preV (ci := 3) hK hV hA hZ tr_1 rfl _) rfl rfl hl.1 rfl (lv_room (Nat.le_of_ble_eq_true rfl)) dX1_tellSeeds_24 ⟨Nat.zero_le _, Nat.zero_le _⟩) hV (fun I_7 L_8 H locs h hV => ?_)
  exact m_vret hx hb hr hlk hK hZ hA hV h dX1_tellSeeds_27
set_option maxHeartbeats 4000000 in
set_option maxRecDepth 100000 in
theorem n_X1_drawVector_2 {p : Program} {l : Launch} {e : Env} {s : State} {m : MethodId} {below : List Frame} {meth : Method} {c : Code} {D : va_G} {X : XT} {ad : Nat → Nat} {n : Nat} {A : Nat → Prop} {J : MJ} {av : List Value} {R : Room} (hR : R = ({ frames := 4, cells := 0, slots := 0, locals := 131 } : Room)) (C0 : Cx p s m meth c cX1_drawVector none 3 yX1_drawVector av D X ad n A J) {q : MI → ML → Prop}  {x0 : Nat} {x1 : Nat} (t0 : Ty X n x0 4) (t1 : x1 < 3) : ∀ (fu : Nat) (x2 : Int32) (I : MI) (L : ML) (H : Heap) (locs : List Loc) (ls : Array Slot), wl_X1_drawVector_2 X J q  x0 x1 fu x2 I L → Wd D X ad n A s.heap J I L H locs → lv_has ls 3 [(0, .ref (ad x0)), (1, .ref (X.2.1 x1)), (2, .int x2)] → W p l e R s m av.toArray below meth c H locs 0 0 (MQ below (QV D X ad n A J q) av.toArray s 0 0 A) (F0 m 2 ls []) := by
  obtain ⟨hx, hb, hr, hml, hown, hlk, hnm, hts, hK, hZ, hA, hWT⟩ := id C0
  subst hR
  intro fu
  induction fu with
  | zero => intro x2 I L H locs ls h; exact absurd h (fun h => h)
  | succ fu ih =>
    intro x2 I L H locs ls h hV hl
    refine lv_iload_n hx hb dX1_drawVector_2 rfl (lv_at hl 2 rfl) ?_
    refine lv_aload_n hx hb dX1_drawVector_3 rfl (lv_at hl 1 rfl) ?_
    refine va_getE (q := enF.getD 0 ("", "", "", [])) hx hb hZ.1 t1 hV.2.2 hown (by decide) (hts _ tw_4_158) (fun _ h9 => h9) dX1_drawVector_4 ?_
    refine lv_icmp_ge (tgt := 49) hx hb dX1_drawVector_7 (by decide) (fun hc => ?_) (fun hc => ?_)
    · replace h := h.1 hc
      exact m_vret hx hb hr hlk hK hZ hA hV h dX1_drawVector_49
    · replace h := h.2 hc
      refine lv_aload_n hx hb dX1_drawVector_10 rfl (lv_at hl 0 rfl) ?_
      obtain ⟨r_1, hr_1, h⟩ := h
      have tr_1 : Ty X n r_1 6 := hWT.r (c := 0) (j := 1) t0 rfl hr_1
      refine m_getr (C := RX1) (T := TX1) (N := 9) (ci := 0) hx hb hts iwX1 hown hK hV t0 rfl 1 (by decide) rfl rfl hr_1 (hts _ tw_1_85) (fun _ h9 => h9) dX1_drawVector_11 ?_
      refine lv_aload_n hx hb dX1_drawVector_14 rfl (lv_at hl 0 rfl) ?_
      obtain ⟨r_2, hr_2, h⟩ := h
      have tr_2 : Ty X n r_2 3 := hWT.r (c := 0) (j := 6) t0 rfl hr_2
      refine m_getr (C := RX1) (T := TX1) (N := 9) (ci := 0) hx hb hts iwX1 hown hK hV t0 rfl 6 (by decide) rfl rfl hr_2 (hts _ tw_1_90) (fun _ h9 => h9) dX1_drawVector_15 ?_
      refine lv_iload_n hx hb dX1_drawVector_18 rfl (lv_at hl 2 rfl) ?_
      obtain ⟨hi_3, r_4, hr_4, h⟩ := h
      have tr_4 : Ty X n r_4 0 := hWT.a tr_2 hr_4
      refine m_aald hx hb hK hV tr_2 hi_3 hr_4 dX1_drawVector_19 ?_
      refine lv_aload_n hx hb dX1_drawVector_20 rfl (lv_at hl 0 rfl) ?_
      obtain ⟨r_5, hr_5, h⟩ := h
      have tr_5 : Ty X n r_5 5 := hWT.r (c := 0) (j := 3) t0 rfl hr_5
      refine m_getr (C := RX1) (T := TX1) (N := 9) (ci := 0) hx hb hts iwX1 hown hK hV t0 rfl 3 (by decide) rfl rfl hr_5 (hts _ tw_1_87) (fun _ h9 => h9) dX1_drawVector_21 ?_
      refine lv_bipush (v := 32) hx hb dX1_drawVector_24 (by decide) ?_
      refine lv_aload_n hx hb dX1_drawVector_26 rfl (lv_at hl 1 rfl) ?_
      refine va_getE (q := enF.getD 1 ("", "", "", [])) hx hb hZ.1 t1 hV.2.2 hown (by decide) (hts _ tw_4_159) (fun _ h9 => h9) dX1_drawVector_27 ?_
      refine lv_iload_n hx hb dX1_drawVector_30 rfl (lv_at hl 2 rfl) ?_
      refine k_callv (va_runV (As := [.ref (ad r_4), .ref (ad r_5), .int 32, .int (enI 1 x1), .int x2]) (rest := []) ⟨hx, hb, hml, hown, hts⟩ (s_X5_drawNoise l D X ad n A J hWT r_1 tr_1 r_4 tr_4 r_5 tr_5 32 (enI 1 x1) x2 I L _ h) (cwV 5 hts (gV tw_2_62 tw_2_63 tw_2_64 tw_1_5 tw_2_65) rfl rfl rfl (by decide +kernel) (by decide)) (k_preV (ci := 2) hK hV hA hZ tr_1 rfl _) rfl rfl hl.1 rfl (lv_room (Nat.le_of_ble_eq_true rfl)) dX1_drawVector_31 ⟨Nat.zero_le _, Nat.zero_le _⟩) hV (fun I_6 L_7 H locs h hV => ?_)
      refine lv_aload_n hx hb dX1_drawVector_34 rfl (lv_at hl 0 rfl) ?_
      refine m_getr (C := RX1) (T := TX1) (N := 9) (ci := 0) hx hb hts iwX1 hown hK hV t0 rfl 6 (by decide) rfl rfl hr_2 (hts _ tw_1_90) (fun _ h9 => h9) dX1_drawVector_35 ?_
      refine lv_iload_n hx hb dX1_drawVector_38 rfl (lv_at hl 2 rfl) ?_
      obtain ⟨hi_8, r_9, hr_9, h⟩ := h
      have tr_9 : Ty X n r_9 0 := hWT.a tr_2 hr_9
      refine m_aald hx hb hK hV tr_2 hi_8 hr_9 dX1_drawVector_39 ?_
      refine k_callv (va_runS (As := [.ref (ad r_9)]) (rest := []) ⟨hx, hb, hml, hown, hts⟩ (s_X3_toPairs l D X ad n A J hWT r_9 tr_9 I_6 L_7 _ h) (va_cwS 1 hts (gS tw_2_77 tw_2_78 tw_1_13 tw_2_79) rfl rfl rfl (by decide +kernel) (by decide)) (k_preS hK hV hA hZ _) rfl rfl hl.1 rfl (lv_room (Nat.le_of_ble_eq_true rfl)) dX1_drawVector_40 ⟨Nat.zero_le _, Nat.zero_le _⟩) hV (fun I_10 L_11 H locs h hV => ?_)
      obtain ⟨x2_12, ex2_12⟩ : ∃ y : Int32, y = x2 + 1 := ⟨_, rfl⟩
      replace h := h x2_12 ex2_12
      refine lv_iinc (v := x2_12) (lv' := [(2, .int x2_12), (0, .ref (ad x0)), (1, .ref (X.2.1 x1))]) hx hb dX1_drawVector_43 hl (k := 2) rfl (by rw [ex2_12]; rfl) (by decide) rfl (fun ls hl => ?_)
      refine lv_goto (tgt := 2) hx hb dX1_drawVector_46 (by decide) ?_
      exact ih x2_12 _ _ _ _ _ h hV (lv_sub hl [1, 2, 0] rfl)
set_option maxHeartbeats 4000000 in
set_option maxRecDepth 100000 in
theorem s_X1_drawVector (l : Launch) (D : va_G) (X : XT) (ad : Nat → Nat) (n : Nat) (A : Nat → Prop) (J : MJ) (hWT : WT X n J) (x0 : Nat) (t0 : Ty X n x0 4) (x1 : Nat) (t1 : x1 < 3) (I : MI) (L : ML) (q : MI → ML → Prop) (h : wp_X1_drawVector X J x0 x1 I L q) : Met l yX1_drawVector (wz yX1_drawVector cX1_drawVector 3 none) ({ frames := 4, cells := 0, slots := 0, locals := 131 } : Room) (va_Pc [.ref (ad x0), .ref (X.2.1 x1)] (Pr D X ad n A J I L)) (QV D X ad n A J q) 0 0 A := by
  refine Met_go (by decide +kernel) (Nat.le_of_ble_eq_true rfl) (fun p e s m below meth c hx hb hr hml hown hlk hnm hts hK hZ hA hV ls hl => ?_)
  have C0 : Cx p s m meth c cX1_drawVector none 3 yX1_drawVector [.ref (ad x0), .ref (X.2.1 x1)] D X ad n A J := ⟨hx, hb, hr, hml, hown, hlk, hnm, hts, hK, hZ, hA, hWT⟩
  unfold wp_X1_drawVector at h
  have hl : lv_has ls 3 [(0, .ref (ad x0)), (1, .ref (X.2.1 x1))] := hl
  refine lv_iconst (v := 0) hx hb dX1_drawVector_0 (by decide) ?_
  refine lv_istore_n (lv' := [(2, .int 0), (0, .ref (ad x0)), (1, .ref (X.2.1 x1))]) hx hb dX1_drawVector_1 rfl hl (by decide) rfl (fun ls hl => ?_)
  obtain ⟨fu0, h⟩ := h
  exact n_X1_drawVector_2 rfl C0 t0 t1   fu0 0 _ _ _ _ _ h hV (lv_sub hl [1, 2, 0] rfl)
set_option maxHeartbeats 4000000 in
set_option maxRecDepth 100000 in
theorem s_X1_addProduct (l : Launch) (D : va_G) (X : XT) (ad : Nat → Nat) (n : Nat) (A : Nat → Prop) (J : MJ) (hWT : WT X n J) (x0 : Nat) (t0 : Ty X n x0 4) (x1 : Nat) (t1 : Ty X n x1 0) (I : MI) (L : ML) (q : MI → ML → Prop) (h : wp_X1_addProduct X J x0 x1 I L q) : Met l yX1_addProduct (wz yX1_addProduct cX1_addProduct 2 none) ({ frames := 2, cells := 0, slots := 0, locals := 50 } : Room) (va_Pc [.ref (ad x0), .ref (ad x1)] (Pr D X ad n A J I L)) (QV D X ad n A J q) 0 0 A := by
  refine Met_go (by decide +kernel) (Nat.le_of_ble_eq_true rfl) (fun p e s m below meth c hx hb hr hml hown hlk hnm hts hK hZ hA hV ls hl => ?_)
  have C0 : Cx p s m meth c cX1_addProduct none 2 yX1_addProduct [.ref (ad x0), .ref (ad x1)] D X ad n A J := ⟨hx, hb, hr, hml, hown, hlk, hnm, hts, hK, hZ, hA, hWT⟩
  unfold wp_X1_addProduct at h
  have hl : lv_has ls 2 [(0, .ref (ad x0)), (1, .ref (ad x1))] := hl
  refine lv_aload_n hx hb dX1_addProduct_0 rfl (lv_at hl 0 rfl) ?_
  obtain ⟨r_1, hr_1, h⟩ := h
  have tr_1 : Ty X n r_1 0 := hWT.r (c := 0) (j := 8) t0 rfl hr_1
  refine m_getr (C := RX1) (T := TX1) (N := 9) (ci := 0) hx hb hts iwX1 hown hK hV t0 rfl 8 (by decide) rfl rfl hr_1 (hts _ tw_1_92) (fun _ h9 => h9) dX1_addProduct_1 ?_
  refine lv_aload_n hx hb dX1_addProduct_4 rfl (lv_at hl 1 rfl) ?_
  refine lv_aload_n hx hb dX1_addProduct_5 rfl (lv_at hl 0 rfl) ?_
  refine m_getr (C := RX1) (T := TX1) (N := 9) (ci := 0) hx hb hts iwX1 hown hK hV t0 rfl 8 (by decide) rfl rfl hr_1 (hts _ tw_1_92) (fun _ h9 => h9) dX1_addProduct_6 ?_
  refine k_callv (va_runS (As := [.ref (ad r_1), .ref (ad x1), .ref (ad r_1)]) (rest := []) ⟨hx, hb, hml, hown, hts⟩ (s_X3_multiplyPairs l D X ad n A J hWT r_1 tr_1 x1 t1 r_1 tr_1 I L _ h) (va_cwS 3 hts (gS tw_2_106 tw_2_107 tw_1_13 tw_2_108) rfl rfl rfl (by decide +kernel) (by decide)) (k_preS hK hV hA hZ _) rfl rfl hl.1 rfl (lv_room (Nat.le_of_ble_eq_true rfl)) dX1_addProduct_9 ⟨Nat.zero_le _, Nat.zero_le _⟩) hV (fun I_2 L_3 H locs h hV => ?_)
  refine lv_aload_n hx hb dX1_addProduct_12 rfl (lv_at hl 0 rfl) ?_
  obtain ⟨r_4, hr_4, h⟩ := h
  have tr_4 : Ty X n r_4 0 := hWT.r (c := 0) (j := 7) t0 rfl hr_4
  refine m_getr (C := RX1) (T := TX1) (N := 9) (ci := 0) hx hb hts iwX1 hown hK hV t0 rfl 7 (by decide) rfl rfl hr_4 (hts _ tw_1_91) (fun _ h9 => h9) dX1_addProduct_13 ?_
  refine lv_aload_n hx hb dX1_addProduct_16 rfl (lv_at hl 0 rfl) ?_
  refine m_getr (C := RX1) (T := TX1) (N := 9) (ci := 0) hx hb hts iwX1 hown hK hV t0 rfl 8 (by decide) rfl rfl hr_1 (hts _ tw_1_92) (fun _ h9 => h9) dX1_addProduct_17 ?_
  refine lv_iconst (v := 1) hx hb dX1_addProduct_20 (by decide) ?_
  refine k_callv (va_runS (As := [.ref (ad r_4), .ref (ad r_1), .int 1]) (rest := []) ⟨hx, hb, hml, hown, hts⟩ (s_X3_addTimes l D X ad n A J hWT r_4 tr_4 r_1 tr_1 1 I_2 L_3 _ h) (va_cwS 3 hts (gS tw_2_112 tw_2_113 tw_1_13 tw_2_114) rfl rfl rfl (by decide +kernel) (by decide)) (k_preS hK hV hA hZ _) rfl rfl hl.1 rfl (lv_room (Nat.le_of_ble_eq_true rfl)) dX1_addProduct_21 ⟨Nat.zero_le _, Nat.zero_le _⟩) hV (fun I_5 L_6 H locs h hV => ?_)
  exact m_vret hx hb hr hlk hK hZ hA hV h dX1_addProduct_24
set_option maxHeartbeats 4000000 in
set_option maxRecDepth 100000 in
theorem s_X1_tellDigest (l : Launch) (D : va_G) (X : XT) (ad : Nat → Nat) (n : Nat) (A : Nat → Prop) (J : MJ) (hWT : WT X n J) (x0 : Nat) (t0 : Ty X n x0 4) (x1 : Nat) (t1 : Ty X n x1 5) (x2 : Int32) (x3 : Int32) (I : MI) (L : ML) (q : MI → ML → Prop) (h : wp_X1_tellDigest X J x0 x1 x2 x3 I L q) : Met l yX1_tellDigest (wz yX1_tellDigest cX1_tellDigest 4 none) ({ frames := 3, cells := 0, slots := 0, locals := 100 } : Room) (va_Pc [.ref (ad x0), .ref (ad x1), .int x2, .int x3] (Pr D X ad n A J I L)) (QV D X ad n A J q) 0 0 A := by
  refine Met_go (by decide +kernel) (Nat.le_of_ble_eq_true rfl) (fun p e s m below meth c hx hb hr hml hown hlk hnm hts hK hZ hA hV ls hl => ?_)
  have C0 : Cx p s m meth c cX1_tellDigest none 4 yX1_tellDigest [.ref (ad x0), .ref (ad x1), .int x2, .int x3] D X ad n A J := ⟨hx, hb, hr, hml, hown, hlk, hnm, hts, hK, hZ, hA, hWT⟩
  unfold wp_X1_tellDigest at h
  have hl : lv_has ls 4 [(0, .ref (ad x0)), (1, .ref (ad x1)), (2, .int x2), (3, .int x3)] := hl
  refine lv_aload_n hx hb dX1_tellDigest_0 rfl (lv_at hl 0 rfl) ?_
  obtain ⟨r_1, hr_1, h⟩ := h
  have tr_1 : Ty X n r_1 7 := hWT.r (c := 0) (j := 0) t0 rfl hr_1
  refine m_getr (C := RX1) (T := TX1) (N := 9) (ci := 0) hx hb hts iwX1 hown hK hV t0 rfl 0 (by decide) rfl rfl hr_1 (hts _ tw_1_84) (fun _ h9 => h9) dX1_tellDigest_1 ?_
  refine lv_iconst (v := 0) hx hb dX1_tellDigest_4 (by decide) ?_
  refine k_callv (va_runV (As := [.int 0]) (rest := []) ⟨hx, hb, hml, hown, hts⟩ (s_X6_begin l D X ad n A J hWT r_1 tr_1 0 I L _ h) (cwV 1 hts (gV tw_2_6 tw_2_7 tw_2_8 tw_1_4 tw_2_9) rfl rfl rfl (by decide +kernel) (by decide)) (k_preV (ci := 3) hK hV hA hZ tr_1 rfl _) rfl rfl hl.1 rfl (lv_room (Nat.le_of_ble_eq_true rfl)) dX1_tellDigest_5 ⟨Nat.zero_le _, Nat.zero_le _⟩) hV (fun I_2 L_3 H locs h hV => ?_)
  refine lv_aload_n hx hb dX1_tellDigest_8 rfl (lv_at hl 0 rfl) ?_
  refine m_getr (C := RX1) (T := TX1) (N := 9) (ci := 0) hx hb hts iwX1 hown hK hV t0 rfl 0 (by decide) rfl rfl hr_1 (hts _ tw_1_84) (fun _ h9 => h9) dX1_tellDigest_9 ?_
  refine lv_aload_n hx hb dX1_tellDigest_12 rfl (lv_at hl 1 rfl) ?_
  refine lv_iload_n hx hb dX1_tellDigest_13 rfl (lv_at hl 2 rfl) ?_
  refine lv_iload_n hx hb dX1_tellDigest_14 rfl (lv_at hl 3 rfl) ?_
  refine k_callv (va_runV (As := [.ref (ad x1), .int x2, .int x3]) (rest := []) ⟨hx, hb, hml, hown, hts⟩ (s_X6_absorb l D X ad n A J hWT r_1 tr_1 x1 t1 x2 x3 I_2 L_3 _ h) (cwV 3 hts (gV tw_2_15 tw_2_16 tw_2_17 tw_1_4 tw_2_18) rfl rfl rfl (by decide +kernel) (by decide)) (k_preV (ci := 3) hK hV hA hZ tr_1 rfl _) rfl rfl hl.1 rfl (lv_room (Nat.le_of_ble_eq_true rfl)) dX1_tellDigest_15 ⟨Nat.zero_le _, Nat.zero_le _⟩) hV (fun I_4 L_5 H locs h hV => ?_)
  refine lv_aload_n hx hb dX1_tellDigest_18 rfl (lv_at hl 0 rfl) ?_
  refine m_getr (C := RX1) (T := TX1) (N := 9) (ci := 0) hx hb hts iwX1 hown hK hV t0 rfl 0 (by decide) rfl rfl hr_1 (hts _ tw_1_84) (fun _ h9 => h9) dX1_tellDigest_19 ?_
  refine k_callv (va_runV (As := []) (rest := []) ⟨hx, hb, hml, hown, hts⟩ (s_X6_finish l D X ad n A J hWT r_1 tr_1 I_4 L_5 _ h) (cwV 0 hts (gV tw_2_44 tw_2_45 tw_2_46 tw_1_4 tw_2_47) rfl rfl rfl (by decide +kernel) (by decide)) (k_preV (ci := 3) hK hV hA hZ tr_1 rfl _) rfl rfl hl.1 rfl (lv_room (Nat.le_of_ble_eq_true rfl)) dX1_tellDigest_22 ⟨Nat.zero_le _, Nat.zero_le _⟩) hV (fun I_6 L_7 H locs h hV => ?_)
  refine lv_aload_n hx hb dX1_tellDigest_25 rfl (lv_at hl 0 rfl) ?_
  obtain ⟨r_8, hr_8, h⟩ := h
  have tr_8 : Ty X n r_8 5 := hWT.r (c := 0) (j := 5) t0 rfl hr_8
  refine m_getr (C := RX1) (T := TX1) (N := 9) (ci := 0) hx hb hts iwX1 hown hK hV t0 rfl 5 (by decide) rfl rfl hr_8 (hts _ tw_1_89) (fun _ h9 => h9) dX1_tellDigest_26 ?_
  refine k_callv (va_runV (As := []) (rest := []) ⟨hx, hb, hml, hown, hts⟩ (s_X4_clear l D X ad n A J hWT r_8 tr_8 I_6 L_7 _ h) (cwV 0 hts (gV tw_2_48 tw_1_215 tw_1_216 tw_1_2 tw_1_217) rfl rfl rfl (by decide +kernel) (by decide)) (k_preV (ci := 1) hK hV hA hZ tr_8 rfl _) rfl rfl hl.1 rfl (lv_room (Nat.le_of_ble_eq_true rfl)) dX1_tellDigest_29 ⟨Nat.zero_le _, Nat.zero_le _⟩) hV (fun I_9 L_10 H locs h hV => ?_)
  refine lv_aload_n hx hb dX1_tellDigest_32 rfl (lv_at hl 0 rfl) ?_
  refine m_getr (C := RX1) (T := TX1) (N := 9) (ci := 0) hx hb hts iwX1 hown hK hV t0 rfl 0 (by decide) rfl rfl hr_1 (hts _ tw_1_84) (fun _ h9 => h9) dX1_tellDigest_33 ?_
  refine lv_aload_n hx hb dX1_tellDigest_36 rfl (lv_at hl 0 rfl) ?_
  refine m_getr (C := RX1) (T := TX1) (N := 9) (ci := 0) hx hb hts iwX1 hown hK hV t0 rfl 5 (by decide) rfl rfl hr_8 (hts _ tw_1_89) (fun _ h9 => h9) dX1_tellDigest_37 ?_
  refine lv_bipush (v := 32) hx hb dX1_tellDigest_40 (by decide) ?_
  refine k_callv (va_runV (As := [.ref (ad r_8), .int 32]) (rest := []) ⟨hx, hb, hml, hown, hts⟩ (s_X6_tellTo l D X ad n A J hWT r_1 tr_1 r_8 tr_8 32 I_9 L_10 _ h) (cwV 2 hts (gV tw_2_49 tw_2_50 tw_2_51 tw_1_4 tw_2_52) rfl rfl rfl (by decide +kernel) (by decide)) (k_preV (ci := 3) hK hV hA hZ tr_1 rfl _) rfl rfl hl.1 rfl (lv_room (Nat.le_of_ble_eq_true rfl)) dX1_tellDigest_42 ⟨Nat.zero_le _, Nat.zero_le _⟩) hV (fun I_11 L_12 H locs h hV => ?_)
  exact m_vret hx hb hr hlk hK hZ hA hV h dX1_tellDigest_45
set_option maxHeartbeats 4000000 in
set_option maxRecDepth 100000 in
theorem n_X1_makeKeys_130 {p : Program} {l : Launch} {e : Env} {s : State} {m : MethodId} {below : List Frame} {meth : Method} {c : Code} {D : va_G} {X : XT} {ad : Nat → Nat} {n : Nat} {A : Nat → Prop} {J : MJ} {av : List Value} {R : Room} (hR : R = ({ frames := 5, cells := 0, slots := 0, locals := 153 } : Room)) (C0 : Cx p s m meth c cX1_makeKeys (some .boolean) 6 yX1_makeKeys av D X ad n A J) {q : Int32 → MI → ML → Prop} {k83 : Int32 → MI → ML → Prop} {x0 : Nat} {x1 : Nat} {x2 : Nat} {x3 : Int32} {x4 : Int32} (t0 : Ty X n x0 4) (t1 : x1 < 3) (t2 : Ty X n x2 5)
    (hk83 : ∀ (x4 : Int32) (I : MI) (L : ML) (H : Heap) (locs : List Loc) (ls : Array Slot), k83 x4 I L → Wd D X ad n A s.heap J I L H locs → lv_has ls 6 [(0, .ref (ad x0)), (1, .ref (X.2.1 x1)), (2, .ref (ad x2)), (3, .int x3), (4, .int x4)] → W p l e R s m av.toArray below meth c H locs 0 0 (MQ below (QI D X ad n A J q) av.toArray s 0 0 A) (F0 m 83 ls [])) : ∀ (fu : Nat) (x5 : Int32) (I : MI) (L : ML) (H : Heap) (locs : List Loc) (ls : Array Slot), wl_X1_makeKeys_130 X J q k83 x0 x1 x2 x3 x4 fu x5 I L → Wd D X ad n A s.heap J I L H locs → lv_has ls 6 [(0, .ref (ad x0)), (1, .ref (X.2.1 x1)), (2, .ref (ad x2)), (3, .int x3), (4, .int x4), (5, .int x5)] → W p l e R s m av.toArray below meth c H locs 0 0 (MQ below (QI D X ad n A J q) av.toArray s 0 0 A) (F0 m 130 ls []) := by
  obtain ⟨hx, hb, hr, hml, hown, hlk, hnm, hts, hK, hZ, hA, hWT⟩ := id C0
  subst hR
  intro fu
  induction fu with
  | zero => intro x5 I L H locs ls h; exact absurd h (fun h => h)
  | succ fu ih =>
    intro x5 I L H locs ls h hV hl
    refine lv_iload hx hb dX1_makeKeys_130 (lv_at hl 5 rfl) ?_
    refine lv_aload_n hx hb dX1_makeKeys_132 rfl (lv_at hl 1 rfl) ?_
    refine va_getE (q := enF.getD 0 ("", "", "", [])) hx hb hZ.1 t1 hV.2.2 hown (by decide) (hts _ tw_4_158) (fun _ h9 => h9) dX1_makeKeys_133 ?_
    refine lv_icmp_ge (tgt := 184) hx hb dX1_makeKeys_136 (by decide) (fun hc => ?_) (fun hc => ?_)
    · replace h := h.1 hc
      refine lv_aload_n hx hb dX1_makeKeys_184 rfl (lv_at hl 0 rfl) ?_
      obtain ⟨r_39, hr_39, h⟩ := h
      have tr_39 : Ty X n r_39 0 := hWT.r (c := 0) (j := 7) t0 rfl hr_39
      refine m_getr (C := RX1) (T := TX1) (N := 9) (ci := 0) hx hb hts iwX1 hown hK hV t0 rfl 7 (by decide) rfl rfl hr_39 (hts _ tw_1_91) (fun _ h9 => h9) dX1_makeKeys_185 ?_
      refine lv_bipush (v := 12) hx hb dX1_makeKeys_188 (by decide) ?_
      refine lv_aload_n hx hb dX1_makeKeys_190 rfl (lv_at hl 0 rfl) ?_
      obtain ⟨r_40, hr_40, h⟩ := h
      have tr_40 : Ty X n r_40 5 := hWT.r (c := 0) (j := 2) t0 rfl hr_40
      refine m_getr (C := RX1) (T := TX1) (N := 9) (ci := 0) hx hb hts iwX1 hown hK hV t0 rfl 2 (by decide) rfl rfl hr_40 (hts _ tw_1_86) (fun _ h9 => h9) dX1_makeKeys_191 ?_
      refine k_callv (va_runS (As := [.ref (ad r_39), .int 12, .ref (ad r_40)]) (rest := []) ⟨hx, hb, hml, hown, hts⟩ (s_X0_pack l D X ad n A J hWT r_39 tr_39 12 r_40 tr_40 I L _ h) (va_cwS 3 hts (gS tw_2_85 tw_2_86 tw_1_14 tw_2_87) rfl rfl rfl (by decide +kernel) (by decide)) (k_preS hK hV hA hZ _) rfl rfl hl.1 rfl (lv_room (Nat.le_of_ble_eq_true rfl)) dX1_makeKeys_194 ⟨Nat.zero_le _, Nat.zero_le _⟩) hV (fun I_41 L_42 H locs h hV => ?_)
      obtain ⟨x4_43, ex4_43⟩ : ∃ y : Int32, y = x4 + 1 := ⟨_, rfl⟩
      replace h := h x4_43 ex4_43
      refine lv_iinc (v := x4_43) (lv' := [(4, .int x4_43), (0, .ref (ad x0)), (1, .ref (X.2.1 x1)), (2, .ref (ad x2)), (3, .int x3), (5, .int x5)]) hx hb dX1_makeKeys_197 hl (k := 4) rfl (by rw [ex4_43]; rfl) (by decide) rfl (fun ls hl => ?_)
      refine lv_goto (tgt := 83) hx hb dX1_makeKeys_200 (by decide) ?_
      exact hk83 x4_43 _ _ _ _ _ h hV (lv_sub hl [1, 2, 3, 4, 0] rfl)
    · replace h := h.2 hc
      refine lv_aload_n hx hb dX1_makeKeys_139 rfl (lv_at hl 0 rfl) ?_
      obtain ⟨r_44, hr_44, h⟩ := h
      have tr_44 : Ty X n r_44 6 := hWT.r (c := 0) (j := 1) t0 rfl hr_44
      refine m_getr (C := RX1) (T := TX1) (N := 9) (ci := 0) hx hb hts iwX1 hown hK hV t0 rfl 1 (by decide) rfl rfl hr_44 (hts _ tw_1_85) (fun _ h9 => h9) dX1_makeKeys_140 ?_
      refine lv_aload_n hx hb dX1_makeKeys_143 rfl (lv_at hl 0 rfl) ?_
      obtain ⟨r_45, hr_45, h⟩ := h
      have tr_45 : Ty X n r_45 0 := hWT.r (c := 0) (j := 8) t0 rfl hr_45
      refine m_getr (C := RX1) (T := TX1) (N := 9) (ci := 0) hx hb hts iwX1 hown hK hV t0 rfl 8 (by decide) rfl rfl hr_45 (hts _ tw_1_92) (fun _ h9 => h9) dX1_makeKeys_144 ?_
      refine lv_aload_n hx hb dX1_makeKeys_147 rfl (lv_at hl 0 rfl) ?_
      obtain ⟨r_46, hr_46, h⟩ := h
      have tr_46 : Ty X n r_46 5 := hWT.r (c := 0) (j := 3) t0 rfl hr_46
      refine m_getr (C := RX1) (T := TX1) (N := 9) (ci := 0) hx hb hts iwX1 hown hK hV t0 rfl 3 (by decide) rfl rfl hr_46 (hts _ tw_1_87) (fun _ h9 => h9) dX1_makeKeys_148 ?_
      refine lv_iconst (v := 0) hx hb dX1_makeKeys_151 (by decide) ?_
      refine lv_iload hx hb dX1_makeKeys_152 (lv_at hl 5 rfl) ?_
      refine lv_iload hx hb dX1_makeKeys_154 (lv_at hl 4 rfl) ?_
      refine lv_iload_n hx hb dX1_makeKeys_156 rfl (lv_at hl 3 rfl) ?_
      refine k_calli (va_runV (As := [.ref (ad r_45), .ref (ad r_46), .int 0, .int x5, .int x4, .int x3]) (rest := []) ⟨hx, hb, hml, hown, hts⟩ (s_X5_drawUniform l D X ad n A J hWT r_44 tr_44 r_45 tr_45 r_46 tr_46 0 x5 x4 x3 I L _ h) (cwV 6 hts (gV tw_2_89 tw_2_90 tw_2_91 tw_1_5 tw_2_92) rfl rfl rfl (by decide +kernel) (by decide)) (k_preV (ci := 2) hK hV hA hZ tr_44 rfl _) rfl rfl hl.1 rfl (lv_room (Nat.le_of_ble_eq_true rfl)) dX1_makeKeys_157 ⟨Nat.zero_le _, Nat.zero_le _⟩) hV (fun v_49 I_47 L_48 H locs h hV => ?_)
      refine lv_bipush (v := (-2)) hx hb dX1_makeKeys_160 (by decide) ?_
      refine lv_icmp_ne (tgt := 167) hx hb dX1_makeKeys_162 (by decide) (fun hc => ?_) (fun hc => ?_)
      · replace h := h.1 hc
        refine lv_aload_n hx hb dX1_makeKeys_167 rfl (lv_at hl 0 rfl) ?_
        refine lv_aload_n hx hb dX1_makeKeys_168 rfl (lv_at hl 0 rfl) ?_
        obtain ⟨r_50, hr_50, h⟩ := h
        have tr_50 : Ty X n r_50 3 := hWT.r (c := 0) (j := 6) t0 rfl hr_50
        refine m_getr (C := RX1) (T := TX1) (N := 9) (ci := 0) hx hb hts iwX1 hown hK hV t0 rfl 6 (by decide) rfl rfl hr_50 (hts _ tw_1_90) (fun _ h9 => h9) dX1_makeKeys_169 ?_
        refine lv_iload hx hb dX1_makeKeys_172 (lv_at hl 5 rfl) ?_
        obtain ⟨hi_51, r_52, hr_52, h⟩ := h
        have tr_52 : Ty X n r_52 0 := hWT.a tr_50 hr_52
        refine m_aald hx hb hK hV tr_50 hi_51 hr_52 dX1_makeKeys_174 ?_
        refine k_callv (va_runV (As := [.ref (ad r_52)]) (rest := []) ⟨hx, hb, hml, hown, hts⟩ (s_X1_addProduct l D X ad n A J hWT x0 t0 r_52 tr_52 I_47 L_48 _ h) (cwV 1 hts (gV tw_2_102 tw_2_104 tw_0_5 tw_1_6 tw_2_105) rfl rfl rfl (by decide +kernel) (by decide)) (k_preV (ci := 0) hK hV hA hZ t0 rfl _) rfl rfl hl.1 rfl (lv_room (Nat.le_of_ble_eq_true rfl)) dX1_makeKeys_175 ⟨Nat.zero_le _, Nat.zero_le _⟩) hV (fun I_53 L_54 H locs h hV => ?_)
        obtain ⟨x5_55, ex5_55⟩ : ∃ y : Int32, y = x5 + 1 := ⟨_, rfl⟩
        replace h := h x5_55 ex5_55
        refine lv_iinc (v := x5_55) (lv' := [(5, .int x5_55), (0, .ref (ad x0)), (1, .ref (X.2.1 x1)), (2, .ref (ad x2)), (3, .int x3), (4, .int x4)]) hx hb dX1_makeKeys_178 hl (k := 5) rfl (by rw [ex5_55]; rfl) (by decide) rfl (fun ls hl => ?_)
        refine lv_goto (tgt := 130) hx hb dX1_makeKeys_181 (by decide) ?_
        exact ih x5_55 _ _ _ _ _ h hV (lv_sub hl [1, 2, 3, 4, 5, 0] rfl)
      · replace h := h.2 hc
        refine lv_iconst (v := 0) hx hb dX1_makeKeys_165 (by decide) ?_
        exact m_zret hx hb hr hlk hK hZ hA hV (by decide) h dX1_makeKeys_166
set_option maxHeartbeats 4000000 in
set_option maxRecDepth 100000 in
theorem n_X1_makeKeys_83 {p : Program} {l : Launch} {e : Env} {s : State} {m : MethodId} {below : List Frame} {meth : Method} {c : Code} {D : va_G} {X : XT} {ad : Nat → Nat} {n : Nat} {A : Nat → Prop} {J : MJ} {av : List Value} {R : Room} (hR : R = ({ frames := 5, cells := 0, slots := 0, locals := 153 } : Room)) (C0 : Cx p s m meth c cX1_makeKeys (some .boolean) 6 yX1_makeKeys av D X ad n A J) {q : Int32 → MI → ML → Prop}  {x0 : Nat} {x1 : Nat} {x2 : Nat} {x3 : Int32} (t0 : Ty X n x0 4) (t1 : x1 < 3) (t2 : Ty X n x2 5) : ∀ (fu : Nat) (x4 : Int32) (I : MI) (L : ML) (H : Heap) (locs : List Loc) (ls : Array Slot), wl_X1_makeKeys_83 X J q  x0 x1 x2 x3 fu x4 I L → Wd D X ad n A s.heap J I L H locs → lv_has ls 6 [(0, .ref (ad x0)), (1, .ref (X.2.1 x1)), (2, .ref (ad x2)), (3, .int x3), (4, .int x4)] → W p l e R s m av.toArray below meth c H locs 0 0 (MQ below (QI D X ad n A J q) av.toArray s 0 0 A) (F0 m 83 ls []) := by
  obtain ⟨hx, hb, hr, hml, hown, hlk, hnm, hts, hK, hZ, hA, hWT⟩ := id C0
  subst hR
  intro fu
  induction fu with
  | zero => intro x4 I L H locs ls h; exact absurd h (fun h => h)
  | succ fu ih =>
    intro x4 I L H locs ls h hV hl
    refine lv_iload hx hb dX1_makeKeys_83 (lv_at hl 4 rfl) ?_
    refine lv_aload_n hx hb dX1_makeKeys_85 rfl (lv_at hl 1 rfl) ?_
    refine va_getE (q := enF.getD 0 ("", "", "", [])) hx hb hZ.1 t1 hV.2.2 hown (by decide) (hts _ tw_4_158) (fun _ h9 => h9) dX1_makeKeys_86 ?_
    refine lv_icmp_ge (tgt := 203) hx hb dX1_makeKeys_89 (by decide) (fun hc => ?_) (fun hc => ?_)
    · replace h := h.1 hc
      refine lv_aload_n hx hb dX1_makeKeys_203 rfl (lv_at hl 0 rfl) ?_
      obtain ⟨r_15, hr_15, h⟩ := h
      have tr_15 : Ty X n r_15 5 := hWT.r (c := 0) (j := 2) t0 rfl hr_15
      refine m_getr (C := RX1) (T := TX1) (N := 9) (ci := 0) hx hb hts iwX1 hown hK hV t0 rfl 2 (by decide) rfl rfl hr_15 (hts _ tw_1_86) (fun _ h9 => h9) dX1_makeKeys_204 ?_
      refine lv_aload_n hx hb dX1_makeKeys_207 rfl (lv_at hl 0 rfl) ?_
      obtain ⟨r_16, hr_16, h⟩ := h
      have tr_16 : Ty X n r_16 5 := hWT.r (c := 0) (j := 3) t0 rfl hr_16
      refine m_getr (C := RX1) (T := TX1) (N := 9) (ci := 0) hx hb hts iwX1 hown hK hV t0 rfl 3 (by decide) rfl rfl hr_16 (hts _ tw_1_87) (fun _ h9 => h9) dX1_makeKeys_208 ?_
      refine lv_iconst (v := 0) hx hb dX1_makeKeys_211 (by decide) ?_
      refine lv_bipush (v := 32) hx hb dX1_makeKeys_212 (by decide) ?_
      refine k_callv (va_runV (As := [.ref (ad r_16), .int 0, .int 32]) (rest := []) ⟨hx, hb, hml, hown, hts⟩ (s_X4_appendPart l D X ad n A J hWT r_15 tr_15 r_16 tr_16 0 32 I L _ h) (cwV 3 hts (gV tw_2_115 tw_2_116 tw_2_117 tw_1_2 tw_2_118) rfl rfl rfl (by decide +kernel) (by decide)) (k_preV (ci := 1) hK hV hA hZ tr_15 rfl _) rfl rfl hl.1 rfl (lv_room (Nat.le_of_ble_eq_true rfl)) dX1_makeKeys_214 ⟨Nat.zero_le _, Nat.zero_le _⟩) hV (fun I_17 L_18 H locs h hV => ?_)
      refine lv_aload_n hx hb dX1_makeKeys_217 rfl (lv_at hl 0 rfl) ?_
      refine lv_aload_n hx hb dX1_makeKeys_218 rfl (lv_at hl 0 rfl) ?_
      refine m_getr (C := RX1) (T := TX1) (N := 9) (ci := 0) hx hb hts iwX1 hown hK hV t0 rfl 2 (by decide) rfl rfl hr_15 (hts _ tw_1_86) (fun _ h9 => h9) dX1_makeKeys_219 ?_
      refine lv_aload_n hx hb dX1_makeKeys_222 rfl (lv_at hl 1 rfl) ?_
      refine k_calli (va_runV (As := []) (rest := [.ref (ad r_15), .ref (ad x0)]) ⟨hx, hb, hml, hown, hts⟩ (s_X2_innerLength l D X ad n A J hWT x1 t1 I_17 L_18 _ h) (cwV 0 hts (gV tw_2_120 tw_2_121 tw_2_122 tw_1_8 tw_2_123) rfl rfl rfl (by decide +kernel) (by decide)) (k_preE hK hV hA hZ t1 _) rfl rfl hl.1 rfl (lv_room (Nat.le_of_ble_eq_true rfl)) dX1_makeKeys_223 ⟨Nat.zero_le _, Nat.zero_le _⟩) hV (fun v_21 I_19 L_20 H locs h hV => ?_)
      refine lv_aload_n hx hb dX1_makeKeys_226 rfl (lv_at hl 1 rfl) ?_
      refine k_calli (va_runV (As := []) (rest := [.int v_21, .ref (ad r_15), .ref (ad x0)]) ⟨hx, hb, hml, hown, hts⟩ (s_X2_publicLength l D X ad n A J hWT x1 t1 I_19 L_20 _ h) (cwV 0 hts (gV tw_2_124 tw_1_219 tw_1_220 tw_1_8 tw_1_221) rfl rfl rfl (by decide +kernel) (by decide)) (k_preE hK hV hA hZ t1 _) rfl rfl hl.1 rfl (lv_room (Nat.le_of_ble_eq_true rfl)) dX1_makeKeys_227 ⟨Nat.zero_le _, Nat.zero_le _⟩) hV (fun v_24 I_22 L_23 H locs h hV => ?_)
      refine k_callv (va_runV (As := [.ref (ad r_15), .int v_21, .int v_24]) (rest := []) ⟨hx, hb, hml, hown, hts⟩ (s_X1_tellDigest l D X ad n A J hWT x0 t0 r_15 tr_15 v_21 v_24 I_22 L_23 _ h) (cwV 3 hts (gV tw_2_125 tw_2_127 tw_0_6 tw_1_6 tw_2_128) rfl rfl rfl (by decide +kernel) (by decide)) (k_preV (ci := 0) hK hV hA hZ t0 rfl _) rfl rfl hl.1 rfl (lv_room (Nat.le_of_ble_eq_true rfl)) dX1_makeKeys_230 ⟨Nat.zero_le _, Nat.zero_le _⟩) hV (fun I_25 L_26 H locs h hV => ?_)
      refine lv_aload_n hx hb dX1_makeKeys_233 rfl (lv_at hl 0 rfl) ?_
      refine m_getr (C := RX1) (T := TX1) (N := 9) (ci := 0) hx hb hts iwX1 hown hK hV t0 rfl 2 (by decide) rfl rfl hr_15 (hts _ tw_1_86) (fun _ h9 => h9) dX1_makeKeys_234 ?_
      refine lv_aload_n hx hb dX1_makeKeys_237 rfl (lv_at hl 0 rfl) ?_
      obtain ⟨r_27, hr_27, h⟩ := h
      have tr_27 : Ty X n r_27 5 := hWT.r (c := 0) (j := 5) t0 rfl hr_27
      refine m_getr (C := RX1) (T := TX1) (N := 9) (ci := 0) hx hb hts iwX1 hown hK hV t0 rfl 5 (by decide) rfl rfl hr_27 (hts _ tw_1_89) (fun _ h9 => h9) dX1_makeKeys_238 ?_
      refine lv_iconst (v := 0) hx hb dX1_makeKeys_241 (by decide) ?_
      refine lv_bipush (v := 32) hx hb dX1_makeKeys_242 (by decide) ?_
      refine k_callv (va_runV (As := [.ref (ad r_27), .int 0, .int 32]) (rest := []) ⟨hx, hb, hml, hown, hts⟩ (s_X4_appendPart l D X ad n A J hWT r_15 tr_15 r_27 tr_27 0 32 I_25 L_26 _ h) (cwV 3 hts (gV tw_2_115 tw_2_116 tw_2_117 tw_1_2 tw_2_118) rfl rfl rfl (by decide +kernel) (by decide)) (k_preV (ci := 1) hK hV hA hZ tr_15 rfl _) rfl rfl hl.1 rfl (lv_room (Nat.le_of_ble_eq_true rfl)) dX1_makeKeys_244 ⟨Nat.zero_le _, Nat.zero_le _⟩) hV (fun I_28 L_29 H locs h hV => ?_)
      refine lv_aload_n hx hb dX1_makeKeys_247 rfl (lv_at hl 0 rfl) ?_
      refine m_getr (C := RX1) (T := TX1) (N := 9) (ci := 0) hx hb hts iwX1 hown hK hV t0 rfl 2 (by decide) rfl rfl hr_15 (hts _ tw_1_86) (fun _ h9 => h9) dX1_makeKeys_248 ?_
      refine lv_aload_n hx hb dX1_makeKeys_251 rfl (lv_at hl 2 rfl) ?_
      refine lv_bipush (v := 32) hx hb dX1_makeKeys_252 (by decide) ?_
      refine lv_bipush (v := 32) hx hb dX1_makeKeys_254 (by decide) ?_
      refine k_callv (va_runV (As := [.ref (ad x2), .int 32, .int 32]) (rest := []) ⟨hx, hb, hml, hown, hts⟩ (s_X4_appendPart l D X ad n A J hWT r_15 tr_15 x2 t2 32 32 I_28 L_29 _ h) (cwV 3 hts (gV tw_2_115 tw_2_116 tw_2_117 tw_1_2 tw_2_118) rfl rfl rfl (by decide +kernel) (by decide)) (k_preV (ci := 1) hK hV hA hZ tr_15 rfl _) rfl rfl hl.1 rfl (lv_room (Nat.le_of_ble_eq_true rfl)) dX1_makeKeys_256 ⟨Nat.zero_le _, Nat.zero_le _⟩) hV (fun I_30 L_31 H locs h hV => ?_)
      refine lv_iconst (v := 1) hx hb dX1_makeKeys_259 (by decide) ?_
      exact m_zret hx hb hr hlk hK hZ hA hV (by decide) h dX1_makeKeys_260
    · replace h := h.2 hc
      refine lv_aload_n hx hb dX1_makeKeys_92 rfl (lv_at hl 0 rfl) ?_
      obtain ⟨r_32, hr_32, h⟩ := h
      have tr_32 : Ty X n r_32 6 := hWT.r (c := 0) (j := 1) t0 rfl hr_32
      refine m_getr (C := RX1) (T := TX1) (N := 9) (ci := 0) hx hb hts iwX1 hown hK hV t0 rfl 1 (by decide) rfl rfl hr_32 (hts _ tw_1_85) (fun _ h9 => h9) dX1_makeKeys_93 ?_
      refine lv_aload_n hx hb dX1_makeKeys_96 rfl (lv_at hl 0 rfl) ?_
      obtain ⟨r_33, hr_33, h⟩ := h
      have tr_33 : Ty X n r_33 0 := hWT.r (c := 0) (j := 7) t0 rfl hr_33
      refine m_getr (C := RX1) (T := TX1) (N := 9) (ci := 0) hx hb hts iwX1 hown hK hV t0 rfl 7 (by decide) rfl rfl hr_33 (hts _ tw_1_91) (fun _ h9 => h9) dX1_makeKeys_97 ?_
      refine lv_aload_n hx hb dX1_makeKeys_100 rfl (lv_at hl 0 rfl) ?_
      obtain ⟨r_34, hr_34, h⟩ := h
      have tr_34 : Ty X n r_34 5 := hWT.r (c := 0) (j := 3) t0 rfl hr_34
      refine m_getr (C := RX1) (T := TX1) (N := 9) (ci := 0) hx hb hts iwX1 hown hK hV t0 rfl 3 (by decide) rfl rfl hr_34 (hts _ tw_1_87) (fun _ h9 => h9) dX1_makeKeys_101 ?_
      refine lv_bipush (v := 32) hx hb dX1_makeKeys_104 (by decide) ?_
      refine lv_aload_n hx hb dX1_makeKeys_106 rfl (lv_at hl 1 rfl) ?_
      refine va_getE (q := enF.getD 1 ("", "", "", [])) hx hb hZ.1 t1 hV.2.2 hown (by decide) (hts _ tw_4_159) (fun _ h9 => h9) dX1_makeKeys_107 ?_
      refine lv_aload_n hx hb dX1_makeKeys_110 rfl (lv_at hl 1 rfl) ?_
      refine va_getE (q := enF.getD 0 ("", "", "", [])) hx hb hZ.1 t1 hV.2.2 hown (by decide) (hts _ tw_4_158) (fun _ h9 => h9) dX1_makeKeys_111 ?_
      refine lv_iload hx hb dX1_makeKeys_114 (lv_at hl 4 rfl) ?_
      refine lv_iadd hx hb dX1_makeKeys_116 ?_
      refine k_callv (va_runV (As := [.ref (ad r_33), .ref (ad r_34), .int 32, .int (enI 1 x1), .int ((enI 0 x1) + x4)]) (rest := []) ⟨hx, hb, hml, hown, hts⟩ (s_X5_drawNoise l D X ad n A J hWT r_32 tr_32 r_33 tr_33 r_34 tr_34 32 (enI 1 x1) ((enI 0 x1) + x4) I L _ h) (cwV 5 hts (gV tw_2_62 tw_2_63 tw_2_64 tw_1_5 tw_2_65) rfl rfl rfl (by decide +kernel) (by decide)) (k_preV (ci := 2) hK hV hA hZ tr_32 rfl _) rfl rfl hl.1 rfl (lv_room (Nat.le_of_ble_eq_true rfl)) dX1_makeKeys_117 ⟨Nat.zero_le _, Nat.zero_le _⟩) hV (fun I_35 L_36 H locs h hV => ?_)
      refine lv_aload_n hx hb dX1_makeKeys_120 rfl (lv_at hl 0 rfl) ?_
      refine m_getr (C := RX1) (T := TX1) (N := 9) (ci := 0) hx hb hts iwX1 hown hK hV t0 rfl 7 (by decide) rfl rfl hr_33 (hts _ tw_1_91) (fun _ h9 => h9) dX1_makeKeys_121 ?_
      refine k_callv (va_runS (As := [.ref (ad r_33)]) (rest := []) ⟨hx, hb, hml, hown, hts⟩ (s_X3_toPairs l D X ad n A J hWT r_33 tr_33 I_35 L_36 _ h) (va_cwS 1 hts (gS tw_2_77 tw_2_78 tw_1_13 tw_2_79) rfl rfl rfl (by decide +kernel) (by decide)) (k_preS hK hV hA hZ _) rfl rfl hl.1 rfl (lv_room (Nat.le_of_ble_eq_true rfl)) dX1_makeKeys_124 ⟨Nat.zero_le _, Nat.zero_le _⟩) hV (fun I_37 L_38 H locs h hV => ?_)
      refine lv_iconst (v := 0) hx hb dX1_makeKeys_127 (by decide) ?_
      refine lv_istore (lv' := [(5, .int 0), (0, .ref (ad x0)), (1, .ref (X.2.1 x1)), (2, .ref (ad x2)), (3, .int x3), (4, .int x4)]) hx hb dX1_makeKeys_128 hl (by decide) rfl (fun ls hl => ?_)
      obtain ⟨fu0, h⟩ := h
      exact n_X1_makeKeys_130 rfl C0 t0 t1 t2  (fun y4 I L H locs ls h hV hl => ih y4 I L H locs ls h hV (lv_sub hl [0, 1, 2, 3, 4] rfl)) fu0 0 _ _ _ _ _ h hV (lv_sub hl [1, 2, 3, 4, 5, 0] rfl)
set_option maxHeartbeats 4000000 in
set_option maxRecDepth 100000 in
theorem n_X1_makeKeys_49 {p : Program} {l : Launch} {e : Env} {s : State} {m : MethodId} {below : List Frame} {meth : Method} {c : Code} {D : va_G} {X : XT} {ad : Nat → Nat} {n : Nat} {A : Nat → Prop} {J : MJ} {av : List Value} {R : Room} (hR : R = ({ frames := 5, cells := 0, slots := 0, locals := 153 } : Room)) (C0 : Cx p s m meth c cX1_makeKeys (some .boolean) 6 yX1_makeKeys av D X ad n A J) {q : Int32 → MI → ML → Prop}  {x0 : Nat} {x1 : Nat} {x2 : Nat} {x3 : Int32} (t0 : Ty X n x0 4) (t1 : x1 < 3) (t2 : Ty X n x2 5) : ∀ (fu : Nat) (x4 : Int32) (I : MI) (L : ML) (H : Heap) (locs : List Loc) (ls : Array Slot), wl_X1_makeKeys_49 X J q  x0 x1 x2 x3 fu x4 I L → Wd D X ad n A s.heap J I L H locs → lv_has ls 6 [(0, .ref (ad x0)), (1, .ref (X.2.1 x1)), (2, .ref (ad x2)), (3, .int x3), (4, .int x4)] → W p l e R s m av.toArray below meth c H locs 0 0 (MQ below (QI D X ad n A J q) av.toArray s 0 0 A) (F0 m 49 ls []) := by
  obtain ⟨hx, hb, hr, hml, hown, hlk, hnm, hts, hK, hZ, hA, hWT⟩ := id C0
  subst hR
  intro fu
  induction fu with
  | zero => intro x4 I L H locs ls h; exact absurd h (fun h => h)
  | succ fu ih =>
    intro x4 I L H locs ls h hV hl
    refine lv_iload hx hb dX1_makeKeys_49 (lv_at hl 4 rfl) ?_
    refine lv_aload_n hx hb dX1_makeKeys_51 rfl (lv_at hl 1 rfl) ?_
    refine va_getE (q := enF.getD 0 ("", "", "", [])) hx hb hZ.1 t1 hV.2.2 hown (by decide) (hts _ tw_4_158) (fun _ h9 => h9) dX1_makeKeys_52 ?_
    refine lv_icmp_ge (tgt := 80) hx hb dX1_makeKeys_55 (by decide) (fun hc => ?_) (fun hc => ?_)
    · replace h := h.1 hc
      refine lv_iconst (v := 0) hx hb dX1_makeKeys_80 (by decide) ?_
      refine lv_istore (lv' := [(4, .int 0), (0, .ref (ad x0)), (1, .ref (X.2.1 x1)), (2, .ref (ad x2)), (3, .int x3)]) hx hb dX1_makeKeys_81 hl (by decide) rfl (fun ls hl => ?_)
      obtain ⟨fu0, h⟩ := h
      exact n_X1_makeKeys_83 rfl C0 t0 t1 t2   fu0 0 _ _ _ _ _ h hV (lv_sub hl [1, 2, 3, 4, 0] rfl)
    · replace h := h.2 hc
      refine lv_aload_n hx hb dX1_makeKeys_58 rfl (lv_at hl 0 rfl) ?_
      obtain ⟨r_56, hr_56, h⟩ := h
      have tr_56 : Ty X n r_56 3 := hWT.r (c := 0) (j := 6) t0 rfl hr_56
      refine m_getr (C := RX1) (T := TX1) (N := 9) (ci := 0) hx hb hts iwX1 hown hK hV t0 rfl 6 (by decide) rfl rfl hr_56 (hts _ tw_1_90) (fun _ h9 => h9) dX1_makeKeys_59 ?_
      refine lv_iload hx hb dX1_makeKeys_62 (lv_at hl 4 rfl) ?_
      obtain ⟨hi_57, r_58, hr_58, h⟩ := h
      have tr_58 : Ty X n r_58 0 := hWT.a tr_56 hr_58
      refine m_aald hx hb hK hV tr_56 hi_57 hr_58 dX1_makeKeys_64 ?_
      refine lv_bipush (v := 12) hx hb dX1_makeKeys_65 (by decide) ?_
      refine lv_aload_n hx hb dX1_makeKeys_67 rfl (lv_at hl 0 rfl) ?_
      obtain ⟨r_59, hr_59, h⟩ := h
      have tr_59 : Ty X n r_59 5 := hWT.r (c := 0) (j := 2) t0 rfl hr_59
      refine m_getr (C := RX1) (T := TX1) (N := 9) (ci := 0) hx hb hts iwX1 hown hK hV t0 rfl 2 (by decide) rfl rfl hr_59 (hts _ tw_1_86) (fun _ h9 => h9) dX1_makeKeys_68 ?_
      refine k_callv (va_runS (As := [.ref (ad r_58), .int 12, .ref (ad r_59)]) (rest := []) ⟨hx, hb, hml, hown, hts⟩ (s_X0_pack l D X ad n A J hWT r_58 tr_58 12 r_59 tr_59 I L _ h) (va_cwS 3 hts (gS tw_2_85 tw_2_86 tw_1_14 tw_2_87) rfl rfl rfl (by decide +kernel) (by decide)) (k_preS hK hV hA hZ _) rfl rfl hl.1 rfl (lv_room (Nat.le_of_ble_eq_true rfl)) dX1_makeKeys_71 ⟨Nat.zero_le _, Nat.zero_le _⟩) hV (fun I_60 L_61 H locs h hV => ?_)
      obtain ⟨x4_62, ex4_62⟩ : ∃ y : Int32, y = x4 + 1 := ⟨_, rfl⟩
      replace h := h x4_62 ex4_62
      refine lv_iinc (v := x4_62) (lv' := [(4, .int x4_62), (0, .ref (ad x0)), (1, .ref (X.2.1 x1)), (2, .ref (ad x2)), (3, .int x3)]) hx hb dX1_makeKeys_74 hl (k := 4) rfl (by rw [ex4_62]; rfl) (by decide) rfl (fun ls hl => ?_)
      refine lv_goto (tgt := 49) hx hb dX1_makeKeys_77 (by decide) ?_
      exact ih x4_62 _ _ _ _ _ h hV (lv_sub hl [1, 2, 3, 4, 0] rfl)
set_option maxHeartbeats 4000000 in
set_option maxRecDepth 100000 in
theorem s_X1_makeKeys (l : Launch) (D : va_G) (X : XT) (ad : Nat → Nat) (n : Nat) (A : Nat → Prop) (J : MJ) (hWT : WT X n J) (x0 : Nat) (t0 : Ty X n x0 4) (x1 : Nat) (t1 : x1 < 3) (x2 : Nat) (t2 : Ty X n x2 5) (x3 : Int32) (I : MI) (L : ML) (q : Int32 → MI → ML → Prop) (h : wp_X1_makeKeys X J x0 x1 x2 x3 I L q) : Met l yX1_makeKeys (wz yX1_makeKeys cX1_makeKeys 6 (some .boolean)) ({ frames := 5, cells := 0, slots := 0, locals := 153 } : Room) (va_Pc [.ref (ad x0), .ref (X.2.1 x1), .ref (ad x2), .int x3] (Pr D X ad n A J I L)) (QI D X ad n A J q) 0 0 A := by
  refine Met_go (by decide +kernel) (Nat.le_of_ble_eq_true rfl) (fun p e s m below meth c hx hb hr hml hown hlk hnm hts hK hZ hA hV ls hl => ?_)
  have C0 : Cx p s m meth c cX1_makeKeys (some .boolean) 6 yX1_makeKeys [.ref (ad x0), .ref (X.2.1 x1), .ref (ad x2), .int x3] D X ad n A J := ⟨hx, hb, hr, hml, hown, hlk, hnm, hts, hK, hZ, hA, hWT⟩
  unfold wp_X1_makeKeys at h
  have hl : lv_has ls 6 [(0, .ref (ad x0)), (1, .ref (X.2.1 x1)), (2, .ref (ad x2)), (3, .int x3)] := hl
  refine lv_aload_n hx hb dX1_makeKeys_0 rfl (lv_at hl 0 rfl) ?_
  obtain ⟨r_1, hr_1, h⟩ := h
  have tr_1 : Ty X n r_1 7 := hWT.r (c := 0) (j := 0) t0 rfl hr_1
  refine m_getr (C := RX1) (T := TX1) (N := 9) (ci := 0) hx hb hts iwX1 hown hK hV t0 rfl 0 (by decide) rfl rfl hr_1 (hts _ tw_1_84) (fun _ h9 => h9) dX1_makeKeys_1 ?_
  refine lv_iconst (v := 1) hx hb dX1_makeKeys_4 (by decide) ?_
  refine k_callv (va_runV (As := [.int 1]) (rest := []) ⟨hx, hb, hml, hown, hts⟩ (s_X6_begin l D X ad n A J hWT r_1 tr_1 1 I L _ h) (cwV 1 hts (gV tw_2_6 tw_2_7 tw_2_8 tw_1_4 tw_2_9) rfl rfl rfl (by decide +kernel) (by decide)) (k_preV (ci := 3) hK hV hA hZ tr_1 rfl _) rfl rfl hl.1 rfl (lv_room (Nat.le_of_ble_eq_true rfl)) dX1_makeKeys_5 ⟨Nat.zero_le _, Nat.zero_le _⟩) hV (fun I_2 L_3 H locs h hV => ?_)
  refine lv_aload_n hx hb dX1_makeKeys_8 rfl (lv_at hl 0 rfl) ?_
  refine m_getr (C := RX1) (T := TX1) (N := 9) (ci := 0) hx hb hts iwX1 hown hK hV t0 rfl 0 (by decide) rfl rfl hr_1 (hts _ tw_1_84) (fun _ h9 => h9) dX1_makeKeys_9 ?_
  refine lv_aload_n hx hb dX1_makeKeys_12 rfl (lv_at hl 2 rfl) ?_
  refine lv_iconst (v := 0) hx hb dX1_makeKeys_13 (by decide) ?_
  refine lv_bipush (v := 32) hx hb dX1_makeKeys_14 (by decide) ?_
  refine k_callv (va_runV (As := [.ref (ad x2), .int 0, .int 32]) (rest := []) ⟨hx, hb, hml, hown, hts⟩ (s_X6_absorb l D X ad n A J hWT r_1 tr_1 x2 t2 0 32 I_2 L_3 _ h) (cwV 3 hts (gV tw_2_15 tw_2_16 tw_2_17 tw_1_4 tw_2_18) rfl rfl rfl (by decide +kernel) (by decide)) (k_preV (ci := 3) hK hV hA hZ tr_1 rfl _) rfl rfl hl.1 rfl (lv_room (Nat.le_of_ble_eq_true rfl)) dX1_makeKeys_16 ⟨Nat.zero_le _, Nat.zero_le _⟩) hV (fun I_4 L_5 H locs h hV => ?_)
  refine lv_aload_n hx hb dX1_makeKeys_19 rfl (lv_at hl 0 rfl) ?_
  refine m_getr (C := RX1) (T := TX1) (N := 9) (ci := 0) hx hb hts iwX1 hown hK hV t0 rfl 0 (by decide) rfl rfl hr_1 (hts _ tw_1_84) (fun _ h9 => h9) dX1_makeKeys_20 ?_
  refine lv_aload_n hx hb dX1_makeKeys_23 rfl (lv_at hl 1 rfl) ?_
  refine va_getE (q := enF.getD 0 ("", "", "", [])) hx hb hZ.1 t1 hV.2.2 hown (by decide) (hts _ tw_4_158) (fun _ h9 => h9) dX1_makeKeys_24 ?_
  refine k_callv (va_runV (As := [.int (enI 0 x1)]) (rest := []) ⟨hx, hb, hml, hown, hts⟩ (s_X6_absorbByte l D X ad n A J hWT r_1 tr_1 (enI 0 x1) I_4 L_5 _ h) (cwV 1 hts (gV tw_2_39 tw_2_21 tw_2_22 tw_1_4 tw_2_23) rfl rfl rfl (by decide +kernel) (by decide)) (k_preV (ci := 3) hK hV hA hZ tr_1 rfl _) rfl rfl hl.1 rfl (lv_room (Nat.le_of_ble_eq_true rfl)) dX1_makeKeys_27 ⟨Nat.zero_le _, Nat.zero_le _⟩) hV (fun I_6 L_7 H locs h hV => ?_)
  refine lv_aload_n hx hb dX1_makeKeys_30 rfl (lv_at hl 0 rfl) ?_
  refine k_callv (va_runV (As := []) (rest := []) ⟨hx, hb, hml, hown, hts⟩ (s_X1_tellSeeds l D X ad n A J hWT x0 t0 I_6 L_7 _ h) (cwV 0 hts (gV tw_2_40 tw_2_42 tw_0_3 tw_1_6 tw_2_43) rfl rfl rfl (by decide +kernel) (by decide)) (k_preV (ci := 0) hK hV hA hZ t0 rfl _) rfl rfl hl.1 rfl (lv_room (Nat.le_of_ble_eq_true rfl)) dX1_makeKeys_31 ⟨Nat.zero_le _, Nat.zero_le _⟩) hV (fun I_8 L_9 H locs h hV => ?_)
  refine lv_aload_n hx hb dX1_makeKeys_34 rfl (lv_at hl 0 rfl) ?_
  refine lv_aload_n hx hb dX1_makeKeys_35 rfl (lv_at hl 1 rfl) ?_
  refine k_callv (va_runV (As := [.ref (X.2.1 x1)]) (rest := []) ⟨hx, hb, hml, hown, hts⟩ (s_X1_drawVector l D X ad n A J hWT x0 t0 x1 t1 I_8 L_9 _ h) (cwV 1 hts (gV tw_2_58 tw_2_60 tw_0_4 tw_1_6 tw_2_61) rfl rfl rfl (by decide +kernel) (by decide)) (k_preV (ci := 0) hK hV hA hZ t0 rfl _) rfl rfl hl.1 rfl (lv_room (Nat.le_of_ble_eq_true rfl)) dX1_makeKeys_36 ⟨Nat.zero_le _, Nat.zero_le _⟩) hV (fun I_10 L_11 H locs h hV => ?_)
  refine lv_aload_n hx hb dX1_makeKeys_39 rfl (lv_at hl 0 rfl) ?_
  obtain ⟨r_12, hr_12, h⟩ := h
  have tr_12 : Ty X n r_12 5 := hWT.r (c := 0) (j := 2) t0 rfl hr_12
  refine m_getr (C := RX1) (T := TX1) (N := 9) (ci := 0) hx hb hts iwX1 hown hK hV t0 rfl 2 (by decide) rfl rfl hr_12 (hts _ tw_1_86) (fun _ h9 => h9) dX1_makeKeys_40 ?_
  refine k_callv (va_runV (As := []) (rest := []) ⟨hx, hb, hml, hown, hts⟩ (s_X4_clear l D X ad n A J hWT r_12 tr_12 I_10 L_11 _ h) (cwV 0 hts (gV tw_2_48 tw_1_215 tw_1_216 tw_1_2 tw_1_217) rfl rfl rfl (by decide +kernel) (by decide)) (k_preV (ci := 1) hK hV hA hZ tr_12 rfl _) rfl rfl hl.1 rfl (lv_room (Nat.le_of_ble_eq_true rfl)) dX1_makeKeys_43 ⟨Nat.zero_le _, Nat.zero_le _⟩) hV (fun I_13 L_14 H locs h hV => ?_)
  refine lv_iconst (v := 0) hx hb dX1_makeKeys_46 (by decide) ?_
  refine lv_istore (lv' := [(4, .int 0), (0, .ref (ad x0)), (1, .ref (X.2.1 x1)), (2, .ref (ad x2)), (3, .int x3)]) hx hb dX1_makeKeys_47 hl (by decide) rfl (fun ls hl => ?_)
  obtain ⟨fu0, h⟩ := h
  exact n_X1_makeKeys_49 rfl C0 t0 t1 t2   fu0 0 _ _ _ _ _ h hV (lv_sub hl [1, 2, 3, 4, 0] rfl)
set_option maxHeartbeats 4000000 in
set_option maxRecDepth 100000 in
theorem s_X1_seedFromMessage (l : Launch) (D : va_G) (X : XT) (ad : Nat → Nat) (n : Nat) (A : Nat → Prop) (J : MJ) (hWT : WT X n J) (x0 : Nat) (t0 : Ty X n x0 4) (x1 : Nat) (t1 : Ty X n x1 5) (x2 : Int32) (I : MI) (L : ML) (q : MI → ML → Prop) (h : wp_X1_seedFromMessage X J x0 x1 x2 I L q) : Met l yX1_seedFromMessage (wz yX1_seedFromMessage cX1_seedFromMessage 3 none) ({ frames := 4, cells := 0, slots := 0, locals := 119 } : Room) (va_Pc [.ref (ad x0), .ref (ad x1), .int x2] (Pr D X ad n A J I L)) (QV D X ad n A J q) 0 0 A := by
  refine Met_go (by decide +kernel) (Nat.le_of_ble_eq_true rfl) (fun p e s m below meth c hx hb hr hml hown hlk hnm hts hK hZ hA hV ls hl => ?_)
  have C0 : Cx p s m meth c cX1_seedFromMessage none 3 yX1_seedFromMessage [.ref (ad x0), .ref (ad x1), .int x2] D X ad n A J := ⟨hx, hb, hr, hml, hown, hlk, hnm, hts, hK, hZ, hA, hWT⟩
  unfold wp_X1_seedFromMessage at h
  have hl : lv_has ls 3 [(0, .ref (ad x0)), (1, .ref (ad x1)), (2, .int x2)] := hl
  refine lv_aload_n hx hb dX1_seedFromMessage_0 rfl (lv_at hl 0 rfl) ?_
  obtain ⟨r_1, hr_1, h⟩ := h
  have tr_1 : Ty X n r_1 7 := hWT.r (c := 0) (j := 0) t0 rfl hr_1
  refine m_getr (C := RX1) (T := TX1) (N := 9) (ci := 0) hx hb hts iwX1 hown hK hV t0 rfl 0 (by decide) rfl rfl hr_1 (hts _ tw_1_84) (fun _ h9 => h9) dX1_seedFromMessage_1 ?_
  refine lv_iconst (v := 1) hx hb dX1_seedFromMessage_4 (by decide) ?_
  refine k_callv (va_runV (As := [.int 1]) (rest := []) ⟨hx, hb, hml, hown, hts⟩ (s_X6_begin l D X ad n A J hWT r_1 tr_1 1 I L _ h) (cwV 1 hts (gV tw_2_6 tw_2_7 tw_2_8 tw_1_4 tw_2_9) rfl rfl rfl (by decide +kernel) (by decide)) (k_preV (ci := 3) hK hV hA hZ tr_1 rfl _) rfl rfl hl.1 rfl (lv_room (Nat.le_of_ble_eq_true rfl)) dX1_seedFromMessage_5 ⟨Nat.zero_le _, Nat.zero_le _⟩) hV (fun I_2 L_3 H locs h hV => ?_)
  refine lv_aload_n hx hb dX1_seedFromMessage_8 rfl (lv_at hl 0 rfl) ?_
  refine m_getr (C := RX1) (T := TX1) (N := 9) (ci := 0) hx hb hts iwX1 hown hK hV t0 rfl 0 (by decide) rfl rfl hr_1 (hts _ tw_1_84) (fun _ h9 => h9) dX1_seedFromMessage_9 ?_
  refine lv_aload_n hx hb dX1_seedFromMessage_12 rfl (lv_at hl 0 rfl) ?_
  obtain ⟨r_4, hr_4, h⟩ := h
  have tr_4 : Ty X n r_4 5 := hWT.r (c := 0) (j := 4) t0 rfl hr_4
  refine m_getr (C := RX1) (T := TX1) (N := 9) (ci := 0) hx hb hts iwX1 hown hK hV t0 rfl 4 (by decide) rfl rfl hr_4 (hts _ tw_1_88) (fun _ h9 => h9) dX1_seedFromMessage_13 ?_
  refine lv_iconst (v := 0) hx hb dX1_seedFromMessage_16 (by decide) ?_
  refine lv_bipush (v := 32) hx hb dX1_seedFromMessage_17 (by decide) ?_
  refine k_callv (va_runV (As := [.ref (ad r_4), .int 0, .int 32]) (rest := []) ⟨hx, hb, hml, hown, hts⟩ (s_X6_absorb l D X ad n A J hWT r_1 tr_1 r_4 tr_4 0 32 I_2 L_3 _ h) (cwV 3 hts (gV tw_2_15 tw_2_16 tw_2_17 tw_1_4 tw_2_18) rfl rfl rfl (by decide +kernel) (by decide)) (k_preV (ci := 3) hK hV hA hZ tr_1 rfl _) rfl rfl hl.1 rfl (lv_room (Nat.le_of_ble_eq_true rfl)) dX1_seedFromMessage_19 ⟨Nat.zero_le _, Nat.zero_le _⟩) hV (fun I_5 L_6 H locs h hV => ?_)
  refine lv_aload_n hx hb dX1_seedFromMessage_22 rfl (lv_at hl 0 rfl) ?_
  refine m_getr (C := RX1) (T := TX1) (N := 9) (ci := 0) hx hb hts iwX1 hown hK hV t0 rfl 0 (by decide) rfl rfl hr_1 (hts _ tw_1_84) (fun _ h9 => h9) dX1_seedFromMessage_23 ?_
  refine lv_aload_n hx hb dX1_seedFromMessage_26 rfl (lv_at hl 1 rfl) ?_
  refine lv_iload_n hx hb dX1_seedFromMessage_27 rfl (lv_at hl 2 rfl) ?_
  refine lv_bipush (v := 32) hx hb dX1_seedFromMessage_28 (by decide) ?_
  refine k_callv (va_runV (As := [.ref (ad x1), .int x2, .int 32]) (rest := []) ⟨hx, hb, hml, hown, hts⟩ (s_X6_absorb l D X ad n A J hWT r_1 tr_1 x1 t1 x2 32 I_5 L_6 _ h) (cwV 3 hts (gV tw_2_15 tw_2_16 tw_2_17 tw_1_4 tw_2_18) rfl rfl rfl (by decide +kernel) (by decide)) (k_preV (ci := 3) hK hV hA hZ tr_1 rfl _) rfl rfl hl.1 rfl (lv_room (Nat.le_of_ble_eq_true rfl)) dX1_seedFromMessage_30 ⟨Nat.zero_le _, Nat.zero_le _⟩) hV (fun I_7 L_8 H locs h hV => ?_)
  refine lv_aload_n hx hb dX1_seedFromMessage_33 rfl (lv_at hl 0 rfl) ?_
  refine k_callv (va_runV (As := []) (rest := []) ⟨hx, hb, hml, hown, hts⟩ (s_X1_tellSeeds l D X ad n A J hWT x0 t0 I_7 L_8 _ h) (cwV 0 hts (gV tw_2_40 tw_2_42 tw_0_3 tw_1_6 tw_2_43) rfl rfl rfl (by decide +kernel) (by decide)) (k_preV (ci := 0) hK hV hA hZ t0 rfl _) rfl rfl hl.1 rfl (lv_room (Nat.le_of_ble_eq_true rfl)) dX1_seedFromMessage_34 ⟨Nat.zero_le _, Nat.zero_le _⟩) hV (fun I_9 L_10 H locs h hV => ?_)
  exact m_vret hx hb hr hlk hK hZ hA hV h dX1_seedFromMessage_37
set_option maxHeartbeats 4000000 in
set_option maxRecDepth 100000 in
theorem s_X1_readMessage (l : Launch) (D : va_G) (X : XT) (ad : Nat → Nat) (n : Nat) (A : Nat → Prop) (J : MJ) (hWT : WT X n J) (x0 : Nat) (t0 : Ty X n x0 4) (x1 : Nat) (t1 : x1 < 3) (x2 : Nat) (t2 : Ty X n x2 5) (x3 : Nat) (t3 : Ty X n x3 5) (I : MI) (L : ML) (q : MI → ML → Prop) (h : wp_X1_readMessage X J x0 x1 x2 x3 I L q) : Met l yX1_readMessage (wz yX1_readMessage cX1_readMessage 4 none) ({ frames := 5, cells := 0, slots := 0, locals := 141 } : Room) (va_Pc [.ref (ad x0), .ref (X.2.1 x1), .ref (ad x2), .ref (ad x3)] (Pr D X ad n A J I L)) (QV D X ad n A J q) 0 0 A := by
  refine Met_go (by decide +kernel) (Nat.le_of_ble_eq_true rfl) (fun p e s m below meth c hx hb hr hml hown hlk hnm hts hK hZ hA hV ls hl => ?_)
  have C0 : Cx p s m meth c cX1_readMessage none 4 yX1_readMessage [.ref (ad x0), .ref (X.2.1 x1), .ref (ad x2), .ref (ad x3)] D X ad n A J := ⟨hx, hb, hr, hml, hown, hlk, hnm, hts, hK, hZ, hA, hWT⟩
  unfold wp_X1_readMessage at h
  have hl : lv_has ls 4 [(0, .ref (ad x0)), (1, .ref (X.2.1 x1)), (2, .ref (ad x2)), (3, .ref (ad x3))] := hl
  refine lv_aload_n hx hb dX1_readMessage_0 rfl (lv_at hl 0 rfl) ?_
  obtain ⟨r_1, hr_1, h⟩ := h
  have tr_1 : Ty X n r_1 5 := hWT.r (c := 0) (j := 4) t0 rfl hr_1
  refine m_getr (C := RX1) (T := TX1) (N := 9) (ci := 0) hx hb hts iwX1 hown hK hV t0 rfl 4 (by decide) rfl rfl hr_1 (hts _ tw_1_88) (fun _ h9 => h9) dX1_readMessage_1 ?_
  refine lv_aload_n hx hb dX1_readMessage_4 rfl (lv_at hl 3 rfl) ?_
  refine k_callv (va_runV (As := [.ref (ad x3)]) (rest := []) ⟨hx, hb, hml, hown, hts⟩ (s_X4_become l D X ad n A J hWT r_1 tr_1 x3 t3 I L _ h) (cwV 1 hts (gV tw_2_173 tw_1_191 tw_1_192 tw_1_2 tw_1_193) rfl rfl rfl (by decide +kernel) (by decide)) (k_preV (ci := 1) hK hV hA hZ tr_1 rfl _) rfl rfl hl.1 rfl (lv_room (Nat.le_of_ble_eq_true rfl)) dX1_readMessage_5 ⟨Nat.zero_le _, Nat.zero_le _⟩) hV (fun I_2 L_3 H locs h hV => ?_)
  refine lv_aload_n hx hb dX1_readMessage_8 rfl (lv_at hl 0 rfl) ?_
  refine lv_aload_n hx hb dX1_readMessage_9 rfl (lv_at hl 2 rfl) ?_
  refine lv_iconst (v := 0) hx hb dX1_readMessage_10 (by decide) ?_
  refine lv_aload_n hx hb dX1_readMessage_11 rfl (lv_at hl 1 rfl) ?_
  refine k_calli (va_runV (As := []) (rest := [.int 0, .ref (ad x2), .ref (ad x0)]) ⟨hx, hb, hml, hown, hts⟩ (s_X2_publicLength l D X ad n A J hWT x1 t1 I_2 L_3 _ h) (cwV 0 hts (gV tw_2_124 tw_1_219 tw_1_220 tw_1_8 tw_1_221) rfl rfl rfl (by decide +kernel) (by decide)) (k_preE hK hV hA hZ t1 _) rfl rfl hl.1 rfl (lv_room (Nat.le_of_ble_eq_true rfl)) dX1_readMessage_12 ⟨Nat.zero_le _, Nat.zero_le _⟩) hV (fun v_6 I_4 L_5 H locs h hV => ?_)
  refine k_callv (va_runV (As := [.ref (ad x2), .int 0, .int v_6]) (rest := []) ⟨hx, hb, hml, hown, hts⟩ (s_X1_tellDigest l D X ad n A J hWT x0 t0 x2 t2 0 v_6 I_4 L_5 _ h) (cwV 3 hts (gV tw_2_125 tw_2_127 tw_0_6 tw_1_6 tw_2_128) rfl rfl rfl (by decide +kernel) (by decide)) (k_preV (ci := 0) hK hV hA hZ t0 rfl _) rfl rfl hl.1 rfl (lv_room (Nat.le_of_ble_eq_true rfl)) dX1_readMessage_15 ⟨Nat.zero_le _, Nat.zero_le _⟩) hV (fun I_7 L_8 H locs h hV => ?_)
  refine lv_aload_n hx hb dX1_readMessage_18 rfl (lv_at hl 0 rfl) ?_
  refine lv_aload_n hx hb dX1_readMessage_19 rfl (lv_at hl 0 rfl) ?_
  obtain ⟨r_9, hr_9, h⟩ := h
  have tr_9 : Ty X n r_9 5 := hWT.r (c := 0) (j := 5) t0 rfl hr_9
  refine m_getr (C := RX1) (T := TX1) (N := 9) (ci := 0) hx hb hts iwX1 hown hK hV t0 rfl 5 (by decide) rfl rfl hr_9 (hts _ tw_1_89) (fun _ h9 => h9) dX1_readMessage_20 ?_
  refine lv_iconst (v := 0) hx hb dX1_readMessage_23 (by decide) ?_
  refine k_callv (va_runV (As := [.ref (ad r_9), .int 0]) (rest := []) ⟨hx, hb, hml, hown, hts⟩ (s_X1_seedFromMessage l D X ad n A J hWT x0 t0 r_9 tr_9 0 I_7 L_8 _ h) (cwV 2 hts (gV tw_2_174 tw_2_176 tw_0_8 tw_1_6 tw_2_177) rfl rfl rfl (by decide +kernel) (by decide)) (k_preV (ci := 0) hK hV hA hZ t0 rfl _) rfl rfl hl.1 rfl (lv_room (Nat.le_of_ble_eq_true rfl)) dX1_readMessage_24 ⟨Nat.zero_le _, Nat.zero_le _⟩) hV (fun I_10 L_11 H locs h hV => ?_)
  exact m_vret hx hb hr hlk hK hZ hA hV h dX1_readMessage_27
set_option maxHeartbeats 4000000 in
set_option maxRecDepth 100000 in
theorem s_X1_unpackStretched (l : Launch) (D : va_G) (X : XT) (ad : Nat → Nat) (n : Nat) (A : Nat → Prop) (J : MJ) (hWT : WT X n J) (x0 : Nat) (t0 : Ty X n x0 0) (x1 : Nat) (t1 : Ty X n x1 5) (x2 : Int32) (x3 : Int32) (I : MI) (L : ML) (q : MI → ML → Prop) (h : wp_X1_unpackStretched X J x0 x1 x2 x3 I L q) : Met l yX1_unpackStretched (wz yX1_unpackStretched cX1_unpackStretched 4 none) ({ frames := 2, cells := 0, slots := 0, locals := 49 } : Room) (va_Pc [.ref (ad x0), .ref (ad x1), .int x2, .int x3] (Pr D X ad n A J I L)) (QV D X ad n A J q) 0 0 A := by
  refine Met_go (by decide +kernel) (Nat.le_of_ble_eq_true rfl) (fun p e s m below meth c hx hb hr hml hown hlk hnm hts hK hZ hA hV ls hl => ?_)
  have C0 : Cx p s m meth c cX1_unpackStretched none 4 yX1_unpackStretched [.ref (ad x0), .ref (ad x1), .int x2, .int x3] D X ad n A J := ⟨hx, hb, hr, hml, hown, hlk, hnm, hts, hK, hZ, hA, hWT⟩
  unfold wp_X1_unpackStretched at h
  have hl : lv_has ls 4 [(0, .ref (ad x0)), (1, .ref (ad x1)), (2, .int x2), (3, .int x3)] := hl
  refine lv_aload_n hx hb dX1_unpackStretched_0 rfl (lv_at hl 0 rfl) ?_
  refine lv_iload_n hx hb dX1_unpackStretched_1 rfl (lv_at hl 3 rfl) ?_
  refine lv_aload_n hx hb dX1_unpackStretched_2 rfl (lv_at hl 1 rfl) ?_
  refine lv_iload_n hx hb dX1_unpackStretched_3 rfl (lv_at hl 2 rfl) ?_
  refine k_callv (va_runS (As := [.ref (ad x0), .int x3, .ref (ad x1), .int x2]) (rest := []) ⟨hx, hb, hml, hown, hts⟩ (s_X0_unpack l D X ad n A J hWT x0 t0 x3 x1 t1 x2 I L _ h) (va_cwS 4 hts (gS tw_2_202 tw_2_203 tw_1_14 tw_2_204) rfl rfl rfl (by decide +kernel) (by decide)) (k_preS hK hV hA hZ _) rfl rfl hl.1 rfl (lv_room (Nat.le_of_ble_eq_true rfl)) dX1_unpackStretched_4 ⟨Nat.zero_le _, Nat.zero_le _⟩) hV (fun I_1 L_2 H locs h hV => ?_)
  refine lv_aload_n hx hb dX1_unpackStretched_7 rfl (lv_at hl 0 rfl) ?_
  refine lv_iload_n hx hb dX1_unpackStretched_8 rfl (lv_at hl 3 rfl) ?_
  refine k_callv (va_runS (As := [.ref (ad x0), .int x3]) (rest := []) ⟨hx, hb, hml, hown, hts⟩ (s_X0_decompress l D X ad n A J hWT x0 t0 x3 I_1 L_2 _ h) (va_cwS 2 hts (gS tw_2_208 tw_2_209 tw_1_14 tw_2_210) rfl rfl rfl (by decide +kernel) (by decide)) (k_preS hK hV hA hZ _) rfl rfl hl.1 rfl (lv_room (Nat.le_of_ble_eq_true rfl)) dX1_unpackStretched_9 ⟨Nat.zero_le _, Nat.zero_le _⟩) hV (fun I_3 L_4 H locs h hV => ?_)
  exact m_vret hx hb hr hlk hK hZ hA hV h dX1_unpackStretched_12
set_option maxHeartbeats 4000000 in
set_option maxRecDepth 100000 in
theorem n_X1_unlockText_19 {p : Program} {l : Launch} {e : Env} {s : State} {m : MethodId} {below : List Frame} {meth : Method} {c : Code} {D : va_G} {X : XT} {ad : Nat → Nat} {n : Nat} {A : Nat → Prop} {J : MJ} {av : List Value} {R : Room} (hR : R = ({ frames := 5, cells := 0, slots := 0, locals := 141 } : Room)) (C0 : Cx p s m meth c cX1_unlockText none 6 yX1_unlockText av D X ad n A J) {q : MI → ML → Prop}  {x0 : Nat} {x1 : Nat} {x2 : Nat} {x3 : Nat} {x4 : Nat} (t0 : Ty X n x0 4) (t1 : x1 < 3) (t2 : Ty X n x2 5) (t3 : Ty X n x3 5) (t4 : Ty X n x4 0) : ∀ (fu : Nat) (x5 : Int32) (I : MI) (L : ML) (H : Heap) (locs : List Loc) (ls : Array Slot), wl_X1_unlockText_19 X J q  x0 x1 x2 x3 x4 fu x5 I L → Wd D X ad n A s.heap J I L H locs → lv_has ls 6 [(0, .ref (ad x0)), (1, .ref (X.2.1 x1)), (2, .ref (ad x2)), (3, .ref (ad x3)), (4, .ref (ad x4)), (5, .int x5)] → W p l e R s m av.toArray below meth c H locs 0 0 (MQ below (QV D X ad n A J q) av.toArray s 0 0 A) (F0 m 19 ls []) := by
  obtain ⟨hx, hb, hr, hml, hown, hlk, hnm, hts, hK, hZ, hA, hWT⟩ := id C0
  subst hR
  intro fu
  induction fu with
  | zero => intro x5 I L H locs ls h; exact absurd h (fun h => h)
  | succ fu ih =>
    intro x5 I L H locs ls h hV hl
    refine lv_iload hx hb dX1_unlockText_19 (lv_at hl 5 rfl) ?_
    refine lv_aload_n hx hb dX1_unlockText_21 rfl (lv_at hl 1 rfl) ?_
    refine va_getE (q := enF.getD 0 ("", "", "", [])) hx hb hZ.1 t1 hV.2.2 hown (by decide) (hts _ tw_4_158) (fun _ h9 => h9) dX1_unlockText_22 ?_
    refine lv_icmp_ge (tgt := 81) hx hb dX1_unlockText_25 (by decide) (fun hc => ?_) (fun hc => ?_)
    · replace h := h.1 hc
      refine lv_aload_n hx hb dX1_unlockText_81 rfl (lv_at hl 0 rfl) ?_
      obtain ⟨r_7, hr_7, h⟩ := h
      have tr_7 : Ty X n r_7 0 := hWT.r (c := 0) (j := 7) t0 rfl hr_7
      refine m_getr (C := RX1) (T := TX1) (N := 9) (ci := 0) hx hb hts iwX1 hown hK hV t0 rfl 7 (by decide) rfl rfl hr_7 (hts _ tw_1_91) (fun _ h9 => h9) dX1_unlockText_82 ?_
      refine k_callv (va_runS (As := [.ref (ad r_7)]) (rest := []) ⟨hx, hb, hml, hown, hts⟩ (s_X3_fromPairs l D X ad n A J hWT r_7 tr_7 I L _ h) (va_cwS 1 hts (gS tw_2_185 tw_2_186 tw_1_13 tw_2_187) rfl rfl rfl (by decide +kernel) (by decide)) (k_preS hK hV hA hZ _) rfl rfl hl.1 rfl (lv_room (Nat.le_of_ble_eq_true rfl)) dX1_unlockText_85 ⟨Nat.zero_le _, Nat.zero_le _⟩) hV (fun I_8 L_9 H locs h hV => ?_)
      refine lv_aload_n hx hb dX1_unlockText_88 rfl (lv_at hl 0 rfl) ?_
      obtain ⟨r_10, hr_10, h⟩ := h
      have tr_10 : Ty X n r_10 0 := hWT.r (c := 0) (j := 8) t0 rfl hr_10
      refine m_getr (C := RX1) (T := TX1) (N := 9) (ci := 0) hx hb hts iwX1 hown hK hV t0 rfl 8 (by decide) rfl rfl hr_10 (hts _ tw_1_92) (fun _ h9 => h9) dX1_unlockText_89 ?_
      refine lv_aload_n hx hb dX1_unlockText_92 rfl (lv_at hl 3 rfl) ?_
      refine lv_bipush (v := 32) hx hb dX1_unlockText_93 (by decide) ?_
      refine lv_aload_n hx hb dX1_unlockText_95 rfl (lv_at hl 1 rfl) ?_
      refine va_getE (q := enF.getD 3 ("", "", "", [])) hx hb hZ.1 t1 hV.2.2 hown (by decide) (hts _ tw_4_163) (fun _ h9 => h9) dX1_unlockText_96 ?_
      refine lv_imul hx hb dX1_unlockText_99 ?_
      refine lv_aload_n hx hb dX1_unlockText_100 rfl (lv_at hl 1 rfl) ?_
      refine va_getE (q := enF.getD 0 ("", "", "", [])) hx hb hZ.1 t1 hV.2.2 hown (by decide) (hts _ tw_4_158) (fun _ h9 => h9) dX1_unlockText_101 ?_
      refine lv_imul hx hb dX1_unlockText_104 ?_
      refine lv_aload_n hx hb dX1_unlockText_105 rfl (lv_at hl 1 rfl) ?_
      refine va_getE (q := enF.getD 4 ("", "", "", [])) hx hb hZ.1 t1 hV.2.2 hown (by decide) (hts _ tw_4_164) (fun _ h9 => h9) dX1_unlockText_106 ?_
      refine k_callv (va_runS (As := [.ref (ad r_10), .ref (ad x3), .int ((32 * (enI 3 x1)) * (enI 0 x1)), .int (enI 4 x1)]) (rest := []) ⟨hx, hb, hml, hown, hts⟩ (s_X1_unpackStretched l D X ad n A J hWT r_10 tr_10 x3 t3 ((32 * (enI 3 x1)) * (enI 0 x1)) (enI 4 x1) I_8 L_9 _ h) (va_cwS 4 hts (gS tw_2_205 tw_2_206 tw_1_6 tw_2_207) rfl rfl rfl (by decide +kernel) (by decide)) (k_preS hK hV hA hZ _) rfl rfl hl.1 rfl (lv_room (Nat.le_of_ble_eq_true rfl)) dX1_unlockText_109 ⟨Nat.zero_le _, Nat.zero_le _⟩) hV (fun I_11 L_12 H locs h hV => ?_)
      refine lv_aload_n hx hb dX1_unlockText_112 rfl (lv_at hl 0 rfl) ?_
      refine m_getr (C := RX1) (T := TX1) (N := 9) (ci := 0) hx hb hts iwX1 hown hK hV t0 rfl 8 (by decide) rfl rfl hr_10 (hts _ tw_1_92) (fun _ h9 => h9) dX1_unlockText_113 ?_
      refine lv_aload_n hx hb dX1_unlockText_116 rfl (lv_at hl 0 rfl) ?_
      refine m_getr (C := RX1) (T := TX1) (N := 9) (ci := 0) hx hb hts iwX1 hown hK hV t0 rfl 7 (by decide) rfl rfl hr_7 (hts _ tw_1_91) (fun _ h9 => h9) dX1_unlockText_117 ?_
      refine lv_iconst (v := (-1)) hx hb dX1_unlockText_120 (by decide) ?_
      refine k_callv (va_runS (As := [.ref (ad r_10), .ref (ad r_7), .int (-1)]) (rest := []) ⟨hx, hb, hml, hown, hts⟩ (s_X3_addTimes l D X ad n A J hWT r_10 tr_10 r_7 tr_7 (-1) I_11 L_12 _ h) (va_cwS 3 hts (gS tw_2_112 tw_2_113 tw_1_13 tw_2_114) rfl rfl rfl (by decide +kernel) (by decide)) (k_preS hK hV hA hZ _) rfl rfl hl.1 rfl (lv_room (Nat.le_of_ble_eq_true rfl)) dX1_unlockText_121 ⟨Nat.zero_le _, Nat.zero_le _⟩) hV (fun I_13 L_14 H locs h hV => ?_)
      refine lv_aload_n hx hb dX1_unlockText_124 rfl (lv_at hl 0 rfl) ?_
      refine m_getr (C := RX1) (T := TX1) (N := 9) (ci := 0) hx hb hts iwX1 hown hK hV t0 rfl 8 (by decide) rfl rfl hr_10 (hts _ tw_1_92) (fun _ h9 => h9) dX1_unlockText_125 ?_
      refine lv_iconst (v := 1) hx hb dX1_unlockText_128 (by decide) ?_
      refine k_callv (va_runS (As := [.ref (ad r_10), .int 1]) (rest := []) ⟨hx, hb, hml, hown, hts⟩ (s_X0_compress l D X ad n A J hWT r_10 tr_10 1 I_13 L_14 _ h) (va_cwS 2 hts (gS tw_2_195 tw_2_196 tw_1_14 tw_2_197) rfl rfl rfl (by decide +kernel) (by decide)) (k_preS hK hV hA hZ _) rfl rfl hl.1 rfl (lv_room (Nat.le_of_ble_eq_true rfl)) dX1_unlockText_129 ⟨Nat.zero_le _, Nat.zero_le _⟩) hV (fun I_15 L_16 H locs h hV => ?_)
      refine lv_aload_n hx hb dX1_unlockText_132 rfl (lv_at hl 0 rfl) ?_
      obtain ⟨r_17, hr_17, h⟩ := h
      have tr_17 : Ty X n r_17 5 := hWT.r (c := 0) (j := 4) t0 rfl hr_17
      refine m_getr (C := RX1) (T := TX1) (N := 9) (ci := 0) hx hb hts iwX1 hown hK hV t0 rfl 4 (by decide) rfl rfl hr_17 (hts _ tw_1_88) (fun _ h9 => h9) dX1_unlockText_133 ?_
      refine k_callv (va_runV (As := []) (rest := []) ⟨hx, hb, hml, hown, hts⟩ (s_X4_clear l D X ad n A J hWT r_17 tr_17 I_15 L_16 _ h) (cwV 0 hts (gV tw_2_48 tw_1_215 tw_1_216 tw_1_2 tw_1_217) rfl rfl rfl (by decide +kernel) (by decide)) (k_preV (ci := 1) hK hV hA hZ tr_17 rfl _) rfl rfl hl.1 rfl (lv_room (Nat.le_of_ble_eq_true rfl)) dX1_unlockText_136 ⟨Nat.zero_le _, Nat.zero_le _⟩) hV (fun I_18 L_19 H locs h hV => ?_)
      refine lv_aload_n hx hb dX1_unlockText_139 rfl (lv_at hl 0 rfl) ?_
      refine m_getr (C := RX1) (T := TX1) (N := 9) (ci := 0) hx hb hts iwX1 hown hK hV t0 rfl 8 (by decide) rfl rfl hr_10 (hts _ tw_1_92) (fun _ h9 => h9) dX1_unlockText_140 ?_
      refine lv_iconst (v := 1) hx hb dX1_unlockText_143 (by decide) ?_
      refine lv_aload_n hx hb dX1_unlockText_144 rfl (lv_at hl 0 rfl) ?_
      refine m_getr (C := RX1) (T := TX1) (N := 9) (ci := 0) hx hb hts iwX1 hown hK hV t0 rfl 4 (by decide) rfl rfl hr_17 (hts _ tw_1_88) (fun _ h9 => h9) dX1_unlockText_145 ?_
      refine k_callv (va_runS (As := [.ref (ad r_10), .int 1, .ref (ad r_17)]) (rest := []) ⟨hx, hb, hml, hown, hts⟩ (s_X0_pack l D X ad n A J hWT r_10 tr_10 1 r_17 tr_17 I_18 L_19 _ h) (va_cwS 3 hts (gS tw_2_85 tw_2_86 tw_1_14 tw_2_87) rfl rfl rfl (by decide +kernel) (by decide)) (k_preS hK hV hA hZ _) rfl rfl hl.1 rfl (lv_room (Nat.le_of_ble_eq_true rfl)) dX1_unlockText_148 ⟨Nat.zero_le _, Nat.zero_le _⟩) hV (fun I_20 L_21 H locs h hV => ?_)
      refine lv_aload_n hx hb dX1_unlockText_151 rfl (lv_at hl 0 rfl) ?_
      refine lv_aload_n hx hb dX1_unlockText_152 rfl (lv_at hl 2 rfl) ?_
      refine lv_aload_n hx hb dX1_unlockText_153 rfl (lv_at hl 1 rfl) ?_
      refine k_calli (va_runV (As := []) (rest := [.ref (ad x2), .ref (ad x0)]) ⟨hx, hb, hml, hown, hts⟩ (s_X2_innerLength l D X ad n A J hWT x1 t1 I_20 L_21 _ h) (cwV 0 hts (gV tw_2_120 tw_2_121 tw_2_122 tw_1_8 tw_2_123) rfl rfl rfl (by decide +kernel) (by decide)) (k_preE hK hV hA hZ t1 _) rfl rfl hl.1 rfl (lv_room (Nat.le_of_ble_eq_true rfl)) dX1_unlockText_154 ⟨Nat.zero_le _, Nat.zero_le _⟩) hV (fun v_24 I_22 L_23 H locs h hV => ?_)
      refine lv_aload_n hx hb dX1_unlockText_157 rfl (lv_at hl 1 rfl) ?_
      refine k_calli (va_runV (As := []) (rest := [.int v_24, .ref (ad x2), .ref (ad x0)]) ⟨hx, hb, hml, hown, hts⟩ (s_X2_publicLength l D X ad n A J hWT x1 t1 I_22 L_23 _ h) (cwV 0 hts (gV tw_2_124 tw_1_219 tw_1_220 tw_1_8 tw_1_221) rfl rfl rfl (by decide +kernel) (by decide)) (k_preE hK hV hA hZ t1 _) rfl rfl hl.1 rfl (lv_room (Nat.le_of_ble_eq_true rfl)) dX1_unlockText_158 ⟨Nat.zero_le _, Nat.zero_le _⟩) hV (fun v_27 I_25 L_26 H locs h hV => ?_)
      refine lv_iadd hx hb dX1_unlockText_161 ?_
      refine k_callv (va_runV (As := [.ref (ad x2), .int (v_24 + v_27)]) (rest := []) ⟨hx, hb, hml, hown, hts⟩ (s_X1_seedFromMessage l D X ad n A J hWT x0 t0 x2 t2 (v_24 + v_27) I_25 L_26 _ h) (cwV 2 hts (gV tw_2_174 tw_2_176 tw_0_8 tw_1_6 tw_2_177) rfl rfl rfl (by decide +kernel) (by decide)) (k_preV (ci := 0) hK hV hA hZ t0 rfl _) rfl rfl hl.1 rfl (lv_room (Nat.le_of_ble_eq_true rfl)) dX1_unlockText_162 ⟨Nat.zero_le _, Nat.zero_le _⟩) hV (fun I_28 L_29 H locs h hV => ?_)
      exact m_vret hx hb hr hlk hK hZ hA hV h dX1_unlockText_165
    · replace h := h.2 hc
      refine lv_aload hx hb dX1_unlockText_28 (lv_at hl 4 rfl) ?_
      refine lv_aload_n hx hb dX1_unlockText_30 rfl (lv_at hl 3 rfl) ?_
      refine lv_bipush (v := 32) hx hb dX1_unlockText_31 (by decide) ?_
      refine lv_aload_n hx hb dX1_unlockText_33 rfl (lv_at hl 1 rfl) ?_
      refine va_getE (q := enF.getD 3 ("", "", "", [])) hx hb hZ.1 t1 hV.2.2 hown (by decide) (hts _ tw_4_163) (fun _ h9 => h9) dX1_unlockText_34 ?_
      refine lv_imul hx hb dX1_unlockText_37 ?_
      refine lv_iload hx hb dX1_unlockText_38 (lv_at hl 5 rfl) ?_
      refine lv_imul hx hb dX1_unlockText_40 ?_
      refine lv_aload_n hx hb dX1_unlockText_41 rfl (lv_at hl 1 rfl) ?_
      refine va_getE (q := enF.getD 3 ("", "", "", [])) hx hb hZ.1 t1 hV.2.2 hown (by decide) (hts _ tw_4_163) (fun _ h9 => h9) dX1_unlockText_42 ?_
      refine k_callv (va_runS (As := [.ref (ad x4), .ref (ad x3), .int ((32 * (enI 3 x1)) * x5), .int (enI 3 x1)]) (rest := []) ⟨hx, hb, hml, hown, hts⟩ (s_X1_unpackStretched l D X ad n A J hWT x4 t4 x3 t3 ((32 * (enI 3 x1)) * x5) (enI 3 x1) I L _ h) (va_cwS 4 hts (gS tw_2_205 tw_2_206 tw_1_6 tw_2_207) rfl rfl rfl (by decide +kernel) (by decide)) (k_preS hK hV hA hZ _) rfl rfl hl.1 rfl (lv_room (Nat.le_of_ble_eq_true rfl)) dX1_unlockText_45 ⟨Nat.zero_le _, Nat.zero_le _⟩) hV (fun I_30 L_31 H locs h hV => ?_)
      refine lv_aload hx hb dX1_unlockText_48 (lv_at hl 4 rfl) ?_
      refine k_callv (va_runS (As := [.ref (ad x4)]) (rest := []) ⟨hx, hb, hml, hown, hts⟩ (s_X3_toPairs l D X ad n A J hWT x4 t4 I_30 L_31 _ h) (va_cwS 1 hts (gS tw_2_77 tw_2_78 tw_1_13 tw_2_79) rfl rfl rfl (by decide +kernel) (by decide)) (k_preS hK hV hA hZ _) rfl rfl hl.1 rfl (lv_room (Nat.le_of_ble_eq_true rfl)) dX1_unlockText_50 ⟨Nat.zero_le _, Nat.zero_le _⟩) hV (fun I_32 L_33 H locs h hV => ?_)
      refine lv_aload_n hx hb dX1_unlockText_53 rfl (lv_at hl 0 rfl) ?_
      obtain ⟨r_34, hr_34, h⟩ := h
      have tr_34 : Ty X n r_34 0 := hWT.r (c := 0) (j := 8) t0 rfl hr_34
      refine m_getr (C := RX1) (T := TX1) (N := 9) (ci := 0) hx hb hts iwX1 hown hK hV t0 rfl 8 (by decide) rfl rfl hr_34 (hts _ tw_1_92) (fun _ h9 => h9) dX1_unlockText_54 ?_
      refine lv_bipush (v := 12) hx hb dX1_unlockText_57 (by decide) ?_
      refine lv_aload_n hx hb dX1_unlockText_59 rfl (lv_at hl 2 rfl) ?_
      refine lv_sipush (v := 384) hx hb dX1_unlockText_60 (by decide) ?_
      refine lv_iload hx hb dX1_unlockText_63 (lv_at hl 5 rfl) ?_
      refine lv_imul hx hb dX1_unlockText_65 ?_
      refine k_callv (va_runS (As := [.ref (ad r_34), .int 12, .ref (ad x2), .int (384 * x5)]) (rest := []) ⟨hx, hb, hml, hown, hts⟩ (s_X0_unpack l D X ad n A J hWT r_34 tr_34 12 x2 t2 (384 * x5) I_32 L_33 _ h) (va_cwS 4 hts (gS tw_2_202 tw_2_203 tw_1_14 tw_2_204) rfl rfl rfl (by decide +kernel) (by decide)) (k_preS hK hV hA hZ _) rfl rfl hl.1 rfl (lv_room (Nat.le_of_ble_eq_true rfl)) dX1_unlockText_66 ⟨Nat.zero_le _, Nat.zero_le _⟩) hV (fun I_35 L_36 H locs h hV => ?_)
      refine lv_aload_n hx hb dX1_unlockText_69 rfl (lv_at hl 0 rfl) ?_
      refine lv_aload hx hb dX1_unlockText_70 (lv_at hl 4 rfl) ?_
      refine k_callv (va_runV (As := [.ref (ad x4)]) (rest := []) ⟨hx, hb, hml, hown, hts⟩ (s_X1_addProduct l D X ad n A J hWT x0 t0 x4 t4 I_35 L_36 _ h) (cwV 1 hts (gV tw_2_102 tw_2_104 tw_0_5 tw_1_6 tw_2_105) rfl rfl rfl (by decide +kernel) (by decide)) (k_preV (ci := 0) hK hV hA hZ t0 rfl _) rfl rfl hl.1 rfl (lv_room (Nat.le_of_ble_eq_true rfl)) dX1_unlockText_72 ⟨Nat.zero_le _, Nat.zero_le _⟩) hV (fun I_37 L_38 H locs h hV => ?_)
      obtain ⟨x5_39, ex5_39⟩ : ∃ y : Int32, y = x5 + 1 := ⟨_, rfl⟩
      replace h := h x5_39 ex5_39
      refine lv_iinc (v := x5_39) (lv' := [(5, .int x5_39), (0, .ref (ad x0)), (1, .ref (X.2.1 x1)), (2, .ref (ad x2)), (3, .ref (ad x3)), (4, .ref (ad x4))]) hx hb dX1_unlockText_75 hl (k := 5) rfl (by rw [ex5_39]; rfl) (by decide) rfl (fun ls hl => ?_)
      refine lv_goto (tgt := 19) hx hb dX1_unlockText_78 (by decide) ?_
      exact ih x5_39 _ _ _ _ _ h hV (lv_sub hl [1, 2, 3, 4, 5, 0] rfl)
set_option maxHeartbeats 4000000 in
set_option maxRecDepth 100000 in
theorem s_X1_unlockText (l : Launch) (D : va_G) (X : XT) (ad : Nat → Nat) (n : Nat) (A : Nat → Prop) (J : MJ) (hWT : WT X n J) (x0 : Nat) (t0 : Ty X n x0 4) (x1 : Nat) (t1 : x1 < 3) (x2 : Nat) (t2 : Ty X n x2 5) (x3 : Nat) (t3 : Ty X n x3 5) (I : MI) (L : ML) (q : MI → ML → Prop) (h : wp_X1_unlockText X J x0 x1 x2 x3 I L q) : Met l yX1_unlockText (wz yX1_unlockText cX1_unlockText 6 none) ({ frames := 5, cells := 0, slots := 0, locals := 141 } : Room) (va_Pc [.ref (ad x0), .ref (X.2.1 x1), .ref (ad x2), .ref (ad x3)] (Pr D X ad n A J I L)) (QV D X ad n A J q) 0 0 A := by
  refine Met_go (by decide +kernel) (Nat.le_of_ble_eq_true rfl) (fun p e s m below meth c hx hb hr hml hown hlk hnm hts hK hZ hA hV ls hl => ?_)
  have C0 : Cx p s m meth c cX1_unlockText none 6 yX1_unlockText [.ref (ad x0), .ref (X.2.1 x1), .ref (ad x2), .ref (ad x3)] D X ad n A J := ⟨hx, hb, hr, hml, hown, hlk, hnm, hts, hK, hZ, hA, hWT⟩
  unfold wp_X1_unlockText at h
  have hl : lv_has ls 6 [(0, .ref (ad x0)), (1, .ref (X.2.1 x1)), (2, .ref (ad x2)), (3, .ref (ad x3))] := hl
  refine lv_aload_n hx hb dX1_unlockText_0 rfl (lv_at hl 0 rfl) ?_
  obtain ⟨r_1, hr_1, h⟩ := h
  have tr_1 : Ty X n r_1 3 := hWT.r (c := 0) (j := 6) t0 rfl hr_1
  refine m_getr (C := RX1) (T := TX1) (N := 9) (ci := 0) hx hb hts iwX1 hown hK hV t0 rfl 6 (by decide) rfl rfl hr_1 (hts _ tw_1_90) (fun _ h9 => h9) dX1_unlockText_1 ?_
  refine lv_iconst (v := 0) hx hb dX1_unlockText_4 (by decide) ?_
  obtain ⟨hi_2, r_3, hr_3, h⟩ := h
  have tr_3 : Ty X n r_3 0 := hWT.a tr_1 hr_3
  refine m_aald hx hb hK hV tr_1 hi_2 hr_3 dX1_unlockText_5 ?_
  refine lv_astore (lv' := [(4, .ref (ad r_3)), (0, .ref (ad x0)), (1, .ref (X.2.1 x1)), (2, .ref (ad x2)), (3, .ref (ad x3))]) hx hb dX1_unlockText_6 hl (by decide) rfl (fun ls hl => ?_)
  refine lv_aload_n hx hb dX1_unlockText_8 rfl (lv_at hl 1 rfl) ?_
  obtain ⟨r_4, hr_4, h⟩ := h
  have tr_4 : Ty X n r_4 0 := hWT.r (c := 0) (j := 7) t0 rfl hr_4
  refine m_getr (C := RX1) (T := TX1) (N := 9) (ci := 0) hx hb hts iwX1 hown hK hV t0 rfl 7 (by decide) rfl rfl hr_4 (hts _ tw_1_91) (fun _ h9 => h9) dX1_unlockText_9 ?_
  refine lv_iconst (v := 0) hx hb dX1_unlockText_12 (by decide) ?_
  refine k_callv (va_runS (As := [.ref (ad r_4), .int 0]) (rest := []) ⟨hx, hb, hml, hown, hts⟩ (s_J7_fill_53178 l D X ad n A J hWT r_4 tr_4 0 I L _ h) (va_cwS 2 hts (gS tw_2_182 tw_2_183 tw_1_11 tw_2_184) rfl rfl rfl (by decide +kernel) (by decide)) (k_preS hK hV hA hZ _) rfl rfl hl.1 rfl (lv_room (Nat.le_of_ble_eq_true rfl)) dX1_unlockText_13 ⟨Nat.zero_le _, Nat.zero_le _⟩) hV (fun I_5 L_6 H locs h hV => ?_)
  refine lv_iconst (v := 0) hx hb dX1_unlockText_16 (by decide) ?_
  refine lv_istore (lv' := [(5, .int 0), (4, .ref (ad r_3)), (0, .ref (ad x0)), (1, .ref (X.2.1 x1)), (2, .ref (ad x2)), (3, .ref (ad x3))]) hx hb dX1_unlockText_17 hl (by decide) rfl (fun ls hl => ?_)
  obtain ⟨fu0, h⟩ := h
  exact n_X1_unlockText_19 rfl C0 t0 t1 t2 t3 tr_3   fu0 0 _ _ _ _ _ h hV (lv_sub hl [2, 3, 4, 5, 1, 0] rfl)
set_option maxHeartbeats 4000000 in
set_option maxRecDepth 100000 in
theorem s_X1_tellRefusal (l : Launch) (D : va_G) (X : XT) (ad : Nat → Nat) (n : Nat) (A : Nat → Prop) (J : MJ) (hWT : WT X n J) (x0 : Nat) (t0 : Ty X n x0 4) (x1 : Nat) (t1 : x1 < 3) (x2 : Nat) (t2 : Ty X n x2 5) (x3 : Nat) (t3 : Ty X n x3 5) (x4 : Nat) (t4 : Ty X n x4 5) (I : MI) (L : ML) (q : MI → ML → Prop) (h : wp_X1_tellRefusal X J x0 x1 x2 x3 x4 I L q) : Met l yX1_tellRefusal (wz yX1_tellRefusal cX1_tellRefusal 5 none) ({ frames := 3, cells := 0, slots := 0, locals := 100 } : Room) (va_Pc [.ref (ad x0), .ref (X.2.1 x1), .ref (ad x2), .ref (ad x3), .ref (ad x4)] (Pr D X ad n A J I L)) (QV D X ad n A J q) 0 0 A := by
  refine Met_go (by decide +kernel) (Nat.le_of_ble_eq_true rfl) (fun p e s m below meth c hx hb hr hml hown hlk hnm hts hK hZ hA hV ls hl => ?_)
  have C0 : Cx p s m meth c cX1_tellRefusal none 5 yX1_tellRefusal [.ref (ad x0), .ref (X.2.1 x1), .ref (ad x2), .ref (ad x3), .ref (ad x4)] D X ad n A J := ⟨hx, hb, hr, hml, hown, hlk, hnm, hts, hK, hZ, hA, hWT⟩
  unfold wp_X1_tellRefusal at h
  have hl : lv_has ls 5 [(0, .ref (ad x0)), (1, .ref (X.2.1 x1)), (2, .ref (ad x2)), (3, .ref (ad x3)), (4, .ref (ad x4))] := hl
  refine lv_aload_n hx hb dX1_tellRefusal_0 rfl (lv_at hl 0 rfl) ?_
  obtain ⟨r_1, hr_1, h⟩ := h
  have tr_1 : Ty X n r_1 7 := hWT.r (c := 0) (j := 0) t0 rfl hr_1
  refine m_getr (C := RX1) (T := TX1) (N := 9) (ci := 0) hx hb hts iwX1 hown hK hV t0 rfl 0 (by decide) rfl rfl hr_1 (hts _ tw_1_84) (fun _ h9 => h9) dX1_tellRefusal_1 ?_
  refine lv_iconst (v := 3) hx hb dX1_tellRefusal_4 (by decide) ?_
  refine k_callv (va_runV (As := [.int 3]) (rest := []) ⟨hx, hb, hml, hown, hts⟩ (s_X6_begin l D X ad n A J hWT r_1 tr_1 3 I L _ h) (cwV 1 hts (gV tw_2_6 tw_2_7 tw_2_8 tw_1_4 tw_2_9) rfl rfl rfl (by decide +kernel) (by decide)) (k_preV (ci := 3) hK hV hA hZ tr_1 rfl _) rfl rfl hl.1 rfl (lv_room (Nat.le_of_ble_eq_true rfl)) dX1_tellRefusal_5 ⟨Nat.zero_le _, Nat.zero_le _⟩) hV (fun I_2 L_3 H locs h hV => ?_)
  refine lv_aload_n hx hb dX1_tellRefusal_8 rfl (lv_at hl 0 rfl) ?_
  refine m_getr (C := RX1) (T := TX1) (N := 9) (ci := 0) hx hb hts iwX1 hown hK hV t0 rfl 0 (by decide) rfl rfl hr_1 (hts _ tw_1_84) (fun _ h9 => h9) dX1_tellRefusal_9 ?_
  refine lv_aload_n hx hb dX1_tellRefusal_12 rfl (lv_at hl 2 rfl) ?_
  refine lv_aload_n hx hb dX1_tellRefusal_13 rfl (lv_at hl 1 rfl) ?_
  refine k_calli (va_runV (As := []) (rest := [.ref (ad x2), .ref (ad r_1)]) ⟨hx, hb, hml, hown, hts⟩ (s_X2_privateLength l D X ad n A J hWT x1 t1 I_2 L_3 _ h) (cwV 0 hts (gV tw_2_232 tw_2_150 tw_2_151 tw_1_8 tw_2_152) rfl rfl rfl (by decide +kernel) (by decide)) (k_preE hK hV hA hZ t1 _) rfl rfl hl.1 rfl (lv_room (Nat.le_of_ble_eq_true rfl)) dX1_tellRefusal_14 ⟨Nat.zero_le _, Nat.zero_le _⟩) hV (fun v_6 I_4 L_5 H locs h hV => ?_)
  refine lv_bipush (v := 32) hx hb dX1_tellRefusal_17 (by decide) ?_
  refine lv_isub hx hb dX1_tellRefusal_19 ?_
  refine lv_bipush (v := 32) hx hb dX1_tellRefusal_20 (by decide) ?_
  refine k_callv (va_runV (As := [.ref (ad x2), .int (v_6 - 32), .int 32]) (rest := []) ⟨hx, hb, hml, hown, hts⟩ (s_X6_absorb l D X ad n A J hWT r_1 tr_1 x2 t2 (v_6 - 32) 32 I_4 L_5 _ h) (cwV 3 hts (gV tw_2_15 tw_2_16 tw_2_17 tw_1_4 tw_2_18) rfl rfl rfl (by decide +kernel) (by decide)) (k_preV (ci := 3) hK hV hA hZ tr_1 rfl _) rfl rfl hl.1 rfl (lv_room (Nat.le_of_ble_eq_true rfl)) dX1_tellRefusal_22 ⟨Nat.zero_le _, Nat.zero_le _⟩) hV (fun I_7 L_8 H locs h hV => ?_)
  refine lv_aload_n hx hb dX1_tellRefusal_25 rfl (lv_at hl 0 rfl) ?_
  refine m_getr (C := RX1) (T := TX1) (N := 9) (ci := 0) hx hb hts iwX1 hown hK hV t0 rfl 0 (by decide) rfl rfl hr_1 (hts _ tw_1_84) (fun _ h9 => h9) dX1_tellRefusal_26 ?_
  refine lv_aload_n hx hb dX1_tellRefusal_29 rfl (lv_at hl 3 rfl) ?_
  refine lv_iconst (v := 0) hx hb dX1_tellRefusal_30 (by decide) ?_
  refine lv_aload_n hx hb dX1_tellRefusal_31 rfl (lv_at hl 1 rfl) ?_
  refine k_calli (va_runV (As := []) (rest := [.int 0, .ref (ad x3), .ref (ad r_1)]) ⟨hx, hb, hml, hown, hts⟩ (s_X2_textLength l D X ad n A J hWT x1 t1 I_7 L_8 _ h) (cwV 0 hts (gV tw_2_233 tw_2_162 tw_2_163 tw_1_8 tw_2_164) rfl rfl rfl (by decide +kernel) (by decide)) (k_preE hK hV hA hZ t1 _) rfl rfl hl.1 rfl (lv_room (Nat.le_of_ble_eq_true rfl)) dX1_tellRefusal_32 ⟨Nat.zero_le _, Nat.zero_le _⟩) hV (fun v_11 I_9 L_10 H locs h hV => ?_)
  refine k_callv (va_runV (As := [.ref (ad x3), .int 0, .int v_11]) (rest := []) ⟨hx, hb, hml, hown, hts⟩ (s_X6_absorb l D X ad n A J hWT r_1 tr_1 x3 t3 0 v_11 I_9 L_10 _ h) (cwV 3 hts (gV tw_2_15 tw_2_16 tw_2_17 tw_1_4 tw_2_18) rfl rfl rfl (by decide +kernel) (by decide)) (k_preV (ci := 3) hK hV hA hZ tr_1 rfl _) rfl rfl hl.1 rfl (lv_room (Nat.le_of_ble_eq_true rfl)) dX1_tellRefusal_35 ⟨Nat.zero_le _, Nat.zero_le _⟩) hV (fun I_12 L_13 H locs h hV => ?_)
  refine lv_aload_n hx hb dX1_tellRefusal_38 rfl (lv_at hl 0 rfl) ?_
  refine m_getr (C := RX1) (T := TX1) (N := 9) (ci := 0) hx hb hts iwX1 hown hK hV t0 rfl 0 (by decide) rfl rfl hr_1 (hts _ tw_1_84) (fun _ h9 => h9) dX1_tellRefusal_39 ?_
  refine k_callv (va_runV (As := []) (rest := []) ⟨hx, hb, hml, hown, hts⟩ (s_X6_finish l D X ad n A J hWT r_1 tr_1 I_12 L_13 _ h) (cwV 0 hts (gV tw_2_44 tw_2_45 tw_2_46 tw_1_4 tw_2_47) rfl rfl rfl (by decide +kernel) (by decide)) (k_preV (ci := 3) hK hV hA hZ tr_1 rfl _) rfl rfl hl.1 rfl (lv_room (Nat.le_of_ble_eq_true rfl)) dX1_tellRefusal_42 ⟨Nat.zero_le _, Nat.zero_le _⟩) hV (fun I_14 L_15 H locs h hV => ?_)
  refine lv_aload_n hx hb dX1_tellRefusal_45 rfl (lv_at hl 0 rfl) ?_
  refine m_getr (C := RX1) (T := TX1) (N := 9) (ci := 0) hx hb hts iwX1 hown hK hV t0 rfl 0 (by decide) rfl rfl hr_1 (hts _ tw_1_84) (fun _ h9 => h9) dX1_tellRefusal_46 ?_
  refine lv_aload hx hb dX1_tellRefusal_49 (lv_at hl 4 rfl) ?_
  refine lv_bipush (v := 32) hx hb dX1_tellRefusal_51 (by decide) ?_
  refine k_callv (va_runV (As := [.ref (ad x4), .int 32]) (rest := []) ⟨hx, hb, hml, hown, hts⟩ (s_X6_tellTo l D X ad n A J hWT r_1 tr_1 x4 t4 32 I_14 L_15 _ h) (cwV 2 hts (gV tw_2_49 tw_2_50 tw_2_51 tw_1_4 tw_2_52) rfl rfl rfl (by decide +kernel) (by decide)) (k_preV (ci := 3) hK hV hA hZ tr_1 rfl _) rfl rfl hl.1 rfl (lv_room (Nat.le_of_ble_eq_true rfl)) dX1_tellRefusal_53 ⟨Nat.zero_le _, Nat.zero_le _⟩) hV (fun I_16 L_17 H locs h hV => ?_)
  exact m_vret hx hb hr hlk hK hZ hA hV h dX1_tellRefusal_56
set_option maxHeartbeats 4000000 in
set_option maxRecDepth 100000 in
theorem s_X1_hashIsTrue (l : Launch) (D : va_G) (X : XT) (ad : Nat → Nat) (n : Nat) (A : Nat → Prop) (J : MJ) (hWT : WT X n J) (x0 : Nat) (t0 : Ty X n x0 4) (x1 : Nat) (t1 : x1 < 3) (x2 : Nat) (t2 : Ty X n x2 5) (I : MI) (L : ML) (q : Int32 → MI → ML → Prop) (h : wp_X1_hashIsTrue X J x0 x1 x2 I L q) : Met l yX1_hashIsTrue (wz yX1_hashIsTrue cX1_hashIsTrue 3 (some .boolean)) ({ frames := 4, cells := 0, slots := 0, locals := 123 } : Room) (va_Pc [.ref (ad x0), .ref (X.2.1 x1), .ref (ad x2)] (Pr D X ad n A J I L)) (QI D X ad n A J q) 0 0 A := by
  refine Met_go (by decide +kernel) (Nat.le_of_ble_eq_true rfl) (fun p e s m below meth c hx hb hr hml hown hlk hnm hts hK hZ hA hV ls hl => ?_)
  have C0 : Cx p s m meth c cX1_hashIsTrue (some .boolean) 3 yX1_hashIsTrue [.ref (ad x0), .ref (X.2.1 x1), .ref (ad x2)] D X ad n A J := ⟨hx, hb, hr, hml, hown, hlk, hnm, hts, hK, hZ, hA, hWT⟩
  unfold wp_X1_hashIsTrue at h
  have hl : lv_has ls 3 [(0, .ref (ad x0)), (1, .ref (X.2.1 x1)), (2, .ref (ad x2))] := hl
  refine lv_aload_n hx hb dX1_hashIsTrue_0 rfl (lv_at hl 0 rfl) ?_
  refine lv_aload_n hx hb dX1_hashIsTrue_1 rfl (lv_at hl 2 rfl) ?_
  refine lv_aload_n hx hb dX1_hashIsTrue_2 rfl (lv_at hl 1 rfl) ?_
  refine k_calli (va_runV (As := []) (rest := [.ref (ad x2), .ref (ad x0)]) ⟨hx, hb, hml, hown, hts⟩ (s_X2_innerLength l D X ad n A J hWT x1 t1 I L _ h) (cwV 0 hts (gV tw_2_120 tw_2_121 tw_2_122 tw_1_8 tw_2_123) rfl rfl rfl (by decide +kernel) (by decide)) (k_preE hK hV hA hZ t1 _) rfl rfl hl.1 rfl (lv_room (Nat.le_of_ble_eq_true rfl)) dX1_hashIsTrue_3 ⟨Nat.zero_le _, Nat.zero_le _⟩) hV (fun v_3 I_1 L_2 H locs h hV => ?_)
  refine lv_aload_n hx hb dX1_hashIsTrue_6 rfl (lv_at hl 1 rfl) ?_
  refine k_calli (va_runV (As := []) (rest := [.int v_3, .ref (ad x2), .ref (ad x0)]) ⟨hx, hb, hml, hown, hts⟩ (s_X2_publicLength l D X ad n A J hWT x1 t1 I_1 L_2 _ h) (cwV 0 hts (gV tw_2_124 tw_1_219 tw_1_220 tw_1_8 tw_1_221) rfl rfl rfl (by decide +kernel) (by decide)) (k_preE hK hV hA hZ t1 _) rfl rfl hl.1 rfl (lv_room (Nat.le_of_ble_eq_true rfl)) dX1_hashIsTrue_7 ⟨Nat.zero_le _, Nat.zero_le _⟩) hV (fun v_6 I_4 L_5 H locs h hV => ?_)
  refine k_callv (va_runV (As := [.ref (ad x2), .int v_3, .int v_6]) (rest := []) ⟨hx, hb, hml, hown, hts⟩ (s_X1_tellDigest l D X ad n A J hWT x0 t0 x2 t2 v_3 v_6 I_4 L_5 _ h) (cwV 3 hts (gV tw_2_125 tw_2_127 tw_0_6 tw_1_6 tw_2_128) rfl rfl rfl (by decide +kernel) (by decide)) (k_preV (ci := 0) hK hV hA hZ t0 rfl _) rfl rfl hl.1 rfl (lv_room (Nat.le_of_ble_eq_true rfl)) dX1_hashIsTrue_10 ⟨Nat.zero_le _, Nat.zero_le _⟩) hV (fun I_7 L_8 H locs h hV => ?_)
  refine lv_aload_n hx hb dX1_hashIsTrue_13 rfl (lv_at hl 0 rfl) ?_
  obtain ⟨r_9, hr_9, h⟩ := h
  have tr_9 : Ty X n r_9 5 := hWT.r (c := 0) (j := 5) t0 rfl hr_9
  refine m_getr (C := RX1) (T := TX1) (N := 9) (ci := 0) hx hb hts iwX1 hown hK hV t0 rfl 5 (by decide) rfl rfl hr_9 (hts _ tw_1_89) (fun _ h9 => h9) dX1_hashIsTrue_14 ?_
  refine lv_iconst (v := 0) hx hb dX1_hashIsTrue_17 (by decide) ?_
  refine lv_aload_n hx hb dX1_hashIsTrue_18 rfl (lv_at hl 2 rfl) ?_
  refine lv_aload_n hx hb dX1_hashIsTrue_19 rfl (lv_at hl 1 rfl) ?_
  refine k_calli (va_runV (As := []) (rest := [.ref (ad x2), .int 0, .ref (ad r_9)]) ⟨hx, hb, hml, hown, hts⟩ (s_X2_innerLength l D X ad n A J hWT x1 t1 I_7 L_8 _ h) (cwV 0 hts (gV tw_2_120 tw_2_121 tw_2_122 tw_1_8 tw_2_123) rfl rfl rfl (by decide +kernel) (by decide)) (k_preE hK hV hA hZ t1 _) rfl rfl hl.1 rfl (lv_room (Nat.le_of_ble_eq_true rfl)) dX1_hashIsTrue_20 ⟨Nat.zero_le _, Nat.zero_le _⟩) hV (fun v_12 I_10 L_11 H locs h hV => ?_)
  refine lv_aload_n hx hb dX1_hashIsTrue_23 rfl (lv_at hl 1 rfl) ?_
  refine k_calli (va_runV (As := []) (rest := [.int v_12, .ref (ad x2), .int 0, .ref (ad r_9)]) ⟨hx, hb, hml, hown, hts⟩ (s_X2_publicLength l D X ad n A J hWT x1 t1 I_10 L_11 _ h) (cwV 0 hts (gV tw_2_124 tw_1_219 tw_1_220 tw_1_8 tw_1_221) rfl rfl rfl (by decide +kernel) (by decide)) (k_preE hK hV hA hZ t1 _) rfl rfl hl.1 rfl (lv_room (Nat.le_of_ble_eq_true rfl)) dX1_hashIsTrue_24 ⟨Nat.zero_le _, Nat.zero_le _⟩) hV (fun v_15 I_13 L_14 H locs h hV => ?_)
  refine lv_iadd hx hb dX1_hashIsTrue_27 ?_
  refine lv_bipush (v := 32) hx hb dX1_hashIsTrue_28 (by decide) ?_
  refine k_calli (va_runV (As := [.int 0, .ref (ad x2), .int (v_12 + v_15), .int 32]) (rest := []) ⟨hx, hb, hml, hown, hts⟩ (s_X4_partIsSame l D X ad n A J hWT r_9 tr_9 0 x2 t2 (v_12 + v_15) 32 I_13 L_14 _ h) (cwV 4 hts (gV tw_2_157 tw_2_158 tw_2_159 tw_1_2 tw_2_160) rfl rfl rfl (by decide +kernel) (by decide)) (k_preV (ci := 1) hK hV hA hZ tr_9 rfl _) rfl rfl hl.1 rfl (lv_room (Nat.le_of_ble_eq_true rfl)) dX1_hashIsTrue_30 ⟨Nat.zero_le _, Nat.zero_le _⟩) hV (fun v_18 I_16 L_17 H locs h hV => ?_)
  exact m_zret hx hb hr hlk hK hZ hA hV h.1 h.2 dX1_hashIsTrue_33
set_option maxHeartbeats 4000000 in
set_option maxRecDepth 100000 in
theorem s_X1_packCompressed (l : Launch) (D : va_G) (X : XT) (ad : Nat → Nat) (n : Nat) (A : Nat → Prop) (J : MJ) (hWT : WT X n J) (x0 : Nat) (t0 : Ty X n x0 4) (x1 : Int32) (I : MI) (L : ML) (q : MI → ML → Prop) (h : wp_X1_packCompressed X J x0 x1 I L q) : Met l yX1_packCompressed (wz yX1_packCompressed cX1_packCompressed 2 none) ({ frames := 3, cells := 0, slots := 0, locals := 70 } : Room) (va_Pc [.ref (ad x0), .int x1] (Pr D X ad n A J I L)) (QV D X ad n A J q) 0 0 A := by
  refine Met_go (by decide +kernel) (Nat.le_of_ble_eq_true rfl) (fun p e s m below meth c hx hb hr hml hown hlk hnm hts hK hZ hA hV ls hl => ?_)
  have C0 : Cx p s m meth c cX1_packCompressed none 2 yX1_packCompressed [.ref (ad x0), .int x1] D X ad n A J := ⟨hx, hb, hr, hml, hown, hlk, hnm, hts, hK, hZ, hA, hWT⟩
  unfold wp_X1_packCompressed at h
  have hl : lv_has ls 2 [(0, .ref (ad x0)), (1, .int x1)] := hl
  refine lv_aload_n hx hb dX1_packCompressed_0 rfl (lv_at hl 0 rfl) ?_
  obtain ⟨r_1, hr_1, h⟩ := h
  have tr_1 : Ty X n r_1 0 := hWT.r (c := 0) (j := 7) t0 rfl hr_1
  refine m_getr (C := RX1) (T := TX1) (N := 9) (ci := 0) hx hb hts iwX1 hown hK hV t0 rfl 7 (by decide) rfl rfl hr_1 (hts _ tw_1_91) (fun _ h9 => h9) dX1_packCompressed_1 ?_
  refine lv_iload_n hx hb dX1_packCompressed_4 rfl (lv_at hl 1 rfl) ?_
  refine k_callv (va_runS (As := [.ref (ad r_1), .int x1]) (rest := []) ⟨hx, hb, hml, hown, hts⟩ (s_X0_compress l D X ad n A J hWT r_1 tr_1 x1 I L _ h) (va_cwS 2 hts (gS tw_2_195 tw_2_196 tw_1_14 tw_2_197) rfl rfl rfl (by decide +kernel) (by decide)) (k_preS hK hV hA hZ _) rfl rfl hl.1 rfl (lv_room (Nat.le_of_ble_eq_true rfl)) dX1_packCompressed_5 ⟨Nat.zero_le _, Nat.zero_le _⟩) hV (fun I_2 L_3 H locs h hV => ?_)
  refine lv_aload_n hx hb dX1_packCompressed_8 rfl (lv_at hl 0 rfl) ?_
  refine m_getr (C := RX1) (T := TX1) (N := 9) (ci := 0) hx hb hts iwX1 hown hK hV t0 rfl 7 (by decide) rfl rfl hr_1 (hts _ tw_1_91) (fun _ h9 => h9) dX1_packCompressed_9 ?_
  refine lv_iload_n hx hb dX1_packCompressed_12 rfl (lv_at hl 1 rfl) ?_
  refine lv_aload_n hx hb dX1_packCompressed_13 rfl (lv_at hl 0 rfl) ?_
  obtain ⟨r_4, hr_4, h⟩ := h
  have tr_4 : Ty X n r_4 5 := hWT.r (c := 0) (j := 2) t0 rfl hr_4
  refine m_getr (C := RX1) (T := TX1) (N := 9) (ci := 0) hx hb hts iwX1 hown hK hV t0 rfl 2 (by decide) rfl rfl hr_4 (hts _ tw_1_86) (fun _ h9 => h9) dX1_packCompressed_14 ?_
  refine k_callv (va_runS (As := [.ref (ad r_1), .int x1, .ref (ad r_4)]) (rest := []) ⟨hx, hb, hml, hown, hts⟩ (s_X0_pack l D X ad n A J hWT r_1 tr_1 x1 r_4 tr_4 I_2 L_3 _ h) (va_cwS 3 hts (gS tw_2_85 tw_2_86 tw_1_14 tw_2_87) rfl rfl rfl (by decide +kernel) (by decide)) (k_preS hK hV hA hZ _) rfl rfl hl.1 rfl (lv_room (Nat.le_of_ble_eq_true rfl)) dX1_packCompressed_17 ⟨Nat.zero_le _, Nat.zero_le _⟩) hV (fun I_5 L_6 H locs h hV => ?_)
  exact m_vret hx hb hr hlk hK hZ hA hV h dX1_packCompressed_20
set_option maxHeartbeats 4000000 in
set_option maxRecDepth 100000 in
theorem n_X1_lockLast_11 {p : Program} {l : Launch} {e : Env} {s : State} {m : MethodId} {below : List Frame} {meth : Method} {c : Code} {D : va_G} {X : XT} {ad : Nat → Nat} {n : Nat} {A : Nat → Prop} {J : MJ} {av : List Value} {R : Room} (hR : R = ({ frames := 4, cells := 0, slots := 0, locals := 131 } : Room)) (C0 : Cx p s m meth c cX1_lockLast none 5 yX1_lockLast av D X ad n A J) {q : MI → ML → Prop}  {x0 : Nat} {x1 : Nat} {x2 : Nat} {x3 : Int32} (t0 : Ty X n x0 4) (t1 : x1 < 3) (t2 : Ty X n x2 5) : ∀ (fu : Nat) (x4 : Int32) (I : MI) (L : ML) (H : Heap) (locs : List Loc) (ls : Array Slot), wl_X1_lockLast_11 X J q  x0 x1 x2 x3 fu x4 I L → Wd D X ad n A s.heap J I L H locs → lv_has ls 5 [(0, .ref (ad x0)), (1, .ref (X.2.1 x1)), (2, .ref (ad x2)), (3, .int x3), (4, .int x4)] → W p l e R s m av.toArray below meth c H locs 0 0 (MQ below (QV D X ad n A J q) av.toArray s 0 0 A) (F0 m 11 ls []) := by
  obtain ⟨hx, hb, hr, hml, hown, hlk, hnm, hts, hK, hZ, hA, hWT⟩ := id C0
  subst hR
  intro fu
  induction fu with
  | zero => intro x4 I L H locs ls h; exact absurd h (fun h => h)
  | succ fu ih =>
    intro x4 I L H locs ls h hV hl
    refine lv_iload hx hb dX1_lockLast_11 (lv_at hl 4 rfl) ?_
    refine lv_aload_n hx hb dX1_lockLast_13 rfl (lv_at hl 1 rfl) ?_
    refine va_getE (q := enF.getD 0 ("", "", "", [])) hx hb hZ.1 t1 hV.2.2 hown (by decide) (hts _ tw_4_158) (fun _ h9 => h9) dX1_lockLast_14 ?_
    refine lv_icmp_ge (tgt := 55) hx hb dX1_lockLast_17 (by decide) (fun hc => ?_) (fun hc => ?_)
    · replace h := h.1 hc
      refine lv_aload_n hx hb dX1_lockLast_55 rfl (lv_at hl 0 rfl) ?_
      obtain ⟨r_4, hr_4, h⟩ := h
      have tr_4 : Ty X n r_4 0 := hWT.r (c := 0) (j := 7) t0 rfl hr_4
      refine m_getr (C := RX1) (T := TX1) (N := 9) (ci := 0) hx hb hts iwX1 hown hK hV t0 rfl 7 (by decide) rfl rfl hr_4 (hts _ tw_1_91) (fun _ h9 => h9) dX1_lockLast_56 ?_
      refine k_callv (va_runS (As := [.ref (ad r_4)]) (rest := []) ⟨hx, hb, hml, hown, hts⟩ (s_X3_fromPairs l D X ad n A J hWT r_4 tr_4 I L _ h) (va_cwS 1 hts (gS tw_2_185 tw_2_186 tw_1_13 tw_2_187) rfl rfl rfl (by decide +kernel) (by decide)) (k_preS hK hV hA hZ _) rfl rfl hl.1 rfl (lv_room (Nat.le_of_ble_eq_true rfl)) dX1_lockLast_59 ⟨Nat.zero_le _, Nat.zero_le _⟩) hV (fun I_5 L_6 H locs h hV => ?_)
      refine lv_aload_n hx hb dX1_lockLast_62 rfl (lv_at hl 0 rfl) ?_
      obtain ⟨r_7, hr_7, h⟩ := h
      have tr_7 : Ty X n r_7 6 := hWT.r (c := 0) (j := 1) t0 rfl hr_7
      refine m_getr (C := RX1) (T := TX1) (N := 9) (ci := 0) hx hb hts iwX1 hown hK hV t0 rfl 1 (by decide) rfl rfl hr_7 (hts _ tw_1_85) (fun _ h9 => h9) dX1_lockLast_63 ?_
      refine lv_aload_n hx hb dX1_lockLast_66 rfl (lv_at hl 0 rfl) ?_
      obtain ⟨r_8, hr_8, h⟩ := h
      have tr_8 : Ty X n r_8 0 := hWT.r (c := 0) (j := 8) t0 rfl hr_8
      refine m_getr (C := RX1) (T := TX1) (N := 9) (ci := 0) hx hb hts iwX1 hown hK hV t0 rfl 8 (by decide) rfl rfl hr_8 (hts _ tw_1_92) (fun _ h9 => h9) dX1_lockLast_67 ?_
      refine lv_aload_n hx hb dX1_lockLast_70 rfl (lv_at hl 0 rfl) ?_
      obtain ⟨r_9, hr_9, h⟩ := h
      have tr_9 : Ty X n r_9 5 := hWT.r (c := 0) (j := 3) t0 rfl hr_9
      refine m_getr (C := RX1) (T := TX1) (N := 9) (ci := 0) hx hb hts iwX1 hown hK hV t0 rfl 3 (by decide) rfl rfl hr_9 (hts _ tw_1_87) (fun _ h9 => h9) dX1_lockLast_71 ?_
      refine lv_bipush (v := 32) hx hb dX1_lockLast_74 (by decide) ?_
      refine lv_aload_n hx hb dX1_lockLast_76 rfl (lv_at hl 1 rfl) ?_
      refine va_getE (q := enF.getD 2 ("", "", "", [])) hx hb hZ.1 t1 hV.2.2 hown (by decide) (hts _ tw_4_162) (fun _ h9 => h9) dX1_lockLast_77 ?_
      refine lv_iconst (v := 2) hx hb dX1_lockLast_80 (by decide) ?_
      refine lv_aload_n hx hb dX1_lockLast_81 rfl (lv_at hl 1 rfl) ?_
      refine va_getE (q := enF.getD 0 ("", "", "", [])) hx hb hZ.1 t1 hV.2.2 hown (by decide) (hts _ tw_4_158) (fun _ h9 => h9) dX1_lockLast_82 ?_
      refine lv_imul hx hb dX1_lockLast_85 ?_
      refine k_callv (va_runV (As := [.ref (ad r_8), .ref (ad r_9), .int 32, .int (enI 2 x1), .int (2 * (enI 0 x1))]) (rest := []) ⟨hx, hb, hml, hown, hts⟩ (s_X5_drawNoise l D X ad n A J hWT r_7 tr_7 r_8 tr_8 r_9 tr_9 32 (enI 2 x1) (2 * (enI 0 x1)) I_5 L_6 _ h) (cwV 5 hts (gV tw_2_62 tw_2_63 tw_2_64 tw_1_5 tw_2_65) rfl rfl rfl (by decide +kernel) (by decide)) (k_preV (ci := 2) hK hV hA hZ tr_7 rfl _) rfl rfl hl.1 rfl (lv_room (Nat.le_of_ble_eq_true rfl)) dX1_lockLast_86 ⟨Nat.zero_le _, Nat.zero_le _⟩) hV (fun I_10 L_11 H locs h hV => ?_)
      refine lv_aload_n hx hb dX1_lockLast_89 rfl (lv_at hl 0 rfl) ?_
      refine m_getr (C := RX1) (T := TX1) (N := 9) (ci := 0) hx hb hts iwX1 hown hK hV t0 rfl 7 (by decide) rfl rfl hr_4 (hts _ tw_1_91) (fun _ h9 => h9) dX1_lockLast_90 ?_
      refine lv_aload_n hx hb dX1_lockLast_93 rfl (lv_at hl 0 rfl) ?_
      refine m_getr (C := RX1) (T := TX1) (N := 9) (ci := 0) hx hb hts iwX1 hown hK hV t0 rfl 8 (by decide) rfl rfl hr_8 (hts _ tw_1_92) (fun _ h9 => h9) dX1_lockLast_94 ?_
      refine lv_iconst (v := 1) hx hb dX1_lockLast_97 (by decide) ?_
      refine k_callv (va_runS (As := [.ref (ad r_4), .ref (ad r_8), .int 1]) (rest := []) ⟨hx, hb, hml, hown, hts⟩ (s_X3_addTimes l D X ad n A J hWT r_4 tr_4 r_8 tr_8 1 I_10 L_11 _ h) (va_cwS 3 hts (gS tw_2_112 tw_2_113 tw_1_13 tw_2_114) rfl rfl rfl (by decide +kernel) (by decide)) (k_preS hK hV hA hZ _) rfl rfl hl.1 rfl (lv_room (Nat.le_of_ble_eq_true rfl)) dX1_lockLast_98 ⟨Nat.zero_le _, Nat.zero_le _⟩) hV (fun I_12 L_13 H locs h hV => ?_)
      refine lv_aload_n hx hb dX1_lockLast_101 rfl (lv_at hl 0 rfl) ?_
      refine m_getr (C := RX1) (T := TX1) (N := 9) (ci := 0) hx hb hts iwX1 hown hK hV t0 rfl 8 (by decide) rfl rfl hr_8 (hts _ tw_1_92) (fun _ h9 => h9) dX1_lockLast_102 ?_
      refine lv_aload_n hx hb dX1_lockLast_105 rfl (lv_at hl 0 rfl) ?_
      obtain ⟨r_14, hr_14, h⟩ := h
      have tr_14 : Ty X n r_14 5 := hWT.r (c := 0) (j := 4) t0 rfl hr_14
      refine m_getr (C := RX1) (T := TX1) (N := 9) (ci := 0) hx hb hts iwX1 hown hK hV t0 rfl 4 (by decide) rfl rfl hr_14 (hts _ tw_1_88) (fun _ h9 => h9) dX1_lockLast_106 ?_
      refine lv_iconst (v := 0) hx hb dX1_lockLast_109 (by decide) ?_
      refine lv_iconst (v := 1) hx hb dX1_lockLast_110 (by decide) ?_
      refine k_callv (va_runS (As := [.ref (ad r_8), .ref (ad r_14), .int 0, .int 1]) (rest := []) ⟨hx, hb, hml, hown, hts⟩ (s_X1_unpackStretched l D X ad n A J hWT r_8 tr_8 r_14 tr_14 0 1 I_12 L_13 _ h) (va_cwS 4 hts (gS tw_2_205 tw_2_206 tw_1_6 tw_2_207) rfl rfl rfl (by decide +kernel) (by decide)) (k_preS hK hV hA hZ _) rfl rfl hl.1 rfl (lv_room (Nat.le_of_ble_eq_true rfl)) dX1_lockLast_111 ⟨Nat.zero_le _, Nat.zero_le _⟩) hV (fun I_15 L_16 H locs h hV => ?_)
      refine lv_aload_n hx hb dX1_lockLast_114 rfl (lv_at hl 0 rfl) ?_
      refine m_getr (C := RX1) (T := TX1) (N := 9) (ci := 0) hx hb hts iwX1 hown hK hV t0 rfl 7 (by decide) rfl rfl hr_4 (hts _ tw_1_91) (fun _ h9 => h9) dX1_lockLast_115 ?_
      refine lv_aload_n hx hb dX1_lockLast_118 rfl (lv_at hl 0 rfl) ?_
      refine m_getr (C := RX1) (T := TX1) (N := 9) (ci := 0) hx hb hts iwX1 hown hK hV t0 rfl 8 (by decide) rfl rfl hr_8 (hts _ tw_1_92) (fun _ h9 => h9) dX1_lockLast_119 ?_
      refine lv_iconst (v := 1) hx hb dX1_lockLast_122 (by decide) ?_
      refine k_callv (va_runS (As := [.ref (ad r_4), .ref (ad r_8), .int 1]) (rest := []) ⟨hx, hb, hml, hown, hts⟩ (s_X3_addTimes l D X ad n A J hWT r_4 tr_4 r_8 tr_8 1 I_15 L_16 _ h) (va_cwS 3 hts (gS tw_2_112 tw_2_113 tw_1_13 tw_2_114) rfl rfl rfl (by decide +kernel) (by decide)) (k_preS hK hV hA hZ _) rfl rfl hl.1 rfl (lv_room (Nat.le_of_ble_eq_true rfl)) dX1_lockLast_123 ⟨Nat.zero_le _, Nat.zero_le _⟩) hV (fun I_17 L_18 H locs h hV => ?_)
      refine lv_aload_n hx hb dX1_lockLast_126 rfl (lv_at hl 0 rfl) ?_
      refine lv_aload_n hx hb dX1_lockLast_127 rfl (lv_at hl 1 rfl) ?_
      refine va_getE (q := enF.getD 4 ("", "", "", [])) hx hb hZ.1 t1 hV.2.2 hown (by decide) (hts _ tw_4_164) (fun _ h9 => h9) dX1_lockLast_128 ?_
      refine k_callv (va_runV (As := [.int (enI 4 x1)]) (rest := []) ⟨hx, hb, hml, hown, hts⟩ (s_X1_packCompressed l D X ad n A J hWT x0 t0 (enI 4 x1) I_17 L_18 _ h) (cwV 1 hts (gV tw_2_191 tw_2_193 tw_0_9 tw_1_6 tw_2_194) rfl rfl rfl (by decide +kernel) (by decide)) (k_preV (ci := 0) hK hV hA hZ t0 rfl _) rfl rfl hl.1 rfl (lv_room (Nat.le_of_ble_eq_true rfl)) dX1_lockLast_131 ⟨Nat.zero_le _, Nat.zero_le _⟩) hV (fun I_19 L_20 H locs h hV => ?_)
      exact m_vret hx hb hr hlk hK hZ hA hV h dX1_lockLast_134
    · replace h := h.2 hc
      refine lv_aload_n hx hb dX1_lockLast_20 rfl (lv_at hl 0 rfl) ?_
      obtain ⟨r_21, hr_21, h⟩ := h
      have tr_21 : Ty X n r_21 0 := hWT.r (c := 0) (j := 8) t0 rfl hr_21
      refine m_getr (C := RX1) (T := TX1) (N := 9) (ci := 0) hx hb hts iwX1 hown hK hV t0 rfl 8 (by decide) rfl rfl hr_21 (hts _ tw_1_92) (fun _ h9 => h9) dX1_lockLast_21 ?_
      refine lv_bipush (v := 12) hx hb dX1_lockLast_24 (by decide) ?_
      refine lv_aload_n hx hb dX1_lockLast_26 rfl (lv_at hl 2 rfl) ?_
      refine lv_iload_n hx hb dX1_lockLast_27 rfl (lv_at hl 3 rfl) ?_
      refine lv_sipush (v := 384) hx hb dX1_lockLast_28 (by decide) ?_
      refine lv_iload hx hb dX1_lockLast_31 (lv_at hl 4 rfl) ?_
      refine lv_imul hx hb dX1_lockLast_33 ?_
      refine lv_iadd hx hb dX1_lockLast_34 ?_
      refine k_callv (va_runS (As := [.ref (ad r_21), .int 12, .ref (ad x2), .int (x3 + (384 * x4))]) (rest := []) ⟨hx, hb, hml, hown, hts⟩ (s_X0_unpack l D X ad n A J hWT r_21 tr_21 12 x2 t2 (x3 + (384 * x4)) I L _ h) (va_cwS 4 hts (gS tw_2_202 tw_2_203 tw_1_14 tw_2_204) rfl rfl rfl (by decide +kernel) (by decide)) (k_preS hK hV hA hZ _) rfl rfl hl.1 rfl (lv_room (Nat.le_of_ble_eq_true rfl)) dX1_lockLast_35 ⟨Nat.zero_le _, Nat.zero_le _⟩) hV (fun I_22 L_23 H locs h hV => ?_)
      refine lv_aload_n hx hb dX1_lockLast_38 rfl (lv_at hl 0 rfl) ?_
      refine lv_aload_n hx hb dX1_lockLast_39 rfl (lv_at hl 0 rfl) ?_
      obtain ⟨r_24, hr_24, h⟩ := h
      have tr_24 : Ty X n r_24 3 := hWT.r (c := 0) (j := 6) t0 rfl hr_24
      refine m_getr (C := RX1) (T := TX1) (N := 9) (ci := 0) hx hb hts iwX1 hown hK hV t0 rfl 6 (by decide) rfl rfl hr_24 (hts _ tw_1_90) (fun _ h9 => h9) dX1_lockLast_40 ?_
      refine lv_iload hx hb dX1_lockLast_43 (lv_at hl 4 rfl) ?_
      obtain ⟨hi_25, r_26, hr_26, h⟩ := h
      have tr_26 : Ty X n r_26 0 := hWT.a tr_24 hr_26
      refine m_aald hx hb hK hV tr_24 hi_25 hr_26 dX1_lockLast_45 ?_
      refine k_callv (va_runV (As := [.ref (ad r_26)]) (rest := []) ⟨hx, hb, hml, hown, hts⟩ (s_X1_addProduct l D X ad n A J hWT x0 t0 r_26 tr_26 I_22 L_23 _ h) (cwV 1 hts (gV tw_2_102 tw_2_104 tw_0_5 tw_1_6 tw_2_105) rfl rfl rfl (by decide +kernel) (by decide)) (k_preV (ci := 0) hK hV hA hZ t0 rfl _) rfl rfl hl.1 rfl (lv_room (Nat.le_of_ble_eq_true rfl)) dX1_lockLast_46 ⟨Nat.zero_le _, Nat.zero_le _⟩) hV (fun I_27 L_28 H locs h hV => ?_)
      obtain ⟨x4_29, ex4_29⟩ : ∃ y : Int32, y = x4 + 1 := ⟨_, rfl⟩
      replace h := h x4_29 ex4_29
      refine lv_iinc (v := x4_29) (lv' := [(4, .int x4_29), (0, .ref (ad x0)), (1, .ref (X.2.1 x1)), (2, .ref (ad x2)), (3, .int x3)]) hx hb dX1_lockLast_49 hl (k := 4) rfl (by rw [ex4_29]; rfl) (by decide) rfl (fun ls hl => ?_)
      refine lv_goto (tgt := 11) hx hb dX1_lockLast_52 (by decide) ?_
      exact ih x4_29 _ _ _ _ _ h hV (lv_sub hl [1, 2, 3, 4, 0] rfl)
set_option maxHeartbeats 4000000 in
set_option maxRecDepth 100000 in
theorem s_X1_lockLast (l : Launch) (D : va_G) (X : XT) (ad : Nat → Nat) (n : Nat) (A : Nat → Prop) (J : MJ) (hWT : WT X n J) (x0 : Nat) (t0 : Ty X n x0 4) (x1 : Nat) (t1 : x1 < 3) (x2 : Nat) (t2 : Ty X n x2 5) (x3 : Int32) (I : MI) (L : ML) (q : MI → ML → Prop) (h : wp_X1_lockLast X J x0 x1 x2 x3 I L q) : Met l yX1_lockLast (wz yX1_lockLast cX1_lockLast 5 none) ({ frames := 4, cells := 0, slots := 0, locals := 131 } : Room) (va_Pc [.ref (ad x0), .ref (X.2.1 x1), .ref (ad x2), .int x3] (Pr D X ad n A J I L)) (QV D X ad n A J q) 0 0 A := by
  refine Met_go (by decide +kernel) (Nat.le_of_ble_eq_true rfl) (fun p e s m below meth c hx hb hr hml hown hlk hnm hts hK hZ hA hV ls hl => ?_)
  have C0 : Cx p s m meth c cX1_lockLast none 5 yX1_lockLast [.ref (ad x0), .ref (X.2.1 x1), .ref (ad x2), .int x3] D X ad n A J := ⟨hx, hb, hr, hml, hown, hlk, hnm, hts, hK, hZ, hA, hWT⟩
  unfold wp_X1_lockLast at h
  have hl : lv_has ls 5 [(0, .ref (ad x0)), (1, .ref (X.2.1 x1)), (2, .ref (ad x2)), (3, .int x3)] := hl
  refine lv_aload_n hx hb dX1_lockLast_0 rfl (lv_at hl 0 rfl) ?_
  obtain ⟨r_1, hr_1, h⟩ := h
  have tr_1 : Ty X n r_1 0 := hWT.r (c := 0) (j := 7) t0 rfl hr_1
  refine m_getr (C := RX1) (T := TX1) (N := 9) (ci := 0) hx hb hts iwX1 hown hK hV t0 rfl 7 (by decide) rfl rfl hr_1 (hts _ tw_1_91) (fun _ h9 => h9) dX1_lockLast_1 ?_
  refine lv_iconst (v := 0) hx hb dX1_lockLast_4 (by decide) ?_
  refine k_callv (va_runS (As := [.ref (ad r_1), .int 0]) (rest := []) ⟨hx, hb, hml, hown, hts⟩ (s_J7_fill_53178 l D X ad n A J hWT r_1 tr_1 0 I L _ h) (va_cwS 2 hts (gS tw_2_182 tw_2_183 tw_1_11 tw_2_184) rfl rfl rfl (by decide +kernel) (by decide)) (k_preS hK hV hA hZ _) rfl rfl hl.1 rfl (lv_room (Nat.le_of_ble_eq_true rfl)) dX1_lockLast_5 ⟨Nat.zero_le _, Nat.zero_le _⟩) hV (fun I_2 L_3 H locs h hV => ?_)
  refine lv_iconst (v := 0) hx hb dX1_lockLast_8 (by decide) ?_
  refine lv_istore (lv' := [(4, .int 0), (0, .ref (ad x0)), (1, .ref (X.2.1 x1)), (2, .ref (ad x2)), (3, .int x3)]) hx hb dX1_lockLast_9 hl (by decide) rfl (fun ls hl => ?_)
  obtain ⟨fu0, h⟩ := h
  exact n_X1_lockLast_11 rfl C0 t0 t1 t2   fu0 0 _ _ _ _ _ h hV (lv_sub hl [1, 2, 3, 4, 0] rfl)
set_option maxHeartbeats 4000000 in
set_option maxRecDepth 100000 in
theorem n_X1_lockMessage_35 {p : Program} {l : Launch} {e : Env} {s : State} {m : MethodId} {below : List Frame} {meth : Method} {c : Code} {D : va_G} {X : XT} {ad : Nat → Nat} {n : Nat} {A : Nat → Prop} {J : MJ} {av : List Value} {R : Room} (hR : R = ({ frames := 5, cells := 0, slots := 0, locals := 155 } : Room)) (C0 : Cx p s m meth c cX1_lockMessage (some .boolean) 7 yX1_lockMessage av D X ad n A J) {q : Int32 → MI → ML → Prop} {k15 : Int32 → MI → ML → Prop} {x0 : Nat} {x1 : Nat} {x2 : Nat} {x3 : Int32} {x4 : Int32} {x5 : Int32} (t0 : Ty X n x0 4) (t1 : x1 < 3) (t2 : Ty X n x2 5)
    (hk15 : ∀ (x5 : Int32) (I : MI) (L : ML) (H : Heap) (locs : List Loc) (ls : Array Slot), k15 x5 I L → Wd D X ad n A s.heap J I L H locs → lv_has ls 7 [(0, .ref (ad x0)), (1, .ref (X.2.1 x1)), (2, .ref (ad x2)), (3, .int x3), (4, .int x4), (5, .int x5)] → W p l e R s m av.toArray below meth c H locs 0 0 (MQ below (QI D X ad n A J q) av.toArray s 0 0 A) (F0 m 15 ls [])) : ∀ (fu : Nat) (x6 : Int32) (I : MI) (L : ML) (H : Heap) (locs : List Loc) (ls : Array Slot), wl_X1_lockMessage_35 X J q k15 x0 x1 x2 x3 x4 x5 fu x6 I L → Wd D X ad n A s.heap J I L H locs → lv_has ls 7 [(0, .ref (ad x0)), (1, .ref (X.2.1 x1)), (2, .ref (ad x2)), (3, .int x3), (4, .int x4), (5, .int x5), (6, .int x6)] → W p l e R s m av.toArray below meth c H locs 0 0 (MQ below (QI D X ad n A J q) av.toArray s 0 0 A) (F0 m 35 ls []) := by
  obtain ⟨hx, hb, hr, hml, hown, hlk, hnm, hts, hK, hZ, hA, hWT⟩ := id C0
  subst hR
  intro fu
  induction fu with
  | zero => intro x6 I L H locs ls h; exact absurd h (fun h => h)
  | succ fu ih =>
    intro x6 I L H locs ls h hV hl
    refine lv_iload hx hb dX1_lockMessage_35 (lv_at hl 6 rfl) ?_
    refine lv_aload_n hx hb dX1_lockMessage_37 rfl (lv_at hl 1 rfl) ?_
    refine va_getE (q := enF.getD 0 ("", "", "", [])) hx hb hZ.1 t1 hV.2.2 hown (by decide) (hts _ tw_4_158) (fun _ h9 => h9) dX1_lockMessage_38 ?_
    refine lv_icmp_ge (tgt := 92) hx hb dX1_lockMessage_41 (by decide) (fun hc => ?_) (fun hc => ?_)
    · replace h := h.1 hc
      refine lv_aload_n hx hb dX1_lockMessage_92 rfl (lv_at hl 0 rfl) ?_
      obtain ⟨r_11, hr_11, h⟩ := h
      have tr_11 : Ty X n r_11 0 := hWT.r (c := 0) (j := 7) t0 rfl hr_11
      refine m_getr (C := RX1) (T := TX1) (N := 9) (ci := 0) hx hb hts iwX1 hown hK hV t0 rfl 7 (by decide) rfl rfl hr_11 (hts _ tw_1_91) (fun _ h9 => h9) dX1_lockMessage_93 ?_
      refine k_callv (va_runS (As := [.ref (ad r_11)]) (rest := []) ⟨hx, hb, hml, hown, hts⟩ (s_X3_fromPairs l D X ad n A J hWT r_11 tr_11 I L _ h) (va_cwS 1 hts (gS tw_2_185 tw_2_186 tw_1_13 tw_2_187) rfl rfl rfl (by decide +kernel) (by decide)) (k_preS hK hV hA hZ _) rfl rfl hl.1 rfl (lv_room (Nat.le_of_ble_eq_true rfl)) dX1_lockMessage_96 ⟨Nat.zero_le _, Nat.zero_le _⟩) hV (fun I_12 L_13 H locs h hV => ?_)
      refine lv_aload_n hx hb dX1_lockMessage_99 rfl (lv_at hl 0 rfl) ?_
      obtain ⟨r_14, hr_14, h⟩ := h
      have tr_14 : Ty X n r_14 6 := hWT.r (c := 0) (j := 1) t0 rfl hr_14
      refine m_getr (C := RX1) (T := TX1) (N := 9) (ci := 0) hx hb hts iwX1 hown hK hV t0 rfl 1 (by decide) rfl rfl hr_14 (hts _ tw_1_85) (fun _ h9 => h9) dX1_lockMessage_100 ?_
      refine lv_aload_n hx hb dX1_lockMessage_103 rfl (lv_at hl 0 rfl) ?_
      obtain ⟨r_15, hr_15, h⟩ := h
      have tr_15 : Ty X n r_15 0 := hWT.r (c := 0) (j := 8) t0 rfl hr_15
      refine m_getr (C := RX1) (T := TX1) (N := 9) (ci := 0) hx hb hts iwX1 hown hK hV t0 rfl 8 (by decide) rfl rfl hr_15 (hts _ tw_1_92) (fun _ h9 => h9) dX1_lockMessage_104 ?_
      refine lv_aload_n hx hb dX1_lockMessage_107 rfl (lv_at hl 0 rfl) ?_
      obtain ⟨r_16, hr_16, h⟩ := h
      have tr_16 : Ty X n r_16 5 := hWT.r (c := 0) (j := 3) t0 rfl hr_16
      refine m_getr (C := RX1) (T := TX1) (N := 9) (ci := 0) hx hb hts iwX1 hown hK hV t0 rfl 3 (by decide) rfl rfl hr_16 (hts _ tw_1_87) (fun _ h9 => h9) dX1_lockMessage_108 ?_
      refine lv_bipush (v := 32) hx hb dX1_lockMessage_111 (by decide) ?_
      refine lv_aload_n hx hb dX1_lockMessage_113 rfl (lv_at hl 1 rfl) ?_
      refine va_getE (q := enF.getD 2 ("", "", "", [])) hx hb hZ.1 t1 hV.2.2 hown (by decide) (hts _ tw_4_162) (fun _ h9 => h9) dX1_lockMessage_114 ?_
      refine lv_aload_n hx hb dX1_lockMessage_117 rfl (lv_at hl 1 rfl) ?_
      refine va_getE (q := enF.getD 0 ("", "", "", [])) hx hb hZ.1 t1 hV.2.2 hown (by decide) (hts _ tw_4_158) (fun _ h9 => h9) dX1_lockMessage_118 ?_
      refine lv_iload hx hb dX1_lockMessage_121 (lv_at hl 5 rfl) ?_
      refine lv_iadd hx hb dX1_lockMessage_123 ?_
      refine k_callv (va_runV (As := [.ref (ad r_15), .ref (ad r_16), .int 32, .int (enI 2 x1), .int ((enI 0 x1) + x5)]) (rest := []) ⟨hx, hb, hml, hown, hts⟩ (s_X5_drawNoise l D X ad n A J hWT r_14 tr_14 r_15 tr_15 r_16 tr_16 32 (enI 2 x1) ((enI 0 x1) + x5) I_12 L_13 _ h) (cwV 5 hts (gV tw_2_62 tw_2_63 tw_2_64 tw_1_5 tw_2_65) rfl rfl rfl (by decide +kernel) (by decide)) (k_preV (ci := 2) hK hV hA hZ tr_14 rfl _) rfl rfl hl.1 rfl (lv_room (Nat.le_of_ble_eq_true rfl)) dX1_lockMessage_124 ⟨Nat.zero_le _, Nat.zero_le _⟩) hV (fun I_17 L_18 H locs h hV => ?_)
      refine lv_aload_n hx hb dX1_lockMessage_127 rfl (lv_at hl 0 rfl) ?_
      refine m_getr (C := RX1) (T := TX1) (N := 9) (ci := 0) hx hb hts iwX1 hown hK hV t0 rfl 7 (by decide) rfl rfl hr_11 (hts _ tw_1_91) (fun _ h9 => h9) dX1_lockMessage_128 ?_
      refine lv_aload_n hx hb dX1_lockMessage_131 rfl (lv_at hl 0 rfl) ?_
      refine m_getr (C := RX1) (T := TX1) (N := 9) (ci := 0) hx hb hts iwX1 hown hK hV t0 rfl 8 (by decide) rfl rfl hr_15 (hts _ tw_1_92) (fun _ h9 => h9) dX1_lockMessage_132 ?_
      refine lv_iconst (v := 1) hx hb dX1_lockMessage_135 (by decide) ?_
      refine k_callv (va_runS (As := [.ref (ad r_11), .ref (ad r_15), .int 1]) (rest := []) ⟨hx, hb, hml, hown, hts⟩ (s_X3_addTimes l D X ad n A J hWT r_11 tr_11 r_15 tr_15 1 I_17 L_18 _ h) (va_cwS 3 hts (gS tw_2_112 tw_2_113 tw_1_13 tw_2_114) rfl rfl rfl (by decide +kernel) (by decide)) (k_preS hK hV hA hZ _) rfl rfl hl.1 rfl (lv_room (Nat.le_of_ble_eq_true rfl)) dX1_lockMessage_136 ⟨Nat.zero_le _, Nat.zero_le _⟩) hV (fun I_19 L_20 H locs h hV => ?_)
      refine lv_aload_n hx hb dX1_lockMessage_139 rfl (lv_at hl 0 rfl) ?_
      refine lv_aload_n hx hb dX1_lockMessage_140 rfl (lv_at hl 1 rfl) ?_
      refine va_getE (q := enF.getD 3 ("", "", "", [])) hx hb hZ.1 t1 hV.2.2 hown (by decide) (hts _ tw_4_163) (fun _ h9 => h9) dX1_lockMessage_141 ?_
      refine k_callv (va_runV (As := [.int (enI 3 x1)]) (rest := []) ⟨hx, hb, hml, hown, hts⟩ (s_X1_packCompressed l D X ad n A J hWT x0 t0 (enI 3 x1) I_19 L_20 _ h) (cwV 1 hts (gV tw_2_191 tw_2_193 tw_0_9 tw_1_6 tw_2_194) rfl rfl rfl (by decide +kernel) (by decide)) (k_preV (ci := 0) hK hV hA hZ t0 rfl _) rfl rfl hl.1 rfl (lv_room (Nat.le_of_ble_eq_true rfl)) dX1_lockMessage_144 ⟨Nat.zero_le _, Nat.zero_le _⟩) hV (fun I_21 L_22 H locs h hV => ?_)
      obtain ⟨x5_23, ex5_23⟩ : ∃ y : Int32, y = x5 + 1 := ⟨_, rfl⟩
      replace h := h x5_23 ex5_23
      refine lv_iinc (v := x5_23) (lv' := [(5, .int x5_23), (0, .ref (ad x0)), (1, .ref (X.2.1 x1)), (2, .ref (ad x2)), (3, .int x3), (4, .int x4), (6, .int x6)]) hx hb dX1_lockMessage_147 hl (k := 5) rfl (by rw [ex5_23]; rfl) (by decide) rfl (fun ls hl => ?_)
      refine lv_goto (tgt := 15) hx hb dX1_lockMessage_150 (by decide) ?_
      exact hk15 x5_23 _ _ _ _ _ h hV (lv_sub hl [1, 2, 3, 4, 5, 0] rfl)
    · replace h := h.2 hc
      refine lv_aload_n hx hb dX1_lockMessage_44 rfl (lv_at hl 0 rfl) ?_
      obtain ⟨r_24, hr_24, h⟩ := h
      have tr_24 : Ty X n r_24 6 := hWT.r (c := 0) (j := 1) t0 rfl hr_24
      refine m_getr (C := RX1) (T := TX1) (N := 9) (ci := 0) hx hb hts iwX1 hown hK hV t0 rfl 1 (by decide) rfl rfl hr_24 (hts _ tw_1_85) (fun _ h9 => h9) dX1_lockMessage_45 ?_
      refine lv_aload_n hx hb dX1_lockMessage_48 rfl (lv_at hl 0 rfl) ?_
      obtain ⟨r_25, hr_25, h⟩ := h
      have tr_25 : Ty X n r_25 0 := hWT.r (c := 0) (j := 8) t0 rfl hr_25
      refine m_getr (C := RX1) (T := TX1) (N := 9) (ci := 0) hx hb hts iwX1 hown hK hV t0 rfl 8 (by decide) rfl rfl hr_25 (hts _ tw_1_92) (fun _ h9 => h9) dX1_lockMessage_49 ?_
      refine lv_aload_n hx hb dX1_lockMessage_52 rfl (lv_at hl 2 rfl) ?_
      refine lv_iload_n hx hb dX1_lockMessage_53 rfl (lv_at hl 3 rfl) ?_
      refine lv_aload_n hx hb dX1_lockMessage_54 rfl (lv_at hl 1 rfl) ?_
      refine k_calli (va_runV (As := []) (rest := [.int x3, .ref (ad x2), .ref (ad r_25), .ref (ad r_24)]) ⟨hx, hb, hml, hown, hts⟩ (s_X2_innerLength l D X ad n A J hWT x1 t1 I L _ h) (cwV 0 hts (gV tw_2_120 tw_2_121 tw_2_122 tw_1_8 tw_2_123) rfl rfl rfl (by decide +kernel) (by decide)) (k_preE hK hV hA hZ t1 _) rfl rfl hl.1 rfl (lv_room (Nat.le_of_ble_eq_true rfl)) dX1_lockMessage_55 ⟨Nat.zero_le _, Nat.zero_le _⟩) hV (fun v_28 I_26 L_27 H locs h hV => ?_)
      refine lv_iadd hx hb dX1_lockMessage_58 ?_
      refine lv_iload hx hb dX1_lockMessage_59 (lv_at hl 5 rfl) ?_
      refine lv_iload hx hb dX1_lockMessage_61 (lv_at hl 6 rfl) ?_
      refine lv_iload hx hb dX1_lockMessage_63 (lv_at hl 4 rfl) ?_
      refine k_calli (va_runV (As := [.ref (ad r_25), .ref (ad x2), .int (x3 + v_28), .int x5, .int x6, .int x4]) (rest := []) ⟨hx, hb, hml, hown, hts⟩ (s_X5_drawUniform l D X ad n A J hWT r_24 tr_24 r_25 tr_25 x2 t2 (x3 + v_28) x5 x6 x4 I_26 L_27 _ h) (cwV 6 hts (gV tw_2_89 tw_2_90 tw_2_91 tw_1_5 tw_2_92) rfl rfl rfl (by decide +kernel) (by decide)) (k_preV (ci := 2) hK hV hA hZ tr_24 rfl _) rfl rfl hl.1 rfl (lv_room (Nat.le_of_ble_eq_true rfl)) dX1_lockMessage_65 ⟨Nat.zero_le _, Nat.zero_le _⟩) hV (fun v_31 I_29 L_30 H locs h hV => ?_)
      refine lv_bipush (v := (-2)) hx hb dX1_lockMessage_68 (by decide) ?_
      refine lv_icmp_ne (tgt := 75) hx hb dX1_lockMessage_70 (by decide) (fun hc => ?_) (fun hc => ?_)
      · replace h := h.1 hc
        refine lv_aload_n hx hb dX1_lockMessage_75 rfl (lv_at hl 0 rfl) ?_
        refine lv_aload_n hx hb dX1_lockMessage_76 rfl (lv_at hl 0 rfl) ?_
        obtain ⟨r_32, hr_32, h⟩ := h
        have tr_32 : Ty X n r_32 3 := hWT.r (c := 0) (j := 6) t0 rfl hr_32
        refine m_getr (C := RX1) (T := TX1) (N := 9) (ci := 0) hx hb hts iwX1 hown hK hV t0 rfl 6 (by decide) rfl rfl hr_32 (hts _ tw_1_90) (fun _ h9 => h9) dX1_lockMessage_77 ?_
        refine lv_iload hx hb dX1_lockMessage_80 (lv_at hl 6 rfl) ?_
        obtain ⟨hi_33, r_34, hr_34, h⟩ := h
        have tr_34 : Ty X n r_34 0 := hWT.a tr_32 hr_34
        refine m_aald hx hb hK hV tr_32 hi_33 hr_34 dX1_lockMessage_82 ?_
        refine k_callv (va_runV (As := [.ref (ad r_34)]) (rest := []) ⟨hx, hb, hml, hown, hts⟩ (s_X1_addProduct l D X ad n A J hWT x0 t0 r_34 tr_34 I_29 L_30 _ h) (cwV 1 hts (gV tw_2_102 tw_2_104 tw_0_5 tw_1_6 tw_2_105) rfl rfl rfl (by decide +kernel) (by decide)) (k_preV (ci := 0) hK hV hA hZ t0 rfl _) rfl rfl hl.1 rfl (lv_room (Nat.le_of_ble_eq_true rfl)) dX1_lockMessage_83 ⟨Nat.zero_le _, Nat.zero_le _⟩) hV (fun I_35 L_36 H locs h hV => ?_)
        obtain ⟨x6_37, ex6_37⟩ : ∃ y : Int32, y = x6 + 1 := ⟨_, rfl⟩
        replace h := h x6_37 ex6_37
        refine lv_iinc (v := x6_37) (lv' := [(6, .int x6_37), (0, .ref (ad x0)), (1, .ref (X.2.1 x1)), (2, .ref (ad x2)), (3, .int x3), (4, .int x4), (5, .int x5)]) hx hb dX1_lockMessage_86 hl (k := 6) rfl (by rw [ex6_37]; rfl) (by decide) rfl (fun ls hl => ?_)
        refine lv_goto (tgt := 35) hx hb dX1_lockMessage_89 (by decide) ?_
        exact ih x6_37 _ _ _ _ _ h hV (lv_sub hl [1, 2, 3, 4, 5, 6, 0] rfl)
      · replace h := h.2 hc
        refine lv_iconst (v := 0) hx hb dX1_lockMessage_73 (by decide) ?_
        exact m_zret hx hb hr hlk hK hZ hA hV (by decide) h dX1_lockMessage_74
set_option maxHeartbeats 4000000 in
set_option maxRecDepth 100000 in
theorem n_X1_lockMessage_15 {p : Program} {l : Launch} {e : Env} {s : State} {m : MethodId} {below : List Frame} {meth : Method} {c : Code} {D : va_G} {X : XT} {ad : Nat → Nat} {n : Nat} {A : Nat → Prop} {J : MJ} {av : List Value} {R : Room} (hR : R = ({ frames := 5, cells := 0, slots := 0, locals := 155 } : Room)) (C0 : Cx p s m meth c cX1_lockMessage (some .boolean) 7 yX1_lockMessage av D X ad n A J) {q : Int32 → MI → ML → Prop}  {x0 : Nat} {x1 : Nat} {x2 : Nat} {x3 : Int32} {x4 : Int32} (t0 : Ty X n x0 4) (t1 : x1 < 3) (t2 : Ty X n x2 5) : ∀ (fu : Nat) (x5 : Int32) (I : MI) (L : ML) (H : Heap) (locs : List Loc) (ls : Array Slot), wl_X1_lockMessage_15 X J q  x0 x1 x2 x3 x4 fu x5 I L → Wd D X ad n A s.heap J I L H locs → lv_has ls 7 [(0, .ref (ad x0)), (1, .ref (X.2.1 x1)), (2, .ref (ad x2)), (3, .int x3), (4, .int x4), (5, .int x5)] → W p l e R s m av.toArray below meth c H locs 0 0 (MQ below (QI D X ad n A J q) av.toArray s 0 0 A) (F0 m 15 ls []) := by
  obtain ⟨hx, hb, hr, hml, hown, hlk, hnm, hts, hK, hZ, hA, hWT⟩ := id C0
  subst hR
  intro fu
  induction fu with
  | zero => intro x5 I L H locs ls h; exact absurd h (fun h => h)
  | succ fu ih =>
    intro x5 I L H locs ls h hV hl
    refine lv_iload hx hb dX1_lockMessage_15 (lv_at hl 5 rfl) ?_
    refine lv_aload_n hx hb dX1_lockMessage_17 rfl (lv_at hl 1 rfl) ?_
    refine va_getE (q := enF.getD 0 ("", "", "", [])) hx hb hZ.1 t1 hV.2.2 hown (by decide) (hts _ tw_4_158) (fun _ h9 => h9) dX1_lockMessage_18 ?_
    refine lv_icmp_ge (tgt := 153) hx hb dX1_lockMessage_21 (by decide) (fun hc => ?_) (fun hc => ?_)
    · replace h := h.1 hc
      refine lv_aload_n hx hb dX1_lockMessage_153 rfl (lv_at hl 0 rfl) ?_
      refine lv_aload_n hx hb dX1_lockMessage_154 rfl (lv_at hl 1 rfl) ?_
      refine lv_aload_n hx hb dX1_lockMessage_155 rfl (lv_at hl 2 rfl) ?_
      refine lv_iload_n hx hb dX1_lockMessage_156 rfl (lv_at hl 3 rfl) ?_
      refine k_callv (va_runV (As := [.ref (X.2.1 x1), .ref (ad x2), .int x3]) (rest := []) ⟨hx, hb, hml, hown, hts⟩ (s_X1_lockLast l D X ad n A J hWT x0 t0 x1 t1 x2 t2 x3 I L _ h) (cwV 3 hts (gV tw_2_198 tw_2_200 tw_0_10 tw_1_6 tw_2_201) rfl rfl rfl (by decide +kernel) (by decide)) (k_preV (ci := 0) hK hV hA hZ t0 rfl _) rfl rfl hl.1 rfl (lv_room (Nat.le_of_ble_eq_true rfl)) dX1_lockMessage_157 ⟨Nat.zero_le _, Nat.zero_le _⟩) hV (fun I_6 L_7 H locs h hV => ?_)
      refine lv_iconst (v := 1) hx hb dX1_lockMessage_160 (by decide) ?_
      exact m_zret hx hb hr hlk hK hZ hA hV (by decide) h dX1_lockMessage_161
    · replace h := h.2 hc
      refine lv_aload_n hx hb dX1_lockMessage_24 rfl (lv_at hl 0 rfl) ?_
      obtain ⟨r_8, hr_8, h⟩ := h
      have tr_8 : Ty X n r_8 0 := hWT.r (c := 0) (j := 7) t0 rfl hr_8
      refine m_getr (C := RX1) (T := TX1) (N := 9) (ci := 0) hx hb hts iwX1 hown hK hV t0 rfl 7 (by decide) rfl rfl hr_8 (hts _ tw_1_91) (fun _ h9 => h9) dX1_lockMessage_25 ?_
      refine lv_iconst (v := 0) hx hb dX1_lockMessage_28 (by decide) ?_
      refine k_callv (va_runS (As := [.ref (ad r_8), .int 0]) (rest := []) ⟨hx, hb, hml, hown, hts⟩ (s_J7_fill_53178 l D X ad n A J hWT r_8 tr_8 0 I L _ h) (va_cwS 2 hts (gS tw_2_182 tw_2_183 tw_1_11 tw_2_184) rfl rfl rfl (by decide +kernel) (by decide)) (k_preS hK hV hA hZ _) rfl rfl hl.1 rfl (lv_room (Nat.le_of_ble_eq_true rfl)) dX1_lockMessage_29 ⟨Nat.zero_le _, Nat.zero_le _⟩) hV (fun I_9 L_10 H locs h hV => ?_)
      refine lv_iconst (v := 0) hx hb dX1_lockMessage_32 (by decide) ?_
      refine lv_istore (lv' := [(6, .int 0), (0, .ref (ad x0)), (1, .ref (X.2.1 x1)), (2, .ref (ad x2)), (3, .int x3), (4, .int x4), (5, .int x5)]) hx hb dX1_lockMessage_33 hl (by decide) rfl (fun ls hl => ?_)
      obtain ⟨fu0, h⟩ := h
      exact n_X1_lockMessage_35 rfl C0 t0 t1 t2  (fun y5 I L H locs ls h hV hl => ih y5 I L H locs ls h hV (lv_sub hl [0, 1, 2, 3, 4, 5] rfl)) fu0 0 _ _ _ _ _ h hV (lv_sub hl [1, 2, 3, 4, 5, 6, 0] rfl)
set_option maxHeartbeats 4000000 in
set_option maxRecDepth 100000 in
theorem s_X1_lockMessage (l : Launch) (D : va_G) (X : XT) (ad : Nat → Nat) (n : Nat) (A : Nat → Prop) (J : MJ) (hWT : WT X n J) (x0 : Nat) (t0 : Ty X n x0 4) (x1 : Nat) (t1 : x1 < 3) (x2 : Nat) (t2 : Ty X n x2 5) (x3 : Int32) (x4 : Int32) (I : MI) (L : ML) (q : Int32 → MI → ML → Prop) (h : wp_X1_lockMessage X J x0 x1 x2 x3 x4 I L q) : Met l yX1_lockMessage (wz yX1_lockMessage cX1_lockMessage 7 (some .boolean)) ({ frames := 5, cells := 0, slots := 0, locals := 155 } : Room) (va_Pc [.ref (ad x0), .ref (X.2.1 x1), .ref (ad x2), .int x3, .int x4] (Pr D X ad n A J I L)) (QI D X ad n A J q) 0 0 A := by
  refine Met_go (by decide +kernel) (Nat.le_of_ble_eq_true rfl) (fun p e s m below meth c hx hb hr hml hown hlk hnm hts hK hZ hA hV ls hl => ?_)
  have C0 : Cx p s m meth c cX1_lockMessage (some .boolean) 7 yX1_lockMessage [.ref (ad x0), .ref (X.2.1 x1), .ref (ad x2), .int x3, .int x4] D X ad n A J := ⟨hx, hb, hr, hml, hown, hlk, hnm, hts, hK, hZ, hA, hWT⟩
  unfold wp_X1_lockMessage at h
  have hl : lv_has ls 7 [(0, .ref (ad x0)), (1, .ref (X.2.1 x1)), (2, .ref (ad x2)), (3, .int x3), (4, .int x4)] := hl
  refine lv_aload_n hx hb dX1_lockMessage_0 rfl (lv_at hl 0 rfl) ?_
  refine lv_aload_n hx hb dX1_lockMessage_1 rfl (lv_at hl 1 rfl) ?_
  refine k_callv (va_runV (As := [.ref (X.2.1 x1)]) (rest := []) ⟨hx, hb, hml, hown, hts⟩ (s_X1_drawVector l D X ad n A J hWT x0 t0 x1 t1 I L _ h) (cwV 1 hts (gV tw_2_58 tw_2_60 tw_0_4 tw_1_6 tw_2_61) rfl rfl rfl (by decide +kernel) (by decide)) (k_preV (ci := 0) hK hV hA hZ t0 rfl _) rfl rfl hl.1 rfl (lv_room (Nat.le_of_ble_eq_true rfl)) dX1_lockMessage_2 ⟨Nat.zero_le _, Nat.zero_le _⟩) hV (fun I_1 L_2 H locs h hV => ?_)
  refine lv_aload_n hx hb dX1_lockMessage_5 rfl (lv_at hl 0 rfl) ?_
  obtain ⟨r_3, hr_3, h⟩ := h
  have tr_3 : Ty X n r_3 5 := hWT.r (c := 0) (j := 2) t0 rfl hr_3
  refine m_getr (C := RX1) (T := TX1) (N := 9) (ci := 0) hx hb hts iwX1 hown hK hV t0 rfl 2 (by decide) rfl rfl hr_3 (hts _ tw_1_86) (fun _ h9 => h9) dX1_lockMessage_6 ?_
  refine k_callv (va_runV (As := []) (rest := []) ⟨hx, hb, hml, hown, hts⟩ (s_X4_clear l D X ad n A J hWT r_3 tr_3 I_1 L_2 _ h) (cwV 0 hts (gV tw_2_48 tw_1_215 tw_1_216 tw_1_2 tw_1_217) rfl rfl rfl (by decide +kernel) (by decide)) (k_preV (ci := 1) hK hV hA hZ tr_3 rfl _) rfl rfl hl.1 rfl (lv_room (Nat.le_of_ble_eq_true rfl)) dX1_lockMessage_9 ⟨Nat.zero_le _, Nat.zero_le _⟩) hV (fun I_4 L_5 H locs h hV => ?_)
  refine lv_iconst (v := 0) hx hb dX1_lockMessage_12 (by decide) ?_
  refine lv_istore (lv' := [(5, .int 0), (0, .ref (ad x0)), (1, .ref (X.2.1 x1)), (2, .ref (ad x2)), (3, .int x3), (4, .int x4)]) hx hb dX1_lockMessage_13 hl (by decide) rfl (fun ls hl => ?_)
  obtain ⟨fu0, h⟩ := h
  exact n_X1_lockMessage_15 rfl C0 t0 t1 t2   fu0 0 _ _ _ _ _ h hV (lv_sub hl [1, 2, 3, 4, 5, 0] rfl)
