/-! ===== the law: one case after another ===== -/
def LX (p : Program) (s : State) (m : MethodId) (c : Code) (b N : Nat) (xs : Nat → Int32) (D : va_G) (X : XT) (A : Nat → Prop) : Prop :=
  p.tables.exec = Jvm.exec ∧ c.code = cL_law ∧ c.maxLocals = 4 ∧ s.vm.findClass RL = some m.cls ∧ (∀ w ∈ gt, w.before #[Value.ref b] s = true) ∧ va_X b N xs s s.heap ∧ b < s.heap.size ∧ ¬ A b ∧ va_K D vwCl (tyl X) s ∧ ZZ X A s s.heap ∧ (∀ q, s.heap.size ≤ q → A q) ∧ ∀ k, X.2.2.1 k = shT k
def LI (X : XT) (J : MJ) (I : MI) : Prop := ∃ e S, VJ X J e ∧ Iv X J e S I ∧ WT X 48 J
theorem l_in {i t N : Nat} (h : i + t < N) (hN : N ≤ 3072) (x : Int32) (hx : x = nI t) : vp_in (nI i + x) N := pk_in (i + t) N h (by rw [hx, nI_add])
theorem tw_1_154 : Cond.methodLink RL 13 yX7_feed ∈ gt := g1 154 (by decide +kernel) (by decide +kernel)
theorem tw_1_155 : Cond.instanceMethod yX7_feed ∈ gt := g1 155 (by decide +kernel) (by decide +kernel)
theorem tw_1_156 : Cond.selects RX7 yX7_feed yX7_feed ∈ gt := g1 156 (by decide +kernel) (by decide +kernel)
theorem tw_1_157 : Cond.code yX7_feed cX7_feed 6 (some .int) ∈ gt := g1 157 rfl (by rfl)
theorem tw_3_150 : Cond.methodLink RL 17 yX8_feed ∈ gt := g3 150 (by decide +kernel) (by decide +kernel)
theorem tw_3_151 : Cond.instanceMethod yX8_feed ∈ gt := g3 151 (by decide +kernel) (by decide +kernel)
theorem tw_3_152 : Cond.selects RX8 yX8_feed yX8_feed ∈ gt := g3 152 (by decide +kernel) (by decide +kernel)
theorem tw_3_153 : Cond.code yX8_feed cX8_feed 8 (some .int) ∈ gt := g3 153 rfl (by rfl)
theorem tw_1_174 : Cond.methodLink RL 18 yX7_end ∈ gt := g1 174 (by decide +kernel) (by decide +kernel)
theorem tw_1_175 : Cond.instanceMethod yX7_end ∈ gt := g1 175 (by decide +kernel) (by decide +kernel)
theorem tw_1_176 : Cond.selects RX7 yX7_end yX7_end ∈ gt := g1 176 (by decide +kernel) (by decide +kernel)
theorem tw_1_177 : Cond.code yX7_end cX7_end 2 (some .int) ∈ gt := g1 177 rfl (by rfl)
theorem tw_3_154 : Cond.methodLink RL 22 yX8_end ∈ gt := g3 154 (by decide +kernel) (by decide +kernel)
theorem tw_3_155 : Cond.instanceMethod yX8_end ∈ gt := g3 155 (by decide +kernel) (by decide +kernel)
theorem tw_3_156 : Cond.selects RX8 yX8_end yX8_end ∈ gt := g3 156 (by decide +kernel) (by decide +kernel)
theorem tw_3_157 : Cond.code yX8_end cX8_end 2 (some .int) ∈ gt := g3 157 rfl (by rfl)
theorem tw_1_182 : Cond.methodLink RL 23 yX7_take ∈ gt := g1 182 (by decide +kernel) (by decide +kernel)
theorem tw_1_183 : Cond.instanceMethod yX7_take ∈ gt := g1 183 (by decide +kernel) (by decide +kernel)
theorem tw_1_184 : Cond.selects RX7 yX7_take yX7_take ∈ gt := g1 184 (by decide +kernel) (by decide +kernel)
theorem tw_1_185 : Cond.code yX7_take cX7_take 3 (some .int) ∈ gt := g1 185 rfl (by rfl)
theorem tw_3_158 : Cond.methodLink RL 26 yX8_take ∈ gt := g3 158 (by decide +kernel) (by decide +kernel)
theorem tw_3_159 : Cond.instanceMethod yX8_take ∈ gt := g3 159 (by decide +kernel) (by decide +kernel)
theorem tw_3_160 : Cond.selects RX8 yX8_take yX8_take ∈ gt := g3 160 (by decide +kernel) (by decide +kernel)
theorem tw_3_161 : Cond.code yX8_take cX8_take 4 (some .int) ∈ gt := g3 161 rfl (by rfl)
theorem tw_1_197 : Cond.methodLink RL 27 yX7_alter ∈ gt := g1 197 (by decide +kernel) (by decide +kernel)
theorem tw_1_198 : Cond.instanceMethod yX7_alter ∈ gt := g1 198 (by decide +kernel) (by decide +kernel)
theorem tw_1_199 : Cond.selects RX7 yX7_alter yX7_alter ∈ gt := g1 199 (by decide +kernel) (by decide +kernel)
theorem tw_1_200 : Cond.code yX7_alter cX7_alter 3 (some .boolean) ∈ gt := g1 200 rfl (by rfl)
theorem tw_3_170 : Cond.methodLink RL 31 yX8_alter ∈ gt := g3 170 (by decide +kernel) (by decide +kernel)
theorem tw_3_171 : Cond.instanceMethod yX8_alter ∈ gt := g3 171 (by decide +kernel) (by decide +kernel)
theorem tw_3_172 : Cond.selects RX8 yX8_alter yX8_alter ∈ gt := g3 172 (by decide +kernel) (by decide +kernel)
theorem tw_3_173 : Cond.code yX8_alter cX8_alter 3 (some .boolean) ∈ gt := g3 173 rfl (by rfl)
theorem tw_1_202 : Cond.methodLink RL 32 yX7_choose ∈ gt := g1 202 (by decide +kernel) (by decide +kernel)
theorem tw_1_203 : Cond.instanceMethod yX7_choose ∈ gt := g1 203 (by decide +kernel) (by decide +kernel)
theorem tw_1_204 : Cond.selects RX7 yX7_choose yX7_choose ∈ gt := g1 204 (by decide +kernel) (by decide +kernel)
theorem tw_1_205 : Cond.code yX7_choose cX7_choose 3 (some .int) ∈ gt := g1 205 rfl (by rfl)
theorem tw_3_174 : Cond.methodLink RL 35 yX8_choose ∈ gt := g3 174 (by decide +kernel) (by decide +kernel)
theorem tw_3_175 : Cond.instanceMethod yX8_choose ∈ gt := g3 175 (by decide +kernel) (by decide +kernel)
theorem tw_3_176 : Cond.selects RX8 yX8_choose yX8_choose ∈ gt := g3 176 (by decide +kernel) (by decide +kernel)
theorem tw_3_177 : Cond.code yX8_choose cX8_choose 2 (some .int) ∈ gt := g3 177 rfl (by rfl)
theorem tw_1_222 : Cond.methodLink RL 36 yX7_bound ∈ gt := g1 222 (by decide +kernel) (by decide +kernel)
theorem tw_1_223 : Cond.instanceMethod yX7_bound ∈ gt := g1 223 (by decide +kernel) (by decide +kernel)
theorem tw_1_224 : Cond.selects RX7 yX7_bound yX7_bound ∈ gt := g1 224 (by decide +kernel) (by decide +kernel)
theorem tw_1_225 : Cond.code yX7_bound cX7_bound 2 (some .int) ∈ gt := g1 225 rfl (by rfl)
theorem tw_3_182 : Cond.methodLink RL 39 yX8_bound ∈ gt := g3 182 (by decide +kernel) (by decide +kernel)
theorem tw_3_183 : Cond.instanceMethod yX8_bound ∈ gt := g3 183 (by decide +kernel) (by decide +kernel)
theorem tw_3_184 : Cond.selects RX8 yX8_bound yX8_bound ∈ gt := g3 184 (by decide +kernel) (by decide +kernel)
theorem tw_3_185 : Cond.code yX8_bound cX8_bound 2 (some .int) ∈ gt := g3 185 rfl (by rfl)
theorem tw_1_226 : Cond.methodLink RL 40 yX7_length ∈ gt := g1 226 (by decide +kernel) (by decide +kernel)
theorem tw_1_227 : Cond.instanceMethod yX7_length ∈ gt := g1 227 (by decide +kernel) (by decide +kernel)
theorem tw_1_228 : Cond.selects RX7 yX7_length yX7_length ∈ gt := g1 228 (by decide +kernel) (by decide +kernel)
theorem tw_1_229 : Cond.code yX7_length cX7_length 3 (some .int) ∈ gt := g1 229 rfl (by rfl)
theorem tw_3_186 : Cond.methodLink RL 43 yX8_length ∈ gt := g3 186 (by decide +kernel) (by decide +kernel)
theorem tw_1_230 : Cond.methodLink RL 44 yX7_at ∈ gt := g1 230 (by decide +kernel) (by decide +kernel)
theorem tw_1_231 : Cond.instanceMethod yX7_at ∈ gt := g1 231 (by decide +kernel) (by decide +kernel)
theorem tw_1_232 : Cond.selects RX7 yX7_at yX7_at ∈ gt := g1 232 (by decide +kernel) (by decide +kernel)
theorem tw_1_233 : Cond.code yX7_at cX7_at 4 (some .int) ∈ gt := g1 233 rfl (by rfl)
theorem tw_3_187 : Cond.methodLink RL 48 yX8_at ∈ gt := g3 187 (by decide +kernel) (by decide +kernel)
theorem tw_3_188 : Cond.instanceMethod yX8_at ∈ gt := g3 188 (by decide +kernel) (by decide +kernel)
theorem tw_3_189 : Cond.selects RX8 yX8_at yX8_at ∈ gt := g3 189 (by decide +kernel) (by decide +kernel)
theorem tw_3_190 : Cond.code yX8_at cX8_at 4 (some .int) ∈ gt := g3 190 rfl (by rfl)
theorem tw_1_238 : Cond.methodLink RL 49 yX7_make ∈ gt := g1 238 (by decide +kernel) (by decide +kernel)
theorem tw_1_239 : Cond.instanceMethod yX7_make ∈ gt := g1 239 (by decide +kernel) (by decide +kernel)
theorem tw_2_0 : Cond.selects RX7 yX7_make yX7_make ∈ gt := g2 0 (by decide +kernel) (by decide +kernel)
theorem tw_2_1 : Cond.code yX7_make cX7_make 3 (some .int) ∈ gt := g2 1 rfl (by rfl)
theorem tw_3_195 : Cond.methodLink RL 53 yX8_make ∈ gt := g3 195 (by decide +kernel) (by decide +kernel)
theorem tw_3_196 : Cond.instanceMethod yX8_make ∈ gt := g3 196 (by decide +kernel) (by decide +kernel)
theorem tw_3_197 : Cond.selects RX8 yX8_make yX8_make ∈ gt := g3 197 (by decide +kernel) (by decide +kernel)
theorem tw_3_198 : Cond.code yX8_make cX8_make 2 (some .int) ∈ gt := g3 198 rfl (by rfl)
theorem tw_2_135 : Cond.methodLink RL 54 yX7_load ∈ gt := g2 135 (by decide +kernel) (by decide +kernel)
theorem tw_2_136 : Cond.instanceMethod yX7_load ∈ gt := g2 136 (by decide +kernel) (by decide +kernel)
theorem tw_2_137 : Cond.selects RX7 yX7_load yX7_load ∈ gt := g2 137 (by decide +kernel) (by decide +kernel)
theorem tw_2_138 : Cond.code yX7_load cX7_load 4 (some .int) ∈ gt := g2 138 rfl (by rfl)
theorem tw_4_39 : Cond.methodLink RL 57 yX8_load ∈ gt := g4 39 (by decide +kernel) (by decide +kernel)
theorem tw_4_40 : Cond.instanceMethod yX8_load ∈ gt := g4 40 (by decide +kernel) (by decide +kernel)
theorem tw_4_41 : Cond.selects RX8 yX8_load yX8_load ∈ gt := g4 41 (by decide +kernel) (by decide +kernel)
theorem tw_4_42 : Cond.code yX8_load cX8_load 4 (some .int) ∈ gt := g4 42 rfl (by rfl)
theorem tw_2_165 : Cond.methodLink RL 58 yX7_wrap ∈ gt := g2 165 (by decide +kernel) (by decide +kernel)
theorem tw_2_166 : Cond.instanceMethod yX7_wrap ∈ gt := g2 166 (by decide +kernel) (by decide +kernel)
theorem tw_2_167 : Cond.selects RX7 yX7_wrap yX7_wrap ∈ gt := g2 167 (by decide +kernel) (by decide +kernel)
theorem tw_2_168 : Cond.code yX7_wrap cX7_wrap 3 (some .int) ∈ gt := g2 168 rfl (by rfl)
theorem tw_4_59 : Cond.methodLink RL 61 yX8_wrap ∈ gt := g4 59 (by decide +kernel) (by decide +kernel)
theorem tw_4_60 : Cond.instanceMethod yX8_wrap ∈ gt := g4 60 (by decide +kernel) (by decide +kernel)
theorem tw_4_61 : Cond.selects RX8 yX8_wrap yX8_wrap ∈ gt := g4 61 (by decide +kernel) (by decide +kernel)
theorem tw_4_62 : Cond.code yX8_wrap cX8_wrap 1 (some .int) ∈ gt := g4 62 rfl (by rfl)
theorem tw_2_215 : Cond.methodLink RL 62 yX7_unwrap ∈ gt := g2 215 (by decide +kernel) (by decide +kernel)
theorem tw_2_216 : Cond.instanceMethod yX7_unwrap ∈ gt := g2 216 (by decide +kernel) (by decide +kernel)
theorem tw_2_217 : Cond.selects RX7 yX7_unwrap yX7_unwrap ∈ gt := g2 217 (by decide +kernel) (by decide +kernel)
theorem tw_2_218 : Cond.code yX7_unwrap cX7_unwrap 1 (some .int) ∈ gt := g2 218 rfl (by rfl)
theorem tw_4_94 : Cond.methodLink RL 65 yX8_unwrap ∈ gt := g4 94 (by decide +kernel) (by decide +kernel)
theorem tw_4_95 : Cond.instanceMethod yX8_unwrap ∈ gt := g4 95 (by decide +kernel) (by decide +kernel)
theorem tw_4_96 : Cond.selects RX8 yX8_unwrap yX8_unwrap ∈ gt := g4 96 (by decide +kernel) (by decide +kernel)
theorem tw_4_97 : Cond.code yX8_unwrap cX8_unwrap 3 (some .int) ∈ gt := g4 97 rfl (by rfl)
theorem tw_2_234 : Cond.methodLink RL 66 yX7_hash ∈ gt := g2 234 (by decide +kernel) (by decide +kernel)
theorem tw_2_235 : Cond.instanceMethod yX7_hash ∈ gt := g2 235 (by decide +kernel) (by decide +kernel)
theorem tw_2_236 : Cond.selects RX7 yX7_hash yX7_hash ∈ gt := g2 236 (by decide +kernel) (by decide +kernel)
theorem tw_2_237 : Cond.code yX7_hash cX7_hash 4 (some .int) ∈ gt := g2 237 rfl (by rfl)
theorem tw_4_102 : Cond.methodLink RL 69 yX8_hash ∈ gt := g4 102 (by decide +kernel) (by decide +kernel)
theorem tw_4_103 : Cond.instanceMethod yX8_hash ∈ gt := g4 103 (by decide +kernel) (by decide +kernel)
theorem tw_4_104 : Cond.selects RX8 yX8_hash yX8_hash ∈ gt := g4 104 (by decide +kernel) (by decide +kernel)
theorem tw_4_105 : Cond.code yX8_hash cX8_hash 5 (some .int) ∈ gt := g4 105 rfl (by rfl)
theorem tw_3_5 : Cond.methodLink RL 70 yX7_put ∈ gt := g3 5 (by decide +kernel) (by decide +kernel)
theorem tw_3_6 : Cond.instanceMethod yX7_put ∈ gt := g3 6 (by decide +kernel) (by decide +kernel)
theorem tw_3_7 : Cond.selects RX7 yX7_put yX7_put ∈ gt := g3 7 (by decide +kernel) (by decide +kernel)
theorem tw_3_8 : Cond.code yX7_put cX7_put 4 (some .int) ∈ gt := g3 8 rfl (by rfl)
theorem tw_4_106 : Cond.methodLink RL 74 yX8_put ∈ gt := g4 106 (by decide +kernel) (by decide +kernel)
theorem tw_4_107 : Cond.instanceMethod yX8_put ∈ gt := g4 107 (by decide +kernel) (by decide +kernel)
theorem tw_4_108 : Cond.selects RX8 yX8_put yX8_put ∈ gt := g4 108 (by decide +kernel) (by decide +kernel)
theorem tw_4_109 : Cond.code yX8_put cX8_put 4 (some .int) ∈ gt := g4 109 rfl (by rfl)
theorem tw_3_15 : Cond.methodLink RL 75 yX7_number ∈ gt := g3 15 (by decide +kernel) (by decide +kernel)
theorem tw_3_16 : Cond.instanceMethod yX7_number ∈ gt := g3 16 (by decide +kernel) (by decide +kernel)
theorem tw_3_17 : Cond.selects RX7 yX7_number yX7_number ∈ gt := g3 17 (by decide +kernel) (by decide +kernel)
theorem tw_3_18 : Cond.code yX7_number cX7_number 3 (some .int) ∈ gt := g3 18 rfl (by rfl)
theorem tw_4_113 : Cond.methodLink RL 78 yX8_number ∈ gt := g4 113 (by decide +kernel) (by decide +kernel)
theorem tw_4_114 : Cond.instanceMethod yX8_number ∈ gt := g4 114 (by decide +kernel) (by decide +kernel)
theorem tw_4_115 : Cond.selects RX8 yX8_number yX8_number ∈ gt := g4 115 (by decide +kernel) (by decide +kernel)
theorem tw_4_116 : Cond.code yX8_number cX8_number 3 (some .int) ∈ gt := g4 116 rfl (by rfl)
theorem tw_3_19 : Cond.methodLink RL 79 yX7_forward ∈ gt := g3 19 (by decide +kernel) (by decide +kernel)
theorem tw_3_20 : Cond.instanceMethod yX7_forward ∈ gt := g3 20 (by decide +kernel) (by decide +kernel)
theorem tw_3_21 : Cond.selects RX7 yX7_forward yX7_forward ∈ gt := g3 21 (by decide +kernel) (by decide +kernel)
theorem tw_3_22 : Cond.code yX7_forward cX7_forward 2 (some .boolean) ∈ gt := g3 22 rfl (by rfl)
theorem tw_4_117 : Cond.methodLink RL 83 yX8_forward ∈ gt := g4 117 (by decide +kernel) (by decide +kernel)
theorem tw_4_118 : Cond.instanceMethod yX8_forward ∈ gt := g4 118 (by decide +kernel) (by decide +kernel)
theorem tw_4_119 : Cond.selects RX8 yX8_forward yX8_forward ∈ gt := g4 119 (by decide +kernel) (by decide +kernel)
theorem tw_4_120 : Cond.code yX8_forward cX8_forward 2 (some .boolean) ∈ gt := g4 120 rfl (by rfl)
theorem tw_3_24 : Cond.methodLink RL 84 yX7_back ∈ gt := g3 24 (by decide +kernel) (by decide +kernel)
theorem tw_3_25 : Cond.instanceMethod yX7_back ∈ gt := g3 25 (by decide +kernel) (by decide +kernel)
theorem tw_3_26 : Cond.selects RX7 yX7_back yX7_back ∈ gt := g3 26 (by decide +kernel) (by decide +kernel)
theorem tw_3_27 : Cond.code yX7_back cX7_back 2 (some .boolean) ∈ gt := g3 27 rfl (by rfl)
theorem tw_4_121 : Cond.methodLink RL 87 yX8_back ∈ gt := g4 121 (by decide +kernel) (by decide +kernel)
theorem tw_4_122 : Cond.instanceMethod yX8_back ∈ gt := g4 122 (by decide +kernel) (by decide +kernel)
theorem tw_4_123 : Cond.selects RX8 yX8_back yX8_back ∈ gt := g4 123 (by decide +kernel) (by decide +kernel)
theorem tw_4_124 : Cond.code yX8_back cX8_back 2 (some .boolean) ∈ gt := g4 124 rfl (by rfl)
theorem tw_3_29 : Cond.methodLink RL 88 yX7_pairs ∈ gt := g3 29 (by decide +kernel) (by decide +kernel)
theorem tw_3_30 : Cond.instanceMethod yX7_pairs ∈ gt := g3 30 (by decide +kernel) (by decide +kernel)
theorem tw_3_31 : Cond.selects RX7 yX7_pairs yX7_pairs ∈ gt := g3 31 (by decide +kernel) (by decide +kernel)
theorem tw_3_32 : Cond.code yX7_pairs cX7_pairs 4 (some .boolean) ∈ gt := g3 32 rfl (by rfl)
theorem tw_4_125 : Cond.methodLink RL 92 yX8_pairs ∈ gt := g4 125 (by decide +kernel) (by decide +kernel)
theorem tw_4_126 : Cond.instanceMethod yX8_pairs ∈ gt := g4 126 (by decide +kernel) (by decide +kernel)
theorem tw_4_127 : Cond.selects RX8 yX8_pairs yX8_pairs ∈ gt := g4 127 (by decide +kernel) (by decide +kernel)
theorem tw_4_128 : Cond.code yX8_pairs cX8_pairs 4 (some .boolean) ∈ gt := g4 128 rfl (by rfl)
theorem tw_3_34 : Cond.methodLink RL 93 yX7_add ∈ gt := g3 34 (by decide +kernel) (by decide +kernel)
theorem tw_3_35 : Cond.instanceMethod yX7_add ∈ gt := g3 35 (by decide +kernel) (by decide +kernel)
theorem tw_3_36 : Cond.selects RX7 yX7_add yX7_add ∈ gt := g3 36 (by decide +kernel) (by decide +kernel)
theorem tw_3_37 : Cond.code yX7_add cX7_add 4 (some .boolean) ∈ gt := g3 37 rfl (by rfl)
theorem tw_4_129 : Cond.methodLink RL 96 yX8_add ∈ gt := g4 129 (by decide +kernel) (by decide +kernel)
theorem tw_4_130 : Cond.instanceMethod yX8_add ∈ gt := g4 130 (by decide +kernel) (by decide +kernel)
theorem tw_4_131 : Cond.selects RX8 yX8_add yX8_add ∈ gt := g4 131 (by decide +kernel) (by decide +kernel)
theorem tw_4_132 : Cond.code yX8_add cX8_add 4 (some .boolean) ∈ gt := g4 132 rfl (by rfl)
theorem tw_3_39 : Cond.methodLink RL 97 yX7_press ∈ gt := g3 39 (by decide +kernel) (by decide +kernel)
theorem tw_3_40 : Cond.instanceMethod yX7_press ∈ gt := g3 40 (by decide +kernel) (by decide +kernel)
theorem tw_3_41 : Cond.selects RX7 yX7_press yX7_press ∈ gt := g3 41 (by decide +kernel) (by decide +kernel)
theorem tw_3_42 : Cond.code yX7_press cX7_press 3 (some .boolean) ∈ gt := g3 42 rfl (by rfl)
theorem tw_4_133 : Cond.methodLink RL 100 yX8_press ∈ gt := g4 133 (by decide +kernel) (by decide +kernel)
theorem tw_4_134 : Cond.instanceMethod yX8_press ∈ gt := g4 134 (by decide +kernel) (by decide +kernel)
theorem tw_4_135 : Cond.selects RX8 yX8_press yX8_press ∈ gt := g4 135 (by decide +kernel) (by decide +kernel)
theorem tw_4_136 : Cond.code yX8_press cX8_press 3 (some .boolean) ∈ gt := g4 136 rfl (by rfl)
theorem tw_3_44 : Cond.methodLink RL 101 yX7_stretch ∈ gt := g3 44 (by decide +kernel) (by decide +kernel)
theorem tw_3_45 : Cond.instanceMethod yX7_stretch ∈ gt := g3 45 (by decide +kernel) (by decide +kernel)
theorem tw_3_46 : Cond.selects RX7 yX7_stretch yX7_stretch ∈ gt := g3 46 (by decide +kernel) (by decide +kernel)
theorem tw_3_47 : Cond.code yX7_stretch cX7_stretch 3 (some .boolean) ∈ gt := g3 47 rfl (by rfl)
theorem tw_4_137 : Cond.methodLink RL 104 yX8_stretch ∈ gt := g4 137 (by decide +kernel) (by decide +kernel)
theorem tw_4_138 : Cond.instanceMethod yX8_stretch ∈ gt := g4 138 (by decide +kernel) (by decide +kernel)
theorem tw_4_139 : Cond.selects RX8 yX8_stretch yX8_stretch ∈ gt := g4 139 (by decide +kernel) (by decide +kernel)
theorem tw_4_140 : Cond.code yX8_stretch cX8_stretch 3 (some .boolean) ∈ gt := g4 140 rfl (by rfl)
theorem tw_3_49 : Cond.methodLink RL 105 yX7_encode ∈ gt := g3 49 (by decide +kernel) (by decide +kernel)
theorem tw_3_50 : Cond.instanceMethod yX7_encode ∈ gt := g3 50 (by decide +kernel) (by decide +kernel)
theorem tw_3_51 : Cond.selects RX7 yX7_encode yX7_encode ∈ gt := g3 51 (by decide +kernel) (by decide +kernel)
theorem tw_3_52 : Cond.code yX7_encode cX7_encode 3 (some .int) ∈ gt := g3 52 rfl (by rfl)
theorem tw_4_141 : Cond.methodLink RL 108 yX8_encode ∈ gt := g4 141 (by decide +kernel) (by decide +kernel)
theorem tw_4_142 : Cond.instanceMethod yX8_encode ∈ gt := g4 142 (by decide +kernel) (by decide +kernel)
theorem tw_4_143 : Cond.selects RX8 yX8_encode yX8_encode ∈ gt := g4 143 (by decide +kernel) (by decide +kernel)
theorem tw_4_144 : Cond.code yX8_encode cX8_encode 3 (some .int) ∈ gt := g4 144 rfl (by rfl)
theorem tw_3_54 : Cond.methodLink RL 109 yX7_decode ∈ gt := g3 54 (by decide +kernel) (by decide +kernel)
theorem tw_3_55 : Cond.instanceMethod yX7_decode ∈ gt := g3 55 (by decide +kernel) (by decide +kernel)
theorem tw_3_56 : Cond.selects RX7 yX7_decode yX7_decode ∈ gt := g3 56 (by decide +kernel) (by decide +kernel)
theorem tw_3_57 : Cond.code yX7_decode cX7_decode 4 (some .int) ∈ gt := g3 57 rfl (by rfl)
theorem tw_4_145 : Cond.methodLink RL 112 yX8_decode ∈ gt := g4 145 (by decide +kernel) (by decide +kernel)
theorem tw_4_146 : Cond.instanceMethod yX8_decode ∈ gt := g4 146 (by decide +kernel) (by decide +kernel)
theorem tw_4_147 : Cond.selects RX8 yX8_decode yX8_decode ∈ gt := g4 147 (by decide +kernel) (by decide +kernel)
theorem tw_4_148 : Cond.code yX8_decode cX8_decode 3 (some .int) ∈ gt := g4 148 rfl (by rfl)
theorem tw_3_59 : Cond.methodLink RL 113 yX7_sample ∈ gt := g3 59 (by decide +kernel) (by decide +kernel)
theorem tw_3_60 : Cond.instanceMethod yX7_sample ∈ gt := g3 60 (by decide +kernel) (by decide +kernel)
theorem tw_3_61 : Cond.selects RX7 yX7_sample yX7_sample ∈ gt := g3 61 (by decide +kernel) (by decide +kernel)
theorem tw_3_62 : Cond.code yX7_sample cX7_sample 5 (some .int) ∈ gt := g3 62 rfl (by rfl)
theorem tw_4_149 : Cond.methodLink RL 116 yX8_sample ∈ gt := g4 149 (by decide +kernel) (by decide +kernel)
theorem tw_4_150 : Cond.instanceMethod yX8_sample ∈ gt := g4 150 (by decide +kernel) (by decide +kernel)
theorem tw_4_151 : Cond.selects RX8 yX8_sample yX8_sample ∈ gt := g4 151 (by decide +kernel) (by decide +kernel)
theorem tw_4_152 : Cond.code yX8_sample cX8_sample 5 (some .int) ∈ gt := g4 152 rfl (by rfl)
theorem tw_3_65 : Cond.methodLink RL 117 yX7_noise ∈ gt := g3 65 (by decide +kernel) (by decide +kernel)
theorem tw_3_66 : Cond.instanceMethod yX7_noise ∈ gt := g3 66 (by decide +kernel) (by decide +kernel)
theorem tw_3_67 : Cond.selects RX7 yX7_noise yX7_noise ∈ gt := g3 67 (by decide +kernel) (by decide +kernel)
theorem tw_3_68 : Cond.code yX7_noise cX7_noise 5 (some .int) ∈ gt := g3 68 rfl (by rfl)
theorem tw_4_153 : Cond.methodLink RL 120 yX8_noise ∈ gt := g4 153 (by decide +kernel) (by decide +kernel)
theorem tw_4_154 : Cond.instanceMethod yX8_noise ∈ gt := g4 154 (by decide +kernel) (by decide +kernel)
theorem tw_4_155 : Cond.selects RX8 yX8_noise yX8_noise ∈ gt := g4 155 (by decide +kernel) (by decide +kernel)
theorem tw_4_156 : Cond.code yX8_noise cX8_noise 4 (some .int) ∈ gt := g4 156 rfl (by rfl)
set_option maxHeartbeats 4000000 in
set_option maxRecDepth 100000 in
theorem lc_0 {p : Program} {l : Launch} {e : Env} {s : State} {m : MethodId} {below : List Frame} {meth : Method} {c : Code} {b N : Nat} {xs : Nat → Int32} {D : va_G} {X : XT} {ad : Nat → Nat} {A : Nat → Prop} {Q : State → Prop} (C0 : LX p s m c b N xs D X A) {i : Nat} (hi : i + 6 ≤ N) (hN : N ≤ 3072) {J : MJ} {I : MI} {L : ML} {H : Heap} {locs : List Loc} {ls : Array Slot} (hI : LI X J I) (hV : Wd D X ad 48 A s.heap J I L H locs) (hl : lv_has ls 4 [(3, .int (nI i)), (2, .ref (ad 38)), (1, .ref (ad 0)), (0, .ref b)])
    (kk : ∀ (J : MJ) (I : MI) (L : ML) (H : Heap) (locs : List Loc), LI X J I → Wd D X ad 48 A s.heap J I L H locs → W p l e room_1 s m #[Value.ref b] below meth c H locs 600000 7302250 Q (F0 m 913 ls [])) : W p l e room_1 s m #[Value.ref b] below meth c H locs 600000 7302250 Q (F0 m 148 ls []) := by
  obtain ⟨hx, hb, hml, hown, hts, hS, hbl, hbA, hK, hZ, hA, hX⟩ := C0
  obtain ⟨e0, S, hVJ, hIv, hWT⟩ := hI
  have t0 : Ty X 48 0 8 := tyX hX rfl rfl
  have t38 : Ty X 48 38 9 := tyX hX rfl rfl
  refine lv_aload_n hx hb dL_law_148 rfl (lv_at hl 2 rfl) ?_
  refine lv_aload_n hx hb dL_law_149 rfl (lv_at hl 3 rfl) ?_
  refine lv_iload_n hx hb dL_law_150 rfl (lv_at hl 0 rfl) ?_
  refine lv_iconst (v := 1) hx hb dL_law_151 (by decide) ?_
  refine lv_iadd hx hb dL_law_152 ?_
  refine va_sld hx hb hS hbl hbA hV.2.2 (l_in (t := 1) (by omega) hN 1 rfl) dL_law_153 ?_
  refine lv_aload_n hx hb dL_law_154 rfl (lv_at hl 3 rfl) ?_
  refine lv_iload_n hx hb dL_law_155 rfl (lv_at hl 0 rfl) ?_
  refine lv_iconst (v := 2) hx hb dL_law_156 (by decide) ?_
  refine lv_iadd hx hb dL_law_157 ?_
  refine va_sld hx hb hS hbl hbA hV.2.2 (l_in (t := 2) (by omega) hN 2 rfl) dL_law_158 ?_
  refine lv_aload_n hx hb dL_law_159 rfl (lv_at hl 3 rfl) ?_
  refine lv_iload_n hx hb dL_law_160 rfl (lv_at hl 0 rfl) ?_
  refine lv_iconst (v := 3) hx hb dL_law_161 (by decide) ?_
  refine lv_iadd hx hb dL_law_162 ?_
  refine va_sld hx hb hS hbl hbA hV.2.2 (l_in (t := 3) (by omega) hN 3 rfl) dL_law_163 ?_
  refine lv_aload_n hx hb dL_law_164 rfl (lv_at hl 3 rfl) ?_
  refine lv_iload_n hx hb dL_law_165 rfl (lv_at hl 0 rfl) ?_
  refine lv_iconst (v := 4) hx hb dL_law_166 (by decide) ?_
  refine lv_iadd hx hb dL_law_167 ?_
  refine va_sld hx hb hS hbl hbA hV.2.2 (l_in (t := 4) (by omega) hN 4 rfl) dL_law_168 ?_
  refine lv_aload_n hx hb dL_law_169 rfl (lv_at hl 3 rfl) ?_
  refine lv_iload_n hx hb dL_law_170 rfl (lv_at hl 0 rfl) ?_
  refine lv_iconst (v := 5) hx hb dL_law_171 (by decide) ?_
  refine lv_iadd hx hb dL_law_172 ?_
  refine va_sld hx hb hS hbl hbA hV.2.2 (l_in (t := 5) (by omega) hN 5 rfl) dL_law_173 ?_
  refine k_calli (va_runV (As := [.int (xs (nI i + 1).toNatClampNeg), .int (xs (nI i + 2).toNatClampNeg), .int (xs (nI i + 3).toNatClampNeg), .int (xs (nI i + 4).toNatClampNeg), .int (xs (nI i + 5).toNatClampNeg)]) (rest := []) ⟨hx, hb, hml, hown, hts⟩ (s_X7_feed l D X ad 48 A J hWT 0 t0 (xs (nI i + 1).toNatClampNeg) (xs (nI i + 2).toNatClampNeg) (xs (nI i + 3).toNatClampNeg) (xs (nI i + 4).toNatClampNeg) (xs (nI i + 5).toNatClampNeg) I L _ (j_feed hVJ hIv (xs (nI i + 1).toNatClampNeg) (xs (nI i + 2).toNatClampNeg) (xs (nI i + 3).toNatClampNeg) (xs (nI i + 4).toNatClampNeg) (xs (nI i + 5).toNatClampNeg))) (cwV 5 hts (gV tw_1_154 tw_1_155 tw_1_156 tw_1_1 tw_1_157) rfl rfl rfl (by decide +kernel) (by decide)) (k_preV (ci := 4) hK hV hA hZ t0 rfl _) rfl rfl hl.1 rfl (lv_room (Nat.le_of_ble_eq_true rfl)) dL_law_174 ⟨(Nat.le_of_ble_eq_true rfl), (Nat.le_of_ble_eq_true rfl)⟩) hV (fun r I1 L1 H locs h1 hV => ?_)
  refine lv_aload_n hx hb dL_law_177 rfl (lv_at hl 1 rfl) ?_
  refine lv_aload_n hx hb dL_law_178 rfl (lv_at hl 3 rfl) ?_
  refine lv_iload_n hx hb dL_law_179 rfl (lv_at hl 0 rfl) ?_
  refine lv_iconst (v := 1) hx hb dL_law_180 (by decide) ?_
  refine lv_iadd hx hb dL_law_181 ?_
  refine va_sld hx hb hS hbl hbA hV.2.2 (l_in (t := 1) (by omega) hN 1 rfl) dL_law_182 ?_
  refine lv_aload_n hx hb dL_law_183 rfl (lv_at hl 3 rfl) ?_
  refine lv_iload_n hx hb dL_law_184 rfl (lv_at hl 0 rfl) ?_
  refine lv_iconst (v := 2) hx hb dL_law_185 (by decide) ?_
  refine lv_iadd hx hb dL_law_186 ?_
  refine va_sld hx hb hS hbl hbA hV.2.2 (l_in (t := 2) (by omega) hN 2 rfl) dL_law_187 ?_
  refine lv_aload_n hx hb dL_law_188 rfl (lv_at hl 3 rfl) ?_
  refine lv_iload_n hx hb dL_law_189 rfl (lv_at hl 0 rfl) ?_
  refine lv_iconst (v := 3) hx hb dL_law_190 (by decide) ?_
  refine lv_iadd hx hb dL_law_191 ?_
  refine va_sld hx hb hS hbl hbA hV.2.2 (l_in (t := 3) (by omega) hN 3 rfl) dL_law_192 ?_
  refine lv_aload_n hx hb dL_law_193 rfl (lv_at hl 3 rfl) ?_
  refine lv_iload_n hx hb dL_law_194 rfl (lv_at hl 0 rfl) ?_
  refine lv_iconst (v := 4) hx hb dL_law_195 (by decide) ?_
  refine lv_iadd hx hb dL_law_196 ?_
  refine va_sld hx hb hS hbl hbA hV.2.2 (l_in (t := 4) (by omega) hN 4 rfl) dL_law_197 ?_
  refine lv_aload_n hx hb dL_law_198 rfl (lv_at hl 3 rfl) ?_
  refine lv_iload_n hx hb dL_law_199 rfl (lv_at hl 0 rfl) ?_
  refine lv_iconst (v := 5) hx hb dL_law_200 (by decide) ?_
  refine lv_iadd hx hb dL_law_201 ?_
  refine va_sld hx hb hS hbl hbA hV.2.2 (l_in (t := 5) (by omega) hN 5 rfl) dL_law_202 ?_
  refine k_calli (va_runV (As := [.int (xs (nI i + 1).toNatClampNeg), .int (xs (nI i + 2).toNatClampNeg), .int (xs (nI i + 3).toNatClampNeg), .int (xs (nI i + 4).toNatClampNeg), .int (xs (nI i + 5).toNatClampNeg)]) (rest := [.int r]) ⟨hx, hb, hml, hown, hts⟩ (s_X8_feed l D X ad 48 A J hWT 38 t38 (xs (nI i + 1).toNatClampNeg) (xs (nI i + 2).toNatClampNeg) (xs (nI i + 3).toNatClampNeg) (xs (nI i + 4).toNatClampNeg) (xs (nI i + 5).toNatClampNeg) I1 L1 _ h1) (cwV 5 hts (gV tw_3_150 tw_3_151 tw_3_152 tw_1_9 tw_3_153) rfl rfl rfl (by decide +kernel) (by decide)) (k_preV (ci := 5) hK hV hA hZ t38 rfl _) rfl rfl hl.1 rfl (lv_room (Nat.le_of_ble_eq_true rfl)) dL_law_203 ⟨(Nat.le_of_ble_eq_true rfl), (Nat.le_of_ble_eq_true rfl)⟩) hV (fun r' I2 L2 H locs h2 hV => ?_)
  obtain ⟨er, S2, hIv2⟩ := h2
  exact lv_icmp_eq (tgt := 913) hx hb dL_law_206 (by decide) (fun _ => kk J I2 L2 H locs ⟨e0, S2, hVJ, hIv2, hWT⟩ hV) (fun z => absurd er z)
set_option maxHeartbeats 4000000 in
set_option maxRecDepth 100000 in
theorem lc_1 {p : Program} {l : Launch} {e : Env} {s : State} {m : MethodId} {below : List Frame} {meth : Method} {c : Code} {b N : Nat} {xs : Nat → Int32} {D : va_G} {X : XT} {ad : Nat → Nat} {A : Nat → Prop} {Q : State → Prop} (C0 : LX p s m c b N xs D X A) {i : Nat} (hi : i + 6 ≤ N) (hN : N ≤ 3072) {J : MJ} {I : MI} {L : ML} {H : Heap} {locs : List Loc} {ls : Array Slot} (hI : LI X J I) (hV : Wd D X ad 48 A s.heap J I L H locs) (hl : lv_has ls 4 [(3, .int (nI i)), (2, .ref (ad 38)), (1, .ref (ad 0)), (0, .ref b)])
    (kk : ∀ (J : MJ) (I : MI) (L : ML) (H : Heap) (locs : List Loc), LI X J I → Wd D X ad 48 A s.heap J I L H locs → W p l e room_1 s m #[Value.ref b] below meth c H locs 600000 7302250 Q (F0 m 913 ls [])) : W p l e room_1 s m #[Value.ref b] below meth c H locs 600000 7302250 Q (F0 m 211 ls []) := by
  obtain ⟨hx, hb, hml, hown, hts, hS, hbl, hbA, hK, hZ, hA, hX⟩ := C0
  obtain ⟨e0, S, hVJ, hIv, hWT⟩ := hI
  have t0 : Ty X 48 0 8 := tyX hX rfl rfl
  have t38 : Ty X 48 38 9 := tyX hX rfl rfl
  refine lv_aload_n hx hb dL_law_211 rfl (lv_at hl 2 rfl) ?_
  refine lv_aload_n hx hb dL_law_212 rfl (lv_at hl 3 rfl) ?_
  refine lv_iload_n hx hb dL_law_213 rfl (lv_at hl 0 rfl) ?_
  refine lv_iconst (v := 1) hx hb dL_law_214 (by decide) ?_
  refine lv_iadd hx hb dL_law_215 ?_
  refine va_sld hx hb hS hbl hbA hV.2.2 (l_in (t := 1) (by omega) hN 1 rfl) dL_law_216 ?_
  refine k_calli (va_runV (As := [.int (xs (nI i + 1).toNatClampNeg)]) (rest := []) ⟨hx, hb, hml, hown, hts⟩ (s_X7_end l D X ad 48 A J hWT 0 t0 (xs (nI i + 1).toNatClampNeg) I L _ (j_end hVJ hIv (xs (nI i + 1).toNatClampNeg))) (cwV 1 hts (gV tw_1_174 tw_1_175 tw_1_176 tw_1_1 tw_1_177) rfl rfl rfl (by decide +kernel) (by decide)) (k_preV (ci := 4) hK hV hA hZ t0 rfl _) rfl rfl hl.1 rfl (lv_room (Nat.le_of_ble_eq_true rfl)) dL_law_217 ⟨(Nat.le_of_ble_eq_true rfl), (Nat.le_of_ble_eq_true rfl)⟩) hV (fun r I1 L1 H locs h1 hV => ?_)
  refine lv_aload_n hx hb dL_law_220 rfl (lv_at hl 1 rfl) ?_
  refine lv_aload_n hx hb dL_law_221 rfl (lv_at hl 3 rfl) ?_
  refine lv_iload_n hx hb dL_law_222 rfl (lv_at hl 0 rfl) ?_
  refine lv_iconst (v := 1) hx hb dL_law_223 (by decide) ?_
  refine lv_iadd hx hb dL_law_224 ?_
  refine va_sld hx hb hS hbl hbA hV.2.2 (l_in (t := 1) (by omega) hN 1 rfl) dL_law_225 ?_
  refine k_calli (va_runV (As := [.int (xs (nI i + 1).toNatClampNeg)]) (rest := [.int r]) ⟨hx, hb, hml, hown, hts⟩ (s_X8_end l D X ad 48 A J hWT 38 t38 (xs (nI i + 1).toNatClampNeg) I1 L1 _ h1) (cwV 1 hts (gV tw_3_154 tw_3_155 tw_3_156 tw_1_9 tw_3_157) rfl rfl rfl (by decide +kernel) (by decide)) (k_preV (ci := 5) hK hV hA hZ t38 rfl _) rfl rfl hl.1 rfl (lv_room (Nat.le_of_ble_eq_true rfl)) dL_law_226 ⟨(Nat.le_of_ble_eq_true rfl), (Nat.le_of_ble_eq_true rfl)⟩) hV (fun r' I2 L2 H locs h2 hV => ?_)
  obtain ⟨er, S2, hIv2⟩ := h2
  exact lv_icmp_eq (tgt := 913) hx hb dL_law_229 (by decide) (fun _ => kk J I2 L2 H locs ⟨e0, S2, hVJ, hIv2, hWT⟩ hV) (fun z => absurd er z)
set_option maxHeartbeats 4000000 in
set_option maxRecDepth 100000 in
theorem lc_2 {p : Program} {l : Launch} {e : Env} {s : State} {m : MethodId} {below : List Frame} {meth : Method} {c : Code} {b N : Nat} {xs : Nat → Int32} {D : va_G} {X : XT} {ad : Nat → Nat} {A : Nat → Prop} {Q : State → Prop} (C0 : LX p s m c b N xs D X A) {i : Nat} (hi : i + 6 ≤ N) (hN : N ≤ 3072) {J : MJ} {I : MI} {L : ML} {H : Heap} {locs : List Loc} {ls : Array Slot} (hI : LI X J I) (hV : Wd D X ad 48 A s.heap J I L H locs) (hl : lv_has ls 4 [(3, .int (nI i)), (2, .ref (ad 38)), (1, .ref (ad 0)), (0, .ref b)])
    (kk : ∀ (J : MJ) (I : MI) (L : ML) (H : Heap) (locs : List Loc), LI X J I → Wd D X ad 48 A s.heap J I L H locs → W p l e room_1 s m #[Value.ref b] below meth c H locs 600000 7302250 Q (F0 m 913 ls [])) : W p l e room_1 s m #[Value.ref b] below meth c H locs 600000 7302250 Q (F0 m 234 ls []) := by
  obtain ⟨hx, hb, hml, hown, hts, hS, hbl, hbA, hK, hZ, hA, hX⟩ := C0
  obtain ⟨e0, S, hVJ, hIv, hWT⟩ := hI
  have t0 : Ty X 48 0 8 := tyX hX rfl rfl
  have t38 : Ty X 48 38 9 := tyX hX rfl rfl
  refine lv_aload_n hx hb dL_law_234 rfl (lv_at hl 2 rfl) ?_
  refine lv_aload_n hx hb dL_law_235 rfl (lv_at hl 3 rfl) ?_
  refine lv_iload_n hx hb dL_law_236 rfl (lv_at hl 0 rfl) ?_
  refine lv_iconst (v := 1) hx hb dL_law_237 (by decide) ?_
  refine lv_iadd hx hb dL_law_238 ?_
  refine va_sld hx hb hS hbl hbA hV.2.2 (l_in (t := 1) (by omega) hN 1 rfl) dL_law_239 ?_
  refine k_calli (va_runV (As := [.int (xs (nI i + 1).toNatClampNeg)]) (rest := []) ⟨hx, hb, hml, hown, hts⟩ (s_X7_take l D X ad 48 A J hWT 0 t0 (xs (nI i + 1).toNatClampNeg) I L _ (j_take hVJ hIv (xs (nI i + 1).toNatClampNeg))) (cwV 1 hts (gV tw_1_182 tw_1_183 tw_1_184 tw_1_1 tw_1_185) rfl rfl rfl (by decide +kernel) (by decide)) (k_preV (ci := 4) hK hV hA hZ t0 rfl _) rfl rfl hl.1 rfl (lv_room (Nat.le_of_ble_eq_true rfl)) dL_law_240 ⟨(Nat.le_of_ble_eq_true rfl), (Nat.le_of_ble_eq_true rfl)⟩) hV (fun r I1 L1 H locs h1 hV => ?_)
  refine lv_aload_n hx hb dL_law_243 rfl (lv_at hl 1 rfl) ?_
  refine lv_aload_n hx hb dL_law_244 rfl (lv_at hl 3 rfl) ?_
  refine lv_iload_n hx hb dL_law_245 rfl (lv_at hl 0 rfl) ?_
  refine lv_iconst (v := 1) hx hb dL_law_246 (by decide) ?_
  refine lv_iadd hx hb dL_law_247 ?_
  refine va_sld hx hb hS hbl hbA hV.2.2 (l_in (t := 1) (by omega) hN 1 rfl) dL_law_248 ?_
  refine k_calli (va_runV (As := [.int (xs (nI i + 1).toNatClampNeg)]) (rest := [.int r]) ⟨hx, hb, hml, hown, hts⟩ (s_X8_take l D X ad 48 A J hWT 38 t38 (xs (nI i + 1).toNatClampNeg) I1 L1 _ h1) (cwV 1 hts (gV tw_3_158 tw_3_159 tw_3_160 tw_1_9 tw_3_161) rfl rfl rfl (by decide +kernel) (by decide)) (k_preV (ci := 5) hK hV hA hZ t38 rfl _) rfl rfl hl.1 rfl (lv_room (Nat.le_of_ble_eq_true rfl)) dL_law_249 ⟨(Nat.le_of_ble_eq_true rfl), (Nat.le_of_ble_eq_true rfl)⟩) hV (fun r' I2 L2 H locs h2 hV => ?_)
  obtain ⟨er, S2, hIv2⟩ := h2
  exact lv_icmp_eq (tgt := 913) hx hb dL_law_252 (by decide) (fun _ => kk J I2 L2 H locs ⟨e0, S2, hVJ, hIv2, hWT⟩ hV) (fun z => absurd er z)
set_option maxHeartbeats 4000000 in
set_option maxRecDepth 100000 in
theorem lc_3 {p : Program} {l : Launch} {e : Env} {s : State} {m : MethodId} {below : List Frame} {meth : Method} {c : Code} {b N : Nat} {xs : Nat → Int32} {D : va_G} {X : XT} {ad : Nat → Nat} {A : Nat → Prop} {Q : State → Prop} (C0 : LX p s m c b N xs D X A) {i : Nat} (hi : i + 6 ≤ N) (hN : N ≤ 3072) {J : MJ} {I : MI} {L : ML} {H : Heap} {locs : List Loc} {ls : Array Slot} (hI : LI X J I) (hV : Wd D X ad 48 A s.heap J I L H locs) (hl : lv_has ls 4 [(3, .int (nI i)), (2, .ref (ad 38)), (1, .ref (ad 0)), (0, .ref b)])
    (kk : ∀ (J : MJ) (I : MI) (L : ML) (H : Heap) (locs : List Loc), LI X J I → Wd D X ad 48 A s.heap J I L H locs → W p l e room_1 s m #[Value.ref b] below meth c H locs 600000 7302250 Q (F0 m 913 ls [])) : W p l e room_1 s m #[Value.ref b] below meth c H locs 600000 7302250 Q (F0 m 257 ls []) := by
  obtain ⟨hx, hb, hml, hown, hts, hS, hbl, hbA, hK, hZ, hA, hX⟩ := C0
  obtain ⟨e0, S, hVJ, hIv, hWT⟩ := hI
  have t0 : Ty X 48 0 8 := tyX hX rfl rfl
  have t38 : Ty X 48 38 9 := tyX hX rfl rfl
  refine lv_aload_n hx hb dL_law_257 rfl (lv_at hl 2 rfl) ?_
  refine lv_aload_n hx hb dL_law_258 rfl (lv_at hl 3 rfl) ?_
  refine lv_iload_n hx hb dL_law_259 rfl (lv_at hl 0 rfl) ?_
  refine lv_iconst (v := 1) hx hb dL_law_260 (by decide) ?_
  refine lv_iadd hx hb dL_law_261 ?_
  refine va_sld hx hb hS hbl hbA hV.2.2 (l_in (t := 1) (by omega) hN 1 rfl) dL_law_262 ?_
  refine lv_aload_n hx hb dL_law_263 rfl (lv_at hl 3 rfl) ?_
  refine lv_iload_n hx hb dL_law_264 rfl (lv_at hl 0 rfl) ?_
  refine lv_iconst (v := 2) hx hb dL_law_265 (by decide) ?_
  refine lv_iadd hx hb dL_law_266 ?_
  refine va_sld hx hb hS hbl hbA hV.2.2 (l_in (t := 2) (by omega) hN 2 rfl) dL_law_267 ?_
  refine k_calli (va_runV (As := [.int (xs (nI i + 1).toNatClampNeg), .int (xs (nI i + 2).toNatClampNeg)]) (rest := []) ⟨hx, hb, hml, hown, hts⟩ (s_X7_alter l D X ad 48 A J hWT 0 t0 (xs (nI i + 1).toNatClampNeg) (xs (nI i + 2).toNatClampNeg) I L _ (j_alter hVJ hIv (xs (nI i + 1).toNatClampNeg) (xs (nI i + 2).toNatClampNeg))) (cwV 2 hts (gV tw_1_197 tw_1_198 tw_1_199 tw_1_1 tw_1_200) rfl rfl rfl (by decide +kernel) (by decide)) (k_preV (ci := 4) hK hV hA hZ t0 rfl _) rfl rfl hl.1 rfl (lv_room (Nat.le_of_ble_eq_true rfl)) dL_law_268 ⟨(Nat.le_of_ble_eq_true rfl), (Nat.le_of_ble_eq_true rfl)⟩) hV (fun r I1 L1 H locs h1 hV => ?_)
  refine lv_aload_n hx hb dL_law_271 rfl (lv_at hl 1 rfl) ?_
  refine lv_aload_n hx hb dL_law_272 rfl (lv_at hl 3 rfl) ?_
  refine lv_iload_n hx hb dL_law_273 rfl (lv_at hl 0 rfl) ?_
  refine lv_iconst (v := 1) hx hb dL_law_274 (by decide) ?_
  refine lv_iadd hx hb dL_law_275 ?_
  refine va_sld hx hb hS hbl hbA hV.2.2 (l_in (t := 1) (by omega) hN 1 rfl) dL_law_276 ?_
  refine lv_aload_n hx hb dL_law_277 rfl (lv_at hl 3 rfl) ?_
  refine lv_iload_n hx hb dL_law_278 rfl (lv_at hl 0 rfl) ?_
  refine lv_iconst (v := 2) hx hb dL_law_279 (by decide) ?_
  refine lv_iadd hx hb dL_law_280 ?_
  refine va_sld hx hb hS hbl hbA hV.2.2 (l_in (t := 2) (by omega) hN 2 rfl) dL_law_281 ?_
  refine k_calli (va_runV (As := [.int (xs (nI i + 1).toNatClampNeg), .int (xs (nI i + 2).toNatClampNeg)]) (rest := [.int r]) ⟨hx, hb, hml, hown, hts⟩ (s_X8_alter l D X ad 48 A J hWT 38 t38 (xs (nI i + 1).toNatClampNeg) (xs (nI i + 2).toNatClampNeg) I1 L1 _ h1) (cwV 2 hts (gV tw_3_170 tw_3_171 tw_3_172 tw_1_9 tw_3_173) rfl rfl rfl (by decide +kernel) (by decide)) (k_preV (ci := 5) hK hV hA hZ t38 rfl _) rfl rfl hl.1 rfl (lv_room (Nat.le_of_ble_eq_true rfl)) dL_law_282 ⟨(Nat.le_of_ble_eq_true rfl), (Nat.le_of_ble_eq_true rfl)⟩) hV (fun r' I2 L2 H locs h2 hV => ?_)
  obtain ⟨er, S2, hIv2⟩ := h2
  exact lv_icmp_eq (tgt := 913) hx hb dL_law_285 (by decide) (fun _ => kk J I2 L2 H locs ⟨e0, S2, hVJ, hIv2, hWT⟩ hV) (fun z => absurd er z)
set_option maxHeartbeats 4000000 in
set_option maxRecDepth 100000 in
theorem lc_4 {p : Program} {l : Launch} {e : Env} {s : State} {m : MethodId} {below : List Frame} {meth : Method} {c : Code} {b N : Nat} {xs : Nat → Int32} {D : va_G} {X : XT} {ad : Nat → Nat} {A : Nat → Prop} {Q : State → Prop} (C0 : LX p s m c b N xs D X A) {i : Nat} (hi : i + 6 ≤ N) (hN : N ≤ 3072) {J : MJ} {I : MI} {L : ML} {H : Heap} {locs : List Loc} {ls : Array Slot} (hI : LI X J I) (hV : Wd D X ad 48 A s.heap J I L H locs) (hl : lv_has ls 4 [(3, .int (nI i)), (2, .ref (ad 38)), (1, .ref (ad 0)), (0, .ref b)])
    (kk : ∀ (J : MJ) (I : MI) (L : ML) (H : Heap) (locs : List Loc), LI X J I → Wd D X ad 48 A s.heap J I L H locs → W p l e room_1 s m #[Value.ref b] below meth c H locs 600000 7302250 Q (F0 m 913 ls [])) : W p l e room_1 s m #[Value.ref b] below meth c H locs 600000 7302250 Q (F0 m 290 ls []) := by
  obtain ⟨hx, hb, hml, hown, hts, hS, hbl, hbA, hK, hZ, hA, hX⟩ := C0
  obtain ⟨e0, S, hVJ, hIv, hWT⟩ := hI
  have t0 : Ty X 48 0 8 := tyX hX rfl rfl
  have t38 : Ty X 48 38 9 := tyX hX rfl rfl
  refine lv_aload_n hx hb dL_law_290 rfl (lv_at hl 2 rfl) ?_
  refine lv_aload_n hx hb dL_law_291 rfl (lv_at hl 3 rfl) ?_
  refine lv_iload_n hx hb dL_law_292 rfl (lv_at hl 0 rfl) ?_
  refine lv_iconst (v := 1) hx hb dL_law_293 (by decide) ?_
  refine lv_iadd hx hb dL_law_294 ?_
  refine va_sld hx hb hS hbl hbA hV.2.2 (l_in (t := 1) (by omega) hN 1 rfl) dL_law_295 ?_
  refine k_callj (va_runV (As := [.int (xs (nI i + 1).toNatClampNeg)]) (rest := []) ⟨hx, hb, hml, hown, hts⟩ (s_X7_choose l D X ad A J hX hWT ⟨hVJ.2.2.1.2.1, hVJ.2.2.1.2.2.1, hVJ.2.2.1.2.2.2.1, hVJ.2.2.1.2.2.2.2.1⟩ t0 (xs (nI i + 1).toNatClampNeg) I L _ (j_choose hVJ hIv (xs (nI i + 1).toNatClampNeg))) (cwV 1 hts (gV tw_1_202 tw_1_203 tw_1_204 tw_1_1 tw_1_205) rfl rfl rfl (by decide +kernel) (by decide)) (k_preV (ci := 4) hK hV hA hZ t0 rfl _) rfl rfl hl.1 rfl (lv_room (Nat.le_of_ble_eq_true rfl)) dL_law_296 ⟨(Nat.le_of_ble_eq_true rfl), (Nat.le_of_ble_eq_true rfl)⟩) hV (fun r J1 I1 L1 H locs h1 hV => ?_)
  obtain ⟨e1, hVJ1, hJ1, ⟨k1, hk1⟩, h1⟩ := h1
  have hWT1 : WT X 48 J1 := by
    rcases hk1 with ⟨a1, rfl⟩ | rfl
    · exact hWT.set (c := 4) t0 rfl a1
    · exact hWT
  refine lv_aload_n hx hb dL_law_299 rfl (lv_at hl 1 rfl) ?_
  refine lv_aload_n hx hb dL_law_300 rfl (lv_at hl 3 rfl) ?_
  refine lv_iload_n hx hb dL_law_301 rfl (lv_at hl 0 rfl) ?_
  refine lv_iconst (v := 1) hx hb dL_law_302 (by decide) ?_
  refine lv_iadd hx hb dL_law_303 ?_
  refine va_sld hx hb hS hbl hbA hV.2.2 (l_in (t := 1) (by omega) hN 1 rfl) dL_law_304 ?_
  refine k_calli (va_runV (As := [.int (xs (nI i + 1).toNatClampNeg)]) (rest := [.int r]) ⟨hx, hb, hml, hown, hts⟩ (s_X8_choose l D X ad 48 A J1 hWT1 38 t38 (xs (nI i + 1).toNatClampNeg) I1 L1 _ h1) (cwV 1 hts (gV tw_3_174 tw_3_175 tw_3_176 tw_1_9 tw_3_177) rfl rfl rfl (by decide +kernel) (by decide)) (k_preV (ci := 5) hK hV hA hZ t38 rfl _) rfl rfl hl.1 rfl (lv_room (Nat.le_of_ble_eq_true rfl)) dL_law_305 ⟨(Nat.le_of_ble_eq_true rfl), (Nat.le_of_ble_eq_true rfl)⟩) hV (fun r' I2 L2 H locs h2 hV => ?_)
  obtain ⟨er, S2, hIv2⟩ := h2
  exact lv_icmp_eq (tgt := 913) hx hb dL_law_308 (by decide) (fun _ => kk J1 I2 L2 H locs ⟨e1, S2, hVJ1, hIv2, hWT1⟩ hV) (fun z => absurd er z)
set_option maxHeartbeats 4000000 in
set_option maxRecDepth 100000 in
theorem lc_5 {p : Program} {l : Launch} {e : Env} {s : State} {m : MethodId} {below : List Frame} {meth : Method} {c : Code} {b N : Nat} {xs : Nat → Int32} {D : va_G} {X : XT} {ad : Nat → Nat} {A : Nat → Prop} {Q : State → Prop} (C0 : LX p s m c b N xs D X A) {i : Nat} (hi : i + 6 ≤ N) (hN : N ≤ 3072) {J : MJ} {I : MI} {L : ML} {H : Heap} {locs : List Loc} {ls : Array Slot} (hI : LI X J I) (hV : Wd D X ad 48 A s.heap J I L H locs) (hl : lv_has ls 4 [(3, .int (nI i)), (2, .ref (ad 38)), (1, .ref (ad 0)), (0, .ref b)])
    (kk : ∀ (J : MJ) (I : MI) (L : ML) (H : Heap) (locs : List Loc), LI X J I → Wd D X ad 48 A s.heap J I L H locs → W p l e room_1 s m #[Value.ref b] below meth c H locs 600000 7302250 Q (F0 m 913 ls [])) : W p l e room_1 s m #[Value.ref b] below meth c H locs 600000 7302250 Q (F0 m 313 ls []) := by
  obtain ⟨hx, hb, hml, hown, hts, hS, hbl, hbA, hK, hZ, hA, hX⟩ := C0
  obtain ⟨e0, S, hVJ, hIv, hWT⟩ := hI
  have t0 : Ty X 48 0 8 := tyX hX rfl rfl
  have t38 : Ty X 48 38 9 := tyX hX rfl rfl
  refine lv_aload_n hx hb dL_law_313 rfl (lv_at hl 2 rfl) ?_
  refine lv_aload_n hx hb dL_law_314 rfl (lv_at hl 3 rfl) ?_
  refine lv_iload_n hx hb dL_law_315 rfl (lv_at hl 0 rfl) ?_
  refine lv_iconst (v := 1) hx hb dL_law_316 (by decide) ?_
  refine lv_iadd hx hb dL_law_317 ?_
  refine va_sld hx hb hS hbl hbA hV.2.2 (l_in (t := 1) (by omega) hN 1 rfl) dL_law_318 ?_
  refine k_calli (va_runV (As := [.int (xs (nI i + 1).toNatClampNeg)]) (rest := []) ⟨hx, hb, hml, hown, hts⟩ (s_X7_bound l D X ad 48 A J hWT 0 t0 (xs (nI i + 1).toNatClampNeg) I L _ (j_bound hVJ hIv (xs (nI i + 1).toNatClampNeg))) (cwV 1 hts (gV tw_1_222 tw_1_223 tw_1_224 tw_1_1 tw_1_225) rfl rfl rfl (by decide +kernel) (by decide)) (k_preV (ci := 4) hK hV hA hZ t0 rfl _) rfl rfl hl.1 rfl (lv_room (Nat.le_of_ble_eq_true rfl)) dL_law_319 ⟨(Nat.le_of_ble_eq_true rfl), (Nat.le_of_ble_eq_true rfl)⟩) hV (fun r I1 L1 H locs h1 hV => ?_)
  refine lv_aload_n hx hb dL_law_322 rfl (lv_at hl 1 rfl) ?_
  refine lv_aload_n hx hb dL_law_323 rfl (lv_at hl 3 rfl) ?_
  refine lv_iload_n hx hb dL_law_324 rfl (lv_at hl 0 rfl) ?_
  refine lv_iconst (v := 1) hx hb dL_law_325 (by decide) ?_
  refine lv_iadd hx hb dL_law_326 ?_
  refine va_sld hx hb hS hbl hbA hV.2.2 (l_in (t := 1) (by omega) hN 1 rfl) dL_law_327 ?_
  refine k_calli (va_runV (As := [.int (xs (nI i + 1).toNatClampNeg)]) (rest := [.int r]) ⟨hx, hb, hml, hown, hts⟩ (s_X8_bound l D X ad 48 A J hWT 38 t38 (xs (nI i + 1).toNatClampNeg) I1 L1 _ h1) (cwV 1 hts (gV tw_3_182 tw_3_183 tw_3_184 tw_1_9 tw_3_185) rfl rfl rfl (by decide +kernel) (by decide)) (k_preV (ci := 5) hK hV hA hZ t38 rfl _) rfl rfl hl.1 rfl (lv_room (Nat.le_of_ble_eq_true rfl)) dL_law_328 ⟨(Nat.le_of_ble_eq_true rfl), (Nat.le_of_ble_eq_true rfl)⟩) hV (fun r' I2 L2 H locs h2 hV => ?_)
  obtain ⟨er, S2, hIv2⟩ := h2
  exact lv_icmp_eq (tgt := 913) hx hb dL_law_331 (by decide) (fun _ => kk J I2 L2 H locs ⟨e0, S2, hVJ, hIv2, hWT⟩ hV) (fun z => absurd er z)
set_option maxHeartbeats 4000000 in
set_option maxRecDepth 100000 in
theorem lc_6 {p : Program} {l : Launch} {e : Env} {s : State} {m : MethodId} {below : List Frame} {meth : Method} {c : Code} {b N : Nat} {xs : Nat → Int32} {D : va_G} {X : XT} {ad : Nat → Nat} {A : Nat → Prop} {Q : State → Prop} (C0 : LX p s m c b N xs D X A) {i : Nat} (hi : i + 6 ≤ N) (hN : N ≤ 3072) {J : MJ} {I : MI} {L : ML} {H : Heap} {locs : List Loc} {ls : Array Slot} (hI : LI X J I) (hV : Wd D X ad 48 A s.heap J I L H locs) (hl : lv_has ls 4 [(3, .int (nI i)), (2, .ref (ad 38)), (1, .ref (ad 0)), (0, .ref b)])
    (kk : ∀ (J : MJ) (I : MI) (L : ML) (H : Heap) (locs : List Loc), LI X J I → Wd D X ad 48 A s.heap J I L H locs → W p l e room_1 s m #[Value.ref b] below meth c H locs 600000 7302250 Q (F0 m 913 ls [])) : W p l e room_1 s m #[Value.ref b] below meth c H locs 600000 7302250 Q (F0 m 336 ls []) := by
  obtain ⟨hx, hb, hml, hown, hts, hS, hbl, hbA, hK, hZ, hA, hX⟩ := C0
  obtain ⟨e0, S, hVJ, hIv, hWT⟩ := hI
  have t0 : Ty X 48 0 8 := tyX hX rfl rfl
  have t38 : Ty X 48 38 9 := tyX hX rfl rfl
  refine lv_aload_n hx hb dL_law_336 rfl (lv_at hl 2 rfl) ?_
  refine lv_aload_n hx hb dL_law_337 rfl (lv_at hl 3 rfl) ?_
  refine lv_iload_n hx hb dL_law_338 rfl (lv_at hl 0 rfl) ?_
  refine lv_iconst (v := 1) hx hb dL_law_339 (by decide) ?_
  refine lv_iadd hx hb dL_law_340 ?_
  refine va_sld hx hb hS hbl hbA hV.2.2 (l_in (t := 1) (by omega) hN 1 rfl) dL_law_341 ?_
  refine k_calli (va_runV (As := [.int (xs (nI i + 1).toNatClampNeg)]) (rest := []) ⟨hx, hb, hml, hown, hts⟩ (s_X7_length l D X ad 48 A J hWT 0 t0 (xs (nI i + 1).toNatClampNeg) I L _ (j_length hVJ hIv (xs (nI i + 1).toNatClampNeg))) (cwV 1 hts (gV tw_1_226 tw_1_227 tw_1_228 tw_1_1 tw_1_229) rfl rfl rfl (by decide +kernel) (by decide)) (k_preV (ci := 4) hK hV hA hZ t0 rfl _) rfl rfl hl.1 rfl (lv_room (Nat.le_of_ble_eq_true rfl)) dL_law_342 ⟨(Nat.le_of_ble_eq_true rfl), (Nat.le_of_ble_eq_true rfl)⟩) hV (fun r I1 L1 H locs h1 hV => ?_)
  refine lv_aload_n hx hb dL_law_345 rfl (lv_at hl 1 rfl) ?_
  refine lv_aload_n hx hb dL_law_346 rfl (lv_at hl 3 rfl) ?_
  refine lv_iload_n hx hb dL_law_347 rfl (lv_at hl 0 rfl) ?_
  refine lv_iconst (v := 1) hx hb dL_law_348 (by decide) ?_
  refine lv_iadd hx hb dL_law_349 ?_
  refine va_sld hx hb hS hbl hbA hV.2.2 (l_in (t := 1) (by omega) hN 1 rfl) dL_law_350 ?_
  refine k_calli (va_runV (As := [.int (xs (nI i + 1).toNatClampNeg)]) (rest := [.int r]) ⟨hx, hb, hml, hown, hts⟩ (s_X8_length l D X ad 48 A J hWT 38 t38 (xs (nI i + 1).toNatClampNeg) I1 L1 _ h1) (cwV 1 hts (gV tw_3_186 tw_3_163 tw_3_164 tw_1_9 tw_3_165) rfl rfl rfl (by decide +kernel) (by decide)) (k_preV (ci := 5) hK hV hA hZ t38 rfl _) rfl rfl hl.1 rfl (lv_room (Nat.le_of_ble_eq_true rfl)) dL_law_351 ⟨(Nat.le_of_ble_eq_true rfl), (Nat.le_of_ble_eq_true rfl)⟩) hV (fun r' I2 L2 H locs h2 hV => ?_)
  obtain ⟨er, S2, hIv2⟩ := h2
  exact lv_icmp_eq (tgt := 913) hx hb dL_law_354 (by decide) (fun _ => kk J I2 L2 H locs ⟨e0, S2, hVJ, hIv2, hWT⟩ hV) (fun z => absurd er z)
set_option maxHeartbeats 4000000 in
set_option maxRecDepth 100000 in
theorem lc_7 {p : Program} {l : Launch} {e : Env} {s : State} {m : MethodId} {below : List Frame} {meth : Method} {c : Code} {b N : Nat} {xs : Nat → Int32} {D : va_G} {X : XT} {ad : Nat → Nat} {A : Nat → Prop} {Q : State → Prop} (C0 : LX p s m c b N xs D X A) {i : Nat} (hi : i + 6 ≤ N) (hN : N ≤ 3072) {J : MJ} {I : MI} {L : ML} {H : Heap} {locs : List Loc} {ls : Array Slot} (hI : LI X J I) (hV : Wd D X ad 48 A s.heap J I L H locs) (hl : lv_has ls 4 [(3, .int (nI i)), (2, .ref (ad 38)), (1, .ref (ad 0)), (0, .ref b)])
    (kk : ∀ (J : MJ) (I : MI) (L : ML) (H : Heap) (locs : List Loc), LI X J I → Wd D X ad 48 A s.heap J I L H locs → W p l e room_1 s m #[Value.ref b] below meth c H locs 600000 7302250 Q (F0 m 913 ls [])) : W p l e room_1 s m #[Value.ref b] below meth c H locs 600000 7302250 Q (F0 m 359 ls []) := by
  obtain ⟨hx, hb, hml, hown, hts, hS, hbl, hbA, hK, hZ, hA, hX⟩ := C0
  obtain ⟨e0, S, hVJ, hIv, hWT⟩ := hI
  have t0 : Ty X 48 0 8 := tyX hX rfl rfl
  have t38 : Ty X 48 38 9 := tyX hX rfl rfl
  refine lv_aload_n hx hb dL_law_359 rfl (lv_at hl 2 rfl) ?_
  refine lv_aload_n hx hb dL_law_360 rfl (lv_at hl 3 rfl) ?_
  refine lv_iload_n hx hb dL_law_361 rfl (lv_at hl 0 rfl) ?_
  refine lv_iconst (v := 1) hx hb dL_law_362 (by decide) ?_
  refine lv_iadd hx hb dL_law_363 ?_
  refine va_sld hx hb hS hbl hbA hV.2.2 (l_in (t := 1) (by omega) hN 1 rfl) dL_law_364 ?_
  refine lv_aload_n hx hb dL_law_365 rfl (lv_at hl 3 rfl) ?_
  refine lv_iload_n hx hb dL_law_366 rfl (lv_at hl 0 rfl) ?_
  refine lv_iconst (v := 2) hx hb dL_law_367 (by decide) ?_
  refine lv_iadd hx hb dL_law_368 ?_
  refine va_sld hx hb hS hbl hbA hV.2.2 (l_in (t := 2) (by omega) hN 2 rfl) dL_law_369 ?_
  refine k_calli (va_runV (As := [.int (xs (nI i + 1).toNatClampNeg), .int (xs (nI i + 2).toNatClampNeg)]) (rest := []) ⟨hx, hb, hml, hown, hts⟩ (s_X7_at l D X ad 48 A J hWT 0 t0 (xs (nI i + 1).toNatClampNeg) (xs (nI i + 2).toNatClampNeg) I L _ (j_at hVJ hIv (xs (nI i + 1).toNatClampNeg) (xs (nI i + 2).toNatClampNeg))) (cwV 2 hts (gV tw_1_230 tw_1_231 tw_1_232 tw_1_1 tw_1_233) rfl rfl rfl (by decide +kernel) (by decide)) (k_preV (ci := 4) hK hV hA hZ t0 rfl _) rfl rfl hl.1 rfl (lv_room (Nat.le_of_ble_eq_true rfl)) dL_law_370 ⟨(Nat.le_of_ble_eq_true rfl), (Nat.le_of_ble_eq_true rfl)⟩) hV (fun r I1 L1 H locs h1 hV => ?_)
  refine lv_aload_n hx hb dL_law_373 rfl (lv_at hl 1 rfl) ?_
  refine lv_aload_n hx hb dL_law_374 rfl (lv_at hl 3 rfl) ?_
  refine lv_iload_n hx hb dL_law_375 rfl (lv_at hl 0 rfl) ?_
  refine lv_iconst (v := 1) hx hb dL_law_376 (by decide) ?_
  refine lv_iadd hx hb dL_law_377 ?_
  refine va_sld hx hb hS hbl hbA hV.2.2 (l_in (t := 1) (by omega) hN 1 rfl) dL_law_378 ?_
  refine lv_aload_n hx hb dL_law_379 rfl (lv_at hl 3 rfl) ?_
  refine lv_iload_n hx hb dL_law_380 rfl (lv_at hl 0 rfl) ?_
  refine lv_iconst (v := 2) hx hb dL_law_381 (by decide) ?_
  refine lv_iadd hx hb dL_law_382 ?_
  refine va_sld hx hb hS hbl hbA hV.2.2 (l_in (t := 2) (by omega) hN 2 rfl) dL_law_383 ?_
  refine k_calli (va_runV (As := [.int (xs (nI i + 1).toNatClampNeg), .int (xs (nI i + 2).toNatClampNeg)]) (rest := [.int r]) ⟨hx, hb, hml, hown, hts⟩ (s_X8_at l D X ad 48 A J hWT 38 t38 (xs (nI i + 1).toNatClampNeg) (xs (nI i + 2).toNatClampNeg) I1 L1 _ h1) (cwV 2 hts (gV tw_3_187 tw_3_188 tw_3_189 tw_1_9 tw_3_190) rfl rfl rfl (by decide +kernel) (by decide)) (k_preV (ci := 5) hK hV hA hZ t38 rfl _) rfl rfl hl.1 rfl (lv_room (Nat.le_of_ble_eq_true rfl)) dL_law_384 ⟨(Nat.le_of_ble_eq_true rfl), (Nat.le_of_ble_eq_true rfl)⟩) hV (fun r' I2 L2 H locs h2 hV => ?_)
  obtain ⟨er, S2, hIv2⟩ := h2
  exact lv_icmp_eq (tgt := 913) hx hb dL_law_387 (by decide) (fun _ => kk J I2 L2 H locs ⟨e0, S2, hVJ, hIv2, hWT⟩ hV) (fun z => absurd er z)
set_option maxHeartbeats 4000000 in
set_option maxRecDepth 100000 in
theorem lc_8 {p : Program} {l : Launch} {e : Env} {s : State} {m : MethodId} {below : List Frame} {meth : Method} {c : Code} {b N : Nat} {xs : Nat → Int32} {D : va_G} {X : XT} {ad : Nat → Nat} {A : Nat → Prop} {Q : State → Prop} (C0 : LX p s m c b N xs D X A) {i : Nat} (hi : i + 6 ≤ N) (hN : N ≤ 3072) {J : MJ} {I : MI} {L : ML} {H : Heap} {locs : List Loc} {ls : Array Slot} (hI : LI X J I) (hV : Wd D X ad 48 A s.heap J I L H locs) (hl : lv_has ls 4 [(3, .int (nI i)), (2, .ref (ad 38)), (1, .ref (ad 0)), (0, .ref b)])
    (kk : ∀ (J : MJ) (I : MI) (L : ML) (H : Heap) (locs : List Loc), LI X J I → Wd D X ad 48 A s.heap J I L H locs → W p l e room_1 s m #[Value.ref b] below meth c H locs 600000 7302250 Q (F0 m 913 ls [])) : W p l e room_1 s m #[Value.ref b] below meth c H locs 600000 7302250 Q (F0 m 392 ls []) := by
  obtain ⟨hx, hb, hml, hown, hts, hS, hbl, hbA, hK, hZ, hA, hX⟩ := C0
  obtain ⟨e0, S, hVJ, hIv, hWT⟩ := hI
  have t0 : Ty X 48 0 8 := tyX hX rfl rfl
  have t38 : Ty X 48 38 9 := tyX hX rfl rfl
  refine lv_aload_n hx hb dL_law_392 rfl (lv_at hl 2 rfl) ?_
  refine k_calli (va_runV (As := []) (rest := []) ⟨hx, hb, hml, hown, hts⟩ (s_X7_make l D X ad 48 A J hWT 0 t0  I L _ (j_make hVJ hIv )) (cwV 0 hts (gV tw_1_238 tw_1_239 tw_2_0 tw_1_1 tw_2_1) rfl rfl rfl (by decide +kernel) (by decide)) (k_preV (ci := 4) hK hV hA hZ t0 rfl _) rfl rfl hl.1 rfl (lv_room (Nat.le_of_ble_eq_true rfl)) dL_law_393 ⟨(Nat.le_of_ble_eq_true rfl), (Nat.le_of_ble_eq_true rfl)⟩) hV (fun r I1 L1 H locs h1 hV => ?_)
  refine lv_aload_n hx hb dL_law_396 rfl (lv_at hl 1 rfl) ?_
  refine k_calli (va_runV (As := []) (rest := [.int r]) ⟨hx, hb, hml, hown, hts⟩ (s_X8_make l D X ad 48 A J hWT 38 t38  I1 L1 _ h1) (cwV 0 hts (gV tw_3_195 tw_3_196 tw_3_197 tw_1_9 tw_3_198) rfl rfl rfl (by decide +kernel) (by decide)) (k_preV (ci := 5) hK hV hA hZ t38 rfl _) rfl rfl hl.1 rfl (lv_room (Nat.le_of_ble_eq_true rfl)) dL_law_397 ⟨(Nat.le_of_ble_eq_true rfl), (Nat.le_of_ble_eq_true rfl)⟩) hV (fun r' I2 L2 H locs h2 hV => ?_)
  obtain ⟨er, S2, hIv2⟩ := h2
  exact lv_icmp_eq (tgt := 913) hx hb dL_law_400 (by decide) (fun _ => kk J I2 L2 H locs ⟨e0, S2, hVJ, hIv2, hWT⟩ hV) (fun z => absurd er z)
set_option maxHeartbeats 4000000 in
set_option maxRecDepth 100000 in
theorem lc_9 {p : Program} {l : Launch} {e : Env} {s : State} {m : MethodId} {below : List Frame} {meth : Method} {c : Code} {b N : Nat} {xs : Nat → Int32} {D : va_G} {X : XT} {ad : Nat → Nat} {A : Nat → Prop} {Q : State → Prop} (C0 : LX p s m c b N xs D X A) {i : Nat} (hi : i + 6 ≤ N) (hN : N ≤ 3072) {J : MJ} {I : MI} {L : ML} {H : Heap} {locs : List Loc} {ls : Array Slot} (hI : LI X J I) (hV : Wd D X ad 48 A s.heap J I L H locs) (hl : lv_has ls 4 [(3, .int (nI i)), (2, .ref (ad 38)), (1, .ref (ad 0)), (0, .ref b)])
    (kk : ∀ (J : MJ) (I : MI) (L : ML) (H : Heap) (locs : List Loc), LI X J I → Wd D X ad 48 A s.heap J I L H locs → W p l e room_1 s m #[Value.ref b] below meth c H locs 600000 7302250 Q (F0 m 913 ls [])) : W p l e room_1 s m #[Value.ref b] below meth c H locs 600000 7302250 Q (F0 m 405 ls []) := by
  obtain ⟨hx, hb, hml, hown, hts, hS, hbl, hbA, hK, hZ, hA, hX⟩ := C0
  obtain ⟨e0, S, hVJ, hIv, hWT⟩ := hI
  have t0 : Ty X 48 0 8 := tyX hX rfl rfl
  have t38 : Ty X 48 38 9 := tyX hX rfl rfl
  refine lv_aload_n hx hb dL_law_405 rfl (lv_at hl 2 rfl) ?_
  refine lv_aload_n hx hb dL_law_406 rfl (lv_at hl 3 rfl) ?_
  refine lv_iload_n hx hb dL_law_407 rfl (lv_at hl 0 rfl) ?_
  refine lv_iconst (v := 1) hx hb dL_law_408 (by decide) ?_
  refine lv_iadd hx hb dL_law_409 ?_
  refine va_sld hx hb hS hbl hbA hV.2.2 (l_in (t := 1) (by omega) hN 1 rfl) dL_law_410 ?_
  refine k_calli (va_runV (As := [.int (xs (nI i + 1).toNatClampNeg)]) (rest := []) ⟨hx, hb, hml, hown, hts⟩ (s_X7_load l D X ad 48 A J hWT 0 t0 (xs (nI i + 1).toNatClampNeg) I L _ (j_load hVJ hIv (xs (nI i + 1).toNatClampNeg))) (cwV 1 hts (gV tw_2_135 tw_2_136 tw_2_137 tw_1_1 tw_2_138) rfl rfl rfl (by decide +kernel) (by decide)) (k_preV (ci := 4) hK hV hA hZ t0 rfl _) rfl rfl hl.1 rfl (lv_room (Nat.le_of_ble_eq_true rfl)) dL_law_411 ⟨(Nat.le_of_ble_eq_true rfl), (Nat.le_of_ble_eq_true rfl)⟩) hV (fun r I1 L1 H locs h1 hV => ?_)
  refine lv_aload_n hx hb dL_law_414 rfl (lv_at hl 1 rfl) ?_
  refine lv_aload_n hx hb dL_law_415 rfl (lv_at hl 3 rfl) ?_
  refine lv_iload_n hx hb dL_law_416 rfl (lv_at hl 0 rfl) ?_
  refine lv_iconst (v := 1) hx hb dL_law_417 (by decide) ?_
  refine lv_iadd hx hb dL_law_418 ?_
  refine va_sld hx hb hS hbl hbA hV.2.2 (l_in (t := 1) (by omega) hN 1 rfl) dL_law_419 ?_
  refine k_calli (va_runV (As := [.int (xs (nI i + 1).toNatClampNeg)]) (rest := [.int r]) ⟨hx, hb, hml, hown, hts⟩ (s_X8_load l D X ad 48 A J hWT 38 t38 (xs (nI i + 1).toNatClampNeg) I1 L1 _ h1) (cwV 1 hts (gV tw_4_39 tw_4_40 tw_4_41 tw_1_9 tw_4_42) rfl rfl rfl (by decide +kernel) (by decide)) (k_preV (ci := 5) hK hV hA hZ t38 rfl _) rfl rfl hl.1 rfl (lv_room (Nat.le_of_ble_eq_true rfl)) dL_law_420 ⟨(Nat.le_of_ble_eq_true rfl), (Nat.le_of_ble_eq_true rfl)⟩) hV (fun r' I2 L2 H locs h2 hV => ?_)
  obtain ⟨er, S2, hIv2⟩ := h2
  exact lv_icmp_eq (tgt := 913) hx hb dL_law_423 (by decide) (fun _ => kk J I2 L2 H locs ⟨e0, S2, hVJ, hIv2, hWT⟩ hV) (fun z => absurd er z)
set_option maxHeartbeats 4000000 in
set_option maxRecDepth 100000 in
theorem lc_10 {p : Program} {l : Launch} {e : Env} {s : State} {m : MethodId} {below : List Frame} {meth : Method} {c : Code} {b N : Nat} {xs : Nat → Int32} {D : va_G} {X : XT} {ad : Nat → Nat} {A : Nat → Prop} {Q : State → Prop} (C0 : LX p s m c b N xs D X A) {i : Nat} (hi : i + 6 ≤ N) (hN : N ≤ 3072) {J : MJ} {I : MI} {L : ML} {H : Heap} {locs : List Loc} {ls : Array Slot} (hI : LI X J I) (hV : Wd D X ad 48 A s.heap J I L H locs) (hl : lv_has ls 4 [(3, .int (nI i)), (2, .ref (ad 38)), (1, .ref (ad 0)), (0, .ref b)])
    (kk : ∀ (J : MJ) (I : MI) (L : ML) (H : Heap) (locs : List Loc), LI X J I → Wd D X ad 48 A s.heap J I L H locs → W p l e room_1 s m #[Value.ref b] below meth c H locs 600000 7302250 Q (F0 m 913 ls [])) : W p l e room_1 s m #[Value.ref b] below meth c H locs 600000 7302250 Q (F0 m 428 ls []) := by
  obtain ⟨hx, hb, hml, hown, hts, hS, hbl, hbA, hK, hZ, hA, hX⟩ := C0
  obtain ⟨e0, S, hVJ, hIv, hWT⟩ := hI
  have t0 : Ty X 48 0 8 := tyX hX rfl rfl
  have t38 : Ty X 48 38 9 := tyX hX rfl rfl
  refine lv_aload_n hx hb dL_law_428 rfl (lv_at hl 2 rfl) ?_
  refine k_calli (va_runV (As := []) (rest := []) ⟨hx, hb, hml, hown, hts⟩ (s_X7_wrap l D X ad 48 A J hWT 0 t0  I L _ (j_wrap hVJ hIv )) (cwV 0 hts (gV tw_2_165 tw_2_166 tw_2_167 tw_1_1 tw_2_168) rfl rfl rfl (by decide +kernel) (by decide)) (k_preV (ci := 4) hK hV hA hZ t0 rfl _) rfl rfl hl.1 rfl (lv_room (Nat.le_of_ble_eq_true rfl)) dL_law_429 ⟨(Nat.le_of_ble_eq_true rfl), (Nat.le_of_ble_eq_true rfl)⟩) hV (fun r I1 L1 H locs h1 hV => ?_)
  refine lv_aload_n hx hb dL_law_432 rfl (lv_at hl 1 rfl) ?_
  refine k_calli (va_runV (As := []) (rest := [.int r]) ⟨hx, hb, hml, hown, hts⟩ (s_X8_wrap l D X ad 48 A J hWT 38 t38  I1 L1 _ h1) (cwV 0 hts (gV tw_4_59 tw_4_60 tw_4_61 tw_1_9 tw_4_62) rfl rfl rfl (by decide +kernel) (by decide)) (k_preV (ci := 5) hK hV hA hZ t38 rfl _) rfl rfl hl.1 rfl (lv_room (Nat.le_of_ble_eq_true rfl)) dL_law_433 ⟨(Nat.le_of_ble_eq_true rfl), (Nat.le_of_ble_eq_true rfl)⟩) hV (fun r' I2 L2 H locs h2 hV => ?_)
  obtain ⟨er, S2, hIv2⟩ := h2
  exact lv_icmp_eq (tgt := 913) hx hb dL_law_436 (by decide) (fun _ => kk J I2 L2 H locs ⟨e0, S2, hVJ, hIv2, hWT⟩ hV) (fun z => absurd er z)
set_option maxHeartbeats 4000000 in
set_option maxRecDepth 100000 in
theorem lc_11 {p : Program} {l : Launch} {e : Env} {s : State} {m : MethodId} {below : List Frame} {meth : Method} {c : Code} {b N : Nat} {xs : Nat → Int32} {D : va_G} {X : XT} {ad : Nat → Nat} {A : Nat → Prop} {Q : State → Prop} (C0 : LX p s m c b N xs D X A) {i : Nat} (hi : i + 6 ≤ N) (hN : N ≤ 3072) {J : MJ} {I : MI} {L : ML} {H : Heap} {locs : List Loc} {ls : Array Slot} (hI : LI X J I) (hV : Wd D X ad 48 A s.heap J I L H locs) (hl : lv_has ls 4 [(3, .int (nI i)), (2, .ref (ad 38)), (1, .ref (ad 0)), (0, .ref b)])
    (kk : ∀ (J : MJ) (I : MI) (L : ML) (H : Heap) (locs : List Loc), LI X J I → Wd D X ad 48 A s.heap J I L H locs → W p l e room_1 s m #[Value.ref b] below meth c H locs 600000 7302250 Q (F0 m 913 ls [])) : W p l e room_1 s m #[Value.ref b] below meth c H locs 600000 7302250 Q (F0 m 441 ls []) := by
  obtain ⟨hx, hb, hml, hown, hts, hS, hbl, hbA, hK, hZ, hA, hX⟩ := C0
  obtain ⟨e0, S, hVJ, hIv, hWT⟩ := hI
  have t0 : Ty X 48 0 8 := tyX hX rfl rfl
  have t38 : Ty X 48 38 9 := tyX hX rfl rfl
  refine lv_aload_n hx hb dL_law_441 rfl (lv_at hl 2 rfl) ?_
  refine k_calli (va_runV (As := []) (rest := []) ⟨hx, hb, hml, hown, hts⟩ (s_X7_unwrap l D X ad 48 A J hWT 0 t0  I L _ (j_unwrap hVJ hIv )) (cwV 0 hts (gV tw_2_215 tw_2_216 tw_2_217 tw_1_1 tw_2_218) rfl rfl rfl (by decide +kernel) (by decide)) (k_preV (ci := 4) hK hV hA hZ t0 rfl _) rfl rfl hl.1 rfl (lv_room (Nat.le_of_ble_eq_true rfl)) dL_law_442 ⟨(Nat.le_of_ble_eq_true rfl), (Nat.le_of_ble_eq_true rfl)⟩) hV (fun r I1 L1 H locs h1 hV => ?_)
  refine lv_aload_n hx hb dL_law_445 rfl (lv_at hl 1 rfl) ?_
  refine k_calli (va_runV (As := []) (rest := [.int r]) ⟨hx, hb, hml, hown, hts⟩ (s_X8_unwrap l D X ad 48 A J hWT 38 t38  I1 L1 _ h1) (cwV 0 hts (gV tw_4_94 tw_4_95 tw_4_96 tw_1_9 tw_4_97) rfl rfl rfl (by decide +kernel) (by decide)) (k_preV (ci := 5) hK hV hA hZ t38 rfl _) rfl rfl hl.1 rfl (lv_room (Nat.le_of_ble_eq_true rfl)) dL_law_446 ⟨(Nat.le_of_ble_eq_true rfl), (Nat.le_of_ble_eq_true rfl)⟩) hV (fun r' I2 L2 H locs h2 hV => ?_)
  obtain ⟨er, S2, hIv2⟩ := h2
  exact lv_icmp_eq (tgt := 913) hx hb dL_law_449 (by decide) (fun _ => kk J I2 L2 H locs ⟨e0, S2, hVJ, hIv2, hWT⟩ hV) (fun z => absurd er z)
set_option maxHeartbeats 4000000 in
set_option maxRecDepth 100000 in
theorem lc_12 {p : Program} {l : Launch} {e : Env} {s : State} {m : MethodId} {below : List Frame} {meth : Method} {c : Code} {b N : Nat} {xs : Nat → Int32} {D : va_G} {X : XT} {ad : Nat → Nat} {A : Nat → Prop} {Q : State → Prop} (C0 : LX p s m c b N xs D X A) {i : Nat} (hi : i + 6 ≤ N) (hN : N ≤ 3072) {J : MJ} {I : MI} {L : ML} {H : Heap} {locs : List Loc} {ls : Array Slot} (hI : LI X J I) (hV : Wd D X ad 48 A s.heap J I L H locs) (hl : lv_has ls 4 [(3, .int (nI i)), (2, .ref (ad 38)), (1, .ref (ad 0)), (0, .ref b)])
    (kk : ∀ (J : MJ) (I : MI) (L : ML) (H : Heap) (locs : List Loc), LI X J I → Wd D X ad 48 A s.heap J I L H locs → W p l e room_1 s m #[Value.ref b] below meth c H locs 600000 7302250 Q (F0 m 913 ls [])) : W p l e room_1 s m #[Value.ref b] below meth c H locs 600000 7302250 Q (F0 m 454 ls []) := by
  obtain ⟨hx, hb, hml, hown, hts, hS, hbl, hbA, hK, hZ, hA, hX⟩ := C0
  obtain ⟨e0, S, hVJ, hIv, hWT⟩ := hI
  have t0 : Ty X 48 0 8 := tyX hX rfl rfl
  have t38 : Ty X 48 38 9 := tyX hX rfl rfl
  refine lv_aload_n hx hb dL_law_454 rfl (lv_at hl 2 rfl) ?_
  refine lv_aload_n hx hb dL_law_455 rfl (lv_at hl 3 rfl) ?_
  refine lv_iload_n hx hb dL_law_456 rfl (lv_at hl 0 rfl) ?_
  refine lv_iconst (v := 1) hx hb dL_law_457 (by decide) ?_
  refine lv_iadd hx hb dL_law_458 ?_
  refine va_sld hx hb hS hbl hbA hV.2.2 (l_in (t := 1) (by omega) hN 1 rfl) dL_law_459 ?_
  refine lv_aload_n hx hb dL_law_460 rfl (lv_at hl 3 rfl) ?_
  refine lv_iload_n hx hb dL_law_461 rfl (lv_at hl 0 rfl) ?_
  refine lv_iconst (v := 2) hx hb dL_law_462 (by decide) ?_
  refine lv_iadd hx hb dL_law_463 ?_
  refine va_sld hx hb hS hbl hbA hV.2.2 (l_in (t := 2) (by omega) hN 2 rfl) dL_law_464 ?_
  refine k_calli (va_runV (As := [.int (xs (nI i + 1).toNatClampNeg), .int (xs (nI i + 2).toNatClampNeg)]) (rest := []) ⟨hx, hb, hml, hown, hts⟩ (s_X7_hash l D X ad 48 A J hWT 0 t0 (xs (nI i + 1).toNatClampNeg) (xs (nI i + 2).toNatClampNeg) I L _ (j_hash hVJ hIv (xs (nI i + 1).toNatClampNeg) (xs (nI i + 2).toNatClampNeg))) (cwV 2 hts (gV tw_2_234 tw_2_235 tw_2_236 tw_1_1 tw_2_237) rfl rfl rfl (by decide +kernel) (by decide)) (k_preV (ci := 4) hK hV hA hZ t0 rfl _) rfl rfl hl.1 rfl (lv_room (Nat.le_of_ble_eq_true rfl)) dL_law_465 ⟨(Nat.le_of_ble_eq_true rfl), (Nat.le_of_ble_eq_true rfl)⟩) hV (fun r I1 L1 H locs h1 hV => ?_)
  refine lv_aload_n hx hb dL_law_468 rfl (lv_at hl 1 rfl) ?_
  refine lv_aload_n hx hb dL_law_469 rfl (lv_at hl 3 rfl) ?_
  refine lv_iload_n hx hb dL_law_470 rfl (lv_at hl 0 rfl) ?_
  refine lv_iconst (v := 1) hx hb dL_law_471 (by decide) ?_
  refine lv_iadd hx hb dL_law_472 ?_
  refine va_sld hx hb hS hbl hbA hV.2.2 (l_in (t := 1) (by omega) hN 1 rfl) dL_law_473 ?_
  refine lv_aload_n hx hb dL_law_474 rfl (lv_at hl 3 rfl) ?_
  refine lv_iload_n hx hb dL_law_475 rfl (lv_at hl 0 rfl) ?_
  refine lv_iconst (v := 2) hx hb dL_law_476 (by decide) ?_
  refine lv_iadd hx hb dL_law_477 ?_
  refine va_sld hx hb hS hbl hbA hV.2.2 (l_in (t := 2) (by omega) hN 2 rfl) dL_law_478 ?_
  refine k_calli (va_runV (As := [.int (xs (nI i + 1).toNatClampNeg), .int (xs (nI i + 2).toNatClampNeg)]) (rest := [.int r]) ⟨hx, hb, hml, hown, hts⟩ (s_X8_hash l D X ad 48 A J hWT 38 t38 (xs (nI i + 1).toNatClampNeg) (xs (nI i + 2).toNatClampNeg) I1 L1 _ h1) (cwV 2 hts (gV tw_4_102 tw_4_103 tw_4_104 tw_1_9 tw_4_105) rfl rfl rfl (by decide +kernel) (by decide)) (k_preV (ci := 5) hK hV hA hZ t38 rfl _) rfl rfl hl.1 rfl (lv_room (Nat.le_of_ble_eq_true rfl)) dL_law_479 ⟨(Nat.le_of_ble_eq_true rfl), (Nat.le_of_ble_eq_true rfl)⟩) hV (fun r' I2 L2 H locs h2 hV => ?_)
  obtain ⟨er, S2, hIv2⟩ := h2
  exact lv_icmp_eq (tgt := 913) hx hb dL_law_482 (by decide) (fun _ => kk J I2 L2 H locs ⟨e0, S2, hVJ, hIv2, hWT⟩ hV) (fun z => absurd er z)
set_option maxHeartbeats 4000000 in
set_option maxRecDepth 100000 in
theorem lc_13 {p : Program} {l : Launch} {e : Env} {s : State} {m : MethodId} {below : List Frame} {meth : Method} {c : Code} {b N : Nat} {xs : Nat → Int32} {D : va_G} {X : XT} {ad : Nat → Nat} {A : Nat → Prop} {Q : State → Prop} (C0 : LX p s m c b N xs D X A) {i : Nat} (hi : i + 6 ≤ N) (hN : N ≤ 3072) {J : MJ} {I : MI} {L : ML} {H : Heap} {locs : List Loc} {ls : Array Slot} (hI : LI X J I) (hV : Wd D X ad 48 A s.heap J I L H locs) (hl : lv_has ls 4 [(3, .int (nI i)), (2, .ref (ad 38)), (1, .ref (ad 0)), (0, .ref b)])
    (kk : ∀ (J : MJ) (I : MI) (L : ML) (H : Heap) (locs : List Loc), LI X J I → Wd D X ad 48 A s.heap J I L H locs → W p l e room_1 s m #[Value.ref b] below meth c H locs 600000 7302250 Q (F0 m 913 ls [])) : W p l e room_1 s m #[Value.ref b] below meth c H locs 600000 7302250 Q (F0 m 487 ls []) := by
  obtain ⟨hx, hb, hml, hown, hts, hS, hbl, hbA, hK, hZ, hA, hX⟩ := C0
  obtain ⟨e0, S, hVJ, hIv, hWT⟩ := hI
  have t0 : Ty X 48 0 8 := tyX hX rfl rfl
  have t38 : Ty X 48 38 9 := tyX hX rfl rfl
  refine lv_aload_n hx hb dL_law_487 rfl (lv_at hl 2 rfl) ?_
  refine lv_aload_n hx hb dL_law_488 rfl (lv_at hl 3 rfl) ?_
  refine lv_iload_n hx hb dL_law_489 rfl (lv_at hl 0 rfl) ?_
  refine lv_iconst (v := 1) hx hb dL_law_490 (by decide) ?_
  refine lv_iadd hx hb dL_law_491 ?_
  refine va_sld hx hb hS hbl hbA hV.2.2 (l_in (t := 1) (by omega) hN 1 rfl) dL_law_492 ?_
  refine lv_aload_n hx hb dL_law_493 rfl (lv_at hl 3 rfl) ?_
  refine lv_iload_n hx hb dL_law_494 rfl (lv_at hl 0 rfl) ?_
  refine lv_iconst (v := 2) hx hb dL_law_495 (by decide) ?_
  refine lv_iadd hx hb dL_law_496 ?_
  refine va_sld hx hb hS hbl hbA hV.2.2 (l_in (t := 2) (by omega) hN 2 rfl) dL_law_497 ?_
  refine lv_aload_n hx hb dL_law_498 rfl (lv_at hl 3 rfl) ?_
  refine lv_iload_n hx hb dL_law_499 rfl (lv_at hl 0 rfl) ?_
  refine lv_iconst (v := 3) hx hb dL_law_500 (by decide) ?_
  refine lv_iadd hx hb dL_law_501 ?_
  refine va_sld hx hb hS hbl hbA hV.2.2 (l_in (t := 3) (by omega) hN 3 rfl) dL_law_502 ?_
  refine k_calli (va_runV (As := [.int (xs (nI i + 1).toNatClampNeg), .int (xs (nI i + 2).toNatClampNeg), .int (xs (nI i + 3).toNatClampNeg)]) (rest := []) ⟨hx, hb, hml, hown, hts⟩ (s_X7_put l D X ad 48 A J hWT 0 t0 (xs (nI i + 1).toNatClampNeg) (xs (nI i + 2).toNatClampNeg) (xs (nI i + 3).toNatClampNeg) I L _ (j_put hVJ hIv (xs (nI i + 1).toNatClampNeg) (xs (nI i + 2).toNatClampNeg) (xs (nI i + 3).toNatClampNeg))) (cwV 3 hts (gV tw_3_5 tw_3_6 tw_3_7 tw_1_1 tw_3_8) rfl rfl rfl (by decide +kernel) (by decide)) (k_preV (ci := 4) hK hV hA hZ t0 rfl _) rfl rfl hl.1 rfl (lv_room (Nat.le_of_ble_eq_true rfl)) dL_law_503 ⟨(Nat.le_of_ble_eq_true rfl), (Nat.le_of_ble_eq_true rfl)⟩) hV (fun r I1 L1 H locs h1 hV => ?_)
  refine lv_aload_n hx hb dL_law_506 rfl (lv_at hl 1 rfl) ?_
  refine lv_aload_n hx hb dL_law_507 rfl (lv_at hl 3 rfl) ?_
  refine lv_iload_n hx hb dL_law_508 rfl (lv_at hl 0 rfl) ?_
  refine lv_iconst (v := 1) hx hb dL_law_509 (by decide) ?_
  refine lv_iadd hx hb dL_law_510 ?_
  refine va_sld hx hb hS hbl hbA hV.2.2 (l_in (t := 1) (by omega) hN 1 rfl) dL_law_511 ?_
  refine lv_aload_n hx hb dL_law_512 rfl (lv_at hl 3 rfl) ?_
  refine lv_iload_n hx hb dL_law_513 rfl (lv_at hl 0 rfl) ?_
  refine lv_iconst (v := 2) hx hb dL_law_514 (by decide) ?_
  refine lv_iadd hx hb dL_law_515 ?_
  refine va_sld hx hb hS hbl hbA hV.2.2 (l_in (t := 2) (by omega) hN 2 rfl) dL_law_516 ?_
  refine lv_aload_n hx hb dL_law_517 rfl (lv_at hl 3 rfl) ?_
  refine lv_iload_n hx hb dL_law_518 rfl (lv_at hl 0 rfl) ?_
  refine lv_iconst (v := 3) hx hb dL_law_519 (by decide) ?_
  refine lv_iadd hx hb dL_law_520 ?_
  refine va_sld hx hb hS hbl hbA hV.2.2 (l_in (t := 3) (by omega) hN 3 rfl) dL_law_521 ?_
  refine k_calli (va_runV (As := [.int (xs (nI i + 1).toNatClampNeg), .int (xs (nI i + 2).toNatClampNeg), .int (xs (nI i + 3).toNatClampNeg)]) (rest := [.int r]) ⟨hx, hb, hml, hown, hts⟩ (s_X8_put l D X ad 48 A J hWT 38 t38 (xs (nI i + 1).toNatClampNeg) (xs (nI i + 2).toNatClampNeg) (xs (nI i + 3).toNatClampNeg) I1 L1 _ h1) (cwV 3 hts (gV tw_4_106 tw_4_107 tw_4_108 tw_1_9 tw_4_109) rfl rfl rfl (by decide +kernel) (by decide)) (k_preV (ci := 5) hK hV hA hZ t38 rfl _) rfl rfl hl.1 rfl (lv_room (Nat.le_of_ble_eq_true rfl)) dL_law_522 ⟨(Nat.le_of_ble_eq_true rfl), (Nat.le_of_ble_eq_true rfl)⟩) hV (fun r' I2 L2 H locs h2 hV => ?_)
  obtain ⟨er, S2, hIv2⟩ := h2
  exact lv_icmp_eq (tgt := 913) hx hb dL_law_525 (by decide) (fun _ => kk J I2 L2 H locs ⟨e0, S2, hVJ, hIv2, hWT⟩ hV) (fun z => absurd er z)
set_option maxHeartbeats 4000000 in
set_option maxRecDepth 100000 in
theorem lc_14 {p : Program} {l : Launch} {e : Env} {s : State} {m : MethodId} {below : List Frame} {meth : Method} {c : Code} {b N : Nat} {xs : Nat → Int32} {D : va_G} {X : XT} {ad : Nat → Nat} {A : Nat → Prop} {Q : State → Prop} (C0 : LX p s m c b N xs D X A) {i : Nat} (hi : i + 6 ≤ N) (hN : N ≤ 3072) {J : MJ} {I : MI} {L : ML} {H : Heap} {locs : List Loc} {ls : Array Slot} (hI : LI X J I) (hV : Wd D X ad 48 A s.heap J I L H locs) (hl : lv_has ls 4 [(3, .int (nI i)), (2, .ref (ad 38)), (1, .ref (ad 0)), (0, .ref b)])
    (kk : ∀ (J : MJ) (I : MI) (L : ML) (H : Heap) (locs : List Loc), LI X J I → Wd D X ad 48 A s.heap J I L H locs → W p l e room_1 s m #[Value.ref b] below meth c H locs 600000 7302250 Q (F0 m 913 ls [])) : W p l e room_1 s m #[Value.ref b] below meth c H locs 600000 7302250 Q (F0 m 530 ls []) := by
  obtain ⟨hx, hb, hml, hown, hts, hS, hbl, hbA, hK, hZ, hA, hX⟩ := C0
  obtain ⟨e0, S, hVJ, hIv, hWT⟩ := hI
  have t0 : Ty X 48 0 8 := tyX hX rfl rfl
  have t38 : Ty X 48 38 9 := tyX hX rfl rfl
  refine lv_aload_n hx hb dL_law_530 rfl (lv_at hl 2 rfl) ?_
  refine lv_aload_n hx hb dL_law_531 rfl (lv_at hl 3 rfl) ?_
  refine lv_iload_n hx hb dL_law_532 rfl (lv_at hl 0 rfl) ?_
  refine lv_iconst (v := 1) hx hb dL_law_533 (by decide) ?_
  refine lv_iadd hx hb dL_law_534 ?_
  refine va_sld hx hb hS hbl hbA hV.2.2 (l_in (t := 1) (by omega) hN 1 rfl) dL_law_535 ?_
  refine lv_aload_n hx hb dL_law_536 rfl (lv_at hl 3 rfl) ?_
  refine lv_iload_n hx hb dL_law_537 rfl (lv_at hl 0 rfl) ?_
  refine lv_iconst (v := 2) hx hb dL_law_538 (by decide) ?_
  refine lv_iadd hx hb dL_law_539 ?_
  refine va_sld hx hb hS hbl hbA hV.2.2 (l_in (t := 2) (by omega) hN 2 rfl) dL_law_540 ?_
  refine k_calli (va_runV (As := [.int (xs (nI i + 1).toNatClampNeg), .int (xs (nI i + 2).toNatClampNeg)]) (rest := []) ⟨hx, hb, hml, hown, hts⟩ (s_X7_number l D X ad 48 A J hWT 0 t0 (xs (nI i + 1).toNatClampNeg) (xs (nI i + 2).toNatClampNeg) I L _ (j_number hVJ hIv (xs (nI i + 1).toNatClampNeg) (xs (nI i + 2).toNatClampNeg))) (cwV 2 hts (gV tw_3_15 tw_3_16 tw_3_17 tw_1_1 tw_3_18) rfl rfl rfl (by decide +kernel) (by decide)) (k_preV (ci := 4) hK hV hA hZ t0 rfl _) rfl rfl hl.1 rfl (lv_room (Nat.le_of_ble_eq_true rfl)) dL_law_541 ⟨(Nat.le_of_ble_eq_true rfl), (Nat.le_of_ble_eq_true rfl)⟩) hV (fun r I1 L1 H locs h1 hV => ?_)
  refine lv_aload_n hx hb dL_law_544 rfl (lv_at hl 1 rfl) ?_
  refine lv_aload_n hx hb dL_law_545 rfl (lv_at hl 3 rfl) ?_
  refine lv_iload_n hx hb dL_law_546 rfl (lv_at hl 0 rfl) ?_
  refine lv_iconst (v := 1) hx hb dL_law_547 (by decide) ?_
  refine lv_iadd hx hb dL_law_548 ?_
  refine va_sld hx hb hS hbl hbA hV.2.2 (l_in (t := 1) (by omega) hN 1 rfl) dL_law_549 ?_
  refine lv_aload_n hx hb dL_law_550 rfl (lv_at hl 3 rfl) ?_
  refine lv_iload_n hx hb dL_law_551 rfl (lv_at hl 0 rfl) ?_
  refine lv_iconst (v := 2) hx hb dL_law_552 (by decide) ?_
  refine lv_iadd hx hb dL_law_553 ?_
  refine va_sld hx hb hS hbl hbA hV.2.2 (l_in (t := 2) (by omega) hN 2 rfl) dL_law_554 ?_
  refine k_calli (va_runV (As := [.int (xs (nI i + 1).toNatClampNeg), .int (xs (nI i + 2).toNatClampNeg)]) (rest := [.int r]) ⟨hx, hb, hml, hown, hts⟩ (s_X8_number l D X ad 48 A J hWT 38 t38 (xs (nI i + 1).toNatClampNeg) (xs (nI i + 2).toNatClampNeg) I1 L1 _ h1) (cwV 2 hts (gV tw_4_113 tw_4_114 tw_4_115 tw_1_9 tw_4_116) rfl rfl rfl (by decide +kernel) (by decide)) (k_preV (ci := 5) hK hV hA hZ t38 rfl _) rfl rfl hl.1 rfl (lv_room (Nat.le_of_ble_eq_true rfl)) dL_law_555 ⟨(Nat.le_of_ble_eq_true rfl), (Nat.le_of_ble_eq_true rfl)⟩) hV (fun r' I2 L2 H locs h2 hV => ?_)
  obtain ⟨er, S2, hIv2⟩ := h2
  exact lv_icmp_eq (tgt := 913) hx hb dL_law_558 (by decide) (fun _ => kk J I2 L2 H locs ⟨e0, S2, hVJ, hIv2, hWT⟩ hV) (fun z => absurd er z)
set_option maxHeartbeats 4000000 in
set_option maxRecDepth 100000 in
theorem lc_15 {p : Program} {l : Launch} {e : Env} {s : State} {m : MethodId} {below : List Frame} {meth : Method} {c : Code} {b N : Nat} {xs : Nat → Int32} {D : va_G} {X : XT} {ad : Nat → Nat} {A : Nat → Prop} {Q : State → Prop} (C0 : LX p s m c b N xs D X A) {i : Nat} (hi : i + 6 ≤ N) (hN : N ≤ 3072) {J : MJ} {I : MI} {L : ML} {H : Heap} {locs : List Loc} {ls : Array Slot} (hI : LI X J I) (hV : Wd D X ad 48 A s.heap J I L H locs) (hl : lv_has ls 4 [(3, .int (nI i)), (2, .ref (ad 38)), (1, .ref (ad 0)), (0, .ref b)])
    (kk : ∀ (J : MJ) (I : MI) (L : ML) (H : Heap) (locs : List Loc), LI X J I → Wd D X ad 48 A s.heap J I L H locs → W p l e room_1 s m #[Value.ref b] below meth c H locs 600000 7302250 Q (F0 m 913 ls [])) : W p l e room_1 s m #[Value.ref b] below meth c H locs 600000 7302250 Q (F0 m 563 ls []) := by
  obtain ⟨hx, hb, hml, hown, hts, hS, hbl, hbA, hK, hZ, hA, hX⟩ := C0
  obtain ⟨e0, S, hVJ, hIv, hWT⟩ := hI
  have t0 : Ty X 48 0 8 := tyX hX rfl rfl
  have t38 : Ty X 48 38 9 := tyX hX rfl rfl
  refine lv_aload_n hx hb dL_law_563 rfl (lv_at hl 2 rfl) ?_
  refine lv_aload_n hx hb dL_law_564 rfl (lv_at hl 3 rfl) ?_
  refine lv_iload_n hx hb dL_law_565 rfl (lv_at hl 0 rfl) ?_
  refine lv_iconst (v := 1) hx hb dL_law_566 (by decide) ?_
  refine lv_iadd hx hb dL_law_567 ?_
  refine va_sld hx hb hS hbl hbA hV.2.2 (l_in (t := 1) (by omega) hN 1 rfl) dL_law_568 ?_
  refine k_calli (va_runV (As := [.int (xs (nI i + 1).toNatClampNeg)]) (rest := []) ⟨hx, hb, hml, hown, hts⟩ (s_X7_forward l D X ad 48 A J hWT 0 t0 (xs (nI i + 1).toNatClampNeg) I L _ (j_forward hVJ hIv (xs (nI i + 1).toNatClampNeg))) (cwV 1 hts (gV tw_3_19 tw_3_20 tw_3_21 tw_1_1 tw_3_22) rfl rfl rfl (by decide +kernel) (by decide)) (k_preV (ci := 4) hK hV hA hZ t0 rfl _) rfl rfl hl.1 rfl (lv_room (Nat.le_of_ble_eq_true rfl)) dL_law_569 ⟨(Nat.le_of_ble_eq_true rfl), (Nat.le_of_ble_eq_true rfl)⟩) hV (fun r I1 L1 H locs h1 hV => ?_)
  refine lv_aload_n hx hb dL_law_572 rfl (lv_at hl 1 rfl) ?_
  refine lv_aload_n hx hb dL_law_573 rfl (lv_at hl 3 rfl) ?_
  refine lv_iload_n hx hb dL_law_574 rfl (lv_at hl 0 rfl) ?_
  refine lv_iconst (v := 1) hx hb dL_law_575 (by decide) ?_
  refine lv_iadd hx hb dL_law_576 ?_
  refine va_sld hx hb hS hbl hbA hV.2.2 (l_in (t := 1) (by omega) hN 1 rfl) dL_law_577 ?_
  refine k_calli (va_runV (As := [.int (xs (nI i + 1).toNatClampNeg)]) (rest := [.int r]) ⟨hx, hb, hml, hown, hts⟩ (s_X8_forward l D X ad 48 A J hWT 38 t38 (xs (nI i + 1).toNatClampNeg) I1 L1 _ h1) (cwV 1 hts (gV tw_4_117 tw_4_118 tw_4_119 tw_1_9 tw_4_120) rfl rfl rfl (by decide +kernel) (by decide)) (k_preV (ci := 5) hK hV hA hZ t38 rfl _) rfl rfl hl.1 rfl (lv_room (Nat.le_of_ble_eq_true rfl)) dL_law_578 ⟨(Nat.le_of_ble_eq_true rfl), (Nat.le_of_ble_eq_true rfl)⟩) hV (fun r' I2 L2 H locs h2 hV => ?_)
  obtain ⟨er, S2, hIv2⟩ := h2
  exact lv_icmp_eq (tgt := 913) hx hb dL_law_581 (by decide) (fun _ => kk J I2 L2 H locs ⟨e0, S2, hVJ, hIv2, hWT⟩ hV) (fun z => absurd er z)
set_option maxHeartbeats 4000000 in
set_option maxRecDepth 100000 in
theorem lc_16 {p : Program} {l : Launch} {e : Env} {s : State} {m : MethodId} {below : List Frame} {meth : Method} {c : Code} {b N : Nat} {xs : Nat → Int32} {D : va_G} {X : XT} {ad : Nat → Nat} {A : Nat → Prop} {Q : State → Prop} (C0 : LX p s m c b N xs D X A) {i : Nat} (hi : i + 6 ≤ N) (hN : N ≤ 3072) {J : MJ} {I : MI} {L : ML} {H : Heap} {locs : List Loc} {ls : Array Slot} (hI : LI X J I) (hV : Wd D X ad 48 A s.heap J I L H locs) (hl : lv_has ls 4 [(3, .int (nI i)), (2, .ref (ad 38)), (1, .ref (ad 0)), (0, .ref b)])
    (kk : ∀ (J : MJ) (I : MI) (L : ML) (H : Heap) (locs : List Loc), LI X J I → Wd D X ad 48 A s.heap J I L H locs → W p l e room_1 s m #[Value.ref b] below meth c H locs 600000 7302250 Q (F0 m 913 ls [])) : W p l e room_1 s m #[Value.ref b] below meth c H locs 600000 7302250 Q (F0 m 586 ls []) := by
  obtain ⟨hx, hb, hml, hown, hts, hS, hbl, hbA, hK, hZ, hA, hX⟩ := C0
  obtain ⟨e0, S, hVJ, hIv, hWT⟩ := hI
  have t0 : Ty X 48 0 8 := tyX hX rfl rfl
  have t38 : Ty X 48 38 9 := tyX hX rfl rfl
  refine lv_aload_n hx hb dL_law_586 rfl (lv_at hl 2 rfl) ?_
  refine lv_aload_n hx hb dL_law_587 rfl (lv_at hl 3 rfl) ?_
  refine lv_iload_n hx hb dL_law_588 rfl (lv_at hl 0 rfl) ?_
  refine lv_iconst (v := 1) hx hb dL_law_589 (by decide) ?_
  refine lv_iadd hx hb dL_law_590 ?_
  refine va_sld hx hb hS hbl hbA hV.2.2 (l_in (t := 1) (by omega) hN 1 rfl) dL_law_591 ?_
  refine k_calli (va_runV (As := [.int (xs (nI i + 1).toNatClampNeg)]) (rest := []) ⟨hx, hb, hml, hown, hts⟩ (s_X7_back l D X ad 48 A J hWT 0 t0 (xs (nI i + 1).toNatClampNeg) I L _ (j_back hVJ hIv (xs (nI i + 1).toNatClampNeg))) (cwV 1 hts (gV tw_3_24 tw_3_25 tw_3_26 tw_1_1 tw_3_27) rfl rfl rfl (by decide +kernel) (by decide)) (k_preV (ci := 4) hK hV hA hZ t0 rfl _) rfl rfl hl.1 rfl (lv_room (Nat.le_of_ble_eq_true rfl)) dL_law_592 ⟨(Nat.le_of_ble_eq_true rfl), (Nat.le_of_ble_eq_true rfl)⟩) hV (fun r I1 L1 H locs h1 hV => ?_)
  refine lv_aload_n hx hb dL_law_595 rfl (lv_at hl 1 rfl) ?_
  refine lv_aload_n hx hb dL_law_596 rfl (lv_at hl 3 rfl) ?_
  refine lv_iload_n hx hb dL_law_597 rfl (lv_at hl 0 rfl) ?_
  refine lv_iconst (v := 1) hx hb dL_law_598 (by decide) ?_
  refine lv_iadd hx hb dL_law_599 ?_
  refine va_sld hx hb hS hbl hbA hV.2.2 (l_in (t := 1) (by omega) hN 1 rfl) dL_law_600 ?_
  refine k_calli (va_runV (As := [.int (xs (nI i + 1).toNatClampNeg)]) (rest := [.int r]) ⟨hx, hb, hml, hown, hts⟩ (s_X8_back l D X ad 48 A J hWT 38 t38 (xs (nI i + 1).toNatClampNeg) I1 L1 _ h1) (cwV 1 hts (gV tw_4_121 tw_4_122 tw_4_123 tw_1_9 tw_4_124) rfl rfl rfl (by decide +kernel) (by decide)) (k_preV (ci := 5) hK hV hA hZ t38 rfl _) rfl rfl hl.1 rfl (lv_room (Nat.le_of_ble_eq_true rfl)) dL_law_601 ⟨(Nat.le_of_ble_eq_true rfl), (Nat.le_of_ble_eq_true rfl)⟩) hV (fun r' I2 L2 H locs h2 hV => ?_)
  obtain ⟨er, S2, hIv2⟩ := h2
  exact lv_icmp_eq (tgt := 913) hx hb dL_law_604 (by decide) (fun _ => kk J I2 L2 H locs ⟨e0, S2, hVJ, hIv2, hWT⟩ hV) (fun z => absurd er z)
set_option maxHeartbeats 4000000 in
set_option maxRecDepth 100000 in
theorem lc_17 {p : Program} {l : Launch} {e : Env} {s : State} {m : MethodId} {below : List Frame} {meth : Method} {c : Code} {b N : Nat} {xs : Nat → Int32} {D : va_G} {X : XT} {ad : Nat → Nat} {A : Nat → Prop} {Q : State → Prop} (C0 : LX p s m c b N xs D X A) {i : Nat} (hi : i + 6 ≤ N) (hN : N ≤ 3072) {J : MJ} {I : MI} {L : ML} {H : Heap} {locs : List Loc} {ls : Array Slot} (hI : LI X J I) (hV : Wd D X ad 48 A s.heap J I L H locs) (hl : lv_has ls 4 [(3, .int (nI i)), (2, .ref (ad 38)), (1, .ref (ad 0)), (0, .ref b)])
    (kk : ∀ (J : MJ) (I : MI) (L : ML) (H : Heap) (locs : List Loc), LI X J I → Wd D X ad 48 A s.heap J I L H locs → W p l e room_1 s m #[Value.ref b] below meth c H locs 600000 7302250 Q (F0 m 913 ls [])) : W p l e room_1 s m #[Value.ref b] below meth c H locs 600000 7302250 Q (F0 m 609 ls []) := by
  obtain ⟨hx, hb, hml, hown, hts, hS, hbl, hbA, hK, hZ, hA, hX⟩ := C0
  obtain ⟨e0, S, hVJ, hIv, hWT⟩ := hI
  have t0 : Ty X 48 0 8 := tyX hX rfl rfl
  have t38 : Ty X 48 38 9 := tyX hX rfl rfl
  refine lv_aload_n hx hb dL_law_609 rfl (lv_at hl 2 rfl) ?_
  refine lv_aload_n hx hb dL_law_610 rfl (lv_at hl 3 rfl) ?_
  refine lv_iload_n hx hb dL_law_611 rfl (lv_at hl 0 rfl) ?_
  refine lv_iconst (v := 1) hx hb dL_law_612 (by decide) ?_
  refine lv_iadd hx hb dL_law_613 ?_
  refine va_sld hx hb hS hbl hbA hV.2.2 (l_in (t := 1) (by omega) hN 1 rfl) dL_law_614 ?_
  refine lv_aload_n hx hb dL_law_615 rfl (lv_at hl 3 rfl) ?_
  refine lv_iload_n hx hb dL_law_616 rfl (lv_at hl 0 rfl) ?_
  refine lv_iconst (v := 2) hx hb dL_law_617 (by decide) ?_
  refine lv_iadd hx hb dL_law_618 ?_
  refine va_sld hx hb hS hbl hbA hV.2.2 (l_in (t := 2) (by omega) hN 2 rfl) dL_law_619 ?_
  refine lv_aload_n hx hb dL_law_620 rfl (lv_at hl 3 rfl) ?_
  refine lv_iload_n hx hb dL_law_621 rfl (lv_at hl 0 rfl) ?_
  refine lv_iconst (v := 3) hx hb dL_law_622 (by decide) ?_
  refine lv_iadd hx hb dL_law_623 ?_
  refine va_sld hx hb hS hbl hbA hV.2.2 (l_in (t := 3) (by omega) hN 3 rfl) dL_law_624 ?_
  refine k_calli (va_runV (As := [.int (xs (nI i + 1).toNatClampNeg), .int (xs (nI i + 2).toNatClampNeg), .int (xs (nI i + 3).toNatClampNeg)]) (rest := []) ⟨hx, hb, hml, hown, hts⟩ (s_X7_pairs l D X ad 48 A J hWT 0 t0 (xs (nI i + 1).toNatClampNeg) (xs (nI i + 2).toNatClampNeg) (xs (nI i + 3).toNatClampNeg) I L _ (j_pairs hVJ hIv (xs (nI i + 1).toNatClampNeg) (xs (nI i + 2).toNatClampNeg) (xs (nI i + 3).toNatClampNeg))) (cwV 3 hts (gV tw_3_29 tw_3_30 tw_3_31 tw_1_1 tw_3_32) rfl rfl rfl (by decide +kernel) (by decide)) (k_preV (ci := 4) hK hV hA hZ t0 rfl _) rfl rfl hl.1 rfl (lv_room (Nat.le_of_ble_eq_true rfl)) dL_law_625 ⟨(Nat.le_of_ble_eq_true rfl), (Nat.le_of_ble_eq_true rfl)⟩) hV (fun r I1 L1 H locs h1 hV => ?_)
  refine lv_aload_n hx hb dL_law_628 rfl (lv_at hl 1 rfl) ?_
  refine lv_aload_n hx hb dL_law_629 rfl (lv_at hl 3 rfl) ?_
  refine lv_iload_n hx hb dL_law_630 rfl (lv_at hl 0 rfl) ?_
  refine lv_iconst (v := 1) hx hb dL_law_631 (by decide) ?_
  refine lv_iadd hx hb dL_law_632 ?_
  refine va_sld hx hb hS hbl hbA hV.2.2 (l_in (t := 1) (by omega) hN 1 rfl) dL_law_633 ?_
  refine lv_aload_n hx hb dL_law_634 rfl (lv_at hl 3 rfl) ?_
  refine lv_iload_n hx hb dL_law_635 rfl (lv_at hl 0 rfl) ?_
  refine lv_iconst (v := 2) hx hb dL_law_636 (by decide) ?_
  refine lv_iadd hx hb dL_law_637 ?_
  refine va_sld hx hb hS hbl hbA hV.2.2 (l_in (t := 2) (by omega) hN 2 rfl) dL_law_638 ?_
  refine lv_aload_n hx hb dL_law_639 rfl (lv_at hl 3 rfl) ?_
  refine lv_iload_n hx hb dL_law_640 rfl (lv_at hl 0 rfl) ?_
  refine lv_iconst (v := 3) hx hb dL_law_641 (by decide) ?_
  refine lv_iadd hx hb dL_law_642 ?_
  refine va_sld hx hb hS hbl hbA hV.2.2 (l_in (t := 3) (by omega) hN 3 rfl) dL_law_643 ?_
  refine k_calli (va_runV (As := [.int (xs (nI i + 1).toNatClampNeg), .int (xs (nI i + 2).toNatClampNeg), .int (xs (nI i + 3).toNatClampNeg)]) (rest := [.int r]) ⟨hx, hb, hml, hown, hts⟩ (s_X8_pairs l D X ad 48 A J hWT 38 t38 (xs (nI i + 1).toNatClampNeg) (xs (nI i + 2).toNatClampNeg) (xs (nI i + 3).toNatClampNeg) I1 L1 _ h1) (cwV 3 hts (gV tw_4_125 tw_4_126 tw_4_127 tw_1_9 tw_4_128) rfl rfl rfl (by decide +kernel) (by decide)) (k_preV (ci := 5) hK hV hA hZ t38 rfl _) rfl rfl hl.1 rfl (lv_room (Nat.le_of_ble_eq_true rfl)) dL_law_644 ⟨(Nat.le_of_ble_eq_true rfl), (Nat.le_of_ble_eq_true rfl)⟩) hV (fun r' I2 L2 H locs h2 hV => ?_)
  obtain ⟨er, S2, hIv2⟩ := h2
  exact lv_icmp_eq (tgt := 913) hx hb dL_law_647 (by decide) (fun _ => kk J I2 L2 H locs ⟨e0, S2, hVJ, hIv2, hWT⟩ hV) (fun z => absurd er z)
set_option maxHeartbeats 4000000 in
set_option maxRecDepth 100000 in
theorem lc_18 {p : Program} {l : Launch} {e : Env} {s : State} {m : MethodId} {below : List Frame} {meth : Method} {c : Code} {b N : Nat} {xs : Nat → Int32} {D : va_G} {X : XT} {ad : Nat → Nat} {A : Nat → Prop} {Q : State → Prop} (C0 : LX p s m c b N xs D X A) {i : Nat} (hi : i + 6 ≤ N) (hN : N ≤ 3072) {J : MJ} {I : MI} {L : ML} {H : Heap} {locs : List Loc} {ls : Array Slot} (hI : LI X J I) (hV : Wd D X ad 48 A s.heap J I L H locs) (hl : lv_has ls 4 [(3, .int (nI i)), (2, .ref (ad 38)), (1, .ref (ad 0)), (0, .ref b)])
    (kk : ∀ (J : MJ) (I : MI) (L : ML) (H : Heap) (locs : List Loc), LI X J I → Wd D X ad 48 A s.heap J I L H locs → W p l e room_1 s m #[Value.ref b] below meth c H locs 600000 7302250 Q (F0 m 913 ls [])) : W p l e room_1 s m #[Value.ref b] below meth c H locs 600000 7302250 Q (F0 m 652 ls []) := by
  obtain ⟨hx, hb, hml, hown, hts, hS, hbl, hbA, hK, hZ, hA, hX⟩ := C0
  obtain ⟨e0, S, hVJ, hIv, hWT⟩ := hI
  have t0 : Ty X 48 0 8 := tyX hX rfl rfl
  have t38 : Ty X 48 38 9 := tyX hX rfl rfl
  refine lv_aload_n hx hb dL_law_652 rfl (lv_at hl 2 rfl) ?_
  refine lv_aload_n hx hb dL_law_653 rfl (lv_at hl 3 rfl) ?_
  refine lv_iload_n hx hb dL_law_654 rfl (lv_at hl 0 rfl) ?_
  refine lv_iconst (v := 1) hx hb dL_law_655 (by decide) ?_
  refine lv_iadd hx hb dL_law_656 ?_
  refine va_sld hx hb hS hbl hbA hV.2.2 (l_in (t := 1) (by omega) hN 1 rfl) dL_law_657 ?_
  refine lv_aload_n hx hb dL_law_658 rfl (lv_at hl 3 rfl) ?_
  refine lv_iload_n hx hb dL_law_659 rfl (lv_at hl 0 rfl) ?_
  refine lv_iconst (v := 2) hx hb dL_law_660 (by decide) ?_
  refine lv_iadd hx hb dL_law_661 ?_
  refine va_sld hx hb hS hbl hbA hV.2.2 (l_in (t := 2) (by omega) hN 2 rfl) dL_law_662 ?_
  refine lv_aload_n hx hb dL_law_663 rfl (lv_at hl 3 rfl) ?_
  refine lv_iload_n hx hb dL_law_664 rfl (lv_at hl 0 rfl) ?_
  refine lv_iconst (v := 3) hx hb dL_law_665 (by decide) ?_
  refine lv_iadd hx hb dL_law_666 ?_
  refine va_sld hx hb hS hbl hbA hV.2.2 (l_in (t := 3) (by omega) hN 3 rfl) dL_law_667 ?_
  refine k_calli (va_runV (As := [.int (xs (nI i + 1).toNatClampNeg), .int (xs (nI i + 2).toNatClampNeg), .int (xs (nI i + 3).toNatClampNeg)]) (rest := []) ⟨hx, hb, hml, hown, hts⟩ (s_X7_add l D X ad 48 A J hWT 0 t0 (xs (nI i + 1).toNatClampNeg) (xs (nI i + 2).toNatClampNeg) (xs (nI i + 3).toNatClampNeg) I L _ (j_add hVJ hIv (xs (nI i + 1).toNatClampNeg) (xs (nI i + 2).toNatClampNeg) (xs (nI i + 3).toNatClampNeg))) (cwV 3 hts (gV tw_3_34 tw_3_35 tw_3_36 tw_1_1 tw_3_37) rfl rfl rfl (by decide +kernel) (by decide)) (k_preV (ci := 4) hK hV hA hZ t0 rfl _) rfl rfl hl.1 rfl (lv_room (Nat.le_of_ble_eq_true rfl)) dL_law_668 ⟨(Nat.le_of_ble_eq_true rfl), (Nat.le_of_ble_eq_true rfl)⟩) hV (fun r I1 L1 H locs h1 hV => ?_)
  refine lv_aload_n hx hb dL_law_671 rfl (lv_at hl 1 rfl) ?_
  refine lv_aload_n hx hb dL_law_672 rfl (lv_at hl 3 rfl) ?_
  refine lv_iload_n hx hb dL_law_673 rfl (lv_at hl 0 rfl) ?_
  refine lv_iconst (v := 1) hx hb dL_law_674 (by decide) ?_
  refine lv_iadd hx hb dL_law_675 ?_
  refine va_sld hx hb hS hbl hbA hV.2.2 (l_in (t := 1) (by omega) hN 1 rfl) dL_law_676 ?_
  refine lv_aload_n hx hb dL_law_677 rfl (lv_at hl 3 rfl) ?_
  refine lv_iload_n hx hb dL_law_678 rfl (lv_at hl 0 rfl) ?_
  refine lv_iconst (v := 2) hx hb dL_law_679 (by decide) ?_
  refine lv_iadd hx hb dL_law_680 ?_
  refine va_sld hx hb hS hbl hbA hV.2.2 (l_in (t := 2) (by omega) hN 2 rfl) dL_law_681 ?_
  refine lv_aload_n hx hb dL_law_682 rfl (lv_at hl 3 rfl) ?_
  refine lv_iload_n hx hb dL_law_683 rfl (lv_at hl 0 rfl) ?_
  refine lv_iconst (v := 3) hx hb dL_law_684 (by decide) ?_
  refine lv_iadd hx hb dL_law_685 ?_
  refine va_sld hx hb hS hbl hbA hV.2.2 (l_in (t := 3) (by omega) hN 3 rfl) dL_law_686 ?_
  refine k_calli (va_runV (As := [.int (xs (nI i + 1).toNatClampNeg), .int (xs (nI i + 2).toNatClampNeg), .int (xs (nI i + 3).toNatClampNeg)]) (rest := [.int r]) ⟨hx, hb, hml, hown, hts⟩ (s_X8_add l D X ad 48 A J hWT 38 t38 (xs (nI i + 1).toNatClampNeg) (xs (nI i + 2).toNatClampNeg) (xs (nI i + 3).toNatClampNeg) I1 L1 _ h1) (cwV 3 hts (gV tw_4_129 tw_4_130 tw_4_131 tw_1_9 tw_4_132) rfl rfl rfl (by decide +kernel) (by decide)) (k_preV (ci := 5) hK hV hA hZ t38 rfl _) rfl rfl hl.1 rfl (lv_room (Nat.le_of_ble_eq_true rfl)) dL_law_687 ⟨(Nat.le_of_ble_eq_true rfl), (Nat.le_of_ble_eq_true rfl)⟩) hV (fun r' I2 L2 H locs h2 hV => ?_)
  obtain ⟨er, S2, hIv2⟩ := h2
  exact lv_icmp_eq (tgt := 913) hx hb dL_law_690 (by decide) (fun _ => kk J I2 L2 H locs ⟨e0, S2, hVJ, hIv2, hWT⟩ hV) (fun z => absurd er z)
set_option maxHeartbeats 4000000 in
set_option maxRecDepth 100000 in
theorem lc_19 {p : Program} {l : Launch} {e : Env} {s : State} {m : MethodId} {below : List Frame} {meth : Method} {c : Code} {b N : Nat} {xs : Nat → Int32} {D : va_G} {X : XT} {ad : Nat → Nat} {A : Nat → Prop} {Q : State → Prop} (C0 : LX p s m c b N xs D X A) {i : Nat} (hi : i + 6 ≤ N) (hN : N ≤ 3072) {J : MJ} {I : MI} {L : ML} {H : Heap} {locs : List Loc} {ls : Array Slot} (hI : LI X J I) (hV : Wd D X ad 48 A s.heap J I L H locs) (hl : lv_has ls 4 [(3, .int (nI i)), (2, .ref (ad 38)), (1, .ref (ad 0)), (0, .ref b)])
    (kk : ∀ (J : MJ) (I : MI) (L : ML) (H : Heap) (locs : List Loc), LI X J I → Wd D X ad 48 A s.heap J I L H locs → W p l e room_1 s m #[Value.ref b] below meth c H locs 600000 7302250 Q (F0 m 913 ls [])) : W p l e room_1 s m #[Value.ref b] below meth c H locs 600000 7302250 Q (F0 m 695 ls []) := by
  obtain ⟨hx, hb, hml, hown, hts, hS, hbl, hbA, hK, hZ, hA, hX⟩ := C0
  obtain ⟨e0, S, hVJ, hIv, hWT⟩ := hI
  have t0 : Ty X 48 0 8 := tyX hX rfl rfl
  have t38 : Ty X 48 38 9 := tyX hX rfl rfl
  refine lv_aload_n hx hb dL_law_695 rfl (lv_at hl 2 rfl) ?_
  refine lv_aload_n hx hb dL_law_696 rfl (lv_at hl 3 rfl) ?_
  refine lv_iload_n hx hb dL_law_697 rfl (lv_at hl 0 rfl) ?_
  refine lv_iconst (v := 1) hx hb dL_law_698 (by decide) ?_
  refine lv_iadd hx hb dL_law_699 ?_
  refine va_sld hx hb hS hbl hbA hV.2.2 (l_in (t := 1) (by omega) hN 1 rfl) dL_law_700 ?_
  refine lv_aload_n hx hb dL_law_701 rfl (lv_at hl 3 rfl) ?_
  refine lv_iload_n hx hb dL_law_702 rfl (lv_at hl 0 rfl) ?_
  refine lv_iconst (v := 2) hx hb dL_law_703 (by decide) ?_
  refine lv_iadd hx hb dL_law_704 ?_
  refine va_sld hx hb hS hbl hbA hV.2.2 (l_in (t := 2) (by omega) hN 2 rfl) dL_law_705 ?_
  refine k_calli (va_runV (As := [.int (xs (nI i + 1).toNatClampNeg), .int (xs (nI i + 2).toNatClampNeg)]) (rest := []) ⟨hx, hb, hml, hown, hts⟩ (s_X7_press l D X ad 48 A J hWT 0 t0 (xs (nI i + 1).toNatClampNeg) (xs (nI i + 2).toNatClampNeg) I L _ (j_press hVJ hIv (xs (nI i + 1).toNatClampNeg) (xs (nI i + 2).toNatClampNeg))) (cwV 2 hts (gV tw_3_39 tw_3_40 tw_3_41 tw_1_1 tw_3_42) rfl rfl rfl (by decide +kernel) (by decide)) (k_preV (ci := 4) hK hV hA hZ t0 rfl _) rfl rfl hl.1 rfl (lv_room (Nat.le_of_ble_eq_true rfl)) dL_law_706 ⟨(Nat.le_of_ble_eq_true rfl), (Nat.le_of_ble_eq_true rfl)⟩) hV (fun r I1 L1 H locs h1 hV => ?_)
  refine lv_aload_n hx hb dL_law_709 rfl (lv_at hl 1 rfl) ?_
  refine lv_aload_n hx hb dL_law_710 rfl (lv_at hl 3 rfl) ?_
  refine lv_iload_n hx hb dL_law_711 rfl (lv_at hl 0 rfl) ?_
  refine lv_iconst (v := 1) hx hb dL_law_712 (by decide) ?_
  refine lv_iadd hx hb dL_law_713 ?_
  refine va_sld hx hb hS hbl hbA hV.2.2 (l_in (t := 1) (by omega) hN 1 rfl) dL_law_714 ?_
  refine lv_aload_n hx hb dL_law_715 rfl (lv_at hl 3 rfl) ?_
  refine lv_iload_n hx hb dL_law_716 rfl (lv_at hl 0 rfl) ?_
  refine lv_iconst (v := 2) hx hb dL_law_717 (by decide) ?_
  refine lv_iadd hx hb dL_law_718 ?_
  refine va_sld hx hb hS hbl hbA hV.2.2 (l_in (t := 2) (by omega) hN 2 rfl) dL_law_719 ?_
  refine k_calli (va_runV (As := [.int (xs (nI i + 1).toNatClampNeg), .int (xs (nI i + 2).toNatClampNeg)]) (rest := [.int r]) ⟨hx, hb, hml, hown, hts⟩ (s_X8_press l D X ad 48 A J hWT 38 t38 (xs (nI i + 1).toNatClampNeg) (xs (nI i + 2).toNatClampNeg) I1 L1 _ h1) (cwV 2 hts (gV tw_4_133 tw_4_134 tw_4_135 tw_1_9 tw_4_136) rfl rfl rfl (by decide +kernel) (by decide)) (k_preV (ci := 5) hK hV hA hZ t38 rfl _) rfl rfl hl.1 rfl (lv_room (Nat.le_of_ble_eq_true rfl)) dL_law_720 ⟨(Nat.le_of_ble_eq_true rfl), (Nat.le_of_ble_eq_true rfl)⟩) hV (fun r' I2 L2 H locs h2 hV => ?_)
  obtain ⟨er, S2, hIv2⟩ := h2
  exact lv_icmp_eq (tgt := 913) hx hb dL_law_723 (by decide) (fun _ => kk J I2 L2 H locs ⟨e0, S2, hVJ, hIv2, hWT⟩ hV) (fun z => absurd er z)
set_option maxHeartbeats 4000000 in
set_option maxRecDepth 100000 in
theorem lc_20 {p : Program} {l : Launch} {e : Env} {s : State} {m : MethodId} {below : List Frame} {meth : Method} {c : Code} {b N : Nat} {xs : Nat → Int32} {D : va_G} {X : XT} {ad : Nat → Nat} {A : Nat → Prop} {Q : State → Prop} (C0 : LX p s m c b N xs D X A) {i : Nat} (hi : i + 6 ≤ N) (hN : N ≤ 3072) {J : MJ} {I : MI} {L : ML} {H : Heap} {locs : List Loc} {ls : Array Slot} (hI : LI X J I) (hV : Wd D X ad 48 A s.heap J I L H locs) (hl : lv_has ls 4 [(3, .int (nI i)), (2, .ref (ad 38)), (1, .ref (ad 0)), (0, .ref b)])
    (kk : ∀ (J : MJ) (I : MI) (L : ML) (H : Heap) (locs : List Loc), LI X J I → Wd D X ad 48 A s.heap J I L H locs → W p l e room_1 s m #[Value.ref b] below meth c H locs 600000 7302250 Q (F0 m 913 ls [])) : W p l e room_1 s m #[Value.ref b] below meth c H locs 600000 7302250 Q (F0 m 728 ls []) := by
  obtain ⟨hx, hb, hml, hown, hts, hS, hbl, hbA, hK, hZ, hA, hX⟩ := C0
  obtain ⟨e0, S, hVJ, hIv, hWT⟩ := hI
  have t0 : Ty X 48 0 8 := tyX hX rfl rfl
  have t38 : Ty X 48 38 9 := tyX hX rfl rfl
  refine lv_aload_n hx hb dL_law_728 rfl (lv_at hl 2 rfl) ?_
  refine lv_aload_n hx hb dL_law_729 rfl (lv_at hl 3 rfl) ?_
  refine lv_iload_n hx hb dL_law_730 rfl (lv_at hl 0 rfl) ?_
  refine lv_iconst (v := 1) hx hb dL_law_731 (by decide) ?_
  refine lv_iadd hx hb dL_law_732 ?_
  refine va_sld hx hb hS hbl hbA hV.2.2 (l_in (t := 1) (by omega) hN 1 rfl) dL_law_733 ?_
  refine lv_aload_n hx hb dL_law_734 rfl (lv_at hl 3 rfl) ?_
  refine lv_iload_n hx hb dL_law_735 rfl (lv_at hl 0 rfl) ?_
  refine lv_iconst (v := 2) hx hb dL_law_736 (by decide) ?_
  refine lv_iadd hx hb dL_law_737 ?_
  refine va_sld hx hb hS hbl hbA hV.2.2 (l_in (t := 2) (by omega) hN 2 rfl) dL_law_738 ?_
  refine k_calli (va_runV (As := [.int (xs (nI i + 1).toNatClampNeg), .int (xs (nI i + 2).toNatClampNeg)]) (rest := []) ⟨hx, hb, hml, hown, hts⟩ (s_X7_stretch l D X ad 48 A J hWT 0 t0 (xs (nI i + 1).toNatClampNeg) (xs (nI i + 2).toNatClampNeg) I L _ (j_stretch hVJ hIv (xs (nI i + 1).toNatClampNeg) (xs (nI i + 2).toNatClampNeg))) (cwV 2 hts (gV tw_3_44 tw_3_45 tw_3_46 tw_1_1 tw_3_47) rfl rfl rfl (by decide +kernel) (by decide)) (k_preV (ci := 4) hK hV hA hZ t0 rfl _) rfl rfl hl.1 rfl (lv_room (Nat.le_of_ble_eq_true rfl)) dL_law_739 ⟨(Nat.le_of_ble_eq_true rfl), (Nat.le_of_ble_eq_true rfl)⟩) hV (fun r I1 L1 H locs h1 hV => ?_)
  refine lv_aload_n hx hb dL_law_742 rfl (lv_at hl 1 rfl) ?_
  refine lv_aload_n hx hb dL_law_743 rfl (lv_at hl 3 rfl) ?_
  refine lv_iload_n hx hb dL_law_744 rfl (lv_at hl 0 rfl) ?_
  refine lv_iconst (v := 1) hx hb dL_law_745 (by decide) ?_
  refine lv_iadd hx hb dL_law_746 ?_
  refine va_sld hx hb hS hbl hbA hV.2.2 (l_in (t := 1) (by omega) hN 1 rfl) dL_law_747 ?_
  refine lv_aload_n hx hb dL_law_748 rfl (lv_at hl 3 rfl) ?_
  refine lv_iload_n hx hb dL_law_749 rfl (lv_at hl 0 rfl) ?_
  refine lv_iconst (v := 2) hx hb dL_law_750 (by decide) ?_
  refine lv_iadd hx hb dL_law_751 ?_
  refine va_sld hx hb hS hbl hbA hV.2.2 (l_in (t := 2) (by omega) hN 2 rfl) dL_law_752 ?_
  refine k_calli (va_runV (As := [.int (xs (nI i + 1).toNatClampNeg), .int (xs (nI i + 2).toNatClampNeg)]) (rest := [.int r]) ⟨hx, hb, hml, hown, hts⟩ (s_X8_stretch l D X ad 48 A J hWT 38 t38 (xs (nI i + 1).toNatClampNeg) (xs (nI i + 2).toNatClampNeg) I1 L1 _ h1) (cwV 2 hts (gV tw_4_137 tw_4_138 tw_4_139 tw_1_9 tw_4_140) rfl rfl rfl (by decide +kernel) (by decide)) (k_preV (ci := 5) hK hV hA hZ t38 rfl _) rfl rfl hl.1 rfl (lv_room (Nat.le_of_ble_eq_true rfl)) dL_law_753 ⟨(Nat.le_of_ble_eq_true rfl), (Nat.le_of_ble_eq_true rfl)⟩) hV (fun r' I2 L2 H locs h2 hV => ?_)
  obtain ⟨er, S2, hIv2⟩ := h2
  exact lv_icmp_eq (tgt := 913) hx hb dL_law_756 (by decide) (fun _ => kk J I2 L2 H locs ⟨e0, S2, hVJ, hIv2, hWT⟩ hV) (fun z => absurd er z)
set_option maxHeartbeats 4000000 in
set_option maxRecDepth 100000 in
theorem lc_21 {p : Program} {l : Launch} {e : Env} {s : State} {m : MethodId} {below : List Frame} {meth : Method} {c : Code} {b N : Nat} {xs : Nat → Int32} {D : va_G} {X : XT} {ad : Nat → Nat} {A : Nat → Prop} {Q : State → Prop} (C0 : LX p s m c b N xs D X A) {i : Nat} (hi : i + 6 ≤ N) (hN : N ≤ 3072) {J : MJ} {I : MI} {L : ML} {H : Heap} {locs : List Loc} {ls : Array Slot} (hI : LI X J I) (hV : Wd D X ad 48 A s.heap J I L H locs) (hl : lv_has ls 4 [(3, .int (nI i)), (2, .ref (ad 38)), (1, .ref (ad 0)), (0, .ref b)])
    (kk : ∀ (J : MJ) (I : MI) (L : ML) (H : Heap) (locs : List Loc), LI X J I → Wd D X ad 48 A s.heap J I L H locs → W p l e room_1 s m #[Value.ref b] below meth c H locs 600000 7302250 Q (F0 m 913 ls [])) : W p l e room_1 s m #[Value.ref b] below meth c H locs 600000 7302250 Q (F0 m 761 ls []) := by
  obtain ⟨hx, hb, hml, hown, hts, hS, hbl, hbA, hK, hZ, hA, hX⟩ := C0
  obtain ⟨e0, S, hVJ, hIv, hWT⟩ := hI
  have t0 : Ty X 48 0 8 := tyX hX rfl rfl
  have t38 : Ty X 48 38 9 := tyX hX rfl rfl
  refine lv_aload_n hx hb dL_law_761 rfl (lv_at hl 2 rfl) ?_
  refine lv_aload_n hx hb dL_law_762 rfl (lv_at hl 3 rfl) ?_
  refine lv_iload_n hx hb dL_law_763 rfl (lv_at hl 0 rfl) ?_
  refine lv_iconst (v := 1) hx hb dL_law_764 (by decide) ?_
  refine lv_iadd hx hb dL_law_765 ?_
  refine va_sld hx hb hS hbl hbA hV.2.2 (l_in (t := 1) (by omega) hN 1 rfl) dL_law_766 ?_
  refine lv_aload_n hx hb dL_law_767 rfl (lv_at hl 3 rfl) ?_
  refine lv_iload_n hx hb dL_law_768 rfl (lv_at hl 0 rfl) ?_
  refine lv_iconst (v := 2) hx hb dL_law_769 (by decide) ?_
  refine lv_iadd hx hb dL_law_770 ?_
  refine va_sld hx hb hS hbl hbA hV.2.2 (l_in (t := 2) (by omega) hN 2 rfl) dL_law_771 ?_
  refine k_calli (va_runV (As := [.int (xs (nI i + 1).toNatClampNeg), .int (xs (nI i + 2).toNatClampNeg)]) (rest := []) ⟨hx, hb, hml, hown, hts⟩ (s_X7_encode l D X ad 48 A J hWT 0 t0 (xs (nI i + 1).toNatClampNeg) (xs (nI i + 2).toNatClampNeg) I L _ (j_encode hVJ hIv (xs (nI i + 1).toNatClampNeg) (xs (nI i + 2).toNatClampNeg))) (cwV 2 hts (gV tw_3_49 tw_3_50 tw_3_51 tw_1_1 tw_3_52) rfl rfl rfl (by decide +kernel) (by decide)) (k_preV (ci := 4) hK hV hA hZ t0 rfl _) rfl rfl hl.1 rfl (lv_room (Nat.le_of_ble_eq_true rfl)) dL_law_772 ⟨(Nat.le_of_ble_eq_true rfl), (Nat.le_of_ble_eq_true rfl)⟩) hV (fun r I1 L1 H locs h1 hV => ?_)
  refine lv_aload_n hx hb dL_law_775 rfl (lv_at hl 1 rfl) ?_
  refine lv_aload_n hx hb dL_law_776 rfl (lv_at hl 3 rfl) ?_
  refine lv_iload_n hx hb dL_law_777 rfl (lv_at hl 0 rfl) ?_
  refine lv_iconst (v := 1) hx hb dL_law_778 (by decide) ?_
  refine lv_iadd hx hb dL_law_779 ?_
  refine va_sld hx hb hS hbl hbA hV.2.2 (l_in (t := 1) (by omega) hN 1 rfl) dL_law_780 ?_
  refine lv_aload_n hx hb dL_law_781 rfl (lv_at hl 3 rfl) ?_
  refine lv_iload_n hx hb dL_law_782 rfl (lv_at hl 0 rfl) ?_
  refine lv_iconst (v := 2) hx hb dL_law_783 (by decide) ?_
  refine lv_iadd hx hb dL_law_784 ?_
  refine va_sld hx hb hS hbl hbA hV.2.2 (l_in (t := 2) (by omega) hN 2 rfl) dL_law_785 ?_
  refine k_calli (va_runV (As := [.int (xs (nI i + 1).toNatClampNeg), .int (xs (nI i + 2).toNatClampNeg)]) (rest := [.int r]) ⟨hx, hb, hml, hown, hts⟩ (s_X8_encode l D X ad 48 A J hWT 38 t38 (xs (nI i + 1).toNatClampNeg) (xs (nI i + 2).toNatClampNeg) I1 L1 _ h1) (cwV 2 hts (gV tw_4_141 tw_4_142 tw_4_143 tw_1_9 tw_4_144) rfl rfl rfl (by decide +kernel) (by decide)) (k_preV (ci := 5) hK hV hA hZ t38 rfl _) rfl rfl hl.1 rfl (lv_room (Nat.le_of_ble_eq_true rfl)) dL_law_786 ⟨(Nat.le_of_ble_eq_true rfl), (Nat.le_of_ble_eq_true rfl)⟩) hV (fun r' I2 L2 H locs h2 hV => ?_)
  obtain ⟨er, S2, hIv2⟩ := h2
  exact lv_icmp_eq (tgt := 913) hx hb dL_law_789 (by decide) (fun _ => kk J I2 L2 H locs ⟨e0, S2, hVJ, hIv2, hWT⟩ hV) (fun z => absurd er z)
set_option maxHeartbeats 4000000 in
set_option maxRecDepth 100000 in
theorem lc_22 {p : Program} {l : Launch} {e : Env} {s : State} {m : MethodId} {below : List Frame} {meth : Method} {c : Code} {b N : Nat} {xs : Nat → Int32} {D : va_G} {X : XT} {ad : Nat → Nat} {A : Nat → Prop} {Q : State → Prop} (C0 : LX p s m c b N xs D X A) {i : Nat} (hi : i + 6 ≤ N) (hN : N ≤ 3072) {J : MJ} {I : MI} {L : ML} {H : Heap} {locs : List Loc} {ls : Array Slot} (hI : LI X J I) (hV : Wd D X ad 48 A s.heap J I L H locs) (hl : lv_has ls 4 [(3, .int (nI i)), (2, .ref (ad 38)), (1, .ref (ad 0)), (0, .ref b)])
    (kk : ∀ (J : MJ) (I : MI) (L : ML) (H : Heap) (locs : List Loc), LI X J I → Wd D X ad 48 A s.heap J I L H locs → W p l e room_1 s m #[Value.ref b] below meth c H locs 600000 7302250 Q (F0 m 913 ls [])) : W p l e room_1 s m #[Value.ref b] below meth c H locs 600000 7302250 Q (F0 m 794 ls []) := by
  obtain ⟨hx, hb, hml, hown, hts, hS, hbl, hbA, hK, hZ, hA, hX⟩ := C0
  obtain ⟨e0, S, hVJ, hIv, hWT⟩ := hI
  have t0 : Ty X 48 0 8 := tyX hX rfl rfl
  have t38 : Ty X 48 38 9 := tyX hX rfl rfl
  refine lv_aload_n hx hb dL_law_794 rfl (lv_at hl 2 rfl) ?_
  refine lv_aload_n hx hb dL_law_795 rfl (lv_at hl 3 rfl) ?_
  refine lv_iload_n hx hb dL_law_796 rfl (lv_at hl 0 rfl) ?_
  refine lv_iconst (v := 1) hx hb dL_law_797 (by decide) ?_
  refine lv_iadd hx hb dL_law_798 ?_
  refine va_sld hx hb hS hbl hbA hV.2.2 (l_in (t := 1) (by omega) hN 1 rfl) dL_law_799 ?_
  refine lv_aload_n hx hb dL_law_800 rfl (lv_at hl 3 rfl) ?_
  refine lv_iload_n hx hb dL_law_801 rfl (lv_at hl 0 rfl) ?_
  refine lv_iconst (v := 2) hx hb dL_law_802 (by decide) ?_
  refine lv_iadd hx hb dL_law_803 ?_
  refine va_sld hx hb hS hbl hbA hV.2.2 (l_in (t := 2) (by omega) hN 2 rfl) dL_law_804 ?_
  refine k_calli (va_runV (As := [.int (xs (nI i + 1).toNatClampNeg), .int (xs (nI i + 2).toNatClampNeg)]) (rest := []) ⟨hx, hb, hml, hown, hts⟩ (s_X7_decode l D X ad 48 A J hWT 0 t0 (xs (nI i + 1).toNatClampNeg) (xs (nI i + 2).toNatClampNeg) I L _ (j_decode hVJ hIv (xs (nI i + 1).toNatClampNeg) (xs (nI i + 2).toNatClampNeg))) (cwV 2 hts (gV tw_3_54 tw_3_55 tw_3_56 tw_1_1 tw_3_57) rfl rfl rfl (by decide +kernel) (by decide)) (k_preV (ci := 4) hK hV hA hZ t0 rfl _) rfl rfl hl.1 rfl (lv_room (Nat.le_of_ble_eq_true rfl)) dL_law_805 ⟨(Nat.le_of_ble_eq_true rfl), (Nat.le_of_ble_eq_true rfl)⟩) hV (fun r I1 L1 H locs h1 hV => ?_)
  refine lv_aload_n hx hb dL_law_808 rfl (lv_at hl 1 rfl) ?_
  refine lv_aload_n hx hb dL_law_809 rfl (lv_at hl 3 rfl) ?_
  refine lv_iload_n hx hb dL_law_810 rfl (lv_at hl 0 rfl) ?_
  refine lv_iconst (v := 1) hx hb dL_law_811 (by decide) ?_
  refine lv_iadd hx hb dL_law_812 ?_
  refine va_sld hx hb hS hbl hbA hV.2.2 (l_in (t := 1) (by omega) hN 1 rfl) dL_law_813 ?_
  refine lv_aload_n hx hb dL_law_814 rfl (lv_at hl 3 rfl) ?_
  refine lv_iload_n hx hb dL_law_815 rfl (lv_at hl 0 rfl) ?_
  refine lv_iconst (v := 2) hx hb dL_law_816 (by decide) ?_
  refine lv_iadd hx hb dL_law_817 ?_
  refine va_sld hx hb hS hbl hbA hV.2.2 (l_in (t := 2) (by omega) hN 2 rfl) dL_law_818 ?_
  refine k_calli (va_runV (As := [.int (xs (nI i + 1).toNatClampNeg), .int (xs (nI i + 2).toNatClampNeg)]) (rest := [.int r]) ⟨hx, hb, hml, hown, hts⟩ (s_X8_decode l D X ad 48 A J hWT 38 t38 (xs (nI i + 1).toNatClampNeg) (xs (nI i + 2).toNatClampNeg) I1 L1 _ h1) (cwV 2 hts (gV tw_4_145 tw_4_146 tw_4_147 tw_1_9 tw_4_148) rfl rfl rfl (by decide +kernel) (by decide)) (k_preV (ci := 5) hK hV hA hZ t38 rfl _) rfl rfl hl.1 rfl (lv_room (Nat.le_of_ble_eq_true rfl)) dL_law_819 ⟨(Nat.le_of_ble_eq_true rfl), (Nat.le_of_ble_eq_true rfl)⟩) hV (fun r' I2 L2 H locs h2 hV => ?_)
  obtain ⟨er, S2, hIv2⟩ := h2
  exact lv_icmp_eq (tgt := 913) hx hb dL_law_822 (by decide) (fun _ => kk J I2 L2 H locs ⟨e0, S2, hVJ, hIv2, hWT⟩ hV) (fun z => absurd er z)
set_option maxHeartbeats 4000000 in
set_option maxRecDepth 100000 in
theorem lc_23 {p : Program} {l : Launch} {e : Env} {s : State} {m : MethodId} {below : List Frame} {meth : Method} {c : Code} {b N : Nat} {xs : Nat → Int32} {D : va_G} {X : XT} {ad : Nat → Nat} {A : Nat → Prop} {Q : State → Prop} (C0 : LX p s m c b N xs D X A) {i : Nat} (hi : i + 6 ≤ N) (hN : N ≤ 3072) {J : MJ} {I : MI} {L : ML} {H : Heap} {locs : List Loc} {ls : Array Slot} (hI : LI X J I) (hV : Wd D X ad 48 A s.heap J I L H locs) (hl : lv_has ls 4 [(3, .int (nI i)), (2, .ref (ad 38)), (1, .ref (ad 0)), (0, .ref b)])
    (kk : ∀ (J : MJ) (I : MI) (L : ML) (H : Heap) (locs : List Loc), LI X J I → Wd D X ad 48 A s.heap J I L H locs → W p l e room_1 s m #[Value.ref b] below meth c H locs 600000 7302250 Q (F0 m 913 ls [])) : W p l e room_1 s m #[Value.ref b] below meth c H locs 600000 7302250 Q (F0 m 827 ls []) := by
  obtain ⟨hx, hb, hml, hown, hts, hS, hbl, hbA, hK, hZ, hA, hX⟩ := C0
  obtain ⟨e0, S, hVJ, hIv, hWT⟩ := hI
  have t0 : Ty X 48 0 8 := tyX hX rfl rfl
  have t38 : Ty X 48 38 9 := tyX hX rfl rfl
  refine lv_aload_n hx hb dL_law_827 rfl (lv_at hl 2 rfl) ?_
  refine lv_aload_n hx hb dL_law_828 rfl (lv_at hl 3 rfl) ?_
  refine lv_iload_n hx hb dL_law_829 rfl (lv_at hl 0 rfl) ?_
  refine lv_iconst (v := 1) hx hb dL_law_830 (by decide) ?_
  refine lv_iadd hx hb dL_law_831 ?_
  refine va_sld hx hb hS hbl hbA hV.2.2 (l_in (t := 1) (by omega) hN 1 rfl) dL_law_832 ?_
  refine lv_aload_n hx hb dL_law_833 rfl (lv_at hl 3 rfl) ?_
  refine lv_iload_n hx hb dL_law_834 rfl (lv_at hl 0 rfl) ?_
  refine lv_iconst (v := 2) hx hb dL_law_835 (by decide) ?_
  refine lv_iadd hx hb dL_law_836 ?_
  refine va_sld hx hb hS hbl hbA hV.2.2 (l_in (t := 2) (by omega) hN 2 rfl) dL_law_837 ?_
  refine lv_aload_n hx hb dL_law_838 rfl (lv_at hl 3 rfl) ?_
  refine lv_iload_n hx hb dL_law_839 rfl (lv_at hl 0 rfl) ?_
  refine lv_iconst (v := 3) hx hb dL_law_840 (by decide) ?_
  refine lv_iadd hx hb dL_law_841 ?_
  refine va_sld hx hb hS hbl hbA hV.2.2 (l_in (t := 3) (by omega) hN 3 rfl) dL_law_842 ?_
  refine k_calli (va_runV (As := [.int (xs (nI i + 1).toNatClampNeg), .int (xs (nI i + 2).toNatClampNeg), .int (xs (nI i + 3).toNatClampNeg)]) (rest := []) ⟨hx, hb, hml, hown, hts⟩ (s_X7_sample l D X ad 48 A J hWT 0 t0 (xs (nI i + 1).toNatClampNeg) (xs (nI i + 2).toNatClampNeg) (xs (nI i + 3).toNatClampNeg) I L _ (j_sample hVJ hIv (xs (nI i + 1).toNatClampNeg) (xs (nI i + 2).toNatClampNeg) (xs (nI i + 3).toNatClampNeg))) (cwV 3 hts (gV tw_3_59 tw_3_60 tw_3_61 tw_1_1 tw_3_62) rfl rfl rfl (by decide +kernel) (by decide)) (k_preV (ci := 4) hK hV hA hZ t0 rfl _) rfl rfl hl.1 rfl (lv_room (Nat.le_of_ble_eq_true rfl)) dL_law_843 ⟨(Nat.le_of_ble_eq_true rfl), (Nat.le_of_ble_eq_true rfl)⟩) hV (fun r I1 L1 H locs h1 hV => ?_)
  refine lv_aload_n hx hb dL_law_846 rfl (lv_at hl 1 rfl) ?_
  refine lv_aload_n hx hb dL_law_847 rfl (lv_at hl 3 rfl) ?_
  refine lv_iload_n hx hb dL_law_848 rfl (lv_at hl 0 rfl) ?_
  refine lv_iconst (v := 1) hx hb dL_law_849 (by decide) ?_
  refine lv_iadd hx hb dL_law_850 ?_
  refine va_sld hx hb hS hbl hbA hV.2.2 (l_in (t := 1) (by omega) hN 1 rfl) dL_law_851 ?_
  refine lv_aload_n hx hb dL_law_852 rfl (lv_at hl 3 rfl) ?_
  refine lv_iload_n hx hb dL_law_853 rfl (lv_at hl 0 rfl) ?_
  refine lv_iconst (v := 2) hx hb dL_law_854 (by decide) ?_
  refine lv_iadd hx hb dL_law_855 ?_
  refine va_sld hx hb hS hbl hbA hV.2.2 (l_in (t := 2) (by omega) hN 2 rfl) dL_law_856 ?_
  refine lv_aload_n hx hb dL_law_857 rfl (lv_at hl 3 rfl) ?_
  refine lv_iload_n hx hb dL_law_858 rfl (lv_at hl 0 rfl) ?_
  refine lv_iconst (v := 3) hx hb dL_law_859 (by decide) ?_
  refine lv_iadd hx hb dL_law_860 ?_
  refine va_sld hx hb hS hbl hbA hV.2.2 (l_in (t := 3) (by omega) hN 3 rfl) dL_law_861 ?_
  refine k_calli (va_runV (As := [.int (xs (nI i + 1).toNatClampNeg), .int (xs (nI i + 2).toNatClampNeg), .int (xs (nI i + 3).toNatClampNeg)]) (rest := [.int r]) ⟨hx, hb, hml, hown, hts⟩ (s_X8_sample l D X ad 48 A J hWT 38 t38 (xs (nI i + 1).toNatClampNeg) (xs (nI i + 2).toNatClampNeg) (xs (nI i + 3).toNatClampNeg) I1 L1 _ h1) (cwV 3 hts (gV tw_4_149 tw_4_150 tw_4_151 tw_1_9 tw_4_152) rfl rfl rfl (by decide +kernel) (by decide)) (k_preV (ci := 5) hK hV hA hZ t38 rfl _) rfl rfl hl.1 rfl (lv_room (Nat.le_of_ble_eq_true rfl)) dL_law_862 ⟨(Nat.le_of_ble_eq_true rfl), (Nat.le_of_ble_eq_true rfl)⟩) hV (fun r' I2 L2 H locs h2 hV => ?_)
  obtain ⟨er, S2, hIv2⟩ := h2
  exact lv_icmp_eq (tgt := 913) hx hb dL_law_865 (by decide) (fun _ => kk J I2 L2 H locs ⟨e0, S2, hVJ, hIv2, hWT⟩ hV) (fun z => absurd er z)
set_option maxHeartbeats 4000000 in
set_option maxRecDepth 100000 in
theorem lc_24 {p : Program} {l : Launch} {e : Env} {s : State} {m : MethodId} {below : List Frame} {meth : Method} {c : Code} {b N : Nat} {xs : Nat → Int32} {D : va_G} {X : XT} {ad : Nat → Nat} {A : Nat → Prop} {Q : State → Prop} (C0 : LX p s m c b N xs D X A) {i : Nat} (hi : i + 6 ≤ N) (hN : N ≤ 3072) {J : MJ} {I : MI} {L : ML} {H : Heap} {locs : List Loc} {ls : Array Slot} (hI : LI X J I) (hV : Wd D X ad 48 A s.heap J I L H locs) (hl : lv_has ls 4 [(3, .int (nI i)), (2, .ref (ad 38)), (1, .ref (ad 0)), (0, .ref b)])
    (kk : ∀ (J : MJ) (I : MI) (L : ML) (H : Heap) (locs : List Loc), LI X J I → Wd D X ad 48 A s.heap J I L H locs → W p l e room_1 s m #[Value.ref b] below meth c H locs 600000 7302250 Q (F0 m 913 ls [])) : W p l e room_1 s m #[Value.ref b] below meth c H locs 600000 7302250 Q (F0 m 870 ls []) := by
  obtain ⟨hx, hb, hml, hown, hts, hS, hbl, hbA, hK, hZ, hA, hX⟩ := C0
  obtain ⟨e0, S, hVJ, hIv, hWT⟩ := hI
  have t0 : Ty X 48 0 8 := tyX hX rfl rfl
  have t38 : Ty X 48 38 9 := tyX hX rfl rfl
  refine lv_aload_n hx hb dL_law_870 rfl (lv_at hl 2 rfl) ?_
  refine lv_aload_n hx hb dL_law_871 rfl (lv_at hl 3 rfl) ?_
  refine lv_iload_n hx hb dL_law_872 rfl (lv_at hl 0 rfl) ?_
  refine lv_iconst (v := 1) hx hb dL_law_873 (by decide) ?_
  refine lv_iadd hx hb dL_law_874 ?_
  refine va_sld hx hb hS hbl hbA hV.2.2 (l_in (t := 1) (by omega) hN 1 rfl) dL_law_875 ?_
  refine lv_aload_n hx hb dL_law_876 rfl (lv_at hl 3 rfl) ?_
  refine lv_iload_n hx hb dL_law_877 rfl (lv_at hl 0 rfl) ?_
  refine lv_iconst (v := 2) hx hb dL_law_878 (by decide) ?_
  refine lv_iadd hx hb dL_law_879 ?_
  refine va_sld hx hb hS hbl hbA hV.2.2 (l_in (t := 2) (by omega) hN 2 rfl) dL_law_880 ?_
  refine lv_aload_n hx hb dL_law_881 rfl (lv_at hl 3 rfl) ?_
  refine lv_iload_n hx hb dL_law_882 rfl (lv_at hl 0 rfl) ?_
  refine lv_iconst (v := 3) hx hb dL_law_883 (by decide) ?_
  refine lv_iadd hx hb dL_law_884 ?_
  refine va_sld hx hb hS hbl hbA hV.2.2 (l_in (t := 3) (by omega) hN 3 rfl) dL_law_885 ?_
  refine k_calli (va_runV (As := [.int (xs (nI i + 1).toNatClampNeg), .int (xs (nI i + 2).toNatClampNeg), .int (xs (nI i + 3).toNatClampNeg)]) (rest := []) ⟨hx, hb, hml, hown, hts⟩ (s_X7_noise l D X ad 48 A J hWT 0 t0 (xs (nI i + 1).toNatClampNeg) (xs (nI i + 2).toNatClampNeg) (xs (nI i + 3).toNatClampNeg) I L _ (j_noise hVJ hIv (xs (nI i + 1).toNatClampNeg) (xs (nI i + 2).toNatClampNeg) (xs (nI i + 3).toNatClampNeg))) (cwV 3 hts (gV tw_3_65 tw_3_66 tw_3_67 tw_1_1 tw_3_68) rfl rfl rfl (by decide +kernel) (by decide)) (k_preV (ci := 4) hK hV hA hZ t0 rfl _) rfl rfl hl.1 rfl (lv_room (Nat.le_of_ble_eq_true rfl)) dL_law_886 ⟨(Nat.le_of_ble_eq_true rfl), (Nat.le_of_ble_eq_true rfl)⟩) hV (fun r I1 L1 H locs h1 hV => ?_)
  refine lv_aload_n hx hb dL_law_889 rfl (lv_at hl 1 rfl) ?_
  refine lv_aload_n hx hb dL_law_890 rfl (lv_at hl 3 rfl) ?_
  refine lv_iload_n hx hb dL_law_891 rfl (lv_at hl 0 rfl) ?_
  refine lv_iconst (v := 1) hx hb dL_law_892 (by decide) ?_
  refine lv_iadd hx hb dL_law_893 ?_
  refine va_sld hx hb hS hbl hbA hV.2.2 (l_in (t := 1) (by omega) hN 1 rfl) dL_law_894 ?_
  refine lv_aload_n hx hb dL_law_895 rfl (lv_at hl 3 rfl) ?_
  refine lv_iload_n hx hb dL_law_896 rfl (lv_at hl 0 rfl) ?_
  refine lv_iconst (v := 2) hx hb dL_law_897 (by decide) ?_
  refine lv_iadd hx hb dL_law_898 ?_
  refine va_sld hx hb hS hbl hbA hV.2.2 (l_in (t := 2) (by omega) hN 2 rfl) dL_law_899 ?_
  refine lv_aload_n hx hb dL_law_900 rfl (lv_at hl 3 rfl) ?_
  refine lv_iload_n hx hb dL_law_901 rfl (lv_at hl 0 rfl) ?_
  refine lv_iconst (v := 3) hx hb dL_law_902 (by decide) ?_
  refine lv_iadd hx hb dL_law_903 ?_
  refine va_sld hx hb hS hbl hbA hV.2.2 (l_in (t := 3) (by omega) hN 3 rfl) dL_law_904 ?_
  refine k_calli (va_runV (As := [.int (xs (nI i + 1).toNatClampNeg), .int (xs (nI i + 2).toNatClampNeg), .int (xs (nI i + 3).toNatClampNeg)]) (rest := [.int r]) ⟨hx, hb, hml, hown, hts⟩ (s_X8_noise l D X ad 48 A J hWT 38 t38 (xs (nI i + 1).toNatClampNeg) (xs (nI i + 2).toNatClampNeg) (xs (nI i + 3).toNatClampNeg) I1 L1 _ h1) (cwV 3 hts (gV tw_4_153 tw_4_154 tw_4_155 tw_1_9 tw_4_156) rfl rfl rfl (by decide +kernel) (by decide)) (k_preV (ci := 5) hK hV hA hZ t38 rfl _) rfl rfl hl.1 rfl (lv_room (Nat.le_of_ble_eq_true rfl)) dL_law_905 ⟨(Nat.le_of_ble_eq_true rfl), (Nat.le_of_ble_eq_true rfl)⟩) hV (fun r' I2 L2 H locs h2 hV => ?_)
  obtain ⟨er, S2, hIv2⟩ := h2
  exact lv_icmp_eq (tgt := 913) hx hb dL_law_908 (by decide) (fun _ => kk J I2 L2 H locs ⟨e0, S2, hVJ, hIv2, hWT⟩ hV) (fun z => absurd er z)
set_option maxHeartbeats 4000000 in
set_option maxRecDepth 100000 in
theorem lc_switch {p : Program} {l : Launch} {e : Env} {s : State} {m : MethodId} {below : List Frame} {meth : Method} {c : Code} {b N : Nat} {xs : Nat → Int32} {D : va_G} {X : XT} {ad : Nat → Nat} {A : Nat → Prop} {Q : State → Prop} (C0 : LX p s m c b N xs D X A) {i : Nat} (hi : i + 6 ≤ N) (hN : N ≤ 3072) {J : MJ} {I : MI} {L : ML} {H : Heap} {locs : List Loc} {ls : Array Slot} (hI : LI X J I) (hV : Wd D X ad 48 A s.heap J I L H locs) (hl : lv_has ls 4 [(3, .int (nI i)), (2, .ref (ad 38)), (1, .ref (ad 0)), (0, .ref b)])
    (kk : ∀ (J : MJ) (I : MI) (L : ML) (H : Heap) (locs : List Loc), LI X J I → Wd D X ad 48 A s.heap J I L H locs → W p l e room_1 s m #[Value.ref b] below meth c H locs 600000 7302250 Q (F0 m 913 ls [])) : W p l e room_1 s m #[Value.ref b] below meth c H locs 600000 7302250 Q (F0 m 27 ls []) := by
  have C1 := C0
  obtain ⟨hx, hb, hml, hown, hts, hS, hbl, hbA, hK, hZ, hA, hX⟩ := C1
  refine lv_aload_n hx hb dL_law_27 rfl (lv_at hl 3 rfl) ?_
  refine lv_iload_n hx hb dL_law_28 rfl (lv_at hl 0 rfl) ?_
  refine va_sld hx hb hS hbl hbA hV.2.2 (pk_in i N (by omega)) dL_law_29 ?_
  refine lv_bipush (v := 31) hx hb dL_law_30 (by decide) ?_
  refine lv_iand hx hb dL_law_32 ?_
  generalize xs (nI i).toNatClampNeg &&& 31 = x
  by_cases hsw : x.toInt < 0 ∨ 24 < x.toInt
  · exact lv_tableOut (tgt := 913) hx hb dL_law_33 hsw (by decide) (kk J I L H locs hI hV)
  · obtain ⟨jsw, hjsw, ejsw⟩ := sw_in 0 24 (by decide) (by decide) (by decide) (fun z => hsw (Or.inl z)) (fun z => hsw (Or.inr z))
    rcases (show jsw = 0 ∨ jsw = 1 ∨ jsw = 2 ∨ jsw = 3 ∨ jsw = 4 ∨ jsw = 5 ∨ jsw = 6 ∨ jsw = 7 ∨ jsw = 8 ∨ jsw = 9 ∨ jsw = 10 ∨ jsw = 11 ∨ jsw = 12 ∨ jsw = 13 ∨ jsw = 14 ∨ jsw = 15 ∨ jsw = 16 ∨ jsw = 17 ∨ jsw = 18 ∨ jsw = 19 ∨ jsw = 20 ∨ jsw = 21 ∨ jsw = 22 ∨ jsw = 23 ∨ jsw = 24 by omega) with rfl | rfl | rfl | rfl | rfl | rfl | rfl | rfl | rfl | rfl | rfl | rfl | rfl | rfl | rfl | rfl | rfl | rfl | rfl | rfl | rfl | rfl | rfl | rfl | rfl
    · exact lv_tableIn (off := 115) (tgt := 148) hx hb dL_law_33 (fun z => hsw (Or.inl z)) (fun z => hsw (Or.inr z)) (by rw [ejsw]; decide +kernel) (by decide) (lc_0 C0 hi hN hI hV hl kk)
    · exact lv_tableIn (off := 178) (tgt := 211) hx hb dL_law_33 (fun z => hsw (Or.inl z)) (fun z => hsw (Or.inr z)) (by rw [ejsw]; decide +kernel) (by decide) (lc_1 C0 hi hN hI hV hl kk)
    · exact lv_tableIn (off := 201) (tgt := 234) hx hb dL_law_33 (fun z => hsw (Or.inl z)) (fun z => hsw (Or.inr z)) (by rw [ejsw]; decide +kernel) (by decide) (lc_2 C0 hi hN hI hV hl kk)
    · exact lv_tableIn (off := 224) (tgt := 257) hx hb dL_law_33 (fun z => hsw (Or.inl z)) (fun z => hsw (Or.inr z)) (by rw [ejsw]; decide +kernel) (by decide) (lc_3 C0 hi hN hI hV hl kk)
    · exact lv_tableIn (off := 257) (tgt := 290) hx hb dL_law_33 (fun z => hsw (Or.inl z)) (fun z => hsw (Or.inr z)) (by rw [ejsw]; decide +kernel) (by decide) (lc_4 C0 hi hN hI hV hl kk)
    · exact lv_tableIn (off := 280) (tgt := 313) hx hb dL_law_33 (fun z => hsw (Or.inl z)) (fun z => hsw (Or.inr z)) (by rw [ejsw]; decide +kernel) (by decide) (lc_5 C0 hi hN hI hV hl kk)
    · exact lv_tableIn (off := 303) (tgt := 336) hx hb dL_law_33 (fun z => hsw (Or.inl z)) (fun z => hsw (Or.inr z)) (by rw [ejsw]; decide +kernel) (by decide) (lc_6 C0 hi hN hI hV hl kk)
    · exact lv_tableIn (off := 326) (tgt := 359) hx hb dL_law_33 (fun z => hsw (Or.inl z)) (fun z => hsw (Or.inr z)) (by rw [ejsw]; decide +kernel) (by decide) (lc_7 C0 hi hN hI hV hl kk)
    · exact lv_tableIn (off := 359) (tgt := 392) hx hb dL_law_33 (fun z => hsw (Or.inl z)) (fun z => hsw (Or.inr z)) (by rw [ejsw]; decide +kernel) (by decide) (lc_8 C0 hi hN hI hV hl kk)
    · exact lv_tableIn (off := 372) (tgt := 405) hx hb dL_law_33 (fun z => hsw (Or.inl z)) (fun z => hsw (Or.inr z)) (by rw [ejsw]; decide +kernel) (by decide) (lc_9 C0 hi hN hI hV hl kk)
    · exact lv_tableIn (off := 395) (tgt := 428) hx hb dL_law_33 (fun z => hsw (Or.inl z)) (fun z => hsw (Or.inr z)) (by rw [ejsw]; decide +kernel) (by decide) (lc_10 C0 hi hN hI hV hl kk)
    · exact lv_tableIn (off := 408) (tgt := 441) hx hb dL_law_33 (fun z => hsw (Or.inl z)) (fun z => hsw (Or.inr z)) (by rw [ejsw]; decide +kernel) (by decide) (lc_11 C0 hi hN hI hV hl kk)
    · exact lv_tableIn (off := 421) (tgt := 454) hx hb dL_law_33 (fun z => hsw (Or.inl z)) (fun z => hsw (Or.inr z)) (by rw [ejsw]; decide +kernel) (by decide) (lc_12 C0 hi hN hI hV hl kk)
    · exact lv_tableIn (off := 454) (tgt := 487) hx hb dL_law_33 (fun z => hsw (Or.inl z)) (fun z => hsw (Or.inr z)) (by rw [ejsw]; decide +kernel) (by decide) (lc_13 C0 hi hN hI hV hl kk)
    · exact lv_tableIn (off := 497) (tgt := 530) hx hb dL_law_33 (fun z => hsw (Or.inl z)) (fun z => hsw (Or.inr z)) (by rw [ejsw]; decide +kernel) (by decide) (lc_14 C0 hi hN hI hV hl kk)
    · exact lv_tableIn (off := 530) (tgt := 563) hx hb dL_law_33 (fun z => hsw (Or.inl z)) (fun z => hsw (Or.inr z)) (by rw [ejsw]; decide +kernel) (by decide) (lc_15 C0 hi hN hI hV hl kk)
    · exact lv_tableIn (off := 553) (tgt := 586) hx hb dL_law_33 (fun z => hsw (Or.inl z)) (fun z => hsw (Or.inr z)) (by rw [ejsw]; decide +kernel) (by decide) (lc_16 C0 hi hN hI hV hl kk)
    · exact lv_tableIn (off := 576) (tgt := 609) hx hb dL_law_33 (fun z => hsw (Or.inl z)) (fun z => hsw (Or.inr z)) (by rw [ejsw]; decide +kernel) (by decide) (lc_17 C0 hi hN hI hV hl kk)
    · exact lv_tableIn (off := 619) (tgt := 652) hx hb dL_law_33 (fun z => hsw (Or.inl z)) (fun z => hsw (Or.inr z)) (by rw [ejsw]; decide +kernel) (by decide) (lc_18 C0 hi hN hI hV hl kk)
    · exact lv_tableIn (off := 662) (tgt := 695) hx hb dL_law_33 (fun z => hsw (Or.inl z)) (fun z => hsw (Or.inr z)) (by rw [ejsw]; decide +kernel) (by decide) (lc_19 C0 hi hN hI hV hl kk)
    · exact lv_tableIn (off := 695) (tgt := 728) hx hb dL_law_33 (fun z => hsw (Or.inl z)) (fun z => hsw (Or.inr z)) (by rw [ejsw]; decide +kernel) (by decide) (lc_20 C0 hi hN hI hV hl kk)
    · exact lv_tableIn (off := 728) (tgt := 761) hx hb dL_law_33 (fun z => hsw (Or.inl z)) (fun z => hsw (Or.inr z)) (by rw [ejsw]; decide +kernel) (by decide) (lc_21 C0 hi hN hI hV hl kk)
    · exact lv_tableIn (off := 761) (tgt := 794) hx hb dL_law_33 (fun z => hsw (Or.inl z)) (fun z => hsw (Or.inr z)) (by rw [ejsw]; decide +kernel) (by decide) (lc_22 C0 hi hN hI hV hl kk)
    · exact lv_tableIn (off := 794) (tgt := 827) hx hb dL_law_33 (fun z => hsw (Or.inl z)) (fun z => hsw (Or.inr z)) (by rw [ejsw]; decide +kernel) (by decide) (lc_23 C0 hi hN hI hV hl kk)
    · exact lv_tableIn (off := 837) (tgt := 870) hx hb dL_law_33 (fun z => hsw (Or.inl z)) (fun z => hsw (Or.inr z)) (by rw [ejsw]; decide +kernel) (by decide) (lc_24 C0 hi hN hI hV hl kk)
theorem lw_gt {i N : Nat} (hi : i ≤ 3072) (hN : N ≤ 3072) : (Int32.ofNat N - 6 < nI i) ↔ N < i + 6 := by
  have h1 : (Int32.ofNat N - 6 : Int32).toInt = (N : Int) - 6 := pk_sub_toInt (a := N) (b := 6) (by omega) (by decide)
  rw [Int32.lt_iff_toInt_lt, h1, nI_toInt (by omega)]
  omega
set_option maxHeartbeats 4000000 in
theorem lw_loop {p : Program} {l : Launch} {e : Env} {s : State} {m : MethodId} {below : List Frame} {meth : Method} {c : Code} {b N : Nat} {xs : Nat → Int32} {D : va_G} {X : XT} {ad : Nat → Nat} {A : Nat → Prop} {Q : State → Prop} (C0 : LX p s m c b N xs D X A) (hN : N ≤ 3072) (fin : ∀ (H : Heap) (locs : List Loc) (ls : Array Slot), (∀ q ∈ locs, A q.base) → W p l e room_1 s m #[Value.ref b] below meth c H locs 600000 7302250 Q (F0 m 919 ls [])) : ∀ (fu i : Nat), N < i + 6 * fu → i ≤ N → ∀ (J : MJ) (I : MI) (L : ML) (H : Heap) (locs : List Loc) (ls : Array Slot), LI X J I → Wd D X ad 48 A s.heap J I L H locs → lv_has ls 4 [(3, .int (nI i)), (2, .ref (ad 38)), (1, .ref (ad 0)), (0, .ref b)] → W p l e room_1 s m #[Value.ref b] below meth c H locs 600000 7302250 Q (F0 m 18 ls [])
  | 0, i, hf, hi => by omega
  | fu + 1, i, hf, hi => by
    intro J I L H locs ls hI hV hl
    have C1 := C0
    obtain ⟨hx, hb, hml, hown, hts, hS, hbl, hbA, hK, hZ, hA, hX⟩ := C1
    refine lv_iload_n hx hb dL_law_18 rfl (lv_at hl 0 rfl) ?_
    refine lv_aload_n hx hb dL_law_19 rfl (lv_at hl 3 rfl) ?_
    refine va_slen hx hb hS hbl hbA hV.2.2 dL_law_20 ?_
    refine lv_bipush (v := 6) hx hb dL_law_21 (by decide) ?_
    refine lv_isub hx hb dL_law_23 ?_
    refine lv_icmp_gt (tgt := 919) hx hb dL_law_24 (by decide) (fun _ => fin H locs ls hV.2.2.2.2) (fun hc => ?_)
    have hc2 : i + 6 ≤ N := by
      rcases Nat.lt_or_ge N (i + 6) with z | z
      · exact absurd ((lw_gt (by omega) hN).mpr z) hc
      · exact z
    refine lc_switch C0 hc2 hN hI hV hl (fun J I L H locs hI hV => ?_)
    refine lv_iinc (v := nI (i + 6)) (lv' := [(3, .int (nI (i + 6))), (2, .ref (ad 38)), (1, .ref (ad 0)), (0, .ref b)]) hx hb dL_law_913 hl (k := 0) rfl (by rw [← nI_add]; rfl) (by decide) rfl (fun ls hl => ?_)
    refine lv_goto (tgt := 18) hx hb dL_law_916 (by decide) ?_
    exact lw_loop C0 hN fin fu (i + 6) (by omega) hc2 J I L H locs ls hI hV hl
