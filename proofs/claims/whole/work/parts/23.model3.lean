theorem tw_3_211 : Cond.methodLink RX8 104 yX8_absorb ∈ gt := g3 211 (by decide +kernel) (by decide +kernel)
theorem tw_3_213 : Cond.instanceMethod yX8_absorb ∈ gt := g3 213 (by decide +kernel) (by decide +kernel)
theorem tw_0_20 : Cond.selects RX8 yX8_absorb yX8_absorb ∈ gt := g0 20 (by decide +kernel) (by decide +kernel)
theorem tw_3_214 : Cond.code yX8_absorb cX8_absorb 7 none ∈ gt := g3 214 rfl (by rfl)
theorem tw_3_99 : Cond.fieldLink RX8 17 "LatticeVaultModel" "most" "I" ∈ gt := g3 99 (by decide +kernel) (by decide +kernel)
theorem tw_3_166 : Cond.methodLink RX8 108 yX8_copy ∈ gt := g3 166 (by decide +kernel) (by decide +kernel)
theorem tw_3_168 : Cond.instanceMethod yX8_copy ∈ gt := g3 168 (by decide +kernel) (by decide +kernel)
theorem tw_0_14 : Cond.selects RX8 yX8_copy yX8_copy ∈ gt := g0 14 (by decide +kernel) (by decide +kernel)
theorem tw_3_169 : Cond.code yX8_copy cX8_copy 5 none ∈ gt := g3 169 rfl (by rfl)
theorem tw_4_23 : Cond.methodLink RX8 112 yX8_sampled ∈ gt := g4 23 (by decide +kernel) (by decide +kernel)
theorem tw_4_25 : Cond.instanceMethod yX8_sampled ∈ gt := g4 25 (by decide +kernel) (by decide +kernel)
theorem tw_0_32 : Cond.selects RX8 yX8_sampled yX8_sampled ∈ gt := g0 32 (by decide +kernel) (by decide +kernel)
theorem tw_4_26 : Cond.code yX8_sampled cX8_sampled 9 (some .int) ∈ gt := g4 26 rfl (by rfl)
theorem tw_3_231 : Cond.methodLink RX8 115 yX8_tells ∈ gt := g3 231 (by decide +kernel) (by decide +kernel)
theorem tw_3_233 : Cond.instanceMethod yX8_tells ∈ gt := g3 233 (by decide +kernel) (by decide +kernel)
theorem tw_0_25 : Cond.selects RX8 yX8_tells yX8_tells ∈ gt := g0 25 (by decide +kernel) (by decide +kernel)
theorem tw_3_234 : Cond.code yX8_tells cX8_tells 4 none ∈ gt := g3 234 rfl (by rfl)
theorem tw_3_98 : Cond.fieldLink RX8 13 "LatticeVaultModel" "k" "I" ∈ gt := g3 98 (by decide +kernel) (by decide +kernel)
theorem tw_4_47 : Cond.methodLink RX8 118 yX8_du ∈ gt := g4 47 (by decide +kernel) (by decide +kernel)
theorem tw_4_49 : Cond.instanceMethod yX8_du ∈ gt := g4 49 (by decide +kernel) (by decide +kernel)
theorem tw_0_37 : Cond.selects RX8 yX8_du yX8_du ∈ gt := g0 37 (by decide +kernel) (by decide +kernel)
theorem tw_4_50 : Cond.code yX8_du cX8_du 1 (some .int) ∈ gt := g4 50 rfl (by rfl)
theorem tw_4_51 : Cond.methodLink RX8 121 yX8_dv ∈ gt := g4 51 (by decide +kernel) (by decide +kernel)
theorem tw_4_53 : Cond.instanceMethod yX8_dv ∈ gt := g4 53 (by decide +kernel) (by decide +kernel)
theorem tw_0_38 : Cond.selects RX8 yX8_dv yX8_dv ∈ gt := g0 38 (by decide +kernel) (by decide +kernel)
theorem tw_4_54 : Cond.code yX8_dv cX8_dv 1 (some .int) ∈ gt := g4 54 rfl (by rfl)
theorem tw_3_207 : Cond.methodLink RX8 124 yX8_g ∈ gt := g3 207 (by decide +kernel) (by decide +kernel)
theorem tw_3_209 : Cond.instanceMethod yX8_g ∈ gt := g3 209 (by decide +kernel) (by decide +kernel)
theorem tw_0_19 : Cond.selects RX8 yX8_g yX8_g ∈ gt := g0 19 (by decide +kernel) (by decide +kernel)
theorem tw_3_210 : Cond.code yX8_g cX8_g 2 none ∈ gt := g3 210 rfl (by rfl)
theorem tw_4_31 : Cond.methodLink RX8 144 yX8_written ∈ gt := g4 31 (by decide +kernel) (by decide +kernel)
theorem tw_4_33 : Cond.instanceMethod yX8_written ∈ gt := g4 33 (by decide +kernel) (by decide +kernel)
theorem tw_0_34 : Cond.selects RX8 yX8_written yX8_written ∈ gt := g0 34 (by decide +kernel) (by decide +kernel)
theorem tw_4_34 : Cond.code yX8_written cX8_written 6 none ∈ gt := g4 34 rfl (by rfl)
theorem tw_4_19 : Cond.methodLink RX8 137 yX8_matrix ∈ gt := g4 19 (by decide +kernel) (by decide +kernel)
theorem tw_4_21 : Cond.instanceMethod yX8_matrix ∈ gt := g4 21 (by decide +kernel) (by decide +kernel)
theorem tw_0_31 : Cond.selects RX8 yX8_matrix yX8_matrix ∈ gt := g0 31 (by decide +kernel) (by decide +kernel)
theorem tw_4_22 : Cond.code yX8_matrix cX8_matrix 5 (some .int) ∈ gt := g4 22 rfl (by rfl)
theorem tw_4_27 : Cond.methodLink RX8 141 yX8_product ∈ gt := g4 27 (by decide +kernel) (by decide +kernel)
theorem tw_4_29 : Cond.instanceMethod yX8_product ∈ gt := g4 29 (by decide +kernel) (by decide +kernel)
theorem tw_0_33 : Cond.selects RX8 yX8_product yX8_product ∈ gt := g0 33 (by decide +kernel) (by decide +kernel)
theorem tw_4_30 : Cond.code yX8_product cX8_product 18 none ∈ gt := g4 30 rfl (by rfl)
theorem tw_3_239 : Cond.methodLink RX8 127 yX8_eta1 ∈ gt := g3 239 (by decide +kernel) (by decide +kernel)
theorem tw_4_1 : Cond.instanceMethod yX8_eta1 ∈ gt := g4 1 (by decide +kernel) (by decide +kernel)
theorem tw_0_27 : Cond.selects RX8 yX8_eta1 yX8_eta1 ∈ gt := g0 27 (by decide +kernel) (by decide +kernel)
theorem tw_4_2 : Cond.code yX8_eta1 cX8_eta1 1 (some .int) ∈ gt := g4 2 rfl (by rfl)
theorem tw_4_3 : Cond.methodLink RX8 130 yX8_noised ∈ gt := g4 3 (by decide +kernel) (by decide +kernel)
theorem tw_4_5 : Cond.instanceMethod yX8_noised ∈ gt := g4 5 (by decide +kernel) (by decide +kernel)
theorem tw_0_28 : Cond.selects RX8 yX8_noised yX8_noised ∈ gt := g0 28 (by decide +kernel) (by decide +kernel)
theorem tw_4_6 : Cond.code yX8_noised cX8_noised 10 none ∈ gt := g4 6 rfl (by rfl)
theorem tw_4_11 : Cond.methodLink RX8 134 yX8_bringForward ∈ gt := g4 11 (by decide +kernel) (by decide +kernel)
theorem tw_4_13 : Cond.instanceMethod yX8_bringForward ∈ gt := g4 13 (by decide +kernel) (by decide +kernel)
theorem tw_0_29 : Cond.selects RX8 yX8_bringForward yX8_bringForward ∈ gt := g0 29 (by decide +kernel) (by decide +kernel)
theorem tw_4_14 : Cond.code yX8_bringForward cX8_bringForward 10 none ∈ gt := g4 14 rfl (by rfl)
theorem tw_4_67 : Cond.methodLink RX8 147 yX8_zero ∈ gt := g4 67 (by decide +kernel) (by decide +kernel)
theorem tw_4_69 : Cond.instanceMethod yX8_zero ∈ gt := g4 69 (by decide +kernel) (by decide +kernel)
theorem tw_0_41 : Cond.selects RX8 yX8_zero yX8_zero ∈ gt := g0 41 (by decide +kernel) (by decide +kernel)
theorem tw_4_70 : Cond.code yX8_zero cX8_zero 3 none ∈ gt := g4 70 rfl (by rfl)
theorem tw_4_71 : Cond.methodLink RX8 150 yX8_bringBack ∈ gt := g4 71 (by decide +kernel) (by decide +kernel)
theorem tw_4_73 : Cond.instanceMethod yX8_bringBack ∈ gt := g4 73 (by decide +kernel) (by decide +kernel)
theorem tw_0_42 : Cond.selects RX8 yX8_bringBack yX8_bringBack ∈ gt := g0 42 (by decide +kernel) (by decide +kernel)
theorem tw_4_74 : Cond.code yX8_bringBack cX8_bringBack 10 none ∈ gt := g4 74 rfl (by rfl)
theorem tw_4_76 : Cond.methodLink RX8 153 yX8_plus ∈ gt := g4 76 (by decide +kernel) (by decide +kernel)
theorem tw_4_78 : Cond.instanceMethod yX8_plus ∈ gt := g4 78 (by decide +kernel) (by decide +kernel)
theorem tw_0_43 : Cond.selects RX8 yX8_plus yX8_plus ∈ gt := g0 43 (by decide +kernel) (by decide +kernel)
theorem tw_4_79 : Cond.code yX8_plus cX8_plus 5 none ∈ gt := g4 79 rfl (by rfl)
theorem tw_4_86 : Cond.methodLink RX8 159 yX8_readPol ∈ gt := g4 86 (by decide +kernel) (by decide +kernel)
theorem tw_4_88 : Cond.instanceMethod yX8_readPol ∈ gt := g4 88 (by decide +kernel) (by decide +kernel)
theorem tw_0_45 : Cond.selects RX8 yX8_readPol yX8_readPol ∈ gt := g0 45 (by decide +kernel) (by decide +kernel)
theorem tw_4_89 : Cond.code yX8_readPol cX8_readPol 5 none ∈ gt := g4 89 rfl (by rfl)
theorem tw_4_90 : Cond.methodLink RX8 162 yX8_stretched ∈ gt := g4 90 (by decide +kernel) (by decide +kernel)
theorem tw_4_92 : Cond.instanceMethod yX8_stretched ∈ gt := g4 92 (by decide +kernel) (by decide +kernel)
theorem tw_0_46 : Cond.selects RX8 yX8_stretched yX8_stretched ∈ gt := g0 46 (by decide +kernel) (by decide +kernel)
theorem tw_4_93 : Cond.code yX8_stretched cX8_stretched 6 none ∈ gt := g4 93 rfl (by rfl)
theorem tw_4_80 : Cond.methodLink RX8 156 yX8_pressed ∈ gt := g4 80 (by decide +kernel) (by decide +kernel)
theorem tw_4_82 : Cond.instanceMethod yX8_pressed ∈ gt := g4 82 (by decide +kernel) (by decide +kernel)
theorem tw_0_44 : Cond.selects RX8 yX8_pressed yX8_pressed ∈ gt := g0 44 (by decide +kernel) (by decide +kernel)
theorem tw_4_83 : Cond.code yX8_pressed cX8_pressed 6 none ∈ gt := g4 83 rfl (by rfl)
def wj_X8_sampled_136 (X : XT) (J : MJ) (q : Int32 → MI → ML → Prop)  (x0 : Nat) (x1 : Int32) (x2 : Int32) (x3 : Int32)  (I : MI) (L : ML) : Prop := (((256 ≤ x2) → (wp_X8_copyPol X J x0 18 x1 I L (fun I_3 L_4 => q x3 I_3 L_4))) ∧ (¬ (256 ≤ x2) → q (-1) I L))
def wj_X8_sampled_133 (X : XT) (J : MJ) (q : Int32 → MI → ML → Prop) (k17 : Int32 → Int32 → MI → ML → Prop) (x0 : Nat) (x1 : Int32) (x2 : Int32) (x3 : Int32)  (I : MI) (L : ML) : Prop := k17 x2 x3 I L
def wj_X8_sampled_103 (X : XT) (J : MJ) (q : Int32 → MI → ML → Prop) (k17 : Int32 → Int32 → MI → ML → Prop) (x0 : Nat) (x1 : Int32) (x2 : Int32) (x3 : Int32) (x8 : Int32)  (I : MI) (L : ML) : Prop := (((3329 ≤ x8) → wj_X8_sampled_133 X J q k17 x0 x1 x2 x3  I L) ∧ (¬ (3329 ≤ x8) → (((256 ≤ x2) → wj_X8_sampled_133 X J q k17 x0 x1 x2 x3  I L) ∧ (¬ (256 ≤ x2) → (∃ r_17 : Nat, J x0 16 = some r_17 ∧ (vp_in (4608 + x2) (sl X r_17) ∧ ∀ I_19, I_19 = ms I r_17 (4608 + x2).toNatClampNeg x8 → (∀ x2_20 : Int32, x2_20 = x2 + 1 → wj_X8_sampled_133 X J q k17 x0 x1 x2_20 x3  I_19 L)))))))
def wl_X8_sampled_17 (X : XT) (J : MJ) (q : Int32 → MI → ML → Prop)  (x0 : Nat) (x1 : Int32) : Nat → Int32 → Int32 → MI → ML → Prop
  | 0 => fun _ _ _ _ => False
  | fu + 1 => fun x2 x3 I L => (((256 ≤ x2) → wj_X8_sampled_136 X J q  x0 x1 x2 x3  I L) ∧ (¬ (256 ≤ x2) → ((((I x0 8) ≤ x3) → wj_X8_sampled_136 X J q  x0 x1 x2 x3  I L) ∧ (¬ ((I x0 8) ≤ x3) → (wp_X8_told X J x0 I L (fun v_7 I_5 L_6 => (wp_X8_told X J x0 I_5 L_6 (fun v_10 I_8 L_9 => (wp_X8_told X J x0 I_8 L_9 (fun v_13 I_11 L_12 => (∀ x3_14 : Int32, x3_14 = x3 + 1 → (∀ x7_15 : Int32, x7_15 = v_7 + (256 * (jrem v_10 16)) → (∀ x8_16 : Int32, x8_16 = (v_10 / 16) + (16 * v_13) → (((3329 ≤ x7_15) → wj_X8_sampled_103 X J q (wl_X8_sampled_17 X J q  x0 x1 fu) x0 x1 x2 x3_14 x8_16  I_11 L_12) ∧ (¬ (3329 ≤ x7_15) → (∃ r_21 : Nat, J x0 16 = some r_21 ∧ (vp_in (4608 + x2) (sl X r_21) ∧ ∀ I_23, I_23 = ms I_11 r_21 (4608 + x2).toNatClampNeg x7_15 → (∀ x2_24 : Int32, x2_24 = x2 + 1 → wj_X8_sampled_103 X J q (wl_X8_sampled_17 X J q  x0 x1 fu) x0 x1 x2_24 x3_14 x8_16  I_23 L_12))))))))))))))))))
def wp_X8_sampled (X : XT) (J : MJ) (x0 : Nat) (x1 : Int32) (I : MI) (L : ML) (q : Int32 → MI → ML → Prop) : Prop := (wp_X8_absorb X J x0 168 11336 34 0 I L (fun I_1 L_2 => ∃ fu0 : Nat, wl_X8_sampled_17 X J q  x0 x1 fu0 0 0 I_1 L_2))
def wp_X8_matrix (X : XT) (J : MJ) (x0 : Nat) (x1 : Int32) (x2 : Int32) (x3 : Int32) (x4 : Int32) (I : MI) (L : ML) (q : Int32 → MI → ML → Prop) : Prop := (wp_X8_copy X J x0 x1 11336 32 I L (fun I_1 L_2 => (∃ r_3 : Nat, J x0 0 = some r_3 ∧ (vp_in 11368 (sl X r_3) ∧ ∀ I_5, I_5 = ms I_1 r_3 (11368 : Int32).toNatClampNeg (jb8 (jb8 x2)) → (vp_in 11369 (sl X r_3) ∧ ∀ I_7, I_7 = ms I_5 r_3 (11369 : Int32).toNatClampNeg (jb8 (jb8 x3)) → (wp_X8_sampled X J x0 x4 I_7 L_2 (fun v_10 I_8 L_9 => q v_10 I_8 L_9)))))))
def wj_X8_noised_119 (X : XT) (J : MJ) (q : MI → ML → Prop) (k47 : Int32 → MI → ML → Prop) (k61 : Int32 → Int32 → MI → ML → Prop) (x0 : Nat) (x3 : Int32) (x4 : Int32) (x5 : Int32) (x7 : Int32) (z0 : Int32) (z1 : Int32) (I : MI) (L : ML) : Prop := (∀ x6_22 : Int32, x6_22 = z0 + z1 → (∀ x7_23 : Int32, x7_23 = x7 + 1 → k61 x6_22 x7_23 I L))
def wl_X8_noised_61 (X : XT) (J : MJ) (q : MI → ML → Prop) (k47 : Int32 → MI → ML → Prop) (x0 : Nat) (x3 : Int32) (x4 : Int32) (x5 : Int32) : Nat → Int32 → Int32 → MI → ML → Prop
  | 0 => fun _ _ _ _ => False
  | fu + 1 => fun x6 x7 I L => ((((2 * x3) ≤ x7) → (∃ r_10 : Nat, J x0 16 = some r_10 ∧ (wp_X8_ring X J x6.toInt64 I L (fun v_13 I_11 L_12 => (vp_in ((256 * x4) + x5) (sl X r_10) ∧ ∀ I_15, I_15 = ms I_11 r_10 ((256 * x4) + x5).toNatClampNeg v_13 → (∀ x5_16 : Int32, x5_16 = x5 + 1 → k47 x5_16 I_15 L_12)))))) ∧ (¬ ((2 * x3) ≤ x7) → (∀ x8_17 : Int32, x8_17 = ((2 * x3) * x5) + x7 → (wp_X8_byteAt X J x0 (15436 + (x8_17 / 8)) I L (fun v_20 I_18 L_19 => (∀ x9_21 : Int32, x9_21 = (jshr v_20 (jrem x8_17 8)) &&& 1 → (((x3 ≤ x7) → wj_X8_noised_119 X J q k47 (wl_X8_noised_61 X J q k47 x0 x3 x4 x5 fu) x0 x3 x4 x5 x7 x6 (-x9_21) I_18 L_19) ∧ (¬ (x3 ≤ x7) → wj_X8_noised_119 X J q k47 (wl_X8_noised_61 X J q k47 x0 x3 x4 x5 fu) x0 x3 x4 x5 x7 x6 x9_21 I_18 L_19))))))))
def wl_X8_noised_47 (X : XT) (J : MJ) (q : MI → ML → Prop)  (x0 : Nat) (x3 : Int32) (x4 : Int32) : Nat → Int32 → MI → ML → Prop
  | 0 => fun _ _ _ => False
  | fu + 1 => fun x5 I L => (((256 ≤ x5) → q I L) ∧ (¬ (256 ≤ x5) → ∃ fu0 : Nat, wl_X8_noised_61 X J q (wl_X8_noised_47 X J q  x0 x3 x4 fu) x0 x3 x4 x5 fu0 0 0 I L))
def wp_X8_noised (X : XT) (J : MJ) (x0 : Nat) (x1 : Int32) (x2 : Int32) (x3 : Int32) (x4 : Int32) (I : MI) (L : ML) (q : MI → ML → Prop) : Prop := (wp_X8_copy X J x0 x1 11336 32 I L (fun I_1 L_2 => (∃ r_3 : Nat, J x0 0 = some r_3 ∧ (vp_in 11368 (sl X r_3) ∧ ∀ I_5, I_5 = ms I_1 r_3 (11368 : Int32).toNatClampNeg (jb8 (jb8 x2)) → (wp_X8_absorb X J x0 136 11336 33 0 I_5 L_2 (fun I_6 L_7 => (wp_X8_tells X J x0 15436 (64 * x3) I_6 L_7 (fun I_8 L_9 => ∃ fu0 : Nat, wl_X8_noised_47 X J q  x0 x3 x4 fu0 0 I_8 L_9))))))))
def wp_X8_eta1 (X : XT) (J : MJ) (x0 : Nat) (I : MI) (L : ML) (q : Int32 → MI → ML → Prop) : Prop := ((¬ ((I x0 7) = 2) → q 2 I L) ∧ (((I x0 7) = 2) → q 3 I L))
def wp_X8_du (X : XT) (J : MJ) (x0 : Nat) (I : MI) (L : ML) (q : Int32 → MI → ML → Prop) : Prop := ((¬ ((I x0 7) = 4) → q 10 I L) ∧ (((I x0 7) = 4) → q 11 I L))
def wp_X8_dv (X : XT) (J : MJ) (x0 : Nat) (I : MI) (L : ML) (q : Int32 → MI → ML → Prop) : Prop := ((¬ ((I x0 7) = 4) → q 4 I L) ∧ (((I x0 7) = 4) → q 5 I L))
def wp_X8_ekBytes (X : XT) (J : MJ) (x0 : Nat) (I : MI) (L : ML) (q : Int32 → MI → ML → Prop) : Prop := q ((384 * (I x0 7)) + 32) I L
def wp_X8_textBytes (X : XT) (J : MJ) (x0 : Nat) (I : MI) (L : ML) (q : Int32 → MI → ML → Prop) : Prop := (wp_X8_du X J x0 I L (fun v_3 I_1 L_2 => (wp_X8_dv X J x0 I_1 L_2 (fun v_6 I_4 L_5 => q (32 * ((v_3 * (I_1 x0 7)) + v_6)) I_4 L_5))))
def wp_X8_g (X : XT) (J : MJ) (x0 : Nat) (x1 : Int32) (I : MI) (L : ML) (q : MI → ML → Prop) : Prop := (wp_X8_absorb X J x0 72 11336 x1 1 I L (fun I_1 L_2 => (wp_X8_tells X J x0 19612 64 I_1 L_2 (fun I_3 L_4 => q I_3 L_4))))
def wl_X8_made_130 (X : XT) (J : MJ) (q : Int32 → MI → ML → Prop) (k110 : Int32 → MI → ML → Prop) (x0 : Nat) (x1 : Int32) : Nat → Int32 → MI → ML → Prop
  | 0 => fun _ _ _ => False
  | fu + 1 => fun x2 I L => ((((I x0 7) ≤ x2) → (wp_X8_written X J x0 16 12 (16476 + (384 * x1)) I L (fun I_14 L_15 => (∀ x1_16 : Int32, x1_16 = x1 + 1 → k110 x1_16 I_14 L_15)))) ∧ (¬ ((I x0 7) ≤ x2) → (wp_X8_matrix X J x0 19804 x2 x1 17 I L (fun v_19 I_17 L_18 => ((¬ (v_19 = (-1)) → (wp_X8_product X J x0 17 (4 + x2) 16 1 I_17 L_18 (fun I_20 L_21 => (∀ x2_22 : Int32, x2_22 = x2 + 1 → wl_X8_made_130 X J q k110 x0 x1 fu x2_22 I_20 L_21)))) ∧ ((v_19 = (-1)) → q 0 I_17 L_18))))))
def wl_X8_made_110 (X : XT) (J : MJ) (q : Int32 → MI → ML → Prop)  (x0 : Nat) : Nat → Int32 → MI → ML → Prop
  | 0 => fun _ _ _ => False
  | fu + 1 => fun x1 I L => ((((I x0 7) ≤ x1) → (wp_X8_copy X J x0 19804 (16476 + (384 * (I x0 7))) 32 I L (fun I_10 L_11 => q 1 I_10 L_11))) ∧ (¬ ((I x0 7) ≤ x1) → (wp_X8_copyPol X J x0 (8 + x1) 16 I L (fun I_12 L_13 => ∃ fu0 : Nat, wl_X8_made_130 X J q (wl_X8_made_110 X J q  x0 fu) x0 x1 fu0 0 I_12 L_13))))
def wl_X8_made_43 (X : XT) (J : MJ) (q : Int32 → MI → ML → Prop)  (x0 : Nat) : Nat → Int32 → MI → ML → Prop
  | 0 => fun _ _ _ => False
  | fu + 1 => fun x1 I L => ((((I x0 7) ≤ x1) → ∃ fu0 : Nat, wl_X8_made_110 X J q  x0 fu0 0 I L) ∧ (¬ ((I x0 7) ≤ x1) → (wp_X8_eta1 X J x0 I L (fun v_25 I_23 L_24 => (wp_X8_noised X J x0 19836 x1 v_25 (4 + x1) I_23 L_24 (fun I_26 L_27 => (wp_X8_eta1 X J x0 I_26 L_27 (fun v_30 I_28 L_29 => (wp_X8_noised X J x0 19836 ((I_26 x0 7) + x1) v_30 (8 + x1) I_28 L_29 (fun I_31 L_32 => (wp_X8_bringForward X J x0 (4 + x1) I_31 L_32 (fun I_33 L_34 => (wp_X8_bringForward X J x0 (8 + x1) I_33 L_34 (fun I_35 L_36 => (∀ x1_37 : Int32, x1_37 = x1 + 1 → wl_X8_made_43 X J q  x0 fu x1_37 I_35 L_36)))))))))))))))
def wp_X8_made (X : XT) (J : MJ) (x0 : Nat) (I : MI) (L : ML) (q : Int32 → MI → ML → Prop) : Prop := (wp_X8_copy X J x0 0 11336 32 I L (fun I_1 L_2 => (∃ r_3 : Nat, J x0 0 = some r_3 ∧ (vp_in 11368 (sl X r_3) ∧ ∀ I_5, I_5 = ms I_1 r_3 (11368 : Int32).toNatClampNeg (jb8 (jb8 (I_1 x0 7))) → (wp_X8_g X J x0 33 I_5 L_2 (fun I_6 L_7 => (wp_X8_copy X J x0 19612 19804 64 I_6 L_7 (fun I_8 L_9 => ∃ fu0 : Nat, wl_X8_made_43 X J q  x0 fu0 0 I_8 L_9))))))))
def wl_X8_locks_196 (X : XT) (J : MJ) (q : Int32 → MI → ML → Prop)  (x0 : Nat) (x1 : Int32) : Nat → Int32 → MI → ML → Prop
  | 0 => fun _ _ _ => False
  | fu + 1 => fun x2 I L => ((((I x0 7) ≤ x2) → (wp_X8_bringBack X J x0 16 I L (fun I_5 L_6 => (wp_X8_noised X J x0 19804 (2 * (I_5 x0 7)) 2 17 I_5 L_6 (fun I_7 L_8 => (wp_X8_plus X J x0 16 17 1 I_7 L_8 (fun I_9 L_10 => (wp_X8_readPol X J x0 17 1 19740 I_9 L_10 (fun I_11 L_12 => (wp_X8_stretched X J x0 17 1 I_11 L_12 (fun I_13 L_14 => (wp_X8_plus X J x0 16 17 1 I_13 L_14 (fun I_15 L_16 => (wp_X8_dv X J x0 I_15 L_16 (fun v_19 I_17 L_18 => (wp_X8_pressed X J x0 16 v_19 I_17 L_18 (fun I_20 L_21 => (wp_X8_dv X J x0 I_20 L_21 (fun v_24 I_22 L_23 => (wp_X8_du X J x0 I_22 L_23 (fun v_27 I_25 L_26 => (wp_X8_written X J x0 16 v_24 (18044 + ((32 * v_27) * (I_25 x0 7))) I_25 L_26 (fun I_28 L_29 => q 1 I_28 L_29))))))))))))))))))))))) ∧ (¬ ((I x0 7) ≤ x2) → (wp_X8_readPol X J x0 17 12 (x1 + (384 * x2)) I L (fun I_30 L_31 => (wp_X8_product X J x0 17 (4 + x2) 16 1 I_30 L_31 (fun I_32 L_33 => (∀ x2_34 : Int32, x2_34 = x2 + 1 → wl_X8_locks_196 X J q  x0 x1 fu x2_34 I_32 L_33)))))))
def wl_X8_locks_68 (X : XT) (J : MJ) (q : Int32 → MI → ML → Prop) (k52 : Int32 → MI → ML → Prop) (x0 : Nat) (x1 : Int32) (x2 : Int32) : Nat → Int32 → MI → ML → Prop
  | 0 => fun _ _ _ => False
  | fu + 1 => fun x3 I L => ((((I x0 7) ≤ x3) → (wp_X8_bringBack X J x0 16 I L (fun I_37 L_38 => (wp_X8_noised X J x0 19804 ((I_37 x0 7) + x2) 2 17 I_37 L_38 (fun I_39 L_40 => (wp_X8_plus X J x0 16 17 1 I_39 L_40 (fun I_41 L_42 => (wp_X8_du X J x0 I_41 L_42 (fun v_45 I_43 L_44 => (wp_X8_pressed X J x0 16 v_45 I_43 L_44 (fun I_46 L_47 => (wp_X8_du X J x0 I_46 L_47 (fun v_50 I_48 L_49 => (wp_X8_du X J x0 I_48 L_49 (fun v_53 I_51 L_52 => (wp_X8_written X J x0 16 v_50 (18044 + ((32 * v_53) * x2)) I_51 L_52 (fun I_54 L_55 => (∀ x2_56 : Int32, x2_56 = x2 + 1 → k52 x2_56 I_54 L_55)))))))))))))))))) ∧ (¬ ((I x0 7) ≤ x3) → (wp_X8_matrix X J x0 (x1 + (384 * (I x0 7))) x2 x3 17 I L (fun v_59 I_57 L_58 => ((¬ (v_59 = (-1)) → (wp_X8_product X J x0 17 (4 + x3) 16 1 I_57 L_58 (fun I_60 L_61 => (∀ x3_62 : Int32, x3_62 = x3 + 1 → wl_X8_locks_68 X J q k52 x0 x1 x2 fu x3_62 I_60 L_61)))) ∧ ((v_59 = (-1)) → q 0 I_57 L_58))))))
def wl_X8_locks_52 (X : XT) (J : MJ) (q : Int32 → MI → ML → Prop)  (x0 : Nat) (x1 : Int32) : Nat → Int32 → MI → ML → Prop
  | 0 => fun _ _ _ => False
  | fu + 1 => fun x2 I L => ((((I x0 7) ≤ x2) → (wp_X8_zero X J x0 16 I L (fun I_3 L_4 => ∃ fu0 : Nat, wl_X8_locks_196 X J q  x0 x1 fu0 0 I_3 L_4))) ∧ (¬ ((I x0 7) ≤ x2) → (wp_X8_zero X J x0 16 I L (fun I_35 L_36 => ∃ fu0 : Nat, wl_X8_locks_68 X J q (wl_X8_locks_52 X J q  x0 x1 fu) x0 x1 x2 fu0 0 I_35 L_36))))
def wl_X8_locks_14 (X : XT) (J : MJ) (q : Int32 → MI → ML → Prop)  (x0 : Nat) (x1 : Int32) : Nat → Int32 → MI → ML → Prop
  | 0 => fun _ _ _ => False
  | fu + 1 => fun x2 I L => ((((I x0 7) ≤ x2) → ∃ fu0 : Nat, wl_X8_locks_52 X J q  x0 x1 fu0 0 I L) ∧ (¬ ((I x0 7) ≤ x2) → (wp_X8_eta1 X J x0 I L (fun v_65 I_63 L_64 => (wp_X8_noised X J x0 19804 x2 v_65 (4 + x2) I_63 L_64 (fun I_66 L_67 => (wp_X8_bringForward X J x0 (4 + x2) I_66 L_67 (fun I_68 L_69 => (∀ x2_70 : Int32, x2_70 = x2 + 1 → wl_X8_locks_14 X J q  x0 x1 fu x2_70 I_68 L_69)))))))))
def wp_X8_locks (X : XT) (J : MJ) (x0 : Nat) (x1 : Int32) (I : MI) (L : ML) (q : Int32 → MI → ML → Prop) : Prop := (wp_X8_copy X J x0 19644 19804 32 I L (fun I_1 L_2 => ∃ fu0 : Nat, wl_X8_locks_14 X J q  x0 x1 fu0 0 I_1 L_2))
def wl_X8_unlocks_8 (X : XT) (J : MJ) (q : MI → ML → Prop)  (x0 : Nat) (x1 : Int32) : Nat → Int32 → MI → ML → Prop
  | 0 => fun _ _ _ => False
  | fu + 1 => fun x2 I L => ((((I x0 7) ≤ x2) → (wp_X8_bringBack X J x0 16 I L (fun I_3 L_4 => (wp_X8_dv X J x0 I_3 L_4 (fun v_7 I_5 L_6 => (wp_X8_du X J x0 I_5 L_6 (fun v_10 I_8 L_9 => (wp_X8_readPol X J x0 17 v_7 (8736 + ((32 * v_10) * (I_8 x0 7))) I_8 L_9 (fun I_11 L_12 => (wp_X8_dv X J x0 I_11 L_12 (fun v_15 I_13 L_14 => (wp_X8_stretched X J x0 17 v_15 I_13 L_14 (fun I_16 L_17 => (wp_X8_plus X J x0 17 16 (-1) I_16 L_17 (fun I_18 L_19 => (wp_X8_pressed X J x0 17 1 I_18 L_19 (fun I_20 L_21 => (wp_X8_written X J x0 17 1 19740 I_20 L_21 (fun I_22 L_23 => q I_22 L_23))))))))))))))))))) ∧ (¬ ((I x0 7) ≤ x2) → (wp_X8_du X J x0 I L (fun v_26 I_24 L_25 => (wp_X8_du X J x0 I_24 L_25 (fun v_29 I_27 L_28 => (wp_X8_readPol X J x0 17 v_26 (8736 + ((32 * v_29) * x2)) I_27 L_28 (fun I_30 L_31 => (wp_X8_du X J x0 I_30 L_31 (fun v_34 I_32 L_33 => (wp_X8_stretched X J x0 17 v_34 I_32 L_33 (fun I_35 L_36 => (wp_X8_bringForward X J x0 17 I_35 L_36 (fun I_37 L_38 => (wp_X8_readPol X J x0 12 12 (x1 + (384 * x2)) I_37 L_38 (fun I_39 L_40 => (wp_X8_product X J x0 17 12 16 1 I_39 L_40 (fun I_41 L_42 => (∀ x2_43 : Int32, x2_43 = x2 + 1 → wl_X8_unlocks_8 X J q  x0 x1 fu x2_43 I_41 L_42)))))))))))))))))))
def wp_X8_unlocks (X : XT) (J : MJ) (x0 : Nat) (x1 : Int32) (I : MI) (L : ML) (q : MI → ML → Prop) : Prop := (wp_X8_zero X J x0 16 I L (fun I_1 L_2 => ∃ fu0 : Nat, wl_X8_unlocks_8 X J q  x0 x1 fu0 0 I_1 L_2))
def wp_X8_h (X : XT) (J : MJ) (x0 : Nat) (x1 : Int32) (x2 : Int32) (x3 : Int32) (I : MI) (L : ML) (q : MI → ML → Prop) : Prop := (wp_X8_absorb X J x0 136 x1 x2 1 I L (fun I_1 L_2 => (wp_X8_tells X J x0 x3 32 I_1 L_2 (fun I_3 L_4 => q I_3 L_4))))
set_option maxHeartbeats 4000000 in
set_option maxRecDepth 100000 in
theorem n_X8_sampled_136 {p : Program} {l : Launch} {e : Env} {s : State} {m : MethodId} {below : List Frame} {meth : Method} {c : Code} {D : va_G} {X : XT} {ad : Nat → Nat} {n : Nat} {A : Nat → Prop} {J : MJ} {av : List Value} {R : Room} (hR : R = ({ frames := 6, cells := 0, slots := 0, locals := 139 } : Room)) (C0 : Cx p s m meth c cX8_sampled (some .int) 9 yX8_sampled av D X ad n A J) {q : Int32 → MI → ML → Prop}  {x0 : Nat} {x1 : Int32} {x2 : Int32} {x3 : Int32}  {I : MI} {L : ML} {H : Heap} {locs : List Loc} {ls : Array Slot} (t0 : Ty X n x0 9) (h : wj_X8_sampled_136 X J q  x0 x1 x2 x3  I L) (hV : Wd D X ad n A s.heap J I L H locs) (hl : lv_has ls 9 [(0, .ref (ad x0)), (1, .int x1), (2, .int x2), (3, .int x3)]) : W p l e R s m av.toArray below meth c H locs 0 0 (MQ below (QI D X ad n A J q) av.toArray s 0 0 A) (F0 m 136 ls []) := by
  obtain ⟨hx, hb, hr, hml, hown, hlk, hnm, hts, hK, hZ, hA, hWT⟩ := id C0
  subst hR
  unfold wj_X8_sampled_136 at h
  refine lv_iload_n hx hb dX8_sampled_136 rfl (lv_at hl 2 rfl) ?_
  refine lv_sipush (v := 256) hx hb dX8_sampled_137 (by decide) ?_
  refine lv_icmp_ge (tgt := 145) hx hb dX8_sampled_140 (by decide) (fun hc => ?_) (fun hc => ?_)
  · replace h := h.1 hc
    refine lv_aload_n hx hb dX8_sampled_145 rfl (lv_at hl 0 rfl) ?_
    refine lv_bipush (v := 18) hx hb dX8_sampled_146 (by decide) ?_
    refine lv_iload_n hx hb dX8_sampled_148 rfl (lv_at hl 1 rfl) ?_
    refine k_callv (va_runV (As := [.int 18, .int x1]) (rest := []) ⟨hx, hb, hml, hown, hts⟩ (s_X8_copyPol l D X ad n A J hWT x0 t0 18 x1 I L _ h) (cwV 2 hts (gV tw_4_15 tw_4_17 tw_0_30 tw_1_9 tw_4_18) rfl rfl rfl (by decide +kernel) (by decide)) (k_preV (ci := 5) hK hV hA hZ t0 rfl _) rfl rfl hl.1 rfl (lv_room (Nat.le_of_ble_eq_true rfl)) dX8_sampled_149 ⟨Nat.zero_le _, Nat.zero_le _⟩) hV (fun I_3 L_4 H locs h hV => ?_)
    refine lv_iload_n hx hb dX8_sampled_152 rfl (lv_at hl 3 rfl) ?_
    exact m_iret hx hb hr hlk hK hZ hA hV h dX8_sampled_153
  · replace h := h.2 hc
    refine lv_iconst (v := (-1)) hx hb dX8_sampled_143 (by decide) ?_
    exact m_iret hx hb hr hlk hK hZ hA hV h dX8_sampled_144
set_option maxHeartbeats 4000000 in
set_option maxRecDepth 100000 in
theorem n_X8_sampled_133 {p : Program} {l : Launch} {e : Env} {s : State} {m : MethodId} {below : List Frame} {meth : Method} {c : Code} {D : va_G} {X : XT} {ad : Nat → Nat} {n : Nat} {A : Nat → Prop} {J : MJ} {av : List Value} {R : Room} (hR : R = ({ frames := 6, cells := 0, slots := 0, locals := 139 } : Room)) (C0 : Cx p s m meth c cX8_sampled (some .int) 9 yX8_sampled av D X ad n A J) {q : Int32 → MI → ML → Prop} {k17 : Int32 → Int32 → MI → ML → Prop} {x0 : Nat} {x1 : Int32} {x2 : Int32} {x3 : Int32}  {I : MI} {L : ML} {H : Heap} {locs : List Loc} {ls : Array Slot} (t0 : Ty X n x0 9)
    (hk17 : ∀ (x2 : Int32) (x3 : Int32) (I : MI) (L : ML) (H : Heap) (locs : List Loc) (ls : Array Slot), k17 x2 x3 I L → Wd D X ad n A s.heap J I L H locs → lv_has ls 9 [(0, .ref (ad x0)), (1, .int x1), (2, .int x2), (3, .int x3)] → W p l e R s m av.toArray below meth c H locs 0 0 (MQ below (QI D X ad n A J q) av.toArray s 0 0 A) (F0 m 17 ls [])) (h : wj_X8_sampled_133 X J q k17 x0 x1 x2 x3  I L) (hV : Wd D X ad n A s.heap J I L H locs) (hl : lv_has ls 9 [(0, .ref (ad x0)), (1, .int x1), (2, .int x2), (3, .int x3)]) : W p l e R s m av.toArray below meth c H locs 0 0 (MQ below (QI D X ad n A J q) av.toArray s 0 0 A) (F0 m 133 ls []) := by
  obtain ⟨hx, hb, hr, hml, hown, hlk, hnm, hts, hK, hZ, hA, hWT⟩ := id C0
  subst hR
  unfold wj_X8_sampled_133 at h
  refine lv_goto (tgt := 17) hx hb dX8_sampled_133 (by decide) ?_
  exact hk17 x2 x3 _ _ _ _ _ h hV (lv_sub hl [0, 1, 2, 3] rfl)
set_option maxHeartbeats 4000000 in
set_option maxRecDepth 100000 in
theorem n_X8_sampled_103 {p : Program} {l : Launch} {e : Env} {s : State} {m : MethodId} {below : List Frame} {meth : Method} {c : Code} {D : va_G} {X : XT} {ad : Nat → Nat} {n : Nat} {A : Nat → Prop} {J : MJ} {av : List Value} {R : Room} (hR : R = ({ frames := 6, cells := 0, slots := 0, locals := 139 } : Room)) (C0 : Cx p s m meth c cX8_sampled (some .int) 9 yX8_sampled av D X ad n A J) {q : Int32 → MI → ML → Prop} {k17 : Int32 → Int32 → MI → ML → Prop} {x0 : Nat} {x1 : Int32} {x2 : Int32} {x3 : Int32} {x8 : Int32}  {I : MI} {L : ML} {H : Heap} {locs : List Loc} {ls : Array Slot} (t0 : Ty X n x0 9)
    (hk17 : ∀ (x2 : Int32) (x3 : Int32) (I : MI) (L : ML) (H : Heap) (locs : List Loc) (ls : Array Slot), k17 x2 x3 I L → Wd D X ad n A s.heap J I L H locs → lv_has ls 9 [(0, .ref (ad x0)), (1, .int x1), (2, .int x2), (3, .int x3)] → W p l e R s m av.toArray below meth c H locs 0 0 (MQ below (QI D X ad n A J q) av.toArray s 0 0 A) (F0 m 17 ls [])) (h : wj_X8_sampled_103 X J q k17 x0 x1 x2 x3 x8  I L) (hV : Wd D X ad n A s.heap J I L H locs) (hl : lv_has ls 9 [(0, .ref (ad x0)), (1, .int x1), (2, .int x2), (3, .int x3), (8, .int x8)]) : W p l e R s m av.toArray below meth c H locs 0 0 (MQ below (QI D X ad n A J q) av.toArray s 0 0 A) (F0 m 103 ls []) := by
  obtain ⟨hx, hb, hr, hml, hown, hlk, hnm, hts, hK, hZ, hA, hWT⟩ := id C0
  subst hR
  unfold wj_X8_sampled_103 at h
  refine lv_iload hx hb dX8_sampled_103 (lv_at hl 4 rfl) ?_
  refine lv_sipush (v := 3329) hx hb dX8_sampled_105 (by decide) ?_
  refine lv_icmp_ge (tgt := 133) hx hb dX8_sampled_108 (by decide) (fun hc => ?_) (fun hc => ?_)
  · replace h := h.1 hc
    exact n_X8_sampled_133 rfl C0 t0  hk17 h hV (lv_sub hl [0, 1, 2, 3] rfl)
  · replace h := h.2 hc
    refine lv_iload_n hx hb dX8_sampled_111 rfl (lv_at hl 2 rfl) ?_
    refine lv_sipush (v := 256) hx hb dX8_sampled_112 (by decide) ?_
    refine lv_icmp_ge (tgt := 133) hx hb dX8_sampled_115 (by decide) (fun hc => ?_) (fun hc => ?_)
    · replace h := h.1 hc
      exact n_X8_sampled_133 rfl C0 t0  hk17 h hV (lv_sub hl [0, 1, 2, 3] rfl)
    · replace h := h.2 hc
      refine lv_aload_n hx hb dX8_sampled_118 rfl (lv_at hl 0 rfl) ?_
      obtain ⟨r_17, hr_17, h⟩ := h
      have tr_17 : Ty X n r_17 0 := hWT.r (c := 5) (j := 16) t0 rfl hr_17
      refine m_getr (C := RX8) (T := TX8) (N := 19) (ci := 5) hx hb hts iwX8 hown hK hV t0 rfl 16 (by decide) rfl rfl hr_17 (hts _ tw_3_107) (fun _ h9 => h9) dX8_sampled_119 ?_
      refine lv_sipush (v := 4608) hx hb dX8_sampled_122 (by decide) ?_
      refine lv_iload_n hx hb dX8_sampled_125 rfl (lv_at hl 2 rfl) ?_
      refine lv_iadd hx hb dX8_sampled_126 ?_
      refine lv_iload hx hb dX8_sampled_127 (lv_at hl 4 rfl) ?_
      obtain ⟨hi_18, h⟩ := h
      refine m_iast hx hb hK hV tr_17 hi_18 dX8_sampled_129 (fun H locs hV => ?_)
      obtain ⟨I_19, eI_19⟩ : ∃ y, y = ms I r_17 (4608 + x2).toNatClampNeg x8 := ⟨_, rfl⟩
      replace hV : Wd D X ad n A s.heap J I_19 L H locs := by rw [eI_19]; exact hV
      replace h := h I_19 eI_19
      obtain ⟨x2_20, ex2_20⟩ : ∃ y : Int32, y = x2 + 1 := ⟨_, rfl⟩
      replace h := h x2_20 ex2_20
      refine lv_iinc (v := x2_20) (lv' := [(2, .int x2_20), (0, .ref (ad x0)), (1, .int x1), (3, .int x3), (8, .int x8)]) hx hb dX8_sampled_130 hl (k := 2) rfl (by rw [ex2_20]; rfl) (by decide) rfl (fun ls hl => ?_)
      exact n_X8_sampled_133 rfl C0 t0  hk17 h hV (lv_sub hl [1, 2, 0, 3] rfl)
set_option maxHeartbeats 4000000 in
set_option maxRecDepth 100000 in
theorem n_X8_sampled_17 {p : Program} {l : Launch} {e : Env} {s : State} {m : MethodId} {below : List Frame} {meth : Method} {c : Code} {D : va_G} {X : XT} {ad : Nat → Nat} {n : Nat} {A : Nat → Prop} {J : MJ} {av : List Value} {R : Room} (hR : R = ({ frames := 6, cells := 0, slots := 0, locals := 139 } : Room)) (C0 : Cx p s m meth c cX8_sampled (some .int) 9 yX8_sampled av D X ad n A J) {q : Int32 → MI → ML → Prop}  {x0 : Nat} {x1 : Int32} (t0 : Ty X n x0 9) : ∀ (fu : Nat) (x2 : Int32) (x3 : Int32) (I : MI) (L : ML) (H : Heap) (locs : List Loc) (ls : Array Slot), wl_X8_sampled_17 X J q  x0 x1 fu x2 x3 I L → Wd D X ad n A s.heap J I L H locs → lv_has ls 9 [(0, .ref (ad x0)), (1, .int x1), (2, .int x2), (3, .int x3)] → W p l e R s m av.toArray below meth c H locs 0 0 (MQ below (QI D X ad n A J q) av.toArray s 0 0 A) (F0 m 17 ls []) := by
  obtain ⟨hx, hb, hr, hml, hown, hlk, hnm, hts, hK, hZ, hA, hWT⟩ := id C0
  subst hR
  intro fu
  induction fu with
  | zero => intro x2 x3 I L H locs ls h; exact absurd h (fun h => h)
  | succ fu ih =>
    intro x2 x3 I L H locs ls h hV hl
    refine lv_iload_n hx hb dX8_sampled_17 rfl (lv_at hl 2 rfl) ?_
    refine lv_sipush (v := 256) hx hb dX8_sampled_18 (by decide) ?_
    refine lv_icmp_ge (tgt := 136) hx hb dX8_sampled_21 (by decide) (fun hc => ?_) (fun hc => ?_)
    · replace h := h.1 hc
      exact n_X8_sampled_136 rfl C0 t0   h hV (lv_sub hl [0, 1, 2, 3] rfl)
    · replace h := h.2 hc
      refine lv_iload_n hx hb dX8_sampled_24 rfl (lv_at hl 3 rfl) ?_
      refine lv_aload_n hx hb dX8_sampled_25 rfl (lv_at hl 0 rfl) ?_
      refine m_geti (C := RX8) (T := TX8) (N := 19) (ci := 5) hx hb hts iwX8 hown hK hV t0 rfl 8 (by decide) rfl rfl (hts _ tw_3_99) (fun _ h9 => h9) dX8_sampled_26 ?_
      refine lv_icmp_ge (tgt := 136) hx hb dX8_sampled_29 (by decide) (fun hc => ?_) (fun hc => ?_)
      · replace h := h.1 hc
        exact n_X8_sampled_136 rfl C0 t0   h hV (lv_sub hl [0, 1, 2, 3] rfl)
      · replace h := h.2 hc
        refine lv_aload_n hx hb dX8_sampled_32 rfl (lv_at hl 0 rfl) ?_
        refine k_calli (va_runV (As := []) (rest := []) ⟨hx, hb, hml, hown, hts⟩ (s_X8_told l D X ad n A J hWT x0 t0 I L _ h) (cwV 0 hts (gV tw_3_235 tw_3_237 tw_0_26 tw_1_9 tw_3_238) rfl rfl rfl (by decide +kernel) (by decide)) (k_preV (ci := 5) hK hV hA hZ t0 rfl _) rfl rfl hl.1 rfl (lv_room (Nat.le_of_ble_eq_true rfl)) dX8_sampled_33 ⟨Nat.zero_le _, Nat.zero_le _⟩) hV (fun v_7 I_5 L_6 H locs h hV => ?_)
        refine lv_istore (lv' := [(4, .int v_7), (0, .ref (ad x0)), (1, .int x1), (2, .int x2), (3, .int x3)]) hx hb dX8_sampled_36 hl (by decide) rfl (fun ls hl => ?_)
        refine lv_aload_n hx hb dX8_sampled_38 rfl (lv_at hl 1 rfl) ?_
        refine k_calli (va_runV (As := []) (rest := []) ⟨hx, hb, hml, hown, hts⟩ (s_X8_told l D X ad n A J hWT x0 t0 I_5 L_6 _ h) (cwV 0 hts (gV tw_3_235 tw_3_237 tw_0_26 tw_1_9 tw_3_238) rfl rfl rfl (by decide +kernel) (by decide)) (k_preV (ci := 5) hK hV hA hZ t0 rfl _) rfl rfl hl.1 rfl (lv_room (Nat.le_of_ble_eq_true rfl)) dX8_sampled_39 ⟨Nat.zero_le _, Nat.zero_le _⟩) hV (fun v_10 I_8 L_9 H locs h hV => ?_)
        refine lv_istore (lv' := [(5, .int v_10), (4, .int v_7), (0, .ref (ad x0)), (1, .int x1), (2, .int x2), (3, .int x3)]) hx hb dX8_sampled_42 hl (by decide) rfl (fun ls hl => ?_)
        refine lv_aload_n hx hb dX8_sampled_44 rfl (lv_at hl 2 rfl) ?_
        refine k_calli (va_runV (As := []) (rest := []) ⟨hx, hb, hml, hown, hts⟩ (s_X8_told l D X ad n A J hWT x0 t0 I_8 L_9 _ h) (cwV 0 hts (gV tw_3_235 tw_3_237 tw_0_26 tw_1_9 tw_3_238) rfl rfl rfl (by decide +kernel) (by decide)) (k_preV (ci := 5) hK hV hA hZ t0 rfl _) rfl rfl hl.1 rfl (lv_room (Nat.le_of_ble_eq_true rfl)) dX8_sampled_45 ⟨Nat.zero_le _, Nat.zero_le _⟩) hV (fun v_13 I_11 L_12 H locs h hV => ?_)
        refine lv_istore (lv' := [(6, .int v_13), (5, .int v_10), (4, .int v_7), (0, .ref (ad x0)), (1, .int x1), (2, .int x2), (3, .int x3)]) hx hb dX8_sampled_48 hl (by decide) rfl (fun ls hl => ?_)
        obtain ⟨x3_14, ex3_14⟩ : ∃ y : Int32, y = x3 + 1 := ⟨_, rfl⟩
        replace h := h x3_14 ex3_14
        refine lv_iinc (v := x3_14) (lv' := [(3, .int x3_14), (6, .int v_13), (5, .int v_10), (4, .int v_7), (0, .ref (ad x0)), (1, .int x1), (2, .int x2)]) hx hb dX8_sampled_50 hl (k := 6) rfl (by rw [ex3_14]; rfl) (by decide) rfl (fun ls hl => ?_)
        refine lv_iload hx hb dX8_sampled_53 (lv_at hl 3 rfl) ?_
        refine lv_sipush (v := 256) hx hb dX8_sampled_55 (by decide) ?_
        refine lv_iload hx hb dX8_sampled_58 (lv_at hl 2 rfl) ?_
        refine lv_bipush (v := 16) hx hb dX8_sampled_60 (by decide) ?_
        refine lv_irem hx hb dX8_sampled_62 (by decide) ?_
        refine lv_imul hx hb dX8_sampled_63 ?_
        refine lv_iadd hx hb dX8_sampled_64 ?_
        refine lv_topi (fun x7_15 ex7_15 => ?_)
        replace h := h x7_15 ex7_15
        refine lv_istore (lv' := [(7, .int x7_15), (3, .int x3_14), (6, .int v_13), (5, .int v_10), (4, .int v_7), (0, .ref (ad x0)), (1, .int x1), (2, .int x2)]) hx hb dX8_sampled_65 hl (by decide) rfl (fun ls hl => ?_)
        refine lv_iload hx hb dX8_sampled_67 (lv_at hl 3 rfl) ?_
        refine lv_bipush (v := 16) hx hb dX8_sampled_69 (by decide) ?_
        refine lv_idiv hx hb dX8_sampled_71 (by decide) ?_
        refine lv_bipush (v := 16) hx hb dX8_sampled_72 (by decide) ?_
        refine lv_iload hx hb dX8_sampled_74 (lv_at hl 2 rfl) ?_
        refine lv_imul hx hb dX8_sampled_76 ?_
        refine lv_iadd hx hb dX8_sampled_77 ?_
        refine lv_topi (fun x8_16 ex8_16 => ?_)
        replace h := h x8_16 ex8_16
        refine lv_istore (lv' := [(8, .int x8_16), (7, .int x7_15), (3, .int x3_14), (6, .int v_13), (5, .int v_10), (4, .int v_7), (0, .ref (ad x0)), (1, .int x1), (2, .int x2)]) hx hb dX8_sampled_78 hl (by decide) rfl (fun ls hl => ?_)
        refine lv_iload hx hb dX8_sampled_80 (lv_at hl 1 rfl) ?_
        refine lv_sipush (v := 3329) hx hb dX8_sampled_82 (by decide) ?_
        refine lv_icmp_ge (tgt := 103) hx hb dX8_sampled_85 (by decide) (fun hc => ?_) (fun hc => ?_)
        · replace h := h.1 hc
          exact n_X8_sampled_103 rfl C0 t0  (fun y2 y3 I L H locs ls h hV hl => ih y2 y3 I L H locs ls h hV (lv_sub hl [0, 1, 2, 3] rfl)) h hV (lv_sub hl [6, 7, 8, 2, 0] rfl)
        · replace h := h.2 hc
          refine lv_aload_n hx hb dX8_sampled_88 rfl (lv_at hl 6 rfl) ?_
          obtain ⟨r_21, hr_21, h⟩ := h
          have tr_21 : Ty X n r_21 0 := hWT.r (c := 5) (j := 16) t0 rfl hr_21
          refine m_getr (C := RX8) (T := TX8) (N := 19) (ci := 5) hx hb hts iwX8 hown hK hV t0 rfl 16 (by decide) rfl rfl hr_21 (hts _ tw_3_107) (fun _ h9 => h9) dX8_sampled_89 ?_
          refine lv_sipush (v := 4608) hx hb dX8_sampled_92 (by decide) ?_
          refine lv_iload_n hx hb dX8_sampled_95 rfl (lv_at hl 8 rfl) ?_
          refine lv_iadd hx hb dX8_sampled_96 ?_
          refine lv_iload hx hb dX8_sampled_97 (lv_at hl 1 rfl) ?_
          obtain ⟨hi_22, h⟩ := h
          refine m_iast hx hb hK hV tr_21 hi_22 dX8_sampled_99 (fun H locs hV => ?_)
          obtain ⟨I_23, eI_23⟩ : ∃ y, y = ms I_11 r_21 (4608 + x2).toNatClampNeg x7_15 := ⟨_, rfl⟩
          replace hV : Wd D X ad n A s.heap J I_23 L_12 H locs := by rw [eI_23]; exact hV
          replace h := h I_23 eI_23
          obtain ⟨x2_24, ex2_24⟩ : ∃ y : Int32, y = x2 + 1 := ⟨_, rfl⟩
          replace h := h x2_24 ex2_24
          refine lv_iinc (v := x2_24) (lv' := [(2, .int x2_24), (8, .int x8_16), (7, .int x7_15), (3, .int x3_14), (6, .int v_13), (5, .int v_10), (4, .int v_7), (0, .ref (ad x0)), (1, .int x1)]) hx hb dX8_sampled_100 hl (k := 8) rfl (by rw [ex2_24]; rfl) (by decide) rfl (fun ls hl => ?_)
          exact n_X8_sampled_103 rfl C0 t0  (fun y2 y3 I L H locs ls h hV hl => ih y2 y3 I L H locs ls h hV (lv_sub hl [0, 1, 2, 3] rfl)) h hV (lv_sub hl [7, 8, 0, 3, 1] rfl)
set_option maxHeartbeats 4000000 in
set_option maxRecDepth 100000 in
theorem s_X8_sampled (l : Launch) (D : va_G) (X : XT) (ad : Nat → Nat) (n : Nat) (A : Nat → Prop) (J : MJ) (hWT : WT X n J) (x0 : Nat) (t0 : Ty X n x0 9) (x1 : Int32) (I : MI) (L : ML) (q : Int32 → MI → ML → Prop) (h : wp_X8_sampled X J x0 x1 I L q) : Met l yX8_sampled (wz yX8_sampled cX8_sampled 9 (some .int)) ({ frames := 6, cells := 0, slots := 0, locals := 139 } : Room) (va_Pc [.ref (ad x0), .int x1] (Pr D X ad n A J I L)) (QI D X ad n A J q) 0 0 A := by
  refine Met_go (by decide +kernel) (Nat.le_of_ble_eq_true rfl) (fun p e s m below meth c hx hb hr hml hown hlk hnm hts hK hZ hA hV ls hl => ?_)
  have C0 : Cx p s m meth c cX8_sampled (some .int) 9 yX8_sampled [.ref (ad x0), .int x1] D X ad n A J := ⟨hx, hb, hr, hml, hown, hlk, hnm, hts, hK, hZ, hA, hWT⟩
  unfold wp_X8_sampled at h
  have hl : lv_has ls 9 [(0, .ref (ad x0)), (1, .int x1)] := hl
  refine lv_aload_n hx hb dX8_sampled_0 rfl (lv_at hl 0 rfl) ?_
  refine lv_sipush (v := 168) hx hb dX8_sampled_1 (by decide) ?_
  refine lv_sipush (v := 11336) hx hb dX8_sampled_4 (by decide) ?_
  refine lv_bipush (v := 34) hx hb dX8_sampled_7 (by decide) ?_
  refine lv_iconst (v := 0) hx hb dX8_sampled_9 (by decide) ?_
  refine k_callv (va_runV (As := [.int 168, .int 11336, .int 34, .int 0]) (rest := []) ⟨hx, hb, hml, hown, hts⟩ (s_X8_absorb l D X ad n A J hWT x0 t0 168 11336 34 0 I L _ h) (cwV 4 hts (gV tw_3_211 tw_3_213 tw_0_20 tw_1_9 tw_3_214) rfl rfl rfl (by decide +kernel) (by decide)) (k_preV (ci := 5) hK hV hA hZ t0 rfl _) rfl rfl hl.1 rfl (lv_room (Nat.le_of_ble_eq_true rfl)) dX8_sampled_10 ⟨Nat.zero_le _, Nat.zero_le _⟩) hV (fun I_1 L_2 H locs h hV => ?_)
  refine lv_iconst (v := 0) hx hb dX8_sampled_13 (by decide) ?_
  refine lv_istore_n (lv' := [(2, .int 0), (0, .ref (ad x0)), (1, .int x1)]) hx hb dX8_sampled_14 rfl hl (by decide) rfl (fun ls hl => ?_)
  refine lv_iconst (v := 0) hx hb dX8_sampled_15 (by decide) ?_
  refine lv_istore_n (lv' := [(3, .int 0), (2, .int 0), (0, .ref (ad x0)), (1, .int x1)]) hx hb dX8_sampled_16 rfl hl (by decide) rfl (fun ls hl => ?_)
  obtain ⟨fu0, h⟩ := h
  exact n_X8_sampled_17 rfl C0 t0   fu0 0 0 _ _ _ _ _ h hV (lv_sub hl [2, 3, 1, 0] rfl)
set_option maxHeartbeats 4000000 in
set_option maxRecDepth 100000 in
theorem s_X8_matrix (l : Launch) (D : va_G) (X : XT) (ad : Nat → Nat) (n : Nat) (A : Nat → Prop) (J : MJ) (hWT : WT X n J) (x0 : Nat) (t0 : Ty X n x0 9) (x1 : Int32) (x2 : Int32) (x3 : Int32) (x4 : Int32) (I : MI) (L : ML) (q : Int32 → MI → ML → Prop) (h : wp_X8_matrix X J x0 x1 x2 x3 x4 I L q) : Met l yX8_matrix (wz yX8_matrix cX8_matrix 5 (some .int)) ({ frames := 7, cells := 0, slots := 0, locals := 167 } : Room) (va_Pc [.ref (ad x0), .int x1, .int x2, .int x3, .int x4] (Pr D X ad n A J I L)) (QI D X ad n A J q) 0 0 A := by
  refine Met_go (by decide +kernel) (Nat.le_of_ble_eq_true rfl) (fun p e s m below meth c hx hb hr hml hown hlk hnm hts hK hZ hA hV ls hl => ?_)
  have C0 : Cx p s m meth c cX8_matrix (some .int) 5 yX8_matrix [.ref (ad x0), .int x1, .int x2, .int x3, .int x4] D X ad n A J := ⟨hx, hb, hr, hml, hown, hlk, hnm, hts, hK, hZ, hA, hWT⟩
  unfold wp_X8_matrix at h
  have hl : lv_has ls 5 [(0, .ref (ad x0)), (1, .int x1), (2, .int x2), (3, .int x3), (4, .int x4)] := hl
  refine lv_aload_n hx hb dX8_matrix_0 rfl (lv_at hl 0 rfl) ?_
  refine lv_iload_n hx hb dX8_matrix_1 rfl (lv_at hl 1 rfl) ?_
  refine lv_sipush (v := 11336) hx hb dX8_matrix_2 (by decide) ?_
  refine lv_bipush (v := 32) hx hb dX8_matrix_5 (by decide) ?_
  refine k_callv (va_runV (As := [.int x1, .int 11336, .int 32]) (rest := []) ⟨hx, hb, hml, hown, hts⟩ (s_X8_copy l D X ad n A J hWT x0 t0 x1 11336 32 I L _ h) (cwV 3 hts (gV tw_3_166 tw_3_168 tw_0_14 tw_1_9 tw_3_169) rfl rfl rfl (by decide +kernel) (by decide)) (k_preV (ci := 5) hK hV hA hZ t0 rfl _) rfl rfl hl.1 rfl (lv_room (Nat.le_of_ble_eq_true rfl)) dX8_matrix_7 ⟨Nat.zero_le _, Nat.zero_le _⟩) hV (fun I_1 L_2 H locs h hV => ?_)
  refine lv_aload_n hx hb dX8_matrix_10 rfl (lv_at hl 0 rfl) ?_
  obtain ⟨r_3, hr_3, h⟩ := h
  have tr_3 : Ty X n r_3 1 := hWT.r (c := 5) (j := 0) t0 rfl hr_3
  refine m_getr (C := RX8) (T := TX8) (N := 19) (ci := 5) hx hb hts iwX8 hown hK hV t0 rfl 0 (by decide) rfl rfl hr_3 (hts _ tw_3_91) (fun _ h9 => h9) dX8_matrix_11 ?_
  refine lv_sipush (v := 11368) hx hb dX8_matrix_14 (by decide) ?_
  refine lv_iload_n hx hb dX8_matrix_17 rfl (lv_at hl 2 rfl) ?_
  refine lv_i2b hx hb dX8_matrix_18 rfl ?_
  obtain ⟨hi_4, h⟩ := h
  refine m_bast hx hb hK hV tr_3 hi_4 dX8_matrix_19 (fun H locs hV => ?_)
  obtain ⟨I_5, eI_5⟩ : ∃ y, y = ms I_1 r_3 (11368 : Int32).toNatClampNeg (jb8 (jb8 x2)) := ⟨_, rfl⟩
  replace hV : Wd D X ad n A s.heap J I_5 L_2 H locs := by rw [eI_5]; exact hV
  replace h := h I_5 eI_5
  refine lv_aload_n hx hb dX8_matrix_20 rfl (lv_at hl 0 rfl) ?_
  refine m_getr (C := RX8) (T := TX8) (N := 19) (ci := 5) hx hb hts iwX8 hown hK hV t0 rfl 0 (by decide) rfl rfl hr_3 (hts _ tw_3_91) (fun _ h9 => h9) dX8_matrix_21 ?_
  refine lv_sipush (v := 11369) hx hb dX8_matrix_24 (by decide) ?_
  refine lv_iload_n hx hb dX8_matrix_27 rfl (lv_at hl 3 rfl) ?_
  refine lv_i2b hx hb dX8_matrix_28 rfl ?_
  obtain ⟨hi_6, h⟩ := h
  refine m_bast hx hb hK hV tr_3 hi_6 dX8_matrix_29 (fun H locs hV => ?_)
  obtain ⟨I_7, eI_7⟩ : ∃ y, y = ms I_5 r_3 (11369 : Int32).toNatClampNeg (jb8 (jb8 x3)) := ⟨_, rfl⟩
  replace hV : Wd D X ad n A s.heap J I_7 L_2 H locs := by rw [eI_7]; exact hV
  replace h := h I_7 eI_7
  refine lv_aload_n hx hb dX8_matrix_30 rfl (lv_at hl 0 rfl) ?_
  refine lv_iload hx hb dX8_matrix_31 (lv_at hl 4 rfl) ?_
  refine k_calli (va_runV (As := [.int x4]) (rest := []) ⟨hx, hb, hml, hown, hts⟩ (s_X8_sampled l D X ad n A J hWT x0 t0 x4 I_7 L_2 _ h) (cwV 1 hts (gV tw_4_23 tw_4_25 tw_0_32 tw_1_9 tw_4_26) rfl rfl rfl (by decide +kernel) (by decide)) (k_preV (ci := 5) hK hV hA hZ t0 rfl _) rfl rfl hl.1 rfl (lv_room (Nat.le_of_ble_eq_true rfl)) dX8_matrix_33 ⟨Nat.zero_le _, Nat.zero_le _⟩) hV (fun v_10 I_8 L_9 H locs h hV => ?_)
  exact m_iret hx hb hr hlk hK hZ hA hV h dX8_matrix_36
set_option maxHeartbeats 4000000 in
set_option maxRecDepth 100000 in
theorem n_X8_noised_119 {p : Program} {l : Launch} {e : Env} {s : State} {m : MethodId} {below : List Frame} {meth : Method} {c : Code} {D : va_G} {X : XT} {ad : Nat → Nat} {n : Nat} {A : Nat → Prop} {J : MJ} {av : List Value} {R : Room} (hR : R = ({ frames := 6, cells := 0, slots := 0, locals := 139 } : Room)) (C0 : Cx p s m meth c cX8_noised none 10 yX8_noised av D X ad n A J) {q : MI → ML → Prop} {k47 : Int32 → MI → ML → Prop} {k61 : Int32 → Int32 → MI → ML → Prop} {x0 : Nat} {x3 : Int32} {x4 : Int32} {x5 : Int32} {x7 : Int32} {z0 : Int32} {z1 : Int32} {I : MI} {L : ML} {H : Heap} {locs : List Loc} {ls : Array Slot} (t0 : Ty X n x0 9)
    (hk47 : ∀ (x5 : Int32) (I : MI) (L : ML) (H : Heap) (locs : List Loc) (ls : Array Slot), k47 x5 I L → Wd D X ad n A s.heap J I L H locs → lv_has ls 10 [(0, .ref (ad x0)), (3, .int x3), (4, .int x4), (5, .int x5)] → W p l e R s m av.toArray below meth c H locs 0 0 (MQ below (QV D X ad n A J q) av.toArray s 0 0 A) (F0 m 47 ls []))
    (hk61 : ∀ (x6 : Int32) (x7 : Int32) (I : MI) (L : ML) (H : Heap) (locs : List Loc) (ls : Array Slot), k61 x6 x7 I L → Wd D X ad n A s.heap J I L H locs → lv_has ls 10 [(0, .ref (ad x0)), (3, .int x3), (4, .int x4), (5, .int x5), (6, .int x6), (7, .int x7)] → W p l e R s m av.toArray below meth c H locs 0 0 (MQ below (QV D X ad n A J q) av.toArray s 0 0 A) (F0 m 61 ls [])) (h : wj_X8_noised_119 X J q k47 k61 x0 x3 x4 x5 x7 z0 z1 I L) (hV : Wd D X ad n A s.heap J I L H locs) (hl : lv_has ls 10 [(0, .ref (ad x0)), (3, .int x3), (4, .int x4), (5, .int x5), (7, .int x7)]) : W p l e R s m av.toArray below meth c H locs 0 0 (MQ below (QV D X ad n A J q) av.toArray s 0 0 A) (F0 m 119 ls [.int z1, .int z0]) := by
  obtain ⟨hx, hb, hr, hml, hown, hlk, hnm, hts, hK, hZ, hA, hWT⟩ := id C0
  subst hR
  unfold wj_X8_noised_119 at h
  refine lv_iadd hx hb dX8_noised_119 ?_
  refine lv_topi (fun x6_22 ex6_22 => ?_)
  replace h := h x6_22 ex6_22
  refine lv_istore (lv' := [(6, .int x6_22), (0, .ref (ad x0)), (3, .int x3), (4, .int x4), (5, .int x5), (7, .int x7)]) hx hb dX8_noised_120 hl (by decide) rfl (fun ls hl => ?_)
  obtain ⟨x7_23, ex7_23⟩ : ∃ y : Int32, y = x7 + 1 := ⟨_, rfl⟩
  replace h := h x7_23 ex7_23
  refine lv_iinc (v := x7_23) (lv' := [(7, .int x7_23), (6, .int x6_22), (0, .ref (ad x0)), (3, .int x3), (4, .int x4), (5, .int x5)]) hx hb dX8_noised_122 hl (k := 5) rfl (by rw [ex7_23]; rfl) (by decide) rfl (fun ls hl => ?_)
  refine lv_goto (tgt := 61) hx hb dX8_noised_125 (by decide) ?_
  exact hk61 x6_22 x7_23 _ _ _ _ _ h hV (lv_sub hl [2, 3, 4, 5, 1, 0] rfl)
set_option maxHeartbeats 4000000 in
set_option maxRecDepth 100000 in
theorem n_X8_noised_61 {p : Program} {l : Launch} {e : Env} {s : State} {m : MethodId} {below : List Frame} {meth : Method} {c : Code} {D : va_G} {X : XT} {ad : Nat → Nat} {n : Nat} {A : Nat → Prop} {J : MJ} {av : List Value} {R : Room} (hR : R = ({ frames := 6, cells := 0, slots := 0, locals := 139 } : Room)) (C0 : Cx p s m meth c cX8_noised none 10 yX8_noised av D X ad n A J) {q : MI → ML → Prop} {k47 : Int32 → MI → ML → Prop} {x0 : Nat} {x3 : Int32} {x4 : Int32} {x5 : Int32} (t0 : Ty X n x0 9)
    (hk47 : ∀ (x5 : Int32) (I : MI) (L : ML) (H : Heap) (locs : List Loc) (ls : Array Slot), k47 x5 I L → Wd D X ad n A s.heap J I L H locs → lv_has ls 10 [(0, .ref (ad x0)), (3, .int x3), (4, .int x4), (5, .int x5)] → W p l e R s m av.toArray below meth c H locs 0 0 (MQ below (QV D X ad n A J q) av.toArray s 0 0 A) (F0 m 47 ls [])) : ∀ (fu : Nat) (x6 : Int32) (x7 : Int32) (I : MI) (L : ML) (H : Heap) (locs : List Loc) (ls : Array Slot), wl_X8_noised_61 X J q k47 x0 x3 x4 x5 fu x6 x7 I L → Wd D X ad n A s.heap J I L H locs → lv_has ls 10 [(0, .ref (ad x0)), (3, .int x3), (4, .int x4), (5, .int x5), (6, .int x6), (7, .int x7)] → W p l e R s m av.toArray below meth c H locs 0 0 (MQ below (QV D X ad n A J q) av.toArray s 0 0 A) (F0 m 61 ls []) := by
  obtain ⟨hx, hb, hr, hml, hown, hlk, hnm, hts, hK, hZ, hA, hWT⟩ := id C0
  subst hR
  intro fu
  induction fu with
  | zero => intro x6 x7 I L H locs ls h; exact absurd h (fun h => h)
  | succ fu ih =>
    intro x6 x7 I L H locs ls h hV hl
    refine lv_iload hx hb dX8_noised_61 (lv_at hl 5 rfl) ?_
    refine lv_iconst (v := 2) hx hb dX8_noised_63 (by decide) ?_
    refine lv_iload_n hx hb dX8_noised_64 rfl (lv_at hl 1 rfl) ?_
    refine lv_imul hx hb dX8_noised_65 ?_
    refine lv_icmp_ge (tgt := 128) hx hb dX8_noised_66 (by decide) (fun hc => ?_) (fun hc => ?_)
    · replace h := h.1 hc
      refine lv_aload_n hx hb dX8_noised_128 rfl (lv_at hl 0 rfl) ?_
      obtain ⟨r_10, hr_10, h⟩ := h
      have tr_10 : Ty X n r_10 0 := hWT.r (c := 5) (j := 16) t0 rfl hr_10
      refine m_getr (C := RX8) (T := TX8) (N := 19) (ci := 5) hx hb hts iwX8 hown hK hV t0 rfl 16 (by decide) rfl rfl hr_10 (hts _ tw_3_107) (fun _ h9 => h9) dX8_noised_129 ?_
      refine lv_sipush (v := 256) hx hb dX8_noised_132 (by decide) ?_
      refine lv_iload hx hb dX8_noised_135 (lv_at hl 2 rfl) ?_
      refine lv_imul hx hb dX8_noised_137 ?_
      refine lv_iload hx hb dX8_noised_138 (lv_at hl 3 rfl) ?_
      refine lv_iadd hx hb dX8_noised_140 ?_
      refine lv_iload hx hb dX8_noised_141 (lv_at hl 4 rfl) ?_
      refine lv_i2l hx hb dX8_noised_143 rfl ?_
      refine k_calli (va_runS (As := [.long x6.toInt64]) (rest := [.int ((256 * x4) + x5), .ref (ad r_10)]) ⟨hx, hb, hml, hown, hts⟩ (s_X8_ring l D X ad n A J hWT x6.toInt64 I L _ h) (va_cwS 1 hts (gS tw_4_7 tw_4_8 tw_1_9 tw_4_9) rfl rfl rfl (by decide +kernel) (by decide)) (k_preS hK hV hA hZ _) rfl rfl hl.1 rfl (lv_room (Nat.le_of_ble_eq_true rfl)) dX8_noised_144 ⟨Nat.zero_le _, Nat.zero_le _⟩) hV (fun v_13 I_11 L_12 H locs h hV => ?_)
      obtain ⟨hi_14, h⟩ := h
      refine m_iast hx hb hK hV tr_10 hi_14 dX8_noised_147 (fun H locs hV => ?_)
      obtain ⟨I_15, eI_15⟩ : ∃ y, y = ms I_11 r_10 ((256 * x4) + x5).toNatClampNeg v_13 := ⟨_, rfl⟩
      replace hV : Wd D X ad n A s.heap J I_15 L_12 H locs := by rw [eI_15]; exact hV
      replace h := h I_15 eI_15
      obtain ⟨x5_16, ex5_16⟩ : ∃ y : Int32, y = x5 + 1 := ⟨_, rfl⟩
      replace h := h x5_16 ex5_16
      refine lv_iinc (v := x5_16) (lv' := [(5, .int x5_16), (0, .ref (ad x0)), (3, .int x3), (4, .int x4), (6, .int x6), (7, .int x7)]) hx hb dX8_noised_148 hl (k := 3) rfl (by rw [ex5_16]; rfl) (by decide) rfl (fun ls hl => ?_)
      refine lv_goto (tgt := 47) hx hb dX8_noised_151 (by decide) ?_
      exact hk47 x5_16 _ _ _ _ _ h hV (lv_sub hl [1, 2, 3, 0] rfl)
    · replace h := h.2 hc
      refine lv_iconst (v := 2) hx hb dX8_noised_69 (by decide) ?_
      refine lv_iload_n hx hb dX8_noised_70 rfl (lv_at hl 1 rfl) ?_
      refine lv_imul hx hb dX8_noised_71 ?_
      refine lv_iload hx hb dX8_noised_72 (lv_at hl 3 rfl) ?_
      refine lv_imul hx hb dX8_noised_74 ?_
      refine lv_iload hx hb dX8_noised_75 (lv_at hl 5 rfl) ?_
      refine lv_iadd hx hb dX8_noised_77 ?_
      refine lv_topi (fun x8_17 ex8_17 => ?_)
      replace h := h x8_17 ex8_17
      refine lv_istore (lv' := [(8, .int x8_17), (0, .ref (ad x0)), (3, .int x3), (4, .int x4), (5, .int x5), (6, .int x6), (7, .int x7)]) hx hb dX8_noised_78 hl (by decide) rfl (fun ls hl => ?_)
      refine lv_aload_n hx hb dX8_noised_80 rfl (lv_at hl 1 rfl) ?_
      refine lv_sipush (v := 15436) hx hb dX8_noised_81 (by decide) ?_
      refine lv_iload hx hb dX8_noised_84 (lv_at hl 0 rfl) ?_
      refine lv_bipush (v := 8) hx hb dX8_noised_86 (by decide) ?_
      refine lv_idiv hx hb dX8_noised_88 (by decide) ?_
      refine lv_iadd hx hb dX8_noised_89 ?_
      refine k_calli (va_runV (As := [.int (15436 + (x8_17 / 8))]) (rest := []) ⟨hx, hb, hml, hown, hts⟩ (s_X8_byteAt l D X ad n A J hWT x0 t0 (15436 + (x8_17 / 8)) I L _ h) (cwV 1 hts (gV tw_3_191 tw_3_193 tw_0_16 tw_1_9 tw_3_194) rfl rfl rfl (by decide +kernel) (by decide)) (k_preV (ci := 5) hK hV hA hZ t0 rfl _) rfl rfl hl.1 rfl (lv_room (Nat.le_of_ble_eq_true rfl)) dX8_noised_90 ⟨Nat.zero_le _, Nat.zero_le _⟩) hV (fun v_20 I_18 L_19 H locs h hV => ?_)
      refine lv_iload hx hb dX8_noised_93 (lv_at hl 0 rfl) ?_
      refine lv_bipush (v := 8) hx hb dX8_noised_95 (by decide) ?_
      refine lv_irem hx hb dX8_noised_97 (by decide) ?_
      refine lv_ishr hx hb dX8_noised_98 ?_
      refine lv_iconst (v := 1) hx hb dX8_noised_99 (by decide) ?_
      refine lv_iand hx hb dX8_noised_100 ?_
      refine lv_topi (fun x9_21 ex9_21 => ?_)
      replace h := h x9_21 ex9_21
      refine lv_istore (lv' := [(9, .int x9_21), (8, .int x8_17), (0, .ref (ad x0)), (3, .int x3), (4, .int x4), (5, .int x5), (6, .int x6), (7, .int x7)]) hx hb dX8_noised_101 hl (by decide) rfl (fun ls hl => ?_)
      refine lv_iload hx hb dX8_noised_103 (lv_at hl 6 rfl) ?_
      refine lv_iload hx hb dX8_noised_105 (lv_at hl 7 rfl) ?_
      refine lv_iload_n hx hb dX8_noised_107 rfl (lv_at hl 3 rfl) ?_
      refine lv_icmp_ge (tgt := 116) hx hb dX8_noised_108 (by decide) (fun hc => ?_) (fun hc => ?_)
      · replace h := h.1 hc
        refine lv_iload hx hb dX8_noised_116 (lv_at hl 0 rfl) ?_
        refine lv_ineg hx hb dX8_noised_118 ?_
        exact n_X8_noised_119 rfl C0 t0  hk47 (fun y6 y7 I L H locs ls h hV hl => ih y6 y7 I L H locs ls h hV (lv_sub hl [0, 1, 2, 3, 4, 5] rfl)) h hV (lv_sub hl [2, 3, 4, 5, 7] rfl)
      · replace h := h.2 hc
        refine lv_iload hx hb dX8_noised_111 (lv_at hl 0 rfl) ?_
        refine lv_goto (tgt := 119) hx hb dX8_noised_113 (by decide) ?_
        exact n_X8_noised_119 rfl C0 t0  hk47 (fun y6 y7 I L H locs ls h hV hl => ih y6 y7 I L H locs ls h hV (lv_sub hl [0, 1, 2, 3, 4, 5] rfl)) h hV (lv_sub hl [2, 3, 4, 5, 7] rfl)
set_option maxHeartbeats 4000000 in
set_option maxRecDepth 100000 in
theorem n_X8_noised_47 {p : Program} {l : Launch} {e : Env} {s : State} {m : MethodId} {below : List Frame} {meth : Method} {c : Code} {D : va_G} {X : XT} {ad : Nat → Nat} {n : Nat} {A : Nat → Prop} {J : MJ} {av : List Value} {R : Room} (hR : R = ({ frames := 6, cells := 0, slots := 0, locals := 139 } : Room)) (C0 : Cx p s m meth c cX8_noised none 10 yX8_noised av D X ad n A J) {q : MI → ML → Prop}  {x0 : Nat} {x3 : Int32} {x4 : Int32} (t0 : Ty X n x0 9) : ∀ (fu : Nat) (x5 : Int32) (I : MI) (L : ML) (H : Heap) (locs : List Loc) (ls : Array Slot), wl_X8_noised_47 X J q  x0 x3 x4 fu x5 I L → Wd D X ad n A s.heap J I L H locs → lv_has ls 10 [(0, .ref (ad x0)), (3, .int x3), (4, .int x4), (5, .int x5)] → W p l e R s m av.toArray below meth c H locs 0 0 (MQ below (QV D X ad n A J q) av.toArray s 0 0 A) (F0 m 47 ls []) := by
  obtain ⟨hx, hb, hr, hml, hown, hlk, hnm, hts, hK, hZ, hA, hWT⟩ := id C0
  subst hR
  intro fu
  induction fu with
  | zero => intro x5 I L H locs ls h; exact absurd h (fun h => h)
  | succ fu ih =>
    intro x5 I L H locs ls h hV hl
    refine lv_iload hx hb dX8_noised_47 (lv_at hl 3 rfl) ?_
    refine lv_sipush (v := 256) hx hb dX8_noised_49 (by decide) ?_
    refine lv_icmp_ge (tgt := 154) hx hb dX8_noised_52 (by decide) (fun hc => ?_) (fun hc => ?_)
    · replace h := h.1 hc
      exact m_vret hx hb hr hlk hK hZ hA hV h dX8_noised_154
    · replace h := h.2 hc
      refine lv_iconst (v := 0) hx hb dX8_noised_55 (by decide) ?_
      refine lv_istore (lv' := [(6, .int 0), (0, .ref (ad x0)), (3, .int x3), (4, .int x4), (5, .int x5)]) hx hb dX8_noised_56 hl (by decide) rfl (fun ls hl => ?_)
      refine lv_iconst (v := 0) hx hb dX8_noised_58 (by decide) ?_
      refine lv_istore (lv' := [(7, .int 0), (6, .int 0), (0, .ref (ad x0)), (3, .int x3), (4, .int x4), (5, .int x5)]) hx hb dX8_noised_59 hl (by decide) rfl (fun ls hl => ?_)
      obtain ⟨fu0, h⟩ := h
      exact n_X8_noised_61 rfl C0 t0  (fun y5 I L H locs ls h hV hl => ih y5 I L H locs ls h hV (lv_sub hl [0, 1, 2, 3] rfl)) fu0 0 0 _ _ _ _ _ h hV (lv_sub hl [2, 3, 4, 5, 1, 0] rfl)
set_option maxHeartbeats 4000000 in
set_option maxRecDepth 100000 in
theorem s_X8_noised (l : Launch) (D : va_G) (X : XT) (ad : Nat → Nat) (n : Nat) (A : Nat → Prop) (J : MJ) (hWT : WT X n J) (x0 : Nat) (t0 : Ty X n x0 9) (x1 : Int32) (x2 : Int32) (x3 : Int32) (x4 : Int32) (I : MI) (L : ML) (q : MI → ML → Prop) (h : wp_X8_noised X J x0 x1 x2 x3 x4 I L q) : Met l yX8_noised (wz yX8_noised cX8_noised 10 none) ({ frames := 6, cells := 0, slots := 0, locals := 139 } : Room) (va_Pc [.ref (ad x0), .int x1, .int x2, .int x3, .int x4] (Pr D X ad n A J I L)) (QV D X ad n A J q) 0 0 A := by
  refine Met_go (by decide +kernel) (Nat.le_of_ble_eq_true rfl) (fun p e s m below meth c hx hb hr hml hown hlk hnm hts hK hZ hA hV ls hl => ?_)
  have C0 : Cx p s m meth c cX8_noised none 10 yX8_noised [.ref (ad x0), .int x1, .int x2, .int x3, .int x4] D X ad n A J := ⟨hx, hb, hr, hml, hown, hlk, hnm, hts, hK, hZ, hA, hWT⟩
  unfold wp_X8_noised at h
  have hl : lv_has ls 10 [(0, .ref (ad x0)), (1, .int x1), (2, .int x2), (3, .int x3), (4, .int x4)] := hl
  refine lv_aload_n hx hb dX8_noised_0 rfl (lv_at hl 0 rfl) ?_
  refine lv_iload_n hx hb dX8_noised_1 rfl (lv_at hl 1 rfl) ?_
  refine lv_sipush (v := 11336) hx hb dX8_noised_2 (by decide) ?_
  refine lv_bipush (v := 32) hx hb dX8_noised_5 (by decide) ?_
  refine k_callv (va_runV (As := [.int x1, .int 11336, .int 32]) (rest := []) ⟨hx, hb, hml, hown, hts⟩ (s_X8_copy l D X ad n A J hWT x0 t0 x1 11336 32 I L _ h) (cwV 3 hts (gV tw_3_166 tw_3_168 tw_0_14 tw_1_9 tw_3_169) rfl rfl rfl (by decide +kernel) (by decide)) (k_preV (ci := 5) hK hV hA hZ t0 rfl _) rfl rfl hl.1 rfl (lv_room (Nat.le_of_ble_eq_true rfl)) dX8_noised_7 ⟨Nat.zero_le _, Nat.zero_le _⟩) hV (fun I_1 L_2 H locs h hV => ?_)
  refine lv_aload_n hx hb dX8_noised_10 rfl (lv_at hl 0 rfl) ?_
  obtain ⟨r_3, hr_3, h⟩ := h
  have tr_3 : Ty X n r_3 1 := hWT.r (c := 5) (j := 0) t0 rfl hr_3
  refine m_getr (C := RX8) (T := TX8) (N := 19) (ci := 5) hx hb hts iwX8 hown hK hV t0 rfl 0 (by decide) rfl rfl hr_3 (hts _ tw_3_91) (fun _ h9 => h9) dX8_noised_11 ?_
  refine lv_sipush (v := 11368) hx hb dX8_noised_14 (by decide) ?_
  refine lv_iload_n hx hb dX8_noised_17 rfl (lv_at hl 2 rfl) ?_
  refine lv_i2b hx hb dX8_noised_18 rfl ?_
  obtain ⟨hi_4, h⟩ := h
  refine m_bast hx hb hK hV tr_3 hi_4 dX8_noised_19 (fun H locs hV => ?_)
  obtain ⟨I_5, eI_5⟩ : ∃ y, y = ms I_1 r_3 (11368 : Int32).toNatClampNeg (jb8 (jb8 x2)) := ⟨_, rfl⟩
  replace hV : Wd D X ad n A s.heap J I_5 L_2 H locs := by rw [eI_5]; exact hV
  replace h := h I_5 eI_5
  refine lv_aload_n hx hb dX8_noised_20 rfl (lv_at hl 0 rfl) ?_
  refine lv_sipush (v := 136) hx hb dX8_noised_21 (by decide) ?_
  refine lv_sipush (v := 11336) hx hb dX8_noised_24 (by decide) ?_
  refine lv_bipush (v := 33) hx hb dX8_noised_27 (by decide) ?_
  refine lv_iconst (v := 0) hx hb dX8_noised_29 (by decide) ?_
  refine k_callv (va_runV (As := [.int 136, .int 11336, .int 33, .int 0]) (rest := []) ⟨hx, hb, hml, hown, hts⟩ (s_X8_absorb l D X ad n A J hWT x0 t0 136 11336 33 0 I_5 L_2 _ h) (cwV 4 hts (gV tw_3_211 tw_3_213 tw_0_20 tw_1_9 tw_3_214) rfl rfl rfl (by decide +kernel) (by decide)) (k_preV (ci := 5) hK hV hA hZ t0 rfl _) rfl rfl hl.1 rfl (lv_room (Nat.le_of_ble_eq_true rfl)) dX8_noised_30 ⟨Nat.zero_le _, Nat.zero_le _⟩) hV (fun I_6 L_7 H locs h hV => ?_)
  refine lv_aload_n hx hb dX8_noised_33 rfl (lv_at hl 0 rfl) ?_
  refine lv_sipush (v := 15436) hx hb dX8_noised_34 (by decide) ?_
  refine lv_bipush (v := 64) hx hb dX8_noised_37 (by decide) ?_
  refine lv_iload_n hx hb dX8_noised_39 rfl (lv_at hl 3 rfl) ?_
  refine lv_imul hx hb dX8_noised_40 ?_
  refine k_callv (va_runV (As := [.int 15436, .int (64 * x3)]) (rest := []) ⟨hx, hb, hml, hown, hts⟩ (s_X8_tells l D X ad n A J hWT x0 t0 15436 (64 * x3) I_6 L_7 _ h) (cwV 2 hts (gV tw_3_231 tw_3_233 tw_0_25 tw_1_9 tw_3_234) rfl rfl rfl (by decide +kernel) (by decide)) (k_preV (ci := 5) hK hV hA hZ t0 rfl _) rfl rfl hl.1 rfl (lv_room (Nat.le_of_ble_eq_true rfl)) dX8_noised_41 ⟨Nat.zero_le _, Nat.zero_le _⟩) hV (fun I_8 L_9 H locs h hV => ?_)
  refine lv_iconst (v := 0) hx hb dX8_noised_44 (by decide) ?_
  refine lv_istore (lv' := [(5, .int 0), (0, .ref (ad x0)), (1, .int x1), (2, .int x2), (3, .int x3), (4, .int x4)]) hx hb dX8_noised_45 hl (by decide) rfl (fun ls hl => ?_)
  obtain ⟨fu0, h⟩ := h
  exact n_X8_noised_47 rfl C0 t0   fu0 0 _ _ _ _ _ h hV (lv_sub hl [1, 4, 5, 0] rfl)
set_option maxHeartbeats 4000000 in
set_option maxRecDepth 100000 in
theorem s_X8_eta1 (l : Launch) (D : va_G) (X : XT) (ad : Nat → Nat) (n : Nat) (A : Nat → Prop) (J : MJ) (hWT : WT X n J) (x0 : Nat) (t0 : Ty X n x0 9) (I : MI) (L : ML) (q : Int32 → MI → ML → Prop) (h : wp_X8_eta1 X J x0 I L q) : Met l yX8_eta1 (wz yX8_eta1 cX8_eta1 1 (some .int)) ({ frames := 0, cells := 0, slots := 0, locals := 0 } : Room) (va_Pc [.ref (ad x0)] (Pr D X ad n A J I L)) (QI D X ad n A J q) 0 0 A := by
  refine Met_go (by decide +kernel) (Nat.le_of_ble_eq_true rfl) (fun p e s m below meth c hx hb hr hml hown hlk hnm hts hK hZ hA hV ls hl => ?_)
  have C0 : Cx p s m meth c cX8_eta1 (some .int) 1 yX8_eta1 [.ref (ad x0)] D X ad n A J := ⟨hx, hb, hr, hml, hown, hlk, hnm, hts, hK, hZ, hA, hWT⟩
  unfold wp_X8_eta1 at h
  have hl : lv_has ls 1 [(0, .ref (ad x0))] := hl
  refine lv_aload_n hx hb dX8_eta1_0 rfl (lv_at hl 0 rfl) ?_
  refine m_geti (C := RX8) (T := TX8) (N := 19) (ci := 5) hx hb hts iwX8 hown hK hV t0 rfl 7 (by decide) rfl rfl (hts _ tw_3_98) (fun _ h9 => h9) dX8_eta1_1 ?_
  refine lv_iconst (v := 2) hx hb dX8_eta1_4 (by decide) ?_
  refine lv_icmp_ne (tgt := 12) hx hb dX8_eta1_5 (by decide) (fun hc => ?_) (fun hc => ?_)
  · replace h := h.1 hc
    refine lv_iconst (v := 2) hx hb dX8_eta1_12 (by decide) ?_
    exact m_iret hx hb hr hlk hK hZ hA hV h dX8_eta1_13
  · replace h := h.2 hc
    refine lv_iconst (v := 3) hx hb dX8_eta1_8 (by decide) ?_
    refine lv_goto (tgt := 13) hx hb dX8_eta1_9 (by decide) ?_
    exact m_iret hx hb hr hlk hK hZ hA hV h dX8_eta1_13
set_option maxHeartbeats 4000000 in
set_option maxRecDepth 100000 in
theorem s_X8_du (l : Launch) (D : va_G) (X : XT) (ad : Nat → Nat) (n : Nat) (A : Nat → Prop) (J : MJ) (hWT : WT X n J) (x0 : Nat) (t0 : Ty X n x0 9) (I : MI) (L : ML) (q : Int32 → MI → ML → Prop) (h : wp_X8_du X J x0 I L q) : Met l yX8_du (wz yX8_du cX8_du 1 (some .int)) ({ frames := 0, cells := 0, slots := 0, locals := 0 } : Room) (va_Pc [.ref (ad x0)] (Pr D X ad n A J I L)) (QI D X ad n A J q) 0 0 A := by
  refine Met_go (by decide +kernel) (Nat.le_of_ble_eq_true rfl) (fun p e s m below meth c hx hb hr hml hown hlk hnm hts hK hZ hA hV ls hl => ?_)
  have C0 : Cx p s m meth c cX8_du (some .int) 1 yX8_du [.ref (ad x0)] D X ad n A J := ⟨hx, hb, hr, hml, hown, hlk, hnm, hts, hK, hZ, hA, hWT⟩
  unfold wp_X8_du at h
  have hl : lv_has ls 1 [(0, .ref (ad x0))] := hl
  refine lv_aload_n hx hb dX8_du_0 rfl (lv_at hl 0 rfl) ?_
  refine m_geti (C := RX8) (T := TX8) (N := 19) (ci := 5) hx hb hts iwX8 hown hK hV t0 rfl 7 (by decide) rfl rfl (hts _ tw_3_98) (fun _ h9 => h9) dX8_du_1 ?_
  refine lv_iconst (v := 4) hx hb dX8_du_4 (by decide) ?_
  refine lv_icmp_ne (tgt := 13) hx hb dX8_du_5 (by decide) (fun hc => ?_) (fun hc => ?_)
  · replace h := h.1 hc
    refine lv_bipush (v := 10) hx hb dX8_du_13 (by decide) ?_
    exact m_iret hx hb hr hlk hK hZ hA hV h dX8_du_15
  · replace h := h.2 hc
    refine lv_bipush (v := 11) hx hb dX8_du_8 (by decide) ?_
    refine lv_goto (tgt := 15) hx hb dX8_du_10 (by decide) ?_
    exact m_iret hx hb hr hlk hK hZ hA hV h dX8_du_15
set_option maxHeartbeats 4000000 in
set_option maxRecDepth 100000 in
theorem s_X8_dv (l : Launch) (D : va_G) (X : XT) (ad : Nat → Nat) (n : Nat) (A : Nat → Prop) (J : MJ) (hWT : WT X n J) (x0 : Nat) (t0 : Ty X n x0 9) (I : MI) (L : ML) (q : Int32 → MI → ML → Prop) (h : wp_X8_dv X J x0 I L q) : Met l yX8_dv (wz yX8_dv cX8_dv 1 (some .int)) ({ frames := 0, cells := 0, slots := 0, locals := 0 } : Room) (va_Pc [.ref (ad x0)] (Pr D X ad n A J I L)) (QI D X ad n A J q) 0 0 A := by
  refine Met_go (by decide +kernel) (Nat.le_of_ble_eq_true rfl) (fun p e s m below meth c hx hb hr hml hown hlk hnm hts hK hZ hA hV ls hl => ?_)
  have C0 : Cx p s m meth c cX8_dv (some .int) 1 yX8_dv [.ref (ad x0)] D X ad n A J := ⟨hx, hb, hr, hml, hown, hlk, hnm, hts, hK, hZ, hA, hWT⟩
  unfold wp_X8_dv at h
  have hl : lv_has ls 1 [(0, .ref (ad x0))] := hl
  refine lv_aload_n hx hb dX8_dv_0 rfl (lv_at hl 0 rfl) ?_
  refine m_geti (C := RX8) (T := TX8) (N := 19) (ci := 5) hx hb hts iwX8 hown hK hV t0 rfl 7 (by decide) rfl rfl (hts _ tw_3_98) (fun _ h9 => h9) dX8_dv_1 ?_
  refine lv_iconst (v := 4) hx hb dX8_dv_4 (by decide) ?_
  refine lv_icmp_ne (tgt := 12) hx hb dX8_dv_5 (by decide) (fun hc => ?_) (fun hc => ?_)
  · replace h := h.1 hc
    refine lv_iconst (v := 4) hx hb dX8_dv_12 (by decide) ?_
    exact m_iret hx hb hr hlk hK hZ hA hV h dX8_dv_13
  · replace h := h.2 hc
    refine lv_iconst (v := 5) hx hb dX8_dv_8 (by decide) ?_
    refine lv_goto (tgt := 13) hx hb dX8_dv_9 (by decide) ?_
    exact m_iret hx hb hr hlk hK hZ hA hV h dX8_dv_13
set_option maxHeartbeats 4000000 in
set_option maxRecDepth 100000 in
theorem s_X8_ekBytes (l : Launch) (D : va_G) (X : XT) (ad : Nat → Nat) (n : Nat) (A : Nat → Prop) (J : MJ) (hWT : WT X n J) (x0 : Nat) (t0 : Ty X n x0 9) (I : MI) (L : ML) (q : Int32 → MI → ML → Prop) (h : wp_X8_ekBytes X J x0 I L q) : Met l yX8_ekBytes (wz yX8_ekBytes cX8_ekBytes 1 (some .int)) ({ frames := 0, cells := 0, slots := 0, locals := 0 } : Room) (va_Pc [.ref (ad x0)] (Pr D X ad n A J I L)) (QI D X ad n A J q) 0 0 A := by
  refine Met_go (by decide +kernel) (Nat.le_of_ble_eq_true rfl) (fun p e s m below meth c hx hb hr hml hown hlk hnm hts hK hZ hA hV ls hl => ?_)
  have C0 : Cx p s m meth c cX8_ekBytes (some .int) 1 yX8_ekBytes [.ref (ad x0)] D X ad n A J := ⟨hx, hb, hr, hml, hown, hlk, hnm, hts, hK, hZ, hA, hWT⟩
  unfold wp_X8_ekBytes at h
  have hl : lv_has ls 1 [(0, .ref (ad x0))] := hl
  refine lv_sipush (v := 384) hx hb dX8_ekBytes_0 (by decide) ?_
  refine lv_aload_n hx hb dX8_ekBytes_3 rfl (lv_at hl 0 rfl) ?_
  refine m_geti (C := RX8) (T := TX8) (N := 19) (ci := 5) hx hb hts iwX8 hown hK hV t0 rfl 7 (by decide) rfl rfl (hts _ tw_3_98) (fun _ h9 => h9) dX8_ekBytes_4 ?_
  refine lv_imul hx hb dX8_ekBytes_7 ?_
  refine lv_bipush (v := 32) hx hb dX8_ekBytes_8 (by decide) ?_
  refine lv_iadd hx hb dX8_ekBytes_10 ?_
  exact m_iret hx hb hr hlk hK hZ hA hV h dX8_ekBytes_11
set_option maxHeartbeats 4000000 in
set_option maxRecDepth 100000 in
theorem s_X8_textBytes (l : Launch) (D : va_G) (X : XT) (ad : Nat → Nat) (n : Nat) (A : Nat → Prop) (J : MJ) (hWT : WT X n J) (x0 : Nat) (t0 : Ty X n x0 9) (I : MI) (L : ML) (q : Int32 → MI → ML → Prop) (h : wp_X8_textBytes X J x0 I L q) : Met l yX8_textBytes (wz yX8_textBytes cX8_textBytes 1 (some .int)) ({ frames := 1, cells := 0, slots := 0, locals := 20 } : Room) (va_Pc [.ref (ad x0)] (Pr D X ad n A J I L)) (QI D X ad n A J q) 0 0 A := by
  refine Met_go (by decide +kernel) (Nat.le_of_ble_eq_true rfl) (fun p e s m below meth c hx hb hr hml hown hlk hnm hts hK hZ hA hV ls hl => ?_)
  have C0 : Cx p s m meth c cX8_textBytes (some .int) 1 yX8_textBytes [.ref (ad x0)] D X ad n A J := ⟨hx, hb, hr, hml, hown, hlk, hnm, hts, hK, hZ, hA, hWT⟩
  unfold wp_X8_textBytes at h
  have hl : lv_has ls 1 [(0, .ref (ad x0))] := hl
  refine lv_bipush (v := 32) hx hb dX8_textBytes_0 (by decide) ?_
  refine lv_aload_n hx hb dX8_textBytes_2 rfl (lv_at hl 0 rfl) ?_
  refine k_calli (va_runV (As := []) (rest := [.int 32]) ⟨hx, hb, hml, hown, hts⟩ (s_X8_du l D X ad n A J hWT x0 t0 I L _ h) (cwV 0 hts (gV tw_4_47 tw_4_49 tw_0_37 tw_1_9 tw_4_50) rfl rfl rfl (by decide +kernel) (by decide)) (k_preV (ci := 5) hK hV hA hZ t0 rfl _) rfl rfl hl.1 rfl (lv_room (Nat.le_of_ble_eq_true rfl)) dX8_textBytes_3 ⟨Nat.zero_le _, Nat.zero_le _⟩) hV (fun v_3 I_1 L_2 H locs h hV => ?_)
  refine lv_aload_n hx hb dX8_textBytes_6 rfl (lv_at hl 0 rfl) ?_
  refine m_geti (C := RX8) (T := TX8) (N := 19) (ci := 5) hx hb hts iwX8 hown hK hV t0 rfl 7 (by decide) rfl rfl (hts _ tw_3_98) (fun _ h9 => h9) dX8_textBytes_7 ?_
  refine lv_imul hx hb dX8_textBytes_10 ?_
  refine lv_aload_n hx hb dX8_textBytes_11 rfl (lv_at hl 0 rfl) ?_
  refine k_calli (va_runV (As := []) (rest := [.int (v_3 * (I_1 x0 7)), .int 32]) ⟨hx, hb, hml, hown, hts⟩ (s_X8_dv l D X ad n A J hWT x0 t0 I_1 L_2 _ h) (cwV 0 hts (gV tw_4_51 tw_4_53 tw_0_38 tw_1_9 tw_4_54) rfl rfl rfl (by decide +kernel) (by decide)) (k_preV (ci := 5) hK hV hA hZ t0 rfl _) rfl rfl hl.1 rfl (lv_room (Nat.le_of_ble_eq_true rfl)) dX8_textBytes_12 ⟨Nat.zero_le _, Nat.zero_le _⟩) hV (fun v_6 I_4 L_5 H locs h hV => ?_)
  refine lv_iadd hx hb dX8_textBytes_15 ?_
  refine lv_imul hx hb dX8_textBytes_16 ?_
  exact m_iret hx hb hr hlk hK hZ hA hV h dX8_textBytes_17
set_option maxHeartbeats 4000000 in
set_option maxRecDepth 100000 in
theorem s_X8_g (l : Launch) (D : va_G) (X : XT) (ad : Nat → Nat) (n : Nat) (A : Nat → Prop) (J : MJ) (hWT : WT X n J) (x0 : Nat) (t0 : Ty X n x0 9) (x1 : Int32) (I : MI) (L : ML) (q : MI → ML → Prop) (h : wp_X8_g X J x0 x1 I L q) : Met l yX8_g (wz yX8_g cX8_g 2 none) ({ frames := 6, cells := 0, slots := 0, locals := 139 } : Room) (va_Pc [.ref (ad x0), .int x1] (Pr D X ad n A J I L)) (QV D X ad n A J q) 0 0 A := by
  refine Met_go (by decide +kernel) (Nat.le_of_ble_eq_true rfl) (fun p e s m below meth c hx hb hr hml hown hlk hnm hts hK hZ hA hV ls hl => ?_)
  have C0 : Cx p s m meth c cX8_g none 2 yX8_g [.ref (ad x0), .int x1] D X ad n A J := ⟨hx, hb, hr, hml, hown, hlk, hnm, hts, hK, hZ, hA, hWT⟩
  unfold wp_X8_g at h
  have hl : lv_has ls 2 [(0, .ref (ad x0)), (1, .int x1)] := hl
  refine lv_aload_n hx hb dX8_g_0 rfl (lv_at hl 0 rfl) ?_
  refine lv_bipush (v := 72) hx hb dX8_g_1 (by decide) ?_
  refine lv_sipush (v := 11336) hx hb dX8_g_3 (by decide) ?_
  refine lv_iload_n hx hb dX8_g_6 rfl (lv_at hl 1 rfl) ?_
  refine lv_iconst (v := 1) hx hb dX8_g_7 (by decide) ?_
  refine k_callv (va_runV (As := [.int 72, .int 11336, .int x1, .int 1]) (rest := []) ⟨hx, hb, hml, hown, hts⟩ (s_X8_absorb l D X ad n A J hWT x0 t0 72 11336 x1 1 I L _ h) (cwV 4 hts (gV tw_3_211 tw_3_213 tw_0_20 tw_1_9 tw_3_214) rfl rfl rfl (by decide +kernel) (by decide)) (k_preV (ci := 5) hK hV hA hZ t0 rfl _) rfl rfl hl.1 rfl (lv_room (Nat.le_of_ble_eq_true rfl)) dX8_g_8 ⟨Nat.zero_le _, Nat.zero_le _⟩) hV (fun I_1 L_2 H locs h hV => ?_)
  refine lv_aload_n hx hb dX8_g_11 rfl (lv_at hl 0 rfl) ?_
  refine lv_sipush (v := 19612) hx hb dX8_g_12 (by decide) ?_
  refine lv_bipush (v := 64) hx hb dX8_g_15 (by decide) ?_
  refine k_callv (va_runV (As := [.int 19612, .int 64]) (rest := []) ⟨hx, hb, hml, hown, hts⟩ (s_X8_tells l D X ad n A J hWT x0 t0 19612 64 I_1 L_2 _ h) (cwV 2 hts (gV tw_3_231 tw_3_233 tw_0_25 tw_1_9 tw_3_234) rfl rfl rfl (by decide +kernel) (by decide)) (k_preV (ci := 5) hK hV hA hZ t0 rfl _) rfl rfl hl.1 rfl (lv_room (Nat.le_of_ble_eq_true rfl)) dX8_g_17 ⟨Nat.zero_le _, Nat.zero_le _⟩) hV (fun I_3 L_4 H locs h hV => ?_)
  exact m_vret hx hb hr hlk hK hZ hA hV h dX8_g_20
set_option maxHeartbeats 4000000 in
set_option maxRecDepth 100000 in
theorem n_X8_made_130 {p : Program} {l : Launch} {e : Env} {s : State} {m : MethodId} {below : List Frame} {meth : Method} {c : Code} {D : va_G} {X : XT} {ad : Nat → Nat} {n : Nat} {A : Nat → Prop} {J : MJ} {av : List Value} {R : Room} (hR : R = ({ frames := 8, cells := 0, slots := 0, locals := 191 } : Room)) (C0 : Cx p s m meth c cX8_made (some .boolean) 3 yX8_made av D X ad n A J) {q : Int32 → MI → ML → Prop} {k110 : Int32 → MI → ML → Prop} {x0 : Nat} {x1 : Int32} (t0 : Ty X n x0 9)
    (hk110 : ∀ (x1 : Int32) (I : MI) (L : ML) (H : Heap) (locs : List Loc) (ls : Array Slot), k110 x1 I L → Wd D X ad n A s.heap J I L H locs → lv_has ls 3 [(0, .ref (ad x0)), (1, .int x1)] → W p l e R s m av.toArray below meth c H locs 0 0 (MQ below (QI D X ad n A J q) av.toArray s 0 0 A) (F0 m 110 ls [])) : ∀ (fu : Nat) (x2 : Int32) (I : MI) (L : ML) (H : Heap) (locs : List Loc) (ls : Array Slot), wl_X8_made_130 X J q k110 x0 x1 fu x2 I L → Wd D X ad n A s.heap J I L H locs → lv_has ls 3 [(0, .ref (ad x0)), (1, .int x1), (2, .int x2)] → W p l e R s m av.toArray below meth c H locs 0 0 (MQ below (QI D X ad n A J q) av.toArray s 0 0 A) (F0 m 130 ls []) := by
  obtain ⟨hx, hb, hr, hml, hown, hlk, hnm, hts, hK, hZ, hA, hWT⟩ := id C0
  subst hR
  intro fu
  induction fu with
  | zero => intro x2 I L H locs ls h; exact absurd h (fun h => h)
  | succ fu ih =>
    intro x2 I L H locs ls h hV hl
    refine lv_iload_n hx hb dX8_made_130 rfl (lv_at hl 2 rfl) ?_
    refine lv_aload_n hx hb dX8_made_131 rfl (lv_at hl 0 rfl) ?_
    refine m_geti (C := RX8) (T := TX8) (N := 19) (ci := 5) hx hb hts iwX8 hown hK hV t0 rfl 7 (by decide) rfl rfl (hts _ tw_3_98) (fun _ h9 => h9) dX8_made_132 ?_
    refine lv_icmp_ge (tgt := 173) hx hb dX8_made_135 (by decide) (fun hc => ?_) (fun hc => ?_)
    · replace h := h.1 hc
      refine lv_aload_n hx hb dX8_made_173 rfl (lv_at hl 0 rfl) ?_
      refine lv_bipush (v := 16) hx hb dX8_made_174 (by decide) ?_
      refine lv_bipush (v := 12) hx hb dX8_made_176 (by decide) ?_
      refine lv_sipush (v := 16476) hx hb dX8_made_178 (by decide) ?_
      refine lv_sipush (v := 384) hx hb dX8_made_181 (by decide) ?_
      refine lv_iload_n hx hb dX8_made_184 rfl (lv_at hl 1 rfl) ?_
      refine lv_imul hx hb dX8_made_185 ?_
      refine lv_iadd hx hb dX8_made_186 ?_
      refine k_callv (va_runV (As := [.int 16, .int 12, .int (16476 + (384 * x1))]) (rest := []) ⟨hx, hb, hml, hown, hts⟩ (s_X8_written l D X ad n A J hWT x0 t0 16 12 (16476 + (384 * x1)) I L _ h) (cwV 3 hts (gV tw_4_31 tw_4_33 tw_0_34 tw_1_9 tw_4_34) rfl rfl rfl (by decide +kernel) (by decide)) (k_preV (ci := 5) hK hV hA hZ t0 rfl _) rfl rfl hl.1 rfl (lv_room (Nat.le_of_ble_eq_true rfl)) dX8_made_187 ⟨Nat.zero_le _, Nat.zero_le _⟩) hV (fun I_14 L_15 H locs h hV => ?_)
      obtain ⟨x1_16, ex1_16⟩ : ∃ y : Int32, y = x1 + 1 := ⟨_, rfl⟩
      replace h := h x1_16 ex1_16
      refine lv_iinc (v := x1_16) (lv' := [(1, .int x1_16), (0, .ref (ad x0)), (2, .int x2)]) hx hb dX8_made_190 hl (k := 1) rfl (by rw [ex1_16]; rfl) (by decide) rfl (fun ls hl => ?_)
      refine lv_goto (tgt := 110) hx hb dX8_made_193 (by decide) ?_
      exact hk110 x1_16 _ _ _ _ _ h hV (lv_sub hl [1, 0] rfl)
    · replace h := h.2 hc
      refine lv_aload_n hx hb dX8_made_138 rfl (lv_at hl 0 rfl) ?_
      refine lv_sipush (v := 19804) hx hb dX8_made_139 (by decide) ?_
      refine lv_iload_n hx hb dX8_made_142 rfl (lv_at hl 2 rfl) ?_
      refine lv_iload_n hx hb dX8_made_143 rfl (lv_at hl 1 rfl) ?_
      refine lv_bipush (v := 17) hx hb dX8_made_144 (by decide) ?_
      refine k_calli (va_runV (As := [.int 19804, .int x2, .int x1, .int 17]) (rest := []) ⟨hx, hb, hml, hown, hts⟩ (s_X8_matrix l D X ad n A J hWT x0 t0 19804 x2 x1 17 I L _ h) (cwV 4 hts (gV tw_4_19 tw_4_21 tw_0_31 tw_1_9 tw_4_22) rfl rfl rfl (by decide +kernel) (by decide)) (k_preV (ci := 5) hK hV hA hZ t0 rfl _) rfl rfl hl.1 rfl (lv_room (Nat.le_of_ble_eq_true rfl)) dX8_made_146 ⟨Nat.zero_le _, Nat.zero_le _⟩) hV (fun v_19 I_17 L_18 H locs h hV => ?_)
      refine lv_iconst (v := (-1)) hx hb dX8_made_149 (by decide) ?_
      refine lv_icmp_ne (tgt := 155) hx hb dX8_made_150 (by decide) (fun hc => ?_) (fun hc => ?_)
      · replace h := h.1 hc
        refine lv_aload_n hx hb dX8_made_155 rfl (lv_at hl 0 rfl) ?_
        refine lv_bipush (v := 17) hx hb dX8_made_156 (by decide) ?_
        refine lv_iconst (v := 4) hx hb dX8_made_158 (by decide) ?_
        refine lv_iload_n hx hb dX8_made_159 rfl (lv_at hl 2 rfl) ?_
        refine lv_iadd hx hb dX8_made_160 ?_
        refine lv_bipush (v := 16) hx hb dX8_made_161 (by decide) ?_
        refine lv_iconst (v := 1) hx hb dX8_made_163 (by decide) ?_
        refine k_callv (va_runV (As := [.int 17, .int (4 + x2), .int 16, .int 1]) (rest := []) ⟨hx, hb, hml, hown, hts⟩ (s_X8_product l D X ad n A J hWT x0 t0 17 (4 + x2) 16 1 I_17 L_18 _ h) (cwV 4 hts (gV tw_4_27 tw_4_29 tw_0_33 tw_1_9 tw_4_30) rfl rfl rfl (by decide +kernel) (by decide)) (k_preV (ci := 5) hK hV hA hZ t0 rfl _) rfl rfl hl.1 rfl (lv_room (Nat.le_of_ble_eq_true rfl)) dX8_made_164 ⟨Nat.zero_le _, Nat.zero_le _⟩) hV (fun I_20 L_21 H locs h hV => ?_)
        obtain ⟨x2_22, ex2_22⟩ : ∃ y : Int32, y = x2 + 1 := ⟨_, rfl⟩
        replace h := h x2_22 ex2_22
        refine lv_iinc (v := x2_22) (lv' := [(2, .int x2_22), (0, .ref (ad x0)), (1, .int x1)]) hx hb dX8_made_167 hl (k := 2) rfl (by rw [ex2_22]; rfl) (by decide) rfl (fun ls hl => ?_)
        refine lv_goto (tgt := 130) hx hb dX8_made_170 (by decide) ?_
        exact ih x2_22 _ _ _ _ _ h hV (lv_sub hl [1, 2, 0] rfl)
      · replace h := h.2 hc
        refine lv_iconst (v := 0) hx hb dX8_made_153 (by decide) ?_
        exact m_zret hx hb hr hlk hK hZ hA hV (by decide) h dX8_made_154
set_option maxHeartbeats 4000000 in
set_option maxRecDepth 100000 in
theorem n_X8_made_110 {p : Program} {l : Launch} {e : Env} {s : State} {m : MethodId} {below : List Frame} {meth : Method} {c : Code} {D : va_G} {X : XT} {ad : Nat → Nat} {n : Nat} {A : Nat → Prop} {J : MJ} {av : List Value} {R : Room} (hR : R = ({ frames := 8, cells := 0, slots := 0, locals := 191 } : Room)) (C0 : Cx p s m meth c cX8_made (some .boolean) 3 yX8_made av D X ad n A J) {q : Int32 → MI → ML → Prop}  {x0 : Nat} (t0 : Ty X n x0 9) : ∀ (fu : Nat) (x1 : Int32) (I : MI) (L : ML) (H : Heap) (locs : List Loc) (ls : Array Slot), wl_X8_made_110 X J q  x0 fu x1 I L → Wd D X ad n A s.heap J I L H locs → lv_has ls 3 [(0, .ref (ad x0)), (1, .int x1)] → W p l e R s m av.toArray below meth c H locs 0 0 (MQ below (QI D X ad n A J q) av.toArray s 0 0 A) (F0 m 110 ls []) := by
  obtain ⟨hx, hb, hr, hml, hown, hlk, hnm, hts, hK, hZ, hA, hWT⟩ := id C0
  subst hR
  intro fu
  induction fu with
  | zero => intro x1 I L H locs ls h; exact absurd h (fun h => h)
  | succ fu ih =>
    intro x1 I L H locs ls h hV hl
    refine lv_iload_n hx hb dX8_made_110 rfl (lv_at hl 1 rfl) ?_
    refine lv_aload_n hx hb dX8_made_111 rfl (lv_at hl 0 rfl) ?_
    refine m_geti (C := RX8) (T := TX8) (N := 19) (ci := 5) hx hb hts iwX8 hown hK hV t0 rfl 7 (by decide) rfl rfl (hts _ tw_3_98) (fun _ h9 => h9) dX8_made_112 ?_
    refine lv_icmp_ge (tgt := 196) hx hb dX8_made_115 (by decide) (fun hc => ?_) (fun hc => ?_)
    · replace h := h.1 hc
      refine lv_aload_n hx hb dX8_made_196 rfl (lv_at hl 0 rfl) ?_
      refine lv_sipush (v := 19804) hx hb dX8_made_197 (by decide) ?_
      refine lv_sipush (v := 16476) hx hb dX8_made_200 (by decide) ?_
      refine lv_sipush (v := 384) hx hb dX8_made_203 (by decide) ?_
      refine lv_aload_n hx hb dX8_made_206 rfl (lv_at hl 0 rfl) ?_
      refine m_geti (C := RX8) (T := TX8) (N := 19) (ci := 5) hx hb hts iwX8 hown hK hV t0 rfl 7 (by decide) rfl rfl (hts _ tw_3_98) (fun _ h9 => h9) dX8_made_207 ?_
      refine lv_imul hx hb dX8_made_210 ?_
      refine lv_iadd hx hb dX8_made_211 ?_
      refine lv_bipush (v := 32) hx hb dX8_made_212 (by decide) ?_
      refine k_callv (va_runV (As := [.int 19804, .int (16476 + (384 * (I x0 7))), .int 32]) (rest := []) ⟨hx, hb, hml, hown, hts⟩ (s_X8_copy l D X ad n A J hWT x0 t0 19804 (16476 + (384 * (I x0 7))) 32 I L _ h) (cwV 3 hts (gV tw_3_166 tw_3_168 tw_0_14 tw_1_9 tw_3_169) rfl rfl rfl (by decide +kernel) (by decide)) (k_preV (ci := 5) hK hV hA hZ t0 rfl _) rfl rfl hl.1 rfl (lv_room (Nat.le_of_ble_eq_true rfl)) dX8_made_214 ⟨Nat.zero_le _, Nat.zero_le _⟩) hV (fun I_10 L_11 H locs h hV => ?_)
      refine lv_iconst (v := 1) hx hb dX8_made_217 (by decide) ?_
      exact m_zret hx hb hr hlk hK hZ hA hV (by decide) h dX8_made_218
    · replace h := h.2 hc
      refine lv_aload_n hx hb dX8_made_118 rfl (lv_at hl 0 rfl) ?_
      refine lv_bipush (v := 8) hx hb dX8_made_119 (by decide) ?_
      refine lv_iload_n hx hb dX8_made_121 rfl (lv_at hl 1 rfl) ?_
      refine lv_iadd hx hb dX8_made_122 ?_
      refine lv_bipush (v := 16) hx hb dX8_made_123 (by decide) ?_
      refine k_callv (va_runV (As := [.int (8 + x1), .int 16]) (rest := []) ⟨hx, hb, hml, hown, hts⟩ (s_X8_copyPol l D X ad n A J hWT x0 t0 (8 + x1) 16 I L _ h) (cwV 2 hts (gV tw_4_15 tw_4_17 tw_0_30 tw_1_9 tw_4_18) rfl rfl rfl (by decide +kernel) (by decide)) (k_preV (ci := 5) hK hV hA hZ t0 rfl _) rfl rfl hl.1 rfl (lv_room (Nat.le_of_ble_eq_true rfl)) dX8_made_125 ⟨Nat.zero_le _, Nat.zero_le _⟩) hV (fun I_12 L_13 H locs h hV => ?_)
      refine lv_iconst (v := 0) hx hb dX8_made_128 (by decide) ?_
      refine lv_istore_n (lv' := [(2, .int 0), (0, .ref (ad x0)), (1, .int x1)]) hx hb dX8_made_129 rfl hl (by decide) rfl (fun ls hl => ?_)
      obtain ⟨fu0, h⟩ := h
      exact n_X8_made_130 rfl C0 t0  (fun y1 I L H locs ls h hV hl => ih y1 I L H locs ls h hV (lv_sub hl [0, 1] rfl)) fu0 0 _ _ _ _ _ h hV (lv_sub hl [1, 2, 0] rfl)
set_option maxHeartbeats 4000000 in
set_option maxRecDepth 100000 in
theorem n_X8_made_43 {p : Program} {l : Launch} {e : Env} {s : State} {m : MethodId} {below : List Frame} {meth : Method} {c : Code} {D : va_G} {X : XT} {ad : Nat → Nat} {n : Nat} {A : Nat → Prop} {J : MJ} {av : List Value} {R : Room} (hR : R = ({ frames := 8, cells := 0, slots := 0, locals := 191 } : Room)) (C0 : Cx p s m meth c cX8_made (some .boolean) 3 yX8_made av D X ad n A J) {q : Int32 → MI → ML → Prop}  {x0 : Nat} (t0 : Ty X n x0 9) : ∀ (fu : Nat) (x1 : Int32) (I : MI) (L : ML) (H : Heap) (locs : List Loc) (ls : Array Slot), wl_X8_made_43 X J q  x0 fu x1 I L → Wd D X ad n A s.heap J I L H locs → lv_has ls 3 [(0, .ref (ad x0)), (1, .int x1)] → W p l e R s m av.toArray below meth c H locs 0 0 (MQ below (QI D X ad n A J q) av.toArray s 0 0 A) (F0 m 43 ls []) := by
  obtain ⟨hx, hb, hr, hml, hown, hlk, hnm, hts, hK, hZ, hA, hWT⟩ := id C0
  subst hR
  intro fu
  induction fu with
  | zero => intro x1 I L H locs ls h; exact absurd h (fun h => h)
  | succ fu ih =>
    intro x1 I L H locs ls h hV hl
    refine lv_iload_n hx hb dX8_made_43 rfl (lv_at hl 1 rfl) ?_
    refine lv_aload_n hx hb dX8_made_44 rfl (lv_at hl 0 rfl) ?_
    refine m_geti (C := RX8) (T := TX8) (N := 19) (ci := 5) hx hb hts iwX8 hown hK hV t0 rfl 7 (by decide) rfl rfl (hts _ tw_3_98) (fun _ h9 => h9) dX8_made_45 ?_
    refine lv_icmp_ge (tgt := 108) hx hb dX8_made_48 (by decide) (fun hc => ?_) (fun hc => ?_)
    · replace h := h.1 hc
      refine lv_iconst (v := 0) hx hb dX8_made_108 (by decide) ?_
      refine lv_istore_n (lv' := [(1, .int 0), (0, .ref (ad x0))]) hx hb dX8_made_109 rfl hl (by decide) rfl (fun ls hl => ?_)
      obtain ⟨fu0, h⟩ := h
      exact n_X8_made_110 rfl C0 t0   fu0 0 _ _ _ _ _ h hV (lv_sub hl [1, 0] rfl)
    · replace h := h.2 hc
      refine lv_aload_n hx hb dX8_made_51 rfl (lv_at hl 0 rfl) ?_
      refine lv_sipush (v := 19836) hx hb dX8_made_52 (by decide) ?_
      refine lv_iload_n hx hb dX8_made_55 rfl (lv_at hl 1 rfl) ?_
      refine lv_aload_n hx hb dX8_made_56 rfl (lv_at hl 0 rfl) ?_
      refine k_calli (va_runV (As := []) (rest := [.int x1, .int 19836, .ref (ad x0)]) ⟨hx, hb, hml, hown, hts⟩ (s_X8_eta1 l D X ad n A J hWT x0 t0 I L _ h) (cwV 0 hts (gV tw_3_239 tw_4_1 tw_0_27 tw_1_9 tw_4_2) rfl rfl rfl (by decide +kernel) (by decide)) (k_preV (ci := 5) hK hV hA hZ t0 rfl _) rfl rfl hl.1 rfl (lv_room (Nat.le_of_ble_eq_true rfl)) dX8_made_57 ⟨Nat.zero_le _, Nat.zero_le _⟩) hV (fun v_25 I_23 L_24 H locs h hV => ?_)
      refine lv_iconst (v := 4) hx hb dX8_made_60 (by decide) ?_
      refine lv_iload_n hx hb dX8_made_61 rfl (lv_at hl 1 rfl) ?_
      refine lv_iadd hx hb dX8_made_62 ?_
      refine k_callv (va_runV (As := [.int 19836, .int x1, .int v_25, .int (4 + x1)]) (rest := []) ⟨hx, hb, hml, hown, hts⟩ (s_X8_noised l D X ad n A J hWT x0 t0 19836 x1 v_25 (4 + x1) I_23 L_24 _ h) (cwV 4 hts (gV tw_4_3 tw_4_5 tw_0_28 tw_1_9 tw_4_6) rfl rfl rfl (by decide +kernel) (by decide)) (k_preV (ci := 5) hK hV hA hZ t0 rfl _) rfl rfl hl.1 rfl (lv_room (Nat.le_of_ble_eq_true rfl)) dX8_made_63 ⟨Nat.zero_le _, Nat.zero_le _⟩) hV (fun I_26 L_27 H locs h hV => ?_)
      refine lv_aload_n hx hb dX8_made_66 rfl (lv_at hl 0 rfl) ?_
      refine lv_sipush (v := 19836) hx hb dX8_made_67 (by decide) ?_
      refine lv_aload_n hx hb dX8_made_70 rfl (lv_at hl 0 rfl) ?_
      refine m_geti (C := RX8) (T := TX8) (N := 19) (ci := 5) hx hb hts iwX8 hown hK hV t0 rfl 7 (by decide) rfl rfl (hts _ tw_3_98) (fun _ h9 => h9) dX8_made_71 ?_
      refine lv_iload_n hx hb dX8_made_74 rfl (lv_at hl 1 rfl) ?_
      refine lv_iadd hx hb dX8_made_75 ?_
      refine lv_aload_n hx hb dX8_made_76 rfl (lv_at hl 0 rfl) ?_
      refine k_calli (va_runV (As := []) (rest := [.int ((I_26 x0 7) + x1), .int 19836, .ref (ad x0)]) ⟨hx, hb, hml, hown, hts⟩ (s_X8_eta1 l D X ad n A J hWT x0 t0 I_26 L_27 _ h) (cwV 0 hts (gV tw_3_239 tw_4_1 tw_0_27 tw_1_9 tw_4_2) rfl rfl rfl (by decide +kernel) (by decide)) (k_preV (ci := 5) hK hV hA hZ t0 rfl _) rfl rfl hl.1 rfl (lv_room (Nat.le_of_ble_eq_true rfl)) dX8_made_77 ⟨Nat.zero_le _, Nat.zero_le _⟩) hV (fun v_30 I_28 L_29 H locs h hV => ?_)
      refine lv_bipush (v := 8) hx hb dX8_made_80 (by decide) ?_
      refine lv_iload_n hx hb dX8_made_82 rfl (lv_at hl 1 rfl) ?_
      refine lv_iadd hx hb dX8_made_83 ?_
      refine k_callv (va_runV (As := [.int 19836, .int ((I_26 x0 7) + x1), .int v_30, .int (8 + x1)]) (rest := []) ⟨hx, hb, hml, hown, hts⟩ (s_X8_noised l D X ad n A J hWT x0 t0 19836 ((I_26 x0 7) + x1) v_30 (8 + x1) I_28 L_29 _ h) (cwV 4 hts (gV tw_4_3 tw_4_5 tw_0_28 tw_1_9 tw_4_6) rfl rfl rfl (by decide +kernel) (by decide)) (k_preV (ci := 5) hK hV hA hZ t0 rfl _) rfl rfl hl.1 rfl (lv_room (Nat.le_of_ble_eq_true rfl)) dX8_made_84 ⟨Nat.zero_le _, Nat.zero_le _⟩) hV (fun I_31 L_32 H locs h hV => ?_)
      refine lv_aload_n hx hb dX8_made_87 rfl (lv_at hl 0 rfl) ?_
      refine lv_iconst (v := 4) hx hb dX8_made_88 (by decide) ?_
      refine lv_iload_n hx hb dX8_made_89 rfl (lv_at hl 1 rfl) ?_
      refine lv_iadd hx hb dX8_made_90 ?_
      refine k_callv (va_runV (As := [.int (4 + x1)]) (rest := []) ⟨hx, hb, hml, hown, hts⟩ (s_X8_bringForward l D X ad n A J hWT x0 t0 (4 + x1) I_31 L_32 _ h) (cwV 1 hts (gV tw_4_11 tw_4_13 tw_0_29 tw_1_9 tw_4_14) rfl rfl rfl (by decide +kernel) (by decide)) (k_preV (ci := 5) hK hV hA hZ t0 rfl _) rfl rfl hl.1 rfl (lv_room (Nat.le_of_ble_eq_true rfl)) dX8_made_91 ⟨Nat.zero_le _, Nat.zero_le _⟩) hV (fun I_33 L_34 H locs h hV => ?_)
      refine lv_aload_n hx hb dX8_made_94 rfl (lv_at hl 0 rfl) ?_
      refine lv_bipush (v := 8) hx hb dX8_made_95 (by decide) ?_
      refine lv_iload_n hx hb dX8_made_97 rfl (lv_at hl 1 rfl) ?_
      refine lv_iadd hx hb dX8_made_98 ?_
      refine k_callv (va_runV (As := [.int (8 + x1)]) (rest := []) ⟨hx, hb, hml, hown, hts⟩ (s_X8_bringForward l D X ad n A J hWT x0 t0 (8 + x1) I_33 L_34 _ h) (cwV 1 hts (gV tw_4_11 tw_4_13 tw_0_29 tw_1_9 tw_4_14) rfl rfl rfl (by decide +kernel) (by decide)) (k_preV (ci := 5) hK hV hA hZ t0 rfl _) rfl rfl hl.1 rfl (lv_room (Nat.le_of_ble_eq_true rfl)) dX8_made_99 ⟨Nat.zero_le _, Nat.zero_le _⟩) hV (fun I_35 L_36 H locs h hV => ?_)
      obtain ⟨x1_37, ex1_37⟩ : ∃ y : Int32, y = x1 + 1 := ⟨_, rfl⟩
      replace h := h x1_37 ex1_37
      refine lv_iinc (v := x1_37) (lv' := [(1, .int x1_37), (0, .ref (ad x0))]) hx hb dX8_made_102 hl (k := 1) rfl (by rw [ex1_37]; rfl) (by decide) rfl (fun ls hl => ?_)
      refine lv_goto (tgt := 43) hx hb dX8_made_105 (by decide) ?_
      exact ih x1_37 _ _ _ _ _ h hV (lv_sub hl [1, 0] rfl)
set_option maxHeartbeats 4000000 in
set_option maxRecDepth 100000 in
theorem s_X8_made (l : Launch) (D : va_G) (X : XT) (ad : Nat → Nat) (n : Nat) (A : Nat → Prop) (J : MJ) (hWT : WT X n J) (x0 : Nat) (t0 : Ty X n x0 9) (I : MI) (L : ML) (q : Int32 → MI → ML → Prop) (h : wp_X8_made X J x0 I L q) : Met l yX8_made (wz yX8_made cX8_made 3 (some .boolean)) ({ frames := 8, cells := 0, slots := 0, locals := 191 } : Room) (va_Pc [.ref (ad x0)] (Pr D X ad n A J I L)) (QI D X ad n A J q) 0 0 A := by
  refine Met_go (by decide +kernel) (Nat.le_of_ble_eq_true rfl) (fun p e s m below meth c hx hb hr hml hown hlk hnm hts hK hZ hA hV ls hl => ?_)
  have C0 : Cx p s m meth c cX8_made (some .boolean) 3 yX8_made [.ref (ad x0)] D X ad n A J := ⟨hx, hb, hr, hml, hown, hlk, hnm, hts, hK, hZ, hA, hWT⟩
  unfold wp_X8_made at h
  have hl : lv_has ls 3 [(0, .ref (ad x0))] := hl
  refine lv_aload_n hx hb dX8_made_0 rfl (lv_at hl 0 rfl) ?_
  refine lv_iconst (v := 0) hx hb dX8_made_1 (by decide) ?_
  refine lv_sipush (v := 11336) hx hb dX8_made_2 (by decide) ?_
  refine lv_bipush (v := 32) hx hb dX8_made_5 (by decide) ?_
  refine k_callv (va_runV (As := [.int 0, .int 11336, .int 32]) (rest := []) ⟨hx, hb, hml, hown, hts⟩ (s_X8_copy l D X ad n A J hWT x0 t0 0 11336 32 I L _ h) (cwV 3 hts (gV tw_3_166 tw_3_168 tw_0_14 tw_1_9 tw_3_169) rfl rfl rfl (by decide +kernel) (by decide)) (k_preV (ci := 5) hK hV hA hZ t0 rfl _) rfl rfl hl.1 rfl (lv_room (Nat.le_of_ble_eq_true rfl)) dX8_made_7 ⟨Nat.zero_le _, Nat.zero_le _⟩) hV (fun I_1 L_2 H locs h hV => ?_)
  refine lv_aload_n hx hb dX8_made_10 rfl (lv_at hl 0 rfl) ?_
  obtain ⟨r_3, hr_3, h⟩ := h
  have tr_3 : Ty X n r_3 1 := hWT.r (c := 5) (j := 0) t0 rfl hr_3
  refine m_getr (C := RX8) (T := TX8) (N := 19) (ci := 5) hx hb hts iwX8 hown hK hV t0 rfl 0 (by decide) rfl rfl hr_3 (hts _ tw_3_91) (fun _ h9 => h9) dX8_made_11 ?_
  refine lv_sipush (v := 11368) hx hb dX8_made_14 (by decide) ?_
  refine lv_aload_n hx hb dX8_made_17 rfl (lv_at hl 0 rfl) ?_
  refine m_geti (C := RX8) (T := TX8) (N := 19) (ci := 5) hx hb hts iwX8 hown hK hV t0 rfl 7 (by decide) rfl rfl (hts _ tw_3_98) (fun _ h9 => h9) dX8_made_18 ?_
  refine lv_i2b hx hb dX8_made_21 rfl ?_
  obtain ⟨hi_4, h⟩ := h
  refine m_bast hx hb hK hV tr_3 hi_4 dX8_made_22 (fun H locs hV => ?_)
  obtain ⟨I_5, eI_5⟩ : ∃ y, y = ms I_1 r_3 (11368 : Int32).toNatClampNeg (jb8 (jb8 (I_1 x0 7))) := ⟨_, rfl⟩
  replace hV : Wd D X ad n A s.heap J I_5 L_2 H locs := by rw [eI_5]; exact hV
  replace h := h I_5 eI_5
  refine lv_aload_n hx hb dX8_made_23 rfl (lv_at hl 0 rfl) ?_
  refine lv_bipush (v := 33) hx hb dX8_made_24 (by decide) ?_
  refine k_callv (va_runV (As := [.int 33]) (rest := []) ⟨hx, hb, hml, hown, hts⟩ (s_X8_g l D X ad n A J hWT x0 t0 33 I_5 L_2 _ h) (cwV 1 hts (gV tw_3_207 tw_3_209 tw_0_19 tw_1_9 tw_3_210) rfl rfl rfl (by decide +kernel) (by decide)) (k_preV (ci := 5) hK hV hA hZ t0 rfl _) rfl rfl hl.1 rfl (lv_room (Nat.le_of_ble_eq_true rfl)) dX8_made_26 ⟨Nat.zero_le _, Nat.zero_le _⟩) hV (fun I_6 L_7 H locs h hV => ?_)
  refine lv_aload_n hx hb dX8_made_29 rfl (lv_at hl 0 rfl) ?_
  refine lv_sipush (v := 19612) hx hb dX8_made_30 (by decide) ?_
  refine lv_sipush (v := 19804) hx hb dX8_made_33 (by decide) ?_
  refine lv_bipush (v := 64) hx hb dX8_made_36 (by decide) ?_
  refine k_callv (va_runV (As := [.int 19612, .int 19804, .int 64]) (rest := []) ⟨hx, hb, hml, hown, hts⟩ (s_X8_copy l D X ad n A J hWT x0 t0 19612 19804 64 I_6 L_7 _ h) (cwV 3 hts (gV tw_3_166 tw_3_168 tw_0_14 tw_1_9 tw_3_169) rfl rfl rfl (by decide +kernel) (by decide)) (k_preV (ci := 5) hK hV hA hZ t0 rfl _) rfl rfl hl.1 rfl (lv_room (Nat.le_of_ble_eq_true rfl)) dX8_made_38 ⟨Nat.zero_le _, Nat.zero_le _⟩) hV (fun I_8 L_9 H locs h hV => ?_)
  refine lv_iconst (v := 0) hx hb dX8_made_41 (by decide) ?_
  refine lv_istore_n (lv' := [(1, .int 0), (0, .ref (ad x0))]) hx hb dX8_made_42 rfl hl (by decide) rfl (fun ls hl => ?_)
  obtain ⟨fu0, h⟩ := h
  exact n_X8_made_43 rfl C0 t0   fu0 0 _ _ _ _ _ h hV (lv_sub hl [1, 0] rfl)
set_option maxHeartbeats 4000000 in
set_option maxRecDepth 100000 in
theorem n_X8_locks_196 {p : Program} {l : Launch} {e : Env} {s : State} {m : MethodId} {below : List Frame} {meth : Method} {c : Code} {D : va_G} {X : XT} {ad : Nat → Nat} {n : Nat} {A : Nat → Prop} {J : MJ} {av : List Value} {R : Room} (hR : R = ({ frames := 8, cells := 0, slots := 0, locals := 191 } : Room)) (C0 : Cx p s m meth c cX8_locks (some .boolean) 4 yX8_locks av D X ad n A J) {q : Int32 → MI → ML → Prop}  {x0 : Nat} {x1 : Int32} (t0 : Ty X n x0 9) : ∀ (fu : Nat) (x2 : Int32) (I : MI) (L : ML) (H : Heap) (locs : List Loc) (ls : Array Slot), wl_X8_locks_196 X J q  x0 x1 fu x2 I L → Wd D X ad n A s.heap J I L H locs → lv_has ls 4 [(0, .ref (ad x0)), (1, .int x1), (2, .int x2)] → W p l e R s m av.toArray below meth c H locs 0 0 (MQ below (QI D X ad n A J q) av.toArray s 0 0 A) (F0 m 196 ls []) := by
  obtain ⟨hx, hb, hr, hml, hown, hlk, hnm, hts, hK, hZ, hA, hWT⟩ := id C0
  subst hR
  intro fu
  induction fu with
  | zero => intro x2 I L H locs ls h; exact absurd h (fun h => h)
  | succ fu ih =>
    intro x2 I L H locs ls h hV hl
    refine lv_iload_n hx hb dX8_locks_196 rfl (lv_at hl 2 rfl) ?_
    refine lv_aload_n hx hb dX8_locks_197 rfl (lv_at hl 0 rfl) ?_
    refine m_geti (C := RX8) (T := TX8) (N := 19) (ci := 5) hx hb hts iwX8 hown hK hV t0 rfl 7 (by decide) rfl rfl (hts _ tw_3_98) (fun _ h9 => h9) dX8_locks_198 ?_
    refine lv_icmp_ge (tgt := 237) hx hb dX8_locks_201 (by decide) (fun hc => ?_) (fun hc => ?_)
    · replace h := h.1 hc
      refine lv_aload_n hx hb dX8_locks_237 rfl (lv_at hl 0 rfl) ?_
      refine lv_bipush (v := 16) hx hb dX8_locks_238 (by decide) ?_
      refine k_callv (va_runV (As := [.int 16]) (rest := []) ⟨hx, hb, hml, hown, hts⟩ (s_X8_bringBack l D X ad n A J hWT x0 t0 16 I L _ h) (cwV 1 hts (gV tw_4_71 tw_4_73 tw_0_42 tw_1_9 tw_4_74) rfl rfl rfl (by decide +kernel) (by decide)) (k_preV (ci := 5) hK hV hA hZ t0 rfl _) rfl rfl hl.1 rfl (lv_room (Nat.le_of_ble_eq_true rfl)) dX8_locks_240 ⟨Nat.zero_le _, Nat.zero_le _⟩) hV (fun I_5 L_6 H locs h hV => ?_)
      refine lv_aload_n hx hb dX8_locks_243 rfl (lv_at hl 0 rfl) ?_
      refine lv_sipush (v := 19804) hx hb dX8_locks_244 (by decide) ?_
      refine lv_iconst (v := 2) hx hb dX8_locks_247 (by decide) ?_
      refine lv_aload_n hx hb dX8_locks_248 rfl (lv_at hl 0 rfl) ?_
      refine m_geti (C := RX8) (T := TX8) (N := 19) (ci := 5) hx hb hts iwX8 hown hK hV t0 rfl 7 (by decide) rfl rfl (hts _ tw_3_98) (fun _ h9 => h9) dX8_locks_249 ?_
      refine lv_imul hx hb dX8_locks_252 ?_
      refine lv_iconst (v := 2) hx hb dX8_locks_253 (by decide) ?_
      refine lv_bipush (v := 17) hx hb dX8_locks_254 (by decide) ?_
      refine k_callv (va_runV (As := [.int 19804, .int (2 * (I_5 x0 7)), .int 2, .int 17]) (rest := []) ⟨hx, hb, hml, hown, hts⟩ (s_X8_noised l D X ad n A J hWT x0 t0 19804 (2 * (I_5 x0 7)) 2 17 I_5 L_6 _ h) (cwV 4 hts (gV tw_4_3 tw_4_5 tw_0_28 tw_1_9 tw_4_6) rfl rfl rfl (by decide +kernel) (by decide)) (k_preV (ci := 5) hK hV hA hZ t0 rfl _) rfl rfl hl.1 rfl (lv_room (Nat.le_of_ble_eq_true rfl)) dX8_locks_256 ⟨Nat.zero_le _, Nat.zero_le _⟩) hV (fun I_7 L_8 H locs h hV => ?_)
      refine lv_aload_n hx hb dX8_locks_259 rfl (lv_at hl 0 rfl) ?_
      refine lv_bipush (v := 16) hx hb dX8_locks_260 (by decide) ?_
      refine lv_bipush (v := 17) hx hb dX8_locks_262 (by decide) ?_
      refine lv_iconst (v := 1) hx hb dX8_locks_264 (by decide) ?_
      refine k_callv (va_runV (As := [.int 16, .int 17, .int 1]) (rest := []) ⟨hx, hb, hml, hown, hts⟩ (s_X8_plus l D X ad n A J hWT x0 t0 16 17 1 I_7 L_8 _ h) (cwV 3 hts (gV tw_4_76 tw_4_78 tw_0_43 tw_1_9 tw_4_79) rfl rfl rfl (by decide +kernel) (by decide)) (k_preV (ci := 5) hK hV hA hZ t0 rfl _) rfl rfl hl.1 rfl (lv_room (Nat.le_of_ble_eq_true rfl)) dX8_locks_265 ⟨Nat.zero_le _, Nat.zero_le _⟩) hV (fun I_9 L_10 H locs h hV => ?_)
      refine lv_aload_n hx hb dX8_locks_268 rfl (lv_at hl 0 rfl) ?_
      refine lv_bipush (v := 17) hx hb dX8_locks_269 (by decide) ?_
      refine lv_iconst (v := 1) hx hb dX8_locks_271 (by decide) ?_
      refine lv_sipush (v := 19740) hx hb dX8_locks_272 (by decide) ?_
      refine k_callv (va_runV (As := [.int 17, .int 1, .int 19740]) (rest := []) ⟨hx, hb, hml, hown, hts⟩ (s_X8_readPol l D X ad n A J hWT x0 t0 17 1 19740 I_9 L_10 _ h) (cwV 3 hts (gV tw_4_86 tw_4_88 tw_0_45 tw_1_9 tw_4_89) rfl rfl rfl (by decide +kernel) (by decide)) (k_preV (ci := 5) hK hV hA hZ t0 rfl _) rfl rfl hl.1 rfl (lv_room (Nat.le_of_ble_eq_true rfl)) dX8_locks_275 ⟨Nat.zero_le _, Nat.zero_le _⟩) hV (fun I_11 L_12 H locs h hV => ?_)
      refine lv_aload_n hx hb dX8_locks_278 rfl (lv_at hl 0 rfl) ?_
      refine lv_bipush (v := 17) hx hb dX8_locks_279 (by decide) ?_
      refine lv_iconst (v := 1) hx hb dX8_locks_281 (by decide) ?_
      refine k_callv (va_runV (As := [.int 17, .int 1]) (rest := []) ⟨hx, hb, hml, hown, hts⟩ (s_X8_stretched l D X ad n A J hWT x0 t0 17 1 I_11 L_12 _ h) (cwV 2 hts (gV tw_4_90 tw_4_92 tw_0_46 tw_1_9 tw_4_93) rfl rfl rfl (by decide +kernel) (by decide)) (k_preV (ci := 5) hK hV hA hZ t0 rfl _) rfl rfl hl.1 rfl (lv_room (Nat.le_of_ble_eq_true rfl)) dX8_locks_282 ⟨Nat.zero_le _, Nat.zero_le _⟩) hV (fun I_13 L_14 H locs h hV => ?_)
      refine lv_aload_n hx hb dX8_locks_285 rfl (lv_at hl 0 rfl) ?_
      refine lv_bipush (v := 16) hx hb dX8_locks_286 (by decide) ?_
      refine lv_bipush (v := 17) hx hb dX8_locks_288 (by decide) ?_
      refine lv_iconst (v := 1) hx hb dX8_locks_290 (by decide) ?_
      refine k_callv (va_runV (As := [.int 16, .int 17, .int 1]) (rest := []) ⟨hx, hb, hml, hown, hts⟩ (s_X8_plus l D X ad n A J hWT x0 t0 16 17 1 I_13 L_14 _ h) (cwV 3 hts (gV tw_4_76 tw_4_78 tw_0_43 tw_1_9 tw_4_79) rfl rfl rfl (by decide +kernel) (by decide)) (k_preV (ci := 5) hK hV hA hZ t0 rfl _) rfl rfl hl.1 rfl (lv_room (Nat.le_of_ble_eq_true rfl)) dX8_locks_291 ⟨Nat.zero_le _, Nat.zero_le _⟩) hV (fun I_15 L_16 H locs h hV => ?_)
      refine lv_aload_n hx hb dX8_locks_294 rfl (lv_at hl 0 rfl) ?_
      refine lv_bipush (v := 16) hx hb dX8_locks_295 (by decide) ?_
      refine lv_aload_n hx hb dX8_locks_297 rfl (lv_at hl 0 rfl) ?_
      refine k_calli (va_runV (As := []) (rest := [.int 16, .ref (ad x0)]) ⟨hx, hb, hml, hown, hts⟩ (s_X8_dv l D X ad n A J hWT x0 t0 I_15 L_16 _ h) (cwV 0 hts (gV tw_4_51 tw_4_53 tw_0_38 tw_1_9 tw_4_54) rfl rfl rfl (by decide +kernel) (by decide)) (k_preV (ci := 5) hK hV hA hZ t0 rfl _) rfl rfl hl.1 rfl (lv_room (Nat.le_of_ble_eq_true rfl)) dX8_locks_298 ⟨Nat.zero_le _, Nat.zero_le _⟩) hV (fun v_19 I_17 L_18 H locs h hV => ?_)
      refine k_callv (va_runV (As := [.int 16, .int v_19]) (rest := []) ⟨hx, hb, hml, hown, hts⟩ (s_X8_pressed l D X ad n A J hWT x0 t0 16 v_19 I_17 L_18 _ h) (cwV 2 hts (gV tw_4_80 tw_4_82 tw_0_44 tw_1_9 tw_4_83) rfl rfl rfl (by decide +kernel) (by decide)) (k_preV (ci := 5) hK hV hA hZ t0 rfl _) rfl rfl hl.1 rfl (lv_room (Nat.le_of_ble_eq_true rfl)) dX8_locks_301 ⟨Nat.zero_le _, Nat.zero_le _⟩) hV (fun I_20 L_21 H locs h hV => ?_)
      refine lv_aload_n hx hb dX8_locks_304 rfl (lv_at hl 0 rfl) ?_
      refine lv_bipush (v := 16) hx hb dX8_locks_305 (by decide) ?_
      refine lv_aload_n hx hb dX8_locks_307 rfl (lv_at hl 0 rfl) ?_
      refine k_calli (va_runV (As := []) (rest := [.int 16, .ref (ad x0)]) ⟨hx, hb, hml, hown, hts⟩ (s_X8_dv l D X ad n A J hWT x0 t0 I_20 L_21 _ h) (cwV 0 hts (gV tw_4_51 tw_4_53 tw_0_38 tw_1_9 tw_4_54) rfl rfl rfl (by decide +kernel) (by decide)) (k_preV (ci := 5) hK hV hA hZ t0 rfl _) rfl rfl hl.1 rfl (lv_room (Nat.le_of_ble_eq_true rfl)) dX8_locks_308 ⟨Nat.zero_le _, Nat.zero_le _⟩) hV (fun v_24 I_22 L_23 H locs h hV => ?_)
      refine lv_sipush (v := 18044) hx hb dX8_locks_311 (by decide) ?_
      refine lv_bipush (v := 32) hx hb dX8_locks_314 (by decide) ?_
      refine lv_aload_n hx hb dX8_locks_316 rfl (lv_at hl 0 rfl) ?_
      refine k_calli (va_runV (As := []) (rest := [.int 32, .int 18044, .int v_24, .int 16, .ref (ad x0)]) ⟨hx, hb, hml, hown, hts⟩ (s_X8_du l D X ad n A J hWT x0 t0 I_22 L_23 _ h) (cwV 0 hts (gV tw_4_47 tw_4_49 tw_0_37 tw_1_9 tw_4_50) rfl rfl rfl (by decide +kernel) (by decide)) (k_preV (ci := 5) hK hV hA hZ t0 rfl _) rfl rfl hl.1 rfl (lv_room (Nat.le_of_ble_eq_true rfl)) dX8_locks_317 ⟨Nat.zero_le _, Nat.zero_le _⟩) hV (fun v_27 I_25 L_26 H locs h hV => ?_)
      refine lv_imul hx hb dX8_locks_320 ?_
      refine lv_aload_n hx hb dX8_locks_321 rfl (lv_at hl 0 rfl) ?_
      refine m_geti (C := RX8) (T := TX8) (N := 19) (ci := 5) hx hb hts iwX8 hown hK hV t0 rfl 7 (by decide) rfl rfl (hts _ tw_3_98) (fun _ h9 => h9) dX8_locks_322 ?_
      refine lv_imul hx hb dX8_locks_325 ?_
      refine lv_iadd hx hb dX8_locks_326 ?_
      refine k_callv (va_runV (As := [.int 16, .int v_24, .int (18044 + ((32 * v_27) * (I_25 x0 7)))]) (rest := []) ⟨hx, hb, hml, hown, hts⟩ (s_X8_written l D X ad n A J hWT x0 t0 16 v_24 (18044 + ((32 * v_27) * (I_25 x0 7))) I_25 L_26 _ h) (cwV 3 hts (gV tw_4_31 tw_4_33 tw_0_34 tw_1_9 tw_4_34) rfl rfl rfl (by decide +kernel) (by decide)) (k_preV (ci := 5) hK hV hA hZ t0 rfl _) rfl rfl hl.1 rfl (lv_room (Nat.le_of_ble_eq_true rfl)) dX8_locks_327 ⟨Nat.zero_le _, Nat.zero_le _⟩) hV (fun I_28 L_29 H locs h hV => ?_)
      refine lv_iconst (v := 1) hx hb dX8_locks_330 (by decide) ?_
      exact m_zret hx hb hr hlk hK hZ hA hV (by decide) h dX8_locks_331
    · replace h := h.2 hc
      refine lv_aload_n hx hb dX8_locks_204 rfl (lv_at hl 0 rfl) ?_
      refine lv_bipush (v := 17) hx hb dX8_locks_205 (by decide) ?_
      refine lv_bipush (v := 12) hx hb dX8_locks_207 (by decide) ?_
      refine lv_iload_n hx hb dX8_locks_209 rfl (lv_at hl 1 rfl) ?_
      refine lv_sipush (v := 384) hx hb dX8_locks_210 (by decide) ?_
      refine lv_iload_n hx hb dX8_locks_213 rfl (lv_at hl 2 rfl) ?_
      refine lv_imul hx hb dX8_locks_214 ?_
      refine lv_iadd hx hb dX8_locks_215 ?_
      refine k_callv (va_runV (As := [.int 17, .int 12, .int (x1 + (384 * x2))]) (rest := []) ⟨hx, hb, hml, hown, hts⟩ (s_X8_readPol l D X ad n A J hWT x0 t0 17 12 (x1 + (384 * x2)) I L _ h) (cwV 3 hts (gV tw_4_86 tw_4_88 tw_0_45 tw_1_9 tw_4_89) rfl rfl rfl (by decide +kernel) (by decide)) (k_preV (ci := 5) hK hV hA hZ t0 rfl _) rfl rfl hl.1 rfl (lv_room (Nat.le_of_ble_eq_true rfl)) dX8_locks_216 ⟨Nat.zero_le _, Nat.zero_le _⟩) hV (fun I_30 L_31 H locs h hV => ?_)
      refine lv_aload_n hx hb dX8_locks_219 rfl (lv_at hl 0 rfl) ?_
      refine lv_bipush (v := 17) hx hb dX8_locks_220 (by decide) ?_
      refine lv_iconst (v := 4) hx hb dX8_locks_222 (by decide) ?_
      refine lv_iload_n hx hb dX8_locks_223 rfl (lv_at hl 2 rfl) ?_
      refine lv_iadd hx hb dX8_locks_224 ?_
      refine lv_bipush (v := 16) hx hb dX8_locks_225 (by decide) ?_
      refine lv_iconst (v := 1) hx hb dX8_locks_227 (by decide) ?_
      refine k_callv (va_runV (As := [.int 17, .int (4 + x2), .int 16, .int 1]) (rest := []) ⟨hx, hb, hml, hown, hts⟩ (s_X8_product l D X ad n A J hWT x0 t0 17 (4 + x2) 16 1 I_30 L_31 _ h) (cwV 4 hts (gV tw_4_27 tw_4_29 tw_0_33 tw_1_9 tw_4_30) rfl rfl rfl (by decide +kernel) (by decide)) (k_preV (ci := 5) hK hV hA hZ t0 rfl _) rfl rfl hl.1 rfl (lv_room (Nat.le_of_ble_eq_true rfl)) dX8_locks_228 ⟨Nat.zero_le _, Nat.zero_le _⟩) hV (fun I_32 L_33 H locs h hV => ?_)
      obtain ⟨x2_34, ex2_34⟩ : ∃ y : Int32, y = x2 + 1 := ⟨_, rfl⟩
      replace h := h x2_34 ex2_34
      refine lv_iinc (v := x2_34) (lv' := [(2, .int x2_34), (0, .ref (ad x0)), (1, .int x1)]) hx hb dX8_locks_231 hl (k := 2) rfl (by rw [ex2_34]; rfl) (by decide) rfl (fun ls hl => ?_)
      refine lv_goto (tgt := 196) hx hb dX8_locks_234 (by decide) ?_
      exact ih x2_34 _ _ _ _ _ h hV (lv_sub hl [1, 2, 0] rfl)
set_option maxHeartbeats 4000000 in
set_option maxRecDepth 100000 in
theorem n_X8_locks_68 {p : Program} {l : Launch} {e : Env} {s : State} {m : MethodId} {below : List Frame} {meth : Method} {c : Code} {D : va_G} {X : XT} {ad : Nat → Nat} {n : Nat} {A : Nat → Prop} {J : MJ} {av : List Value} {R : Room} (hR : R = ({ frames := 8, cells := 0, slots := 0, locals := 191 } : Room)) (C0 : Cx p s m meth c cX8_locks (some .boolean) 4 yX8_locks av D X ad n A J) {q : Int32 → MI → ML → Prop} {k52 : Int32 → MI → ML → Prop} {x0 : Nat} {x1 : Int32} {x2 : Int32} (t0 : Ty X n x0 9)
    (hk52 : ∀ (x2 : Int32) (I : MI) (L : ML) (H : Heap) (locs : List Loc) (ls : Array Slot), k52 x2 I L → Wd D X ad n A s.heap J I L H locs → lv_has ls 4 [(0, .ref (ad x0)), (1, .int x1), (2, .int x2)] → W p l e R s m av.toArray below meth c H locs 0 0 (MQ below (QI D X ad n A J q) av.toArray s 0 0 A) (F0 m 52 ls [])) : ∀ (fu : Nat) (x3 : Int32) (I : MI) (L : ML) (H : Heap) (locs : List Loc) (ls : Array Slot), wl_X8_locks_68 X J q k52 x0 x1 x2 fu x3 I L → Wd D X ad n A s.heap J I L H locs → lv_has ls 4 [(0, .ref (ad x0)), (1, .int x1), (2, .int x2), (3, .int x3)] → W p l e R s m av.toArray below meth c H locs 0 0 (MQ below (QI D X ad n A J q) av.toArray s 0 0 A) (F0 m 68 ls []) := by
  obtain ⟨hx, hb, hr, hml, hown, hlk, hnm, hts, hK, hZ, hA, hWT⟩ := id C0
  subst hR
  intro fu
  induction fu with
  | zero => intro x3 I L H locs ls h; exact absurd h (fun h => h)
  | succ fu ih =>
    intro x3 I L H locs ls h hV hl
    refine lv_iload_n hx hb dX8_locks_68 rfl (lv_at hl 3 rfl) ?_
    refine lv_aload_n hx hb dX8_locks_69 rfl (lv_at hl 0 rfl) ?_
    refine m_geti (C := RX8) (T := TX8) (N := 19) (ci := 5) hx hb hts iwX8 hown hK hV t0 rfl 7 (by decide) rfl rfl (hts _ tw_3_98) (fun _ h9 => h9) dX8_locks_70 ?_
    refine lv_icmp_ge (tgt := 118) hx hb dX8_locks_73 (by decide) (fun hc => ?_) (fun hc => ?_)
    · replace h := h.1 hc
      refine lv_aload_n hx hb dX8_locks_118 rfl (lv_at hl 0 rfl) ?_
      refine lv_bipush (v := 16) hx hb dX8_locks_119 (by decide) ?_
      refine k_callv (va_runV (As := [.int 16]) (rest := []) ⟨hx, hb, hml, hown, hts⟩ (s_X8_bringBack l D X ad n A J hWT x0 t0 16 I L _ h) (cwV 1 hts (gV tw_4_71 tw_4_73 tw_0_42 tw_1_9 tw_4_74) rfl rfl rfl (by decide +kernel) (by decide)) (k_preV (ci := 5) hK hV hA hZ t0 rfl _) rfl rfl hl.1 rfl (lv_room (Nat.le_of_ble_eq_true rfl)) dX8_locks_121 ⟨Nat.zero_le _, Nat.zero_le _⟩) hV (fun I_37 L_38 H locs h hV => ?_)
      refine lv_aload_n hx hb dX8_locks_124 rfl (lv_at hl 0 rfl) ?_
      refine lv_sipush (v := 19804) hx hb dX8_locks_125 (by decide) ?_
      refine lv_aload_n hx hb dX8_locks_128 rfl (lv_at hl 0 rfl) ?_
      refine m_geti (C := RX8) (T := TX8) (N := 19) (ci := 5) hx hb hts iwX8 hown hK hV t0 rfl 7 (by decide) rfl rfl (hts _ tw_3_98) (fun _ h9 => h9) dX8_locks_129 ?_
      refine lv_iload_n hx hb dX8_locks_132 rfl (lv_at hl 2 rfl) ?_
      refine lv_iadd hx hb dX8_locks_133 ?_
      refine lv_iconst (v := 2) hx hb dX8_locks_134 (by decide) ?_
      refine lv_bipush (v := 17) hx hb dX8_locks_135 (by decide) ?_
      refine k_callv (va_runV (As := [.int 19804, .int ((I_37 x0 7) + x2), .int 2, .int 17]) (rest := []) ⟨hx, hb, hml, hown, hts⟩ (s_X8_noised l D X ad n A J hWT x0 t0 19804 ((I_37 x0 7) + x2) 2 17 I_37 L_38 _ h) (cwV 4 hts (gV tw_4_3 tw_4_5 tw_0_28 tw_1_9 tw_4_6) rfl rfl rfl (by decide +kernel) (by decide)) (k_preV (ci := 5) hK hV hA hZ t0 rfl _) rfl rfl hl.1 rfl (lv_room (Nat.le_of_ble_eq_true rfl)) dX8_locks_137 ⟨Nat.zero_le _, Nat.zero_le _⟩) hV (fun I_39 L_40 H locs h hV => ?_)
      refine lv_aload_n hx hb dX8_locks_140 rfl (lv_at hl 0 rfl) ?_
      refine lv_bipush (v := 16) hx hb dX8_locks_141 (by decide) ?_
      refine lv_bipush (v := 17) hx hb dX8_locks_143 (by decide) ?_
      refine lv_iconst (v := 1) hx hb dX8_locks_145 (by decide) ?_
      refine k_callv (va_runV (As := [.int 16, .int 17, .int 1]) (rest := []) ⟨hx, hb, hml, hown, hts⟩ (s_X8_plus l D X ad n A J hWT x0 t0 16 17 1 I_39 L_40 _ h) (cwV 3 hts (gV tw_4_76 tw_4_78 tw_0_43 tw_1_9 tw_4_79) rfl rfl rfl (by decide +kernel) (by decide)) (k_preV (ci := 5) hK hV hA hZ t0 rfl _) rfl rfl hl.1 rfl (lv_room (Nat.le_of_ble_eq_true rfl)) dX8_locks_146 ⟨Nat.zero_le _, Nat.zero_le _⟩) hV (fun I_41 L_42 H locs h hV => ?_)
      refine lv_aload_n hx hb dX8_locks_149 rfl (lv_at hl 0 rfl) ?_
      refine lv_bipush (v := 16) hx hb dX8_locks_150 (by decide) ?_
      refine lv_aload_n hx hb dX8_locks_152 rfl (lv_at hl 0 rfl) ?_
      refine k_calli (va_runV (As := []) (rest := [.int 16, .ref (ad x0)]) ⟨hx, hb, hml, hown, hts⟩ (s_X8_du l D X ad n A J hWT x0 t0 I_41 L_42 _ h) (cwV 0 hts (gV tw_4_47 tw_4_49 tw_0_37 tw_1_9 tw_4_50) rfl rfl rfl (by decide +kernel) (by decide)) (k_preV (ci := 5) hK hV hA hZ t0 rfl _) rfl rfl hl.1 rfl (lv_room (Nat.le_of_ble_eq_true rfl)) dX8_locks_153 ⟨Nat.zero_le _, Nat.zero_le _⟩) hV (fun v_45 I_43 L_44 H locs h hV => ?_)
      refine k_callv (va_runV (As := [.int 16, .int v_45]) (rest := []) ⟨hx, hb, hml, hown, hts⟩ (s_X8_pressed l D X ad n A J hWT x0 t0 16 v_45 I_43 L_44 _ h) (cwV 2 hts (gV tw_4_80 tw_4_82 tw_0_44 tw_1_9 tw_4_83) rfl rfl rfl (by decide +kernel) (by decide)) (k_preV (ci := 5) hK hV hA hZ t0 rfl _) rfl rfl hl.1 rfl (lv_room (Nat.le_of_ble_eq_true rfl)) dX8_locks_156 ⟨Nat.zero_le _, Nat.zero_le _⟩) hV (fun I_46 L_47 H locs h hV => ?_)
      refine lv_aload_n hx hb dX8_locks_159 rfl (lv_at hl 0 rfl) ?_
      refine lv_bipush (v := 16) hx hb dX8_locks_160 (by decide) ?_
      refine lv_aload_n hx hb dX8_locks_162 rfl (lv_at hl 0 rfl) ?_
      refine k_calli (va_runV (As := []) (rest := [.int 16, .ref (ad x0)]) ⟨hx, hb, hml, hown, hts⟩ (s_X8_du l D X ad n A J hWT x0 t0 I_46 L_47 _ h) (cwV 0 hts (gV tw_4_47 tw_4_49 tw_0_37 tw_1_9 tw_4_50) rfl rfl rfl (by decide +kernel) (by decide)) (k_preV (ci := 5) hK hV hA hZ t0 rfl _) rfl rfl hl.1 rfl (lv_room (Nat.le_of_ble_eq_true rfl)) dX8_locks_163 ⟨Nat.zero_le _, Nat.zero_le _⟩) hV (fun v_50 I_48 L_49 H locs h hV => ?_)
      refine lv_sipush (v := 18044) hx hb dX8_locks_166 (by decide) ?_
      refine lv_bipush (v := 32) hx hb dX8_locks_169 (by decide) ?_
      refine lv_aload_n hx hb dX8_locks_171 rfl (lv_at hl 0 rfl) ?_
      refine k_calli (va_runV (As := []) (rest := [.int 32, .int 18044, .int v_50, .int 16, .ref (ad x0)]) ⟨hx, hb, hml, hown, hts⟩ (s_X8_du l D X ad n A J hWT x0 t0 I_48 L_49 _ h) (cwV 0 hts (gV tw_4_47 tw_4_49 tw_0_37 tw_1_9 tw_4_50) rfl rfl rfl (by decide +kernel) (by decide)) (k_preV (ci := 5) hK hV hA hZ t0 rfl _) rfl rfl hl.1 rfl (lv_room (Nat.le_of_ble_eq_true rfl)) dX8_locks_172 ⟨Nat.zero_le _, Nat.zero_le _⟩) hV (fun v_53 I_51 L_52 H locs h hV => ?_)
      refine lv_imul hx hb dX8_locks_175 ?_
      refine lv_iload_n hx hb dX8_locks_176 rfl (lv_at hl 2 rfl) ?_
      refine lv_imul hx hb dX8_locks_177 ?_
      refine lv_iadd hx hb dX8_locks_178 ?_
      refine k_callv (va_runV (As := [.int 16, .int v_50, .int (18044 + ((32 * v_53) * x2))]) (rest := []) ⟨hx, hb, hml, hown, hts⟩ (s_X8_written l D X ad n A J hWT x0 t0 16 v_50 (18044 + ((32 * v_53) * x2)) I_51 L_52 _ h) (cwV 3 hts (gV tw_4_31 tw_4_33 tw_0_34 tw_1_9 tw_4_34) rfl rfl rfl (by decide +kernel) (by decide)) (k_preV (ci := 5) hK hV hA hZ t0 rfl _) rfl rfl hl.1 rfl (lv_room (Nat.le_of_ble_eq_true rfl)) dX8_locks_179 ⟨Nat.zero_le _, Nat.zero_le _⟩) hV (fun I_54 L_55 H locs h hV => ?_)
      obtain ⟨x2_56, ex2_56⟩ : ∃ y : Int32, y = x2 + 1 := ⟨_, rfl⟩
      replace h := h x2_56 ex2_56
      refine lv_iinc (v := x2_56) (lv' := [(2, .int x2_56), (0, .ref (ad x0)), (1, .int x1), (3, .int x3)]) hx hb dX8_locks_182 hl (k := 2) rfl (by rw [ex2_56]; rfl) (by decide) rfl (fun ls hl => ?_)
      refine lv_goto (tgt := 52) hx hb dX8_locks_185 (by decide) ?_
      exact hk52 x2_56 _ _ _ _ _ h hV (lv_sub hl [1, 2, 0] rfl)
    · replace h := h.2 hc
      refine lv_aload_n hx hb dX8_locks_76 rfl (lv_at hl 0 rfl) ?_
      refine lv_iload_n hx hb dX8_locks_77 rfl (lv_at hl 1 rfl) ?_
      refine lv_sipush (v := 384) hx hb dX8_locks_78 (by decide) ?_
      refine lv_aload_n hx hb dX8_locks_81 rfl (lv_at hl 0 rfl) ?_
      refine m_geti (C := RX8) (T := TX8) (N := 19) (ci := 5) hx hb hts iwX8 hown hK hV t0 rfl 7 (by decide) rfl rfl (hts _ tw_3_98) (fun _ h9 => h9) dX8_locks_82 ?_
      refine lv_imul hx hb dX8_locks_85 ?_
      refine lv_iadd hx hb dX8_locks_86 ?_
      refine lv_iload_n hx hb dX8_locks_87 rfl (lv_at hl 2 rfl) ?_
      refine lv_iload_n hx hb dX8_locks_88 rfl (lv_at hl 3 rfl) ?_
      refine lv_bipush (v := 17) hx hb dX8_locks_89 (by decide) ?_
      refine k_calli (va_runV (As := [.int (x1 + (384 * (I x0 7))), .int x2, .int x3, .int 17]) (rest := []) ⟨hx, hb, hml, hown, hts⟩ (s_X8_matrix l D X ad n A J hWT x0 t0 (x1 + (384 * (I x0 7))) x2 x3 17 I L _ h) (cwV 4 hts (gV tw_4_19 tw_4_21 tw_0_31 tw_1_9 tw_4_22) rfl rfl rfl (by decide +kernel) (by decide)) (k_preV (ci := 5) hK hV hA hZ t0 rfl _) rfl rfl hl.1 rfl (lv_room (Nat.le_of_ble_eq_true rfl)) dX8_locks_91 ⟨Nat.zero_le _, Nat.zero_le _⟩) hV (fun v_59 I_57 L_58 H locs h hV => ?_)
      refine lv_iconst (v := (-1)) hx hb dX8_locks_94 (by decide) ?_
      refine lv_icmp_ne (tgt := 100) hx hb dX8_locks_95 (by decide) (fun hc => ?_) (fun hc => ?_)
      · replace h := h.1 hc
        refine lv_aload_n hx hb dX8_locks_100 rfl (lv_at hl 0 rfl) ?_
        refine lv_bipush (v := 17) hx hb dX8_locks_101 (by decide) ?_
        refine lv_iconst (v := 4) hx hb dX8_locks_103 (by decide) ?_
        refine lv_iload_n hx hb dX8_locks_104 rfl (lv_at hl 3 rfl) ?_
        refine lv_iadd hx hb dX8_locks_105 ?_
        refine lv_bipush (v := 16) hx hb dX8_locks_106 (by decide) ?_
        refine lv_iconst (v := 1) hx hb dX8_locks_108 (by decide) ?_
        refine k_callv (va_runV (As := [.int 17, .int (4 + x3), .int 16, .int 1]) (rest := []) ⟨hx, hb, hml, hown, hts⟩ (s_X8_product l D X ad n A J hWT x0 t0 17 (4 + x3) 16 1 I_57 L_58 _ h) (cwV 4 hts (gV tw_4_27 tw_4_29 tw_0_33 tw_1_9 tw_4_30) rfl rfl rfl (by decide +kernel) (by decide)) (k_preV (ci := 5) hK hV hA hZ t0 rfl _) rfl rfl hl.1 rfl (lv_room (Nat.le_of_ble_eq_true rfl)) dX8_locks_109 ⟨Nat.zero_le _, Nat.zero_le _⟩) hV (fun I_60 L_61 H locs h hV => ?_)
        obtain ⟨x3_62, ex3_62⟩ : ∃ y : Int32, y = x3 + 1 := ⟨_, rfl⟩
        replace h := h x3_62 ex3_62
        refine lv_iinc (v := x3_62) (lv' := [(3, .int x3_62), (0, .ref (ad x0)), (1, .int x1), (2, .int x2)]) hx hb dX8_locks_112 hl (k := 3) rfl (by rw [ex3_62]; rfl) (by decide) rfl (fun ls hl => ?_)
        refine lv_goto (tgt := 68) hx hb dX8_locks_115 (by decide) ?_
        exact ih x3_62 _ _ _ _ _ h hV (lv_sub hl [1, 2, 3, 0] rfl)
      · replace h := h.2 hc
        refine lv_iconst (v := 0) hx hb dX8_locks_98 (by decide) ?_
        exact m_zret hx hb hr hlk hK hZ hA hV (by decide) h dX8_locks_99
set_option maxHeartbeats 4000000 in
set_option maxRecDepth 100000 in
theorem n_X8_locks_52 {p : Program} {l : Launch} {e : Env} {s : State} {m : MethodId} {below : List Frame} {meth : Method} {c : Code} {D : va_G} {X : XT} {ad : Nat → Nat} {n : Nat} {A : Nat → Prop} {J : MJ} {av : List Value} {R : Room} (hR : R = ({ frames := 8, cells := 0, slots := 0, locals := 191 } : Room)) (C0 : Cx p s m meth c cX8_locks (some .boolean) 4 yX8_locks av D X ad n A J) {q : Int32 → MI → ML → Prop}  {x0 : Nat} {x1 : Int32} (t0 : Ty X n x0 9) : ∀ (fu : Nat) (x2 : Int32) (I : MI) (L : ML) (H : Heap) (locs : List Loc) (ls : Array Slot), wl_X8_locks_52 X J q  x0 x1 fu x2 I L → Wd D X ad n A s.heap J I L H locs → lv_has ls 4 [(0, .ref (ad x0)), (1, .int x1), (2, .int x2)] → W p l e R s m av.toArray below meth c H locs 0 0 (MQ below (QI D X ad n A J q) av.toArray s 0 0 A) (F0 m 52 ls []) := by
  obtain ⟨hx, hb, hr, hml, hown, hlk, hnm, hts, hK, hZ, hA, hWT⟩ := id C0
  subst hR
  intro fu
  induction fu with
  | zero => intro x2 I L H locs ls h; exact absurd h (fun h => h)
  | succ fu ih =>
    intro x2 I L H locs ls h hV hl
    refine lv_iload_n hx hb dX8_locks_52 rfl (lv_at hl 2 rfl) ?_
    refine lv_aload_n hx hb dX8_locks_53 rfl (lv_at hl 0 rfl) ?_
    refine m_geti (C := RX8) (T := TX8) (N := 19) (ci := 5) hx hb hts iwX8 hown hK hV t0 rfl 7 (by decide) rfl rfl (hts _ tw_3_98) (fun _ h9 => h9) dX8_locks_54 ?_
    refine lv_icmp_ge (tgt := 188) hx hb dX8_locks_57 (by decide) (fun hc => ?_) (fun hc => ?_)
    · replace h := h.1 hc
      refine lv_aload_n hx hb dX8_locks_188 rfl (lv_at hl 0 rfl) ?_
      refine lv_bipush (v := 16) hx hb dX8_locks_189 (by decide) ?_
      refine k_callv (va_runV (As := [.int 16]) (rest := []) ⟨hx, hb, hml, hown, hts⟩ (s_X8_zero l D X ad n A J hWT x0 t0 16 I L _ h) (cwV 1 hts (gV tw_4_67 tw_4_69 tw_0_41 tw_1_9 tw_4_70) rfl rfl rfl (by decide +kernel) (by decide)) (k_preV (ci := 5) hK hV hA hZ t0 rfl _) rfl rfl hl.1 rfl (lv_room (Nat.le_of_ble_eq_true rfl)) dX8_locks_191 ⟨Nat.zero_le _, Nat.zero_le _⟩) hV (fun I_3 L_4 H locs h hV => ?_)
      refine lv_iconst (v := 0) hx hb dX8_locks_194 (by decide) ?_
      refine lv_istore_n (lv' := [(2, .int 0), (0, .ref (ad x0)), (1, .int x1)]) hx hb dX8_locks_195 rfl hl (by decide) rfl (fun ls hl => ?_)
      obtain ⟨fu0, h⟩ := h
      exact n_X8_locks_196 rfl C0 t0   fu0 0 _ _ _ _ _ h hV (lv_sub hl [1, 2, 0] rfl)
    · replace h := h.2 hc
      refine lv_aload_n hx hb dX8_locks_60 rfl (lv_at hl 0 rfl) ?_
      refine lv_bipush (v := 16) hx hb dX8_locks_61 (by decide) ?_
      refine k_callv (va_runV (As := [.int 16]) (rest := []) ⟨hx, hb, hml, hown, hts⟩ (s_X8_zero l D X ad n A J hWT x0 t0 16 I L _ h) (cwV 1 hts (gV tw_4_67 tw_4_69 tw_0_41 tw_1_9 tw_4_70) rfl rfl rfl (by decide +kernel) (by decide)) (k_preV (ci := 5) hK hV hA hZ t0 rfl _) rfl rfl hl.1 rfl (lv_room (Nat.le_of_ble_eq_true rfl)) dX8_locks_63 ⟨Nat.zero_le _, Nat.zero_le _⟩) hV (fun I_35 L_36 H locs h hV => ?_)
      refine lv_iconst (v := 0) hx hb dX8_locks_66 (by decide) ?_
      refine lv_istore_n (lv' := [(3, .int 0), (0, .ref (ad x0)), (1, .int x1), (2, .int x2)]) hx hb dX8_locks_67 rfl hl (by decide) rfl (fun ls hl => ?_)
      obtain ⟨fu0, h⟩ := h
      exact n_X8_locks_68 rfl C0 t0  (fun y2 I L H locs ls h hV hl => ih y2 I L H locs ls h hV (lv_sub hl [0, 1, 2] rfl)) fu0 0 _ _ _ _ _ h hV (lv_sub hl [1, 2, 3, 0] rfl)
set_option maxHeartbeats 4000000 in
set_option maxRecDepth 100000 in
theorem n_X8_locks_14 {p : Program} {l : Launch} {e : Env} {s : State} {m : MethodId} {below : List Frame} {meth : Method} {c : Code} {D : va_G} {X : XT} {ad : Nat → Nat} {n : Nat} {A : Nat → Prop} {J : MJ} {av : List Value} {R : Room} (hR : R = ({ frames := 8, cells := 0, slots := 0, locals := 191 } : Room)) (C0 : Cx p s m meth c cX8_locks (some .boolean) 4 yX8_locks av D X ad n A J) {q : Int32 → MI → ML → Prop}  {x0 : Nat} {x1 : Int32} (t0 : Ty X n x0 9) : ∀ (fu : Nat) (x2 : Int32) (I : MI) (L : ML) (H : Heap) (locs : List Loc) (ls : Array Slot), wl_X8_locks_14 X J q  x0 x1 fu x2 I L → Wd D X ad n A s.heap J I L H locs → lv_has ls 4 [(0, .ref (ad x0)), (1, .int x1), (2, .int x2)] → W p l e R s m av.toArray below meth c H locs 0 0 (MQ below (QI D X ad n A J q) av.toArray s 0 0 A) (F0 m 14 ls []) := by
  obtain ⟨hx, hb, hr, hml, hown, hlk, hnm, hts, hK, hZ, hA, hWT⟩ := id C0
  subst hR
  intro fu
  induction fu with
  | zero => intro x2 I L H locs ls h; exact absurd h (fun h => h)
  | succ fu ih =>
    intro x2 I L H locs ls h hV hl
    refine lv_iload_n hx hb dX8_locks_14 rfl (lv_at hl 2 rfl) ?_
    refine lv_aload_n hx hb dX8_locks_15 rfl (lv_at hl 0 rfl) ?_
    refine m_geti (C := RX8) (T := TX8) (N := 19) (ci := 5) hx hb hts iwX8 hown hK hV t0 rfl 7 (by decide) rfl rfl (hts _ tw_3_98) (fun _ h9 => h9) dX8_locks_16 ?_
    refine lv_icmp_ge (tgt := 50) hx hb dX8_locks_19 (by decide) (fun hc => ?_) (fun hc => ?_)
    · replace h := h.1 hc
      refine lv_iconst (v := 0) hx hb dX8_locks_50 (by decide) ?_
      refine lv_istore_n (lv' := [(2, .int 0), (0, .ref (ad x0)), (1, .int x1)]) hx hb dX8_locks_51 rfl hl (by decide) rfl (fun ls hl => ?_)
      obtain ⟨fu0, h⟩ := h
      exact n_X8_locks_52 rfl C0 t0   fu0 0 _ _ _ _ _ h hV (lv_sub hl [1, 2, 0] rfl)
    · replace h := h.2 hc
      refine lv_aload_n hx hb dX8_locks_22 rfl (lv_at hl 0 rfl) ?_
      refine lv_sipush (v := 19804) hx hb dX8_locks_23 (by decide) ?_
      refine lv_iload_n hx hb dX8_locks_26 rfl (lv_at hl 2 rfl) ?_
      refine lv_aload_n hx hb dX8_locks_27 rfl (lv_at hl 0 rfl) ?_
      refine k_calli (va_runV (As := []) (rest := [.int x2, .int 19804, .ref (ad x0)]) ⟨hx, hb, hml, hown, hts⟩ (s_X8_eta1 l D X ad n A J hWT x0 t0 I L _ h) (cwV 0 hts (gV tw_3_239 tw_4_1 tw_0_27 tw_1_9 tw_4_2) rfl rfl rfl (by decide +kernel) (by decide)) (k_preV (ci := 5) hK hV hA hZ t0 rfl _) rfl rfl hl.1 rfl (lv_room (Nat.le_of_ble_eq_true rfl)) dX8_locks_28 ⟨Nat.zero_le _, Nat.zero_le _⟩) hV (fun v_65 I_63 L_64 H locs h hV => ?_)
      refine lv_iconst (v := 4) hx hb dX8_locks_31 (by decide) ?_
      refine lv_iload_n hx hb dX8_locks_32 rfl (lv_at hl 2 rfl) ?_
      refine lv_iadd hx hb dX8_locks_33 ?_
      refine k_callv (va_runV (As := [.int 19804, .int x2, .int v_65, .int (4 + x2)]) (rest := []) ⟨hx, hb, hml, hown, hts⟩ (s_X8_noised l D X ad n A J hWT x0 t0 19804 x2 v_65 (4 + x2) I_63 L_64 _ h) (cwV 4 hts (gV tw_4_3 tw_4_5 tw_0_28 tw_1_9 tw_4_6) rfl rfl rfl (by decide +kernel) (by decide)) (k_preV (ci := 5) hK hV hA hZ t0 rfl _) rfl rfl hl.1 rfl (lv_room (Nat.le_of_ble_eq_true rfl)) dX8_locks_34 ⟨Nat.zero_le _, Nat.zero_le _⟩) hV (fun I_66 L_67 H locs h hV => ?_)
      refine lv_aload_n hx hb dX8_locks_37 rfl (lv_at hl 0 rfl) ?_
      refine lv_iconst (v := 4) hx hb dX8_locks_38 (by decide) ?_
      refine lv_iload_n hx hb dX8_locks_39 rfl (lv_at hl 2 rfl) ?_
      refine lv_iadd hx hb dX8_locks_40 ?_
      refine k_callv (va_runV (As := [.int (4 + x2)]) (rest := []) ⟨hx, hb, hml, hown, hts⟩ (s_X8_bringForward l D X ad n A J hWT x0 t0 (4 + x2) I_66 L_67 _ h) (cwV 1 hts (gV tw_4_11 tw_4_13 tw_0_29 tw_1_9 tw_4_14) rfl rfl rfl (by decide +kernel) (by decide)) (k_preV (ci := 5) hK hV hA hZ t0 rfl _) rfl rfl hl.1 rfl (lv_room (Nat.le_of_ble_eq_true rfl)) dX8_locks_41 ⟨Nat.zero_le _, Nat.zero_le _⟩) hV (fun I_68 L_69 H locs h hV => ?_)
      obtain ⟨x2_70, ex2_70⟩ : ∃ y : Int32, y = x2 + 1 := ⟨_, rfl⟩
      replace h := h x2_70 ex2_70
      refine lv_iinc (v := x2_70) (lv' := [(2, .int x2_70), (0, .ref (ad x0)), (1, .int x1)]) hx hb dX8_locks_44 hl (k := 2) rfl (by rw [ex2_70]; rfl) (by decide) rfl (fun ls hl => ?_)
      refine lv_goto (tgt := 14) hx hb dX8_locks_47 (by decide) ?_
      exact ih x2_70 _ _ _ _ _ h hV (lv_sub hl [1, 2, 0] rfl)
set_option maxHeartbeats 4000000 in
set_option maxRecDepth 100000 in
theorem s_X8_locks (l : Launch) (D : va_G) (X : XT) (ad : Nat → Nat) (n : Nat) (A : Nat → Prop) (J : MJ) (hWT : WT X n J) (x0 : Nat) (t0 : Ty X n x0 9) (x1 : Int32) (I : MI) (L : ML) (q : Int32 → MI → ML → Prop) (h : wp_X8_locks X J x0 x1 I L q) : Met l yX8_locks (wz yX8_locks cX8_locks 4 (some .boolean)) ({ frames := 8, cells := 0, slots := 0, locals := 191 } : Room) (va_Pc [.ref (ad x0), .int x1] (Pr D X ad n A J I L)) (QI D X ad n A J q) 0 0 A := by
  refine Met_go (by decide +kernel) (Nat.le_of_ble_eq_true rfl) (fun p e s m below meth c hx hb hr hml hown hlk hnm hts hK hZ hA hV ls hl => ?_)
  have C0 : Cx p s m meth c cX8_locks (some .boolean) 4 yX8_locks [.ref (ad x0), .int x1] D X ad n A J := ⟨hx, hb, hr, hml, hown, hlk, hnm, hts, hK, hZ, hA, hWT⟩
  unfold wp_X8_locks at h
  have hl : lv_has ls 4 [(0, .ref (ad x0)), (1, .int x1)] := hl
  refine lv_aload_n hx hb dX8_locks_0 rfl (lv_at hl 0 rfl) ?_
  refine lv_sipush (v := 19644) hx hb dX8_locks_1 (by decide) ?_
  refine lv_sipush (v := 19804) hx hb dX8_locks_4 (by decide) ?_
  refine lv_bipush (v := 32) hx hb dX8_locks_7 (by decide) ?_
  refine k_callv (va_runV (As := [.int 19644, .int 19804, .int 32]) (rest := []) ⟨hx, hb, hml, hown, hts⟩ (s_X8_copy l D X ad n A J hWT x0 t0 19644 19804 32 I L _ h) (cwV 3 hts (gV tw_3_166 tw_3_168 tw_0_14 tw_1_9 tw_3_169) rfl rfl rfl (by decide +kernel) (by decide)) (k_preV (ci := 5) hK hV hA hZ t0 rfl _) rfl rfl hl.1 rfl (lv_room (Nat.le_of_ble_eq_true rfl)) dX8_locks_9 ⟨Nat.zero_le _, Nat.zero_le _⟩) hV (fun I_1 L_2 H locs h hV => ?_)
  refine lv_iconst (v := 0) hx hb dX8_locks_12 (by decide) ?_
  refine lv_istore_n (lv' := [(2, .int 0), (0, .ref (ad x0)), (1, .int x1)]) hx hb dX8_locks_13 rfl hl (by decide) rfl (fun ls hl => ?_)
  obtain ⟨fu0, h⟩ := h
  exact n_X8_locks_14 rfl C0 t0   fu0 0 _ _ _ _ _ h hV (lv_sub hl [1, 2, 0] rfl)
set_option maxHeartbeats 4000000 in
set_option maxRecDepth 100000 in
theorem n_X8_unlocks_8 {p : Program} {l : Launch} {e : Env} {s : State} {m : MethodId} {below : List Frame} {meth : Method} {c : Code} {D : va_G} {X : XT} {ad : Nat → Nat} {n : Nat} {A : Nat → Prop} {J : MJ} {av : List Value} {R : Room} (hR : R = ({ frames := 3, cells := 0, slots := 0, locals := 71 } : Room)) (C0 : Cx p s m meth c cX8_unlocks none 3 yX8_unlocks av D X ad n A J) {q : MI → ML → Prop}  {x0 : Nat} {x1 : Int32} (t0 : Ty X n x0 9) : ∀ (fu : Nat) (x2 : Int32) (I : MI) (L : ML) (H : Heap) (locs : List Loc) (ls : Array Slot), wl_X8_unlocks_8 X J q  x0 x1 fu x2 I L → Wd D X ad n A s.heap J I L H locs → lv_has ls 3 [(0, .ref (ad x0)), (1, .int x1), (2, .int x2)] → W p l e R s m av.toArray below meth c H locs 0 0 (MQ below (QV D X ad n A J q) av.toArray s 0 0 A) (F0 m 8 ls []) := by
  obtain ⟨hx, hb, hr, hml, hown, hlk, hnm, hts, hK, hZ, hA, hWT⟩ := id C0
  subst hR
  intro fu
  induction fu with
  | zero => intro x2 I L H locs ls h; exact absurd h (fun h => h)
  | succ fu ih =>
    intro x2 I L H locs ls h hV hl
    refine lv_iload_n hx hb dX8_unlocks_8 rfl (lv_at hl 2 rfl) ?_
    refine lv_aload_n hx hb dX8_unlocks_9 rfl (lv_at hl 0 rfl) ?_
    refine m_geti (C := RX8) (T := TX8) (N := 19) (ci := 5) hx hb hts iwX8 hown hK hV t0 rfl 7 (by decide) rfl rfl (hts _ tw_3_98) (fun _ h9 => h9) dX8_unlocks_10 ?_
    refine lv_icmp_ge (tgt := 87) hx hb dX8_unlocks_13 (by decide) (fun hc => ?_) (fun hc => ?_)
    · replace h := h.1 hc
      refine lv_aload_n hx hb dX8_unlocks_87 rfl (lv_at hl 0 rfl) ?_
      refine lv_bipush (v := 16) hx hb dX8_unlocks_88 (by decide) ?_
      refine k_callv (va_runV (As := [.int 16]) (rest := []) ⟨hx, hb, hml, hown, hts⟩ (s_X8_bringBack l D X ad n A J hWT x0 t0 16 I L _ h) (cwV 1 hts (gV tw_4_71 tw_4_73 tw_0_42 tw_1_9 tw_4_74) rfl rfl rfl (by decide +kernel) (by decide)) (k_preV (ci := 5) hK hV hA hZ t0 rfl _) rfl rfl hl.1 rfl (lv_room (Nat.le_of_ble_eq_true rfl)) dX8_unlocks_90 ⟨Nat.zero_le _, Nat.zero_le _⟩) hV (fun I_3 L_4 H locs h hV => ?_)
      refine lv_aload_n hx hb dX8_unlocks_93 rfl (lv_at hl 0 rfl) ?_
      refine lv_bipush (v := 17) hx hb dX8_unlocks_94 (by decide) ?_
      refine lv_aload_n hx hb dX8_unlocks_96 rfl (lv_at hl 0 rfl) ?_
      refine k_calli (va_runV (As := []) (rest := [.int 17, .ref (ad x0)]) ⟨hx, hb, hml, hown, hts⟩ (s_X8_dv l D X ad n A J hWT x0 t0 I_3 L_4 _ h) (cwV 0 hts (gV tw_4_51 tw_4_53 tw_0_38 tw_1_9 tw_4_54) rfl rfl rfl (by decide +kernel) (by decide)) (k_preV (ci := 5) hK hV hA hZ t0 rfl _) rfl rfl hl.1 rfl (lv_room (Nat.le_of_ble_eq_true rfl)) dX8_unlocks_97 ⟨Nat.zero_le _, Nat.zero_le _⟩) hV (fun v_7 I_5 L_6 H locs h hV => ?_)
      refine lv_sipush (v := 8736) hx hb dX8_unlocks_100 (by decide) ?_
      refine lv_bipush (v := 32) hx hb dX8_unlocks_103 (by decide) ?_
      refine lv_aload_n hx hb dX8_unlocks_105 rfl (lv_at hl 0 rfl) ?_
      refine k_calli (va_runV (As := []) (rest := [.int 32, .int 8736, .int v_7, .int 17, .ref (ad x0)]) ⟨hx, hb, hml, hown, hts⟩ (s_X8_du l D X ad n A J hWT x0 t0 I_5 L_6 _ h) (cwV 0 hts (gV tw_4_47 tw_4_49 tw_0_37 tw_1_9 tw_4_50) rfl rfl rfl (by decide +kernel) (by decide)) (k_preV (ci := 5) hK hV hA hZ t0 rfl _) rfl rfl hl.1 rfl (lv_room (Nat.le_of_ble_eq_true rfl)) dX8_unlocks_106 ⟨Nat.zero_le _, Nat.zero_le _⟩) hV (fun v_10 I_8 L_9 H locs h hV => ?_)
      refine lv_imul hx hb dX8_unlocks_109 ?_
      refine lv_aload_n hx hb dX8_unlocks_110 rfl (lv_at hl 0 rfl) ?_
      refine m_geti (C := RX8) (T := TX8) (N := 19) (ci := 5) hx hb hts iwX8 hown hK hV t0 rfl 7 (by decide) rfl rfl (hts _ tw_3_98) (fun _ h9 => h9) dX8_unlocks_111 ?_
      refine lv_imul hx hb dX8_unlocks_114 ?_
      refine lv_iadd hx hb dX8_unlocks_115 ?_
      refine k_callv (va_runV (As := [.int 17, .int v_7, .int (8736 + ((32 * v_10) * (I_8 x0 7)))]) (rest := []) ⟨hx, hb, hml, hown, hts⟩ (s_X8_readPol l D X ad n A J hWT x0 t0 17 v_7 (8736 + ((32 * v_10) * (I_8 x0 7))) I_8 L_9 _ h) (cwV 3 hts (gV tw_4_86 tw_4_88 tw_0_45 tw_1_9 tw_4_89) rfl rfl rfl (by decide +kernel) (by decide)) (k_preV (ci := 5) hK hV hA hZ t0 rfl _) rfl rfl hl.1 rfl (lv_room (Nat.le_of_ble_eq_true rfl)) dX8_unlocks_116 ⟨Nat.zero_le _, Nat.zero_le _⟩) hV (fun I_11 L_12 H locs h hV => ?_)
      refine lv_aload_n hx hb dX8_unlocks_119 rfl (lv_at hl 0 rfl) ?_
      refine lv_bipush (v := 17) hx hb dX8_unlocks_120 (by decide) ?_
      refine lv_aload_n hx hb dX8_unlocks_122 rfl (lv_at hl 0 rfl) ?_
      refine k_calli (va_runV (As := []) (rest := [.int 17, .ref (ad x0)]) ⟨hx, hb, hml, hown, hts⟩ (s_X8_dv l D X ad n A J hWT x0 t0 I_11 L_12 _ h) (cwV 0 hts (gV tw_4_51 tw_4_53 tw_0_38 tw_1_9 tw_4_54) rfl rfl rfl (by decide +kernel) (by decide)) (k_preV (ci := 5) hK hV hA hZ t0 rfl _) rfl rfl hl.1 rfl (lv_room (Nat.le_of_ble_eq_true rfl)) dX8_unlocks_123 ⟨Nat.zero_le _, Nat.zero_le _⟩) hV (fun v_15 I_13 L_14 H locs h hV => ?_)
      refine k_callv (va_runV (As := [.int 17, .int v_15]) (rest := []) ⟨hx, hb, hml, hown, hts⟩ (s_X8_stretched l D X ad n A J hWT x0 t0 17 v_15 I_13 L_14 _ h) (cwV 2 hts (gV tw_4_90 tw_4_92 tw_0_46 tw_1_9 tw_4_93) rfl rfl rfl (by decide +kernel) (by decide)) (k_preV (ci := 5) hK hV hA hZ t0 rfl _) rfl rfl hl.1 rfl (lv_room (Nat.le_of_ble_eq_true rfl)) dX8_unlocks_126 ⟨Nat.zero_le _, Nat.zero_le _⟩) hV (fun I_16 L_17 H locs h hV => ?_)
      refine lv_aload_n hx hb dX8_unlocks_129 rfl (lv_at hl 0 rfl) ?_
      refine lv_bipush (v := 17) hx hb dX8_unlocks_130 (by decide) ?_
      refine lv_bipush (v := 16) hx hb dX8_unlocks_132 (by decide) ?_
      refine lv_iconst (v := (-1)) hx hb dX8_unlocks_134 (by decide) ?_
      refine k_callv (va_runV (As := [.int 17, .int 16, .int (-1)]) (rest := []) ⟨hx, hb, hml, hown, hts⟩ (s_X8_plus l D X ad n A J hWT x0 t0 17 16 (-1) I_16 L_17 _ h) (cwV 3 hts (gV tw_4_76 tw_4_78 tw_0_43 tw_1_9 tw_4_79) rfl rfl rfl (by decide +kernel) (by decide)) (k_preV (ci := 5) hK hV hA hZ t0 rfl _) rfl rfl hl.1 rfl (lv_room (Nat.le_of_ble_eq_true rfl)) dX8_unlocks_135 ⟨Nat.zero_le _, Nat.zero_le _⟩) hV (fun I_18 L_19 H locs h hV => ?_)
      refine lv_aload_n hx hb dX8_unlocks_138 rfl (lv_at hl 0 rfl) ?_
      refine lv_bipush (v := 17) hx hb dX8_unlocks_139 (by decide) ?_
      refine lv_iconst (v := 1) hx hb dX8_unlocks_141 (by decide) ?_
      refine k_callv (va_runV (As := [.int 17, .int 1]) (rest := []) ⟨hx, hb, hml, hown, hts⟩ (s_X8_pressed l D X ad n A J hWT x0 t0 17 1 I_18 L_19 _ h) (cwV 2 hts (gV tw_4_80 tw_4_82 tw_0_44 tw_1_9 tw_4_83) rfl rfl rfl (by decide +kernel) (by decide)) (k_preV (ci := 5) hK hV hA hZ t0 rfl _) rfl rfl hl.1 rfl (lv_room (Nat.le_of_ble_eq_true rfl)) dX8_unlocks_142 ⟨Nat.zero_le _, Nat.zero_le _⟩) hV (fun I_20 L_21 H locs h hV => ?_)
      refine lv_aload_n hx hb dX8_unlocks_145 rfl (lv_at hl 0 rfl) ?_
      refine lv_bipush (v := 17) hx hb dX8_unlocks_146 (by decide) ?_
      refine lv_iconst (v := 1) hx hb dX8_unlocks_148 (by decide) ?_
      refine lv_sipush (v := 19740) hx hb dX8_unlocks_149 (by decide) ?_
      refine k_callv (va_runV (As := [.int 17, .int 1, .int 19740]) (rest := []) ⟨hx, hb, hml, hown, hts⟩ (s_X8_written l D X ad n A J hWT x0 t0 17 1 19740 I_20 L_21 _ h) (cwV 3 hts (gV tw_4_31 tw_4_33 tw_0_34 tw_1_9 tw_4_34) rfl rfl rfl (by decide +kernel) (by decide)) (k_preV (ci := 5) hK hV hA hZ t0 rfl _) rfl rfl hl.1 rfl (lv_room (Nat.le_of_ble_eq_true rfl)) dX8_unlocks_152 ⟨Nat.zero_le _, Nat.zero_le _⟩) hV (fun I_22 L_23 H locs h hV => ?_)
      exact m_vret hx hb hr hlk hK hZ hA hV h dX8_unlocks_155
    · replace h := h.2 hc
      refine lv_aload_n hx hb dX8_unlocks_16 rfl (lv_at hl 0 rfl) ?_
      refine lv_bipush (v := 17) hx hb dX8_unlocks_17 (by decide) ?_
      refine lv_aload_n hx hb dX8_unlocks_19 rfl (lv_at hl 0 rfl) ?_
      refine k_calli (va_runV (As := []) (rest := [.int 17, .ref (ad x0)]) ⟨hx, hb, hml, hown, hts⟩ (s_X8_du l D X ad n A J hWT x0 t0 I L _ h) (cwV 0 hts (gV tw_4_47 tw_4_49 tw_0_37 tw_1_9 tw_4_50) rfl rfl rfl (by decide +kernel) (by decide)) (k_preV (ci := 5) hK hV hA hZ t0 rfl _) rfl rfl hl.1 rfl (lv_room (Nat.le_of_ble_eq_true rfl)) dX8_unlocks_20 ⟨Nat.zero_le _, Nat.zero_le _⟩) hV (fun v_26 I_24 L_25 H locs h hV => ?_)
      refine lv_sipush (v := 8736) hx hb dX8_unlocks_23 (by decide) ?_
      refine lv_bipush (v := 32) hx hb dX8_unlocks_26 (by decide) ?_
      refine lv_aload_n hx hb dX8_unlocks_28 rfl (lv_at hl 0 rfl) ?_
      refine k_calli (va_runV (As := []) (rest := [.int 32, .int 8736, .int v_26, .int 17, .ref (ad x0)]) ⟨hx, hb, hml, hown, hts⟩ (s_X8_du l D X ad n A J hWT x0 t0 I_24 L_25 _ h) (cwV 0 hts (gV tw_4_47 tw_4_49 tw_0_37 tw_1_9 tw_4_50) rfl rfl rfl (by decide +kernel) (by decide)) (k_preV (ci := 5) hK hV hA hZ t0 rfl _) rfl rfl hl.1 rfl (lv_room (Nat.le_of_ble_eq_true rfl)) dX8_unlocks_29 ⟨Nat.zero_le _, Nat.zero_le _⟩) hV (fun v_29 I_27 L_28 H locs h hV => ?_)
      refine lv_imul hx hb dX8_unlocks_32 ?_
      refine lv_iload_n hx hb dX8_unlocks_33 rfl (lv_at hl 2 rfl) ?_
      refine lv_imul hx hb dX8_unlocks_34 ?_
      refine lv_iadd hx hb dX8_unlocks_35 ?_
      refine k_callv (va_runV (As := [.int 17, .int v_26, .int (8736 + ((32 * v_29) * x2))]) (rest := []) ⟨hx, hb, hml, hown, hts⟩ (s_X8_readPol l D X ad n A J hWT x0 t0 17 v_26 (8736 + ((32 * v_29) * x2)) I_27 L_28 _ h) (cwV 3 hts (gV tw_4_86 tw_4_88 tw_0_45 tw_1_9 tw_4_89) rfl rfl rfl (by decide +kernel) (by decide)) (k_preV (ci := 5) hK hV hA hZ t0 rfl _) rfl rfl hl.1 rfl (lv_room (Nat.le_of_ble_eq_true rfl)) dX8_unlocks_36 ⟨Nat.zero_le _, Nat.zero_le _⟩) hV (fun I_30 L_31 H locs h hV => ?_)
      refine lv_aload_n hx hb dX8_unlocks_39 rfl (lv_at hl 0 rfl) ?_
      refine lv_bipush (v := 17) hx hb dX8_unlocks_40 (by decide) ?_
      refine lv_aload_n hx hb dX8_unlocks_42 rfl (lv_at hl 0 rfl) ?_
      refine k_calli (va_runV (As := []) (rest := [.int 17, .ref (ad x0)]) ⟨hx, hb, hml, hown, hts⟩ (s_X8_du l D X ad n A J hWT x0 t0 I_30 L_31 _ h) (cwV 0 hts (gV tw_4_47 tw_4_49 tw_0_37 tw_1_9 tw_4_50) rfl rfl rfl (by decide +kernel) (by decide)) (k_preV (ci := 5) hK hV hA hZ t0 rfl _) rfl rfl hl.1 rfl (lv_room (Nat.le_of_ble_eq_true rfl)) dX8_unlocks_43 ⟨Nat.zero_le _, Nat.zero_le _⟩) hV (fun v_34 I_32 L_33 H locs h hV => ?_)
      refine k_callv (va_runV (As := [.int 17, .int v_34]) (rest := []) ⟨hx, hb, hml, hown, hts⟩ (s_X8_stretched l D X ad n A J hWT x0 t0 17 v_34 I_32 L_33 _ h) (cwV 2 hts (gV tw_4_90 tw_4_92 tw_0_46 tw_1_9 tw_4_93) rfl rfl rfl (by decide +kernel) (by decide)) (k_preV (ci := 5) hK hV hA hZ t0 rfl _) rfl rfl hl.1 rfl (lv_room (Nat.le_of_ble_eq_true rfl)) dX8_unlocks_46 ⟨Nat.zero_le _, Nat.zero_le _⟩) hV (fun I_35 L_36 H locs h hV => ?_)
      refine lv_aload_n hx hb dX8_unlocks_49 rfl (lv_at hl 0 rfl) ?_
      refine lv_bipush (v := 17) hx hb dX8_unlocks_50 (by decide) ?_
      refine k_callv (va_runV (As := [.int 17]) (rest := []) ⟨hx, hb, hml, hown, hts⟩ (s_X8_bringForward l D X ad n A J hWT x0 t0 17 I_35 L_36 _ h) (cwV 1 hts (gV tw_4_11 tw_4_13 tw_0_29 tw_1_9 tw_4_14) rfl rfl rfl (by decide +kernel) (by decide)) (k_preV (ci := 5) hK hV hA hZ t0 rfl _) rfl rfl hl.1 rfl (lv_room (Nat.le_of_ble_eq_true rfl)) dX8_unlocks_52 ⟨Nat.zero_le _, Nat.zero_le _⟩) hV (fun I_37 L_38 H locs h hV => ?_)
      refine lv_aload_n hx hb dX8_unlocks_55 rfl (lv_at hl 0 rfl) ?_
      refine lv_bipush (v := 12) hx hb dX8_unlocks_56 (by decide) ?_
      refine lv_bipush (v := 12) hx hb dX8_unlocks_58 (by decide) ?_
      refine lv_iload_n hx hb dX8_unlocks_60 rfl (lv_at hl 1 rfl) ?_
      refine lv_sipush (v := 384) hx hb dX8_unlocks_61 (by decide) ?_
      refine lv_iload_n hx hb dX8_unlocks_64 rfl (lv_at hl 2 rfl) ?_
      refine lv_imul hx hb dX8_unlocks_65 ?_
      refine lv_iadd hx hb dX8_unlocks_66 ?_
      refine k_callv (va_runV (As := [.int 12, .int 12, .int (x1 + (384 * x2))]) (rest := []) ⟨hx, hb, hml, hown, hts⟩ (s_X8_readPol l D X ad n A J hWT x0 t0 12 12 (x1 + (384 * x2)) I_37 L_38 _ h) (cwV 3 hts (gV tw_4_86 tw_4_88 tw_0_45 tw_1_9 tw_4_89) rfl rfl rfl (by decide +kernel) (by decide)) (k_preV (ci := 5) hK hV hA hZ t0 rfl _) rfl rfl hl.1 rfl (lv_room (Nat.le_of_ble_eq_true rfl)) dX8_unlocks_67 ⟨Nat.zero_le _, Nat.zero_le _⟩) hV (fun I_39 L_40 H locs h hV => ?_)
      refine lv_aload_n hx hb dX8_unlocks_70 rfl (lv_at hl 0 rfl) ?_
      refine lv_bipush (v := 17) hx hb dX8_unlocks_71 (by decide) ?_
      refine lv_bipush (v := 12) hx hb dX8_unlocks_73 (by decide) ?_
      refine lv_bipush (v := 16) hx hb dX8_unlocks_75 (by decide) ?_
      refine lv_iconst (v := 1) hx hb dX8_unlocks_77 (by decide) ?_
      refine k_callv (va_runV (As := [.int 17, .int 12, .int 16, .int 1]) (rest := []) ⟨hx, hb, hml, hown, hts⟩ (s_X8_product l D X ad n A J hWT x0 t0 17 12 16 1 I_39 L_40 _ h) (cwV 4 hts (gV tw_4_27 tw_4_29 tw_0_33 tw_1_9 tw_4_30) rfl rfl rfl (by decide +kernel) (by decide)) (k_preV (ci := 5) hK hV hA hZ t0 rfl _) rfl rfl hl.1 rfl (lv_room (Nat.le_of_ble_eq_true rfl)) dX8_unlocks_78 ⟨Nat.zero_le _, Nat.zero_le _⟩) hV (fun I_41 L_42 H locs h hV => ?_)
      obtain ⟨x2_43, ex2_43⟩ : ∃ y : Int32, y = x2 + 1 := ⟨_, rfl⟩
      replace h := h x2_43 ex2_43
      refine lv_iinc (v := x2_43) (lv' := [(2, .int x2_43), (0, .ref (ad x0)), (1, .int x1)]) hx hb dX8_unlocks_81 hl (k := 2) rfl (by rw [ex2_43]; rfl) (by decide) rfl (fun ls hl => ?_)
      refine lv_goto (tgt := 8) hx hb dX8_unlocks_84 (by decide) ?_
      exact ih x2_43 _ _ _ _ _ h hV (lv_sub hl [1, 2, 0] rfl)
set_option maxHeartbeats 4000000 in
set_option maxRecDepth 100000 in
theorem s_X8_unlocks (l : Launch) (D : va_G) (X : XT) (ad : Nat → Nat) (n : Nat) (A : Nat → Prop) (J : MJ) (hWT : WT X n J) (x0 : Nat) (t0 : Ty X n x0 9) (x1 : Int32) (I : MI) (L : ML) (q : MI → ML → Prop) (h : wp_X8_unlocks X J x0 x1 I L q) : Met l yX8_unlocks (wz yX8_unlocks cX8_unlocks 3 none) ({ frames := 3, cells := 0, slots := 0, locals := 71 } : Room) (va_Pc [.ref (ad x0), .int x1] (Pr D X ad n A J I L)) (QV D X ad n A J q) 0 0 A := by
  refine Met_go (by decide +kernel) (Nat.le_of_ble_eq_true rfl) (fun p e s m below meth c hx hb hr hml hown hlk hnm hts hK hZ hA hV ls hl => ?_)
  have C0 : Cx p s m meth c cX8_unlocks none 3 yX8_unlocks [.ref (ad x0), .int x1] D X ad n A J := ⟨hx, hb, hr, hml, hown, hlk, hnm, hts, hK, hZ, hA, hWT⟩
  unfold wp_X8_unlocks at h
  have hl : lv_has ls 3 [(0, .ref (ad x0)), (1, .int x1)] := hl
  refine lv_aload_n hx hb dX8_unlocks_0 rfl (lv_at hl 0 rfl) ?_
  refine lv_bipush (v := 16) hx hb dX8_unlocks_1 (by decide) ?_
  refine k_callv (va_runV (As := [.int 16]) (rest := []) ⟨hx, hb, hml, hown, hts⟩ (s_X8_zero l D X ad n A J hWT x0 t0 16 I L _ h) (cwV 1 hts (gV tw_4_67 tw_4_69 tw_0_41 tw_1_9 tw_4_70) rfl rfl rfl (by decide +kernel) (by decide)) (k_preV (ci := 5) hK hV hA hZ t0 rfl _) rfl rfl hl.1 rfl (lv_room (Nat.le_of_ble_eq_true rfl)) dX8_unlocks_3 ⟨Nat.zero_le _, Nat.zero_le _⟩) hV (fun I_1 L_2 H locs h hV => ?_)
  refine lv_iconst (v := 0) hx hb dX8_unlocks_6 (by decide) ?_
  refine lv_istore_n (lv' := [(2, .int 0), (0, .ref (ad x0)), (1, .int x1)]) hx hb dX8_unlocks_7 rfl hl (by decide) rfl (fun ls hl => ?_)
  obtain ⟨fu0, h⟩ := h
  exact n_X8_unlocks_8 rfl C0 t0   fu0 0 _ _ _ _ _ h hV (lv_sub hl [1, 2, 0] rfl)
set_option maxHeartbeats 4000000 in
set_option maxRecDepth 100000 in
theorem s_X8_h (l : Launch) (D : va_G) (X : XT) (ad : Nat → Nat) (n : Nat) (A : Nat → Prop) (J : MJ) (hWT : WT X n J) (x0 : Nat) (t0 : Ty X n x0 9) (x1 : Int32) (x2 : Int32) (x3 : Int32) (I : MI) (L : ML) (q : MI → ML → Prop) (h : wp_X8_h X J x0 x1 x2 x3 I L q) : Met l yX8_h (wz yX8_h cX8_h 4 none) ({ frames := 6, cells := 0, slots := 0, locals := 139 } : Room) (va_Pc [.ref (ad x0), .int x1, .int x2, .int x3] (Pr D X ad n A J I L)) (QV D X ad n A J q) 0 0 A := by
  refine Met_go (by decide +kernel) (Nat.le_of_ble_eq_true rfl) (fun p e s m below meth c hx hb hr hml hown hlk hnm hts hK hZ hA hV ls hl => ?_)
  have C0 : Cx p s m meth c cX8_h none 4 yX8_h [.ref (ad x0), .int x1, .int x2, .int x3] D X ad n A J := ⟨hx, hb, hr, hml, hown, hlk, hnm, hts, hK, hZ, hA, hWT⟩
  unfold wp_X8_h at h
  have hl : lv_has ls 4 [(0, .ref (ad x0)), (1, .int x1), (2, .int x2), (3, .int x3)] := hl
  refine lv_aload_n hx hb dX8_h_0 rfl (lv_at hl 0 rfl) ?_
  refine lv_sipush (v := 136) hx hb dX8_h_1 (by decide) ?_
  refine lv_iload_n hx hb dX8_h_4 rfl (lv_at hl 1 rfl) ?_
  refine lv_iload_n hx hb dX8_h_5 rfl (lv_at hl 2 rfl) ?_
  refine lv_iconst (v := 1) hx hb dX8_h_6 (by decide) ?_
  refine k_callv (va_runV (As := [.int 136, .int x1, .int x2, .int 1]) (rest := []) ⟨hx, hb, hml, hown, hts⟩ (s_X8_absorb l D X ad n A J hWT x0 t0 136 x1 x2 1 I L _ h) (cwV 4 hts (gV tw_3_211 tw_3_213 tw_0_20 tw_1_9 tw_3_214) rfl rfl rfl (by decide +kernel) (by decide)) (k_preV (ci := 5) hK hV hA hZ t0 rfl _) rfl rfl hl.1 rfl (lv_room (Nat.le_of_ble_eq_true rfl)) dX8_h_7 ⟨Nat.zero_le _, Nat.zero_le _⟩) hV (fun I_1 L_2 H locs h hV => ?_)
  refine lv_aload_n hx hb dX8_h_10 rfl (lv_at hl 0 rfl) ?_
  refine lv_iload_n hx hb dX8_h_11 rfl (lv_at hl 3 rfl) ?_
  refine lv_bipush (v := 32) hx hb dX8_h_12 (by decide) ?_
  refine k_callv (va_runV (As := [.int x3, .int 32]) (rest := []) ⟨hx, hb, hml, hown, hts⟩ (s_X8_tells l D X ad n A J hWT x0 t0 x3 32 I_1 L_2 _ h) (cwV 2 hts (gV tw_3_231 tw_3_233 tw_0_25 tw_1_9 tw_3_234) rfl rfl rfl (by decide +kernel) (by decide)) (k_preV (ci := 5) hK hV hA hZ t0 rfl _) rfl rfl hl.1 rfl (lv_room (Nat.le_of_ble_eq_true rfl)) dX8_h_14 ⟨Nat.zero_le _, Nat.zero_le _⟩) hV (fun I_3 L_4 H locs h hV => ?_)
  exact m_vret hx hb hr hlk hK hZ hA hV h dX8_h_17
