theorem tw_3_91 : Cond.fieldLink RX8 7 "LatticeVaultModel" "mem" "[B" ∈ gt := g3 91 (by decide +kernel) (by decide +kernel)
theorem tw_3_103 : Cond.fieldLink RX8 29 "LatticeVaultModel" "source" "[I" ∈ gt := g3 103 (by decide +kernel) (by decide +kernel)
theorem tw_3_80 : Cond.methodLink RX8 54 yX8_bit ∈ gt := g3 80 (by decide +kernel) (by decide +kernel)
theorem tw_3_81 : Cond.static yX8_bit ∈ gt := g3 81 (by decide +kernel) (by decide +kernel)
theorem tw_1_9 : Cond.initialized RX8 ∈ gt := g1 9 (by decide +kernel) (by decide +kernel)
theorem tw_3_82 : Cond.code yX8_bit cX8_bit 3 (some .int) ∈ gt := g3 82 rfl (by rfl)
theorem tw_3_104 : Cond.fieldLink RX8 33 "LatticeVaultModel" "constant" "[B" ∈ gt := g3 104 (by decide +kernel) (by decide +kernel)
theorem tw_3_102 : Cond.fieldLink RX8 26 "LatticeVaultModel" "column" "[B" ∈ gt := g3 102 (by decide +kernel) (by decide +kernel)
theorem tw_3_100 : Cond.fieldLink RX8 20 "LatticeVaultModel" "state" "[B" ∈ gt := g3 100 (by decide +kernel) (by decide +kernel)
theorem tw_3_227 : Cond.methodLink RX8 58 yX8_theta ∈ gt := g3 227 (by decide +kernel) (by decide +kernel)
theorem tw_3_229 : Cond.instanceMethod yX8_theta ∈ gt := g3 229 (by decide +kernel) (by decide +kernel)
theorem tw_0_24 : Cond.selects RX8 yX8_theta yX8_theta ∈ gt := g0 24 (by decide +kernel) (by decide +kernel)
theorem tw_3_230 : Cond.code yX8_theta cX8_theta 5 none ∈ gt := g3 230 rfl (by rfl)
theorem tw_3_101 : Cond.fieldLink RX8 23 "LatticeVaultModel" "work" "[B" ∈ gt := g3 101 (by decide +kernel) (by decide +kernel)
theorem tw_3_223 : Cond.methodLink RX8 61 yX8_round ∈ gt := g3 223 (by decide +kernel) (by decide +kernel)
theorem tw_3_225 : Cond.instanceMethod yX8_round ∈ gt := g3 225 (by decide +kernel) (by decide +kernel)
theorem tw_0_23 : Cond.selects RX8 yX8_round yX8_round ∈ gt := g0 23 (by decide +kernel) (by decide +kernel)
theorem tw_3_226 : Cond.code yX8_round cX8_round 6 none ∈ gt := g3 226 rfl (by rfl)
theorem tw_3_105 : Cond.fieldLink RX8 65 "LatticeVaultModel" "place" "I" ∈ gt := g3 105 (by decide +kernel) (by decide +kernel)
theorem tw_3_106 : Cond.fieldLink RX8 68 "LatticeVaultModel" "rate" "I" ∈ gt := g3 106 (by decide +kernel) (by decide +kernel)
theorem tw_3_219 : Cond.methodLink RX8 71 yX8_rounds ∈ gt := g3 219 (by decide +kernel) (by decide +kernel)
theorem tw_3_221 : Cond.instanceMethod yX8_rounds ∈ gt := g3 221 (by decide +kernel) (by decide +kernel)
theorem tw_0_22 : Cond.selects RX8 yX8_rounds yX8_rounds ∈ gt := g0 22 (by decide +kernel) (by decide +kernel)
theorem tw_3_222 : Cond.code yX8_rounds cX8_rounds 2 none ∈ gt := g3 222 rfl (by rfl)
theorem tw_3_215 : Cond.methodLink RX8 78 yX8_takes ∈ gt := g3 215 (by decide +kernel) (by decide +kernel)
theorem tw_3_217 : Cond.instanceMethod yX8_takes ∈ gt := g3 217 (by decide +kernel) (by decide +kernel)
theorem tw_0_21 : Cond.selects RX8 yX8_takes yX8_takes ∈ gt := g0 21 (by decide +kernel) (by decide +kernel)
theorem tw_3_218 : Cond.code yX8_takes cX8_takes 2 none ∈ gt := g3 218 rfl (by rfl)
theorem tw_3_191 : Cond.methodLink RX8 74 yX8_byteAt ∈ gt := g3 191 (by decide +kernel) (by decide +kernel)
theorem tw_3_193 : Cond.instanceMethod yX8_byteAt ∈ gt := g3 193 (by decide +kernel) (by decide +kernel)
theorem tw_0_16 : Cond.selects RX8 yX8_byteAt yX8_byteAt ∈ gt := g0 16 (by decide +kernel) (by decide +kernel)
theorem tw_3_194 : Cond.code yX8_byteAt cX8_byteAt 2 (some .int) ∈ gt := g3 194 rfl (by rfl)
theorem tw_3_235 : Cond.methodLink RX8 81 yX8_told ∈ gt := g3 235 (by decide +kernel) (by decide +kernel)
theorem tw_3_237 : Cond.instanceMethod yX8_told ∈ gt := g3 237 (by decide +kernel) (by decide +kernel)
theorem tw_0_26 : Cond.selects RX8 yX8_told yX8_told ∈ gt := g0 26 (by decide +kernel) (by decide +kernel)
theorem tw_3_238 : Cond.code yX8_told cX8_told 3 (some .int) ∈ gt := g3 238 rfl (by rfl)
theorem tw_3_108 : Cond.fieldLink RX8 39 "LatticeVaultModel" "power" "[I" ∈ gt := g3 108 (by decide +kernel) (by decide +kernel)
theorem tw_3_109 : Cond.fieldLink RX8 42 "LatticeVaultModel" "odd" "[I" ∈ gt := g3 109 (by decide +kernel) (by decide +kernel)
def wl_X8_copy_3 (X : XT) (J : MJ) (q : MI → ML → Prop)  (x0 : Nat) (x1 : Int32) (x2 : Int32) (x3 : Int32) : Nat → Int32 → MI → ML → Prop
  | 0 => fun _ _ _ => False
  | fu + 1 => fun x4 I L => (((x3 ≤ x4) → q I L) ∧ (¬ (x3 ≤ x4) → (∃ r_1 : Nat, J x0 0 = some r_1 ∧ (vp_in (x1 + x4) (sl X r_1) ∧ (vp_in (x2 + x4) (sl X r_1) ∧ ∀ I_4, I_4 = ms I r_1 (x2 + x4).toNatClampNeg (jb8 (I r_1 (x1 + x4).toNatClampNeg)) → (∀ x4_5 : Int32, x4_5 = x4 + 1 → wl_X8_copy_3 X J q  x0 x1 x2 x3 fu x4_5 I_4 L))))))
def wp_X8_copy (X : XT) (J : MJ) (x0 : Nat) (x1 : Int32) (x2 : Int32) (x3 : Int32) (I : MI) (L : ML) (q : MI → ML → Prop) : Prop := ∃ fu0 : Nat, wl_X8_copy_3 X J q  x0 x1 x2 x3 fu0 0 I L
def wp_X8_byteAt (X : XT) (J : MJ) (x0 : Nat) (x1 : Int32) (I : MI) (L : ML) (q : Int32 → MI → ML → Prop) : Prop := (∃ r_1 : Nat, J x0 0 = some r_1 ∧ (vp_in x1 (sl X r_1) ∧ q ((I r_1 x1.toNatClampNeg) &&& 255) I L))
def wp_X8_bit (X : XT) (J : MJ) (x0 : Int32) (x1 : Int32) (x2 : Int32) (I : MI) (L : ML) (q : Int32 → MI → ML → Prop) : Prop := q ((64 * ((5 * x1) + x0)) + x2) I L
def wl_X8_turns_60 (X : XT) (J : MJ) (q : MI → ML → Prop) (k37 : Int32 → Int32 → Int32 → MI → ML → Prop) (x0 : Nat) (x1 : Int32) (x2 : Int32) (x3 : Int32) (x4 : Int32) : Nat → Int32 → MI → ML → Prop
  | 0 => fun _ _ _ => False
  | fu + 1 => fun x5 I L => (((64 ≤ x5) → (∀ x5_2 : Int32, x5_2 = jrem ((2 * x1) + (3 * x2)) 5 → (∀ x3_3 : Int32, x3_3 = x3 + 1 → k37 x2 x5_2 x3_3 I L))) ∧ (¬ (64 ≤ x5) → (∃ r_4 : Nat, J x0 12 = some r_4 ∧ (wp_X8_bit X J x2 (jrem ((2 * x1) + (3 * x2)) 5) x5 I L (fun v_7 I_5 L_6 => (wp_X8_bit X J x1 x2 (jrem ((x5 + 64) - x4) 64) I_5 L_6 (fun v_10 I_8 L_9 => (vp_in v_7 (sl X r_4) ∧ ∀ I_12, I_12 = ms I_8 r_4 v_7.toNatClampNeg v_10 → (∀ x5_13 : Int32, x5_13 = x5 + 1 → wl_X8_turns_60 X J q k37 x0 x1 x2 x3 x4 fu x5_13 I_12 L_9)))))))))
def wl_X8_turns_37 (X : XT) (J : MJ) (q : MI → ML → Prop)  (x0 : Nat) : Nat → Int32 → Int32 → Int32 → MI → ML → Prop
  | 0 => fun _ _ _ _ _ => False
  | fu + 1 => fun x1 x2 x3 I L => (((24 ≤ x3) → q I L) ∧ (¬ (24 ≤ x3) → (∀ x4_1 : Int32, x4_1 = jrem (((x3 + 1) * (x3 + 2)) / 2) 64 → ∃ fu0 : Nat, wl_X8_turns_60 X J q (wl_X8_turns_37 X J q  x0 fu) x0 x1 x2 x3 x4_1 fu0 0 I L)))
def wl_X8_turns_6 (X : XT) (J : MJ) (q : MI → ML → Prop)  (x0 : Nat) (x1 : Int32) (x2 : Int32) : Nat → Int32 → MI → ML → Prop
  | 0 => fun _ _ _ => False
  | fu + 1 => fun x3 I L => (((64 ≤ x3) → ∃ fu0 : Nat, wl_X8_turns_37 X J q  x0 fu0 x1 x2 0 I L) ∧ (¬ (64 ≤ x3) → (∃ r_14 : Nat, J x0 12 = some r_14 ∧ (wp_X8_bit X J 0 0 x3 I L (fun v_17 I_15 L_16 => (wp_X8_bit X J 0 0 x3 I_15 L_16 (fun v_20 I_18 L_19 => (vp_in v_17 (sl X r_14) ∧ ∀ I_22, I_22 = ms I_18 r_14 v_17.toNatClampNeg v_20 → (∀ x3_23 : Int32, x3_23 = x3 + 1 → wl_X8_turns_6 X J q  x0 x1 x2 fu x3_23 I_22 L_19)))))))))
def wp_X8_turns (X : XT) (J : MJ) (x0 : Nat) (I : MI) (L : ML) (q : MI → ML → Prop) : Prop := ∃ fu0 : Nat, wl_X8_turns_6 X J q  x0 1 0 fu0 0 I L
def wj_X8_constants_39 (X : XT) (J : MJ) (q : MI → ML → Prop) (k4 : Int32 → Int32 → MI → ML → Prop) (x0 : Nat) (x1 : Int32) (x2 : Int32)  (I : MI) (L : ML) : Prop := (∀ x2_5 : Int32, x2_5 = x2 + 1 → k4 x1 x2_5 I L)
def wl_X8_constants_4 (X : XT) (J : MJ) (q : MI → ML → Prop)  (x0 : Nat) : Nat → Int32 → Int32 → MI → ML → Prop
  | 0 => fun _ _ _ _ => False
  | fu + 1 => fun x1 x2 I L => (((168 ≤ x2) → q I L) ∧ (¬ (168 ≤ x2) → (∃ r_1 : Nat, J x0 13 = some r_1 ∧ (vp_in x2 (sl X r_1) ∧ ∀ I_3, I_3 = ms I r_1 x2.toNatClampNeg (jb8 (jb8 (x1 &&& 1))) → (∀ x1_4 : Int32, x1_4 = jshl x1 1 → ((((x1_4 &&& 256) = 0) → wj_X8_constants_39 X J q (wl_X8_constants_4 X J q  x0 fu) x0 x1_4 x2  I_3 L) ∧ (¬ ((x1_4 &&& 256) = 0) → (∀ x1_6 : Int32, x1_6 = x1_4 ^^^ 369 → wj_X8_constants_39 X J q (wl_X8_constants_4 X J q  x0 fu) x0 x1_6 x2  I_3 L))))))))
def wp_X8_constants (X : XT) (J : MJ) (x0 : Nat) (I : MI) (L : ML) (q : MI → ML → Prop) : Prop := ∃ fu0 : Nat, wl_X8_constants_4 X J q  x0 fu0 1 0 I L
def wl_X8_theta_69 (X : XT) (J : MJ) (q : MI → ML → Prop) (k55 : Int32 → MI → ML → Prop) (k62 : Int32 → MI → ML → Prop) (x0 : Nat) (x1 : Int32) (x2 : Int32) : Nat → Int32 → MI → ML → Prop
  | 0 => fun _ _ _ => False
  | fu + 1 => fun x3 I L => (((64 ≤ x3) → (∀ x2_2 : Int32, x2_2 = x2 + 1 → k62 x2_2 I L)) ∧ (¬ (64 ≤ x3) → (∃ r_3 : Nat, J x0 11 = some r_3 ∧ (vp_in ((64 * (jrem (x2 + 4) 5)) + x3) (sl X r_3) ∧ (vp_in ((64 * (jrem (x2 + 1) 5)) + (jrem (x3 + 63) 64)) (sl X r_3) ∧ (∀ x4_6 : Int32, x4_6 = (I r_3 ((64 * (jrem (x2 + 4) 5)) + x3).toNatClampNeg) ^^^ (I r_3 ((64 * (jrem (x2 + 1) 5)) + (jrem (x3 + 63) 64)).toNatClampNeg) → (∃ r_7 : Nat, J x0 9 = some r_7 ∧ (wp_X8_bit X J x2 x1 x3 I L (fun v_10 I_8 L_9 => (vp_in v_10 (sl X r_7) ∧ (vp_in v_10 (sl X r_7) ∧ ∀ I_13, I_13 = ms I_8 r_7 v_10.toNatClampNeg (jb8 (jb8 ((I_8 r_7 v_10.toNatClampNeg) ^^^ (jb8 x4_6)))) → (∀ x3_14 : Int32, x3_14 = x3 + 1 → wl_X8_theta_69 X J q k55 k62 x0 x1 x2 fu x3_14 I_13 L_9))))))))))))
def wl_X8_theta_62 (X : XT) (J : MJ) (q : MI → ML → Prop) (k55 : Int32 → MI → ML → Prop) (x0 : Nat) (x1 : Int32) : Nat → Int32 → MI → ML → Prop
  | 0 => fun _ _ _ => False
  | fu + 1 => fun x2 I L => (((5 ≤ x2) → (∀ x1_1 : Int32, x1_1 = x1 + 1 → k55 x1_1 I L)) ∧ (¬ (5 ≤ x2) → ∃ fu0 : Nat, wl_X8_theta_69 X J q k55 (wl_X8_theta_62 X J q k55 x0 x1 fu) x0 x1 x2 fu0 0 I L))
def wl_X8_theta_55 (X : XT) (J : MJ) (q : MI → ML → Prop)  (x0 : Nat) : Nat → Int32 → MI → ML → Prop
  | 0 => fun _ _ _ => False
  | fu + 1 => fun x1 I L => (((5 ≤ x1) → q I L) ∧ (¬ (5 ≤ x1) → ∃ fu0 : Nat, wl_X8_theta_62 X J q (wl_X8_theta_55 X J q  x0 fu) x0 x1 fu0 0 I L))
def wl_X8_theta_13 (X : XT) (J : MJ) (q : MI → ML → Prop) (k2 : Int32 → MI → ML → Prop) (x0 : Nat) (x1 : Int32) : Nat → Int32 → Int32 → MI → ML → Prop
  | 0 => fun _ _ _ _ => False
  | fu + 1 => fun x2 x3 I L => (((5 ≤ x3) → (∃ r_15 : Nat, J x0 11 = some r_15 ∧ (vp_in x1 (sl X r_15) ∧ ∀ I_17, I_17 = ms I r_15 x1.toNatClampNeg (jb8 (jb8 x2)) → (∀ x1_18 : Int32, x1_18 = x1 + 1 → k2 x1_18 I_17 L)))) ∧ (¬ (5 ≤ x3) → (∃ r_19 : Nat, J x0 9 = some r_19 ∧ (vp_in ((320 * x3) + x1) (sl X r_19) ∧ (∀ x2_21 : Int32, x2_21 = x2 ^^^ (I r_19 ((320 * x3) + x1).toNatClampNeg) → (∀ x3_22 : Int32, x3_22 = x3 + 1 → wl_X8_theta_13 X J q k2 x0 x1 fu x2_21 x3_22 I L))))))
def wl_X8_theta_2 (X : XT) (J : MJ) (q : MI → ML → Prop)  (x0 : Nat) : Nat → Int32 → MI → ML → Prop
  | 0 => fun _ _ _ => False
  | fu + 1 => fun x1 I L => (((320 ≤ x1) → ∃ fu0 : Nat, wl_X8_theta_55 X J q  x0 fu0 0 I L) ∧ (¬ (320 ≤ x1) → ∃ fu0 : Nat, wl_X8_theta_13 X J q (wl_X8_theta_2 X J q  x0 fu) x0 x1 fu0 0 0 I L))
def wp_X8_theta (X : XT) (J : MJ) (x0 : Nat) (I : MI) (L : ML) (q : MI → ML → Prop) : Prop := ∃ fu0 : Nat, wl_X8_theta_2 X J q  x0 fu0 0 I L
def wl_X8_round_145 (X : XT) (J : MJ) (q : MI → ML → Prop)  (x0 : Nat) (x1 : Int32) : Nat → Int32 → MI → ML → Prop
  | 0 => fun _ _ _ => False
  | fu + 1 => fun x2 I L => (((7 ≤ x2) → q I L) ∧ (¬ (7 ≤ x2) → (∃ r_3 : Nat, J x0 9 = some r_3 ∧ (vp_in ((jshl 1 x2) - 1) (sl X r_3) ∧ (∃ r_5 : Nat, J x0 13 = some r_5 ∧ (vp_in ((7 * x1) + x2) (sl X r_5) ∧ (vp_in ((jshl 1 x2) - 1) (sl X r_3) ∧ ∀ I_8, I_8 = ms I r_3 ((jshl 1 x2) - 1).toNatClampNeg (jb8 (jb8 ((I r_3 ((jshl 1 x2) - 1).toNatClampNeg) ^^^ (I r_5 ((7 * x1) + x2).toNatClampNeg)))) → (∀ x2_9 : Int32, x2_9 = x2 + 1 → wl_X8_round_145 X J q  x0 x1 fu x2_9 I_8 L))))))))
def wl_X8_round_53 (X : XT) (J : MJ) (q : MI → ML → Prop) (k38 : Int32 → MI → ML → Prop) (k45 : Int32 → MI → ML → Prop) (x0 : Nat) (x1 : Int32) (x2 : Int32) (x3 : Int32) : Nat → Int32 → MI → ML → Prop
  | 0 => fun _ _ _ => False
  | fu + 1 => fun x4 I L => (((64 ≤ x4) → (∀ x3_11 : Int32, x3_11 = x3 + 1 → k45 x3_11 I L)) ∧ (¬ (64 ≤ x4) → (∃ r_12 : Nat, J x0 10 = some r_12 ∧ (wp_X8_bit X J (jrem (x3 + 1) 5) x2 x4 I L (fun v_15 I_13 L_14 => (vp_in v_15 (sl X r_12) ∧ (∀ x5_17 : Int32, x5_17 = (I_13 r_12 v_15.toNatClampNeg) ^^^ 1 → (∃ r_18 : Nat, J x0 9 = some r_18 ∧ (wp_X8_bit X J x3 x2 x4 I_13 L_14 (fun v_21 I_19 L_20 => (wp_X8_bit X J x3 x2 x4 I_19 L_20 (fun v_24 I_22 L_23 => (vp_in v_24 (sl X r_12) ∧ (wp_X8_bit X J (jrem (x3 + 2) 5) x2 x4 I_22 L_23 (fun v_28 I_26 L_27 => (vp_in v_28 (sl X r_12) ∧ (vp_in v_21 (sl X r_18) ∧ ∀ I_31, I_31 = ms I_26 r_18 v_21.toNatClampNeg (jb8 (jb8 ((I_22 r_12 v_24.toNatClampNeg) ^^^ (x5_17 &&& (I_26 r_12 v_28.toNatClampNeg))))) → (∀ x4_32 : Int32, x4_32 = x4 + 1 → wl_X8_round_53 X J q k38 k45 x0 x1 x2 x3 fu x4_32 I_31 L_27))))))))))))))))))
def wl_X8_round_45 (X : XT) (J : MJ) (q : MI → ML → Prop) (k38 : Int32 → MI → ML → Prop) (x0 : Nat) (x1 : Int32) (x2 : Int32) : Nat → Int32 → MI → ML → Prop
  | 0 => fun _ _ _ => False
  | fu + 1 => fun x3 I L => (((5 ≤ x3) → (∀ x2_10 : Int32, x2_10 = x2 + 1 → k38 x2_10 I L)) ∧ (¬ (5 ≤ x3) → ∃ fu0 : Nat, wl_X8_round_53 X J q k38 (wl_X8_round_45 X J q k38 x0 x1 x2 fu) x0 x1 x2 x3 fu0 0 I L))
def wl_X8_round_38 (X : XT) (J : MJ) (q : MI → ML → Prop)  (x0 : Nat) (x1 : Int32) : Nat → Int32 → MI → ML → Prop
  | 0 => fun _ _ _ => False
  | fu + 1 => fun x2 I L => (((5 ≤ x2) → ∃ fu0 : Nat, wl_X8_round_145 X J q  x0 x1 fu0 0 I L) ∧ (¬ (5 ≤ x2) → ∃ fu0 : Nat, wl_X8_round_45 X J q (wl_X8_round_38 X J q  x0 x1 fu) x0 x1 x2 fu0 0 I L))
def wl_X8_round_6 (X : XT) (J : MJ) (q : MI → ML → Prop)  (x0 : Nat) (x1 : Int32) : Nat → Int32 → MI → ML → Prop
  | 0 => fun _ _ _ => False
  | fu + 1 => fun x2 I L => (((1600 ≤ x2) → ∃ fu0 : Nat, wl_X8_round_38 X J q  x0 x1 fu0 0 I L) ∧ (¬ (1600 ≤ x2) → (∃ r_33 : Nat, J x0 10 = some r_33 ∧ (∃ r_34 : Nat, J x0 9 = some r_34 ∧ (∃ r_35 : Nat, J x0 12 = some r_35 ∧ (vp_in x2 (sl X r_35) ∧ (vp_in (I r_35 x2.toNatClampNeg) (sl X r_34) ∧ (vp_in x2 (sl X r_33) ∧ ∀ I_39, I_39 = ms I r_33 x2.toNatClampNeg (jb8 (I r_34 (I r_35 x2.toNatClampNeg).toNatClampNeg)) → (∀ x2_40 : Int32, x2_40 = x2 + 1 → wl_X8_round_6 X J q  x0 x1 fu x2_40 I_39 L)))))))))
def wp_X8_round (X : XT) (J : MJ) (x0 : Nat) (x1 : Int32) (I : MI) (L : ML) (q : MI → ML → Prop) : Prop := (wp_X8_theta X J x0 I L (fun I_1 L_2 => ∃ fu0 : Nat, wl_X8_round_6 X J q  x0 x1 fu0 0 I_1 L_2))
def wl_X8_rounds_2 (X : XT) (J : MJ) (q : MI → ML → Prop)  (x0 : Nat) : Nat → Int32 → MI → ML → Prop
  | 0 => fun _ _ _ => False
  | fu + 1 => fun x1 I L => (((24 ≤ x1) → q I L) ∧ (¬ (24 ≤ x1) → (wp_X8_round X J x0 x1 I L (fun I_1 L_2 => (∀ x1_3 : Int32, x1_3 = x1 + 1 → wl_X8_rounds_2 X J q  x0 fu x1_3 I_1 L_2)))))
def wp_X8_rounds (X : XT) (J : MJ) (x0 : Nat) (I : MI) (L : ML) (q : MI → ML → Prop) : Prop := ∃ fu0 : Nat, wl_X8_rounds_2 X J q  x0 fu0 0 I L
def wp_X8_takes (X : XT) (J : MJ) (x0 : Nat) (x1 : Int32) (I : MI) (L : ML) (q : MI → ML → Prop) : Prop := (∃ r_1 : Nat, J x0 9 = some r_1 ∧ (vp_in (I x0 14) (sl X r_1) ∧ (vp_in (I x0 14) (sl X r_1) ∧ ∀ I_4, I_4 = ms I r_1 (I x0 14).toNatClampNeg (jb8 (jb8 ((I r_1 (I x0 14).toNatClampNeg) ^^^ (jb8 x1)))) → (∀ I_5, I_5 = ms I_4 x0 14 ((I_4 x0 14) + 1) → ((¬ ((I_5 x0 14) = (I_5 x0 15)) → q I_5 L) ∧ (((I_5 x0 14) = (I_5 x0 15)) → (wp_X8_rounds X J x0 I_5 L (fun I_6 L_7 => (∀ I_8, I_8 = ms I_6 x0 14 0 → q I_8 L_7)))))))))
def wj_X8_absorb_124 (X : XT) (J : MJ) (q : MI → ML → Prop)  (x0 : Nat)  (I : MI) (L : ML) : Prop := (wp_X8_takes X J x0 1 I L (fun I_3 L_4 => (∃ r_5 : Nat, J x0 9 = some r_5 ∧ (vp_in ((I_3 x0 15) - 1) (sl X r_5) ∧ (vp_in ((I_3 x0 15) - 1) (sl X r_5) ∧ ∀ I_8, I_8 = ms I_3 r_5 ((I_3 x0 15) - 1).toNatClampNeg (jb8 (jb8 ((I_3 r_5 ((I_3 x0 15) - 1).toNatClampNeg) ^^^ 1))) → (wp_X8_rounds X J x0 I_8 L_4 (fun I_9 L_10 => (∀ I_11, I_11 = ms I_9 x0 14 0 → q I_11 L_10))))))))
def wl_X8_absorb_107 (X : XT) (J : MJ) (q : MI → ML → Prop)  (x0 : Nat) : Nat → Int32 → MI → ML → Prop
  | 0 => fun _ _ _ => False
  | fu + 1 => fun x5 I L => (((4 ≤ x5) → wj_X8_absorb_124 X J q  x0  I L) ∧ (¬ (4 ≤ x5) → (wp_X8_takes X J x0 1 I L (fun I_12 L_13 => (∀ x5_14 : Int32, x5_14 = x5 + 1 → wl_X8_absorb_107 X J q  x0 fu x5_14 I_12 L_13)))))
def wl_X8_absorb_50 (X : XT) (J : MJ) (q : MI → ML → Prop) (k41 : Int32 → MI → ML → Prop) (x0 : Nat) (x2 : Int32) (x3 : Int32) (x4 : Int32) (x5 : Int32) : Nat → Int32 → MI → ML → Prop
  | 0 => fun _ _ _ => False
  | fu + 1 => fun x6 I L => (((8 ≤ x6) → (∀ x5_19 : Int32, x5_19 = x5 + 1 → k41 x5_19 I L)) ∧ (¬ (8 ≤ x6) → (wp_X8_byteAt X J x0 (x2 + x5) I L (fun v_22 I_20 L_21 => (wp_X8_takes X J x0 ((jshr v_22 x6) &&& 1) I_20 L_21 (fun I_23 L_24 => (∀ x6_25 : Int32, x6_25 = x6 + 1 → wl_X8_absorb_50 X J q k41 x0 x2 x3 x4 x5 fu x6_25 I_23 L_24)))))))
def wl_X8_absorb_41 (X : XT) (J : MJ) (q : MI → ML → Prop)  (x0 : Nat) (x2 : Int32) (x3 : Int32) (x4 : Int32) : Nat → Int32 → MI → ML → Prop
  | 0 => fun _ _ _ => False
  | fu + 1 => fun x5 I L => (((x3 ≤ x5) → (((x4 = 0) → ∃ fu0 : Nat, wl_X8_absorb_107 X J q  x0 fu0 0 I L) ∧ (¬ (x4 = 0) → (wp_X8_takes X J x0 0 I L (fun I_15 L_16 => (wp_X8_takes X J x0 1 I_15 L_16 (fun I_17 L_18 => wj_X8_absorb_124 X J q  x0  I_17 L_18))))))) ∧ (¬ (x3 ≤ x5) → ∃ fu0 : Nat, wl_X8_absorb_50 X J q (wl_X8_absorb_41 X J q  x0 x2 x3 x4 fu) x0 x2 x3 x4 x5 fu0 0 I L))
def wl_X8_absorb_16 (X : XT) (J : MJ) (q : MI → ML → Prop)  (x0 : Nat) (x2 : Int32) (x3 : Int32) (x4 : Int32) : Nat → Int32 → MI → ML → Prop
  | 0 => fun _ _ _ => False
  | fu + 1 => fun x5 I L => (((1600 ≤ x5) → ∃ fu0 : Nat, wl_X8_absorb_41 X J q  x0 x2 x3 x4 fu0 0 I L) ∧ (¬ (1600 ≤ x5) → (∃ r_26 : Nat, J x0 9 = some r_26 ∧ (vp_in x5 (sl X r_26) ∧ ∀ I_28, I_28 = ms I r_26 x5.toNatClampNeg (jb8 0) → (∀ x5_29 : Int32, x5_29 = x5 + 1 → wl_X8_absorb_16 X J q  x0 x2 x3 x4 fu x5_29 I_28 L)))))
def wp_X8_absorb (X : XT) (J : MJ) (x0 : Nat) (x1 : Int32) (x2 : Int32) (x3 : Int32) (x4 : Int32) (I : MI) (L : ML) (q : MI → ML → Prop) : Prop := (∀ I_1, I_1 = ms I x0 15 (8 * x1) → (∀ I_2, I_2 = ms I_1 x0 14 0 → ∃ fu0 : Nat, wl_X8_absorb_16 X J q  x0 x2 x3 x4 fu0 0 I_2 L))
def wl_X8_told_24 (X : XT) (J : MJ) (q : Int32 → MI → ML → Prop)  (x0 : Nat) : Nat → Int32 → Int32 → MI → ML → Prop
  | 0 => fun _ _ _ _ => False
  | fu + 1 => fun x1 x2 I L => (((8 ≤ x2) → (∀ I_1, I_1 = ms I x0 14 ((I x0 14) + 8) → q x1 I_1 L)) ∧ (¬ (8 ≤ x2) → (∃ r_2 : Nat, J x0 9 = some r_2 ∧ (vp_in ((I x0 14) + x2) (sl X r_2) ∧ (∀ x1_4 : Int32, x1_4 = x1 ||| (jshl (I r_2 ((I x0 14) + x2).toNatClampNeg) x2) → (∀ x2_5 : Int32, x2_5 = x2 + 1 → wl_X8_told_24 X J q  x0 fu x1_4 x2_5 I L))))))
def wj_X8_told_20 (X : XT) (J : MJ) (q : Int32 → MI → ML → Prop)  (x0 : Nat)  (I : MI) (L : ML) : Prop := ∃ fu0 : Nat, wl_X8_told_24 X J q  x0 fu0 0 0 I L
def wp_X8_told (X : XT) (J : MJ) (x0 : Nat) (I : MI) (L : ML) (q : Int32 → MI → ML → Prop) : Prop := ((¬ ((I x0 14) = (I x0 15)) → wj_X8_told_20 X J q  x0  I L) ∧ (((I x0 14) = (I x0 15)) → (wp_X8_rounds X J x0 I L (fun I_6 L_7 => (∀ I_8, I_8 = ms I_6 x0 14 0 → wj_X8_told_20 X J q  x0  I_8 L_7)))))
def wl_X8_tells_2 (X : XT) (J : MJ) (q : MI → ML → Prop)  (x0 : Nat) (x1 : Int32) (x2 : Int32) : Nat → Int32 → MI → ML → Prop
  | 0 => fun _ _ _ => False
  | fu + 1 => fun x3 I L => (((x2 ≤ x3) → q I L) ∧ (¬ (x2 ≤ x3) → (∃ r_1 : Nat, J x0 0 = some r_1 ∧ (wp_X8_told X J x0 I L (fun v_4 I_2 L_3 => (vp_in (x1 + x3) (sl X r_1) ∧ ∀ I_6, I_6 = ms I_2 r_1 (x1 + x3).toNatClampNeg (jb8 (jb8 v_4)) → (∀ x3_7 : Int32, x3_7 = x3 + 1 → wl_X8_tells_2 X J q  x0 x1 x2 fu x3_7 I_6 L_3)))))))
def wp_X8_tells (X : XT) (J : MJ) (x0 : Nat) (x1 : Int32) (x2 : Int32) (I : MI) (L : ML) (q : MI → ML → Prop) : Prop := ∃ fu0 : Nat, wl_X8_tells_2 X J q  x0 x1 x2 fu0 0 I L
def wl_X8_powers_56 (X : XT) (J : MJ) (q : MI → ML → Prop) (k45 : Int32 → MI → ML → Prop) (x0 : Nat) (x1 : Int32) : Nat → Int32 → Int32 → MI → ML → Prop
  | 0 => fun _ _ _ _ => False
  | fu + 1 => fun x2 x3 I L => (((7 ≤ x3) → (∃ r_4 : Nat, J x0 18 = some r_4 ∧ (vp_in x1 (sl X r_4) ∧ ∀ I_6, I_6 = ms I r_4 x1.toNatClampNeg ((2 * x2) + 1) → (∀ x1_7 : Int32, x1_7 = x1 + 1 → k45 x1_7 I_6 L)))) ∧ (¬ (7 ≤ x3) → (∀ x2_8 : Int32, x2_8 = x2 ||| (jshl ((jshr x1 x3) &&& 1) (6 - x3)) → (∀ x3_9 : Int32, x3_9 = x3 + 1 → wl_X8_powers_56 X J q k45 x0 x1 fu x2_8 x3_9 I L))))
def wl_X8_powers_45 (X : XT) (J : MJ) (q : MI → ML → Prop)  (x0 : Nat) : Nat → Int32 → MI → ML → Prop
  | 0 => fun _ _ _ => False
  | fu + 1 => fun x1 I L => (((128 ≤ x1) → q I L) ∧ (¬ (128 ≤ x1) → ∃ fu0 : Nat, wl_X8_powers_56 X J q (wl_X8_powers_45 X J q  x0 fu) x0 x1 fu0 0 0 I L))
def wl_X8_powers_9 (X : XT) (J : MJ) (q : MI → ML → Prop)  (x0 : Nat) : Nat → Int32 → MI → ML → Prop
  | 0 => fun _ _ _ => False
  | fu + 1 => fun x1 I L => (((256 ≤ x1) → ∃ fu0 : Nat, wl_X8_powers_45 X J q  x0 fu0 0 I L) ∧ (¬ (256 ≤ x1) → (∃ r_10 : Nat, J x0 17 = some r_10 ∧ (vp_in (x1 - 1) (sl X r_10) ∧ (vp_in x1 (sl X r_10) ∧ ∀ I_13, I_13 = ms I r_10 x1.toNatClampNeg (jrem (17 * (I r_10 (x1 - 1).toNatClampNeg)) 3329) → (∀ x1_14 : Int32, x1_14 = x1 + 1 → wl_X8_powers_9 X J q  x0 fu x1_14 I_13 L))))))
def wp_X8_powers (X : XT) (J : MJ) (x0 : Nat) (I : MI) (L : ML) (q : MI → ML → Prop) : Prop := (∃ r_1 : Nat, J x0 17 = some r_1 ∧ (vp_in 0 (sl X r_1) ∧ ∀ I_3, I_3 = ms I r_1 (0 : Int32).toNatClampNeg 1 → ∃ fu0 : Nat, wl_X8_powers_9 X J q  x0 fu0 1 I_3 L))
set_option maxHeartbeats 4000000 in
set_option maxRecDepth 100000 in
theorem n_X8_copy_3 {p : Program} {l : Launch} {e : Env} {s : State} {m : MethodId} {below : List Frame} {meth : Method} {c : Code} {D : va_G} {X : XT} {ad : Nat → Nat} {n : Nat} {A : Nat → Prop} {J : MJ} {av : List Value} {R : Room} (hR : R = ({ frames := 0, cells := 0, slots := 0, locals := 0 } : Room)) (C0 : Cx p s m meth c cX8_copy none 5 yX8_copy av D X ad n A J) {q : MI → ML → Prop}  {x0 : Nat} {x1 : Int32} {x2 : Int32} {x3 : Int32} (t0 : Ty X n x0 9) : ∀ (fu : Nat) (x4 : Int32) (I : MI) (L : ML) (H : Heap) (locs : List Loc) (ls : Array Slot), wl_X8_copy_3 X J q  x0 x1 x2 x3 fu x4 I L → Wd D X ad n A s.heap J I L H locs → lv_has ls 5 [(0, .ref (ad x0)), (1, .int x1), (2, .int x2), (3, .int x3), (4, .int x4)] → W p l e R s m av.toArray below meth c H locs 0 0 (MQ below (QV D X ad n A J q) av.toArray s 0 0 A) (F0 m 3 ls []) := by
  obtain ⟨hx, hb, hr, hml, hown, hlk, hnm, hts, hK, hZ, hA, hWT⟩ := id C0
  subst hR
  intro fu
  induction fu with
  | zero => intro x4 I L H locs ls h; exact absurd h (fun h => h)
  | succ fu ih =>
    intro x4 I L H locs ls h hV hl
    refine lv_iload hx hb dX8_copy_3 (lv_at hl 4 rfl) ?_
    refine lv_iload_n hx hb dX8_copy_5 rfl (lv_at hl 3 rfl) ?_
    refine lv_icmp_ge (tgt := 33) hx hb dX8_copy_6 (by decide) (fun hc => ?_) (fun hc => ?_)
    · replace h := h.1 hc
      exact m_vret hx hb hr hlk hK hZ hA hV h dX8_copy_33
    · replace h := h.2 hc
      refine lv_aload_n hx hb dX8_copy_9 rfl (lv_at hl 0 rfl) ?_
      obtain ⟨r_1, hr_1, h⟩ := h
      have tr_1 : Ty X n r_1 1 := hWT.r (c := 5) (j := 0) t0 rfl hr_1
      refine m_getr (C := RX8) (T := TX8) (N := 19) (ci := 5) hx hb hts iwX8 hown hK hV t0 rfl 0 (by decide) rfl rfl hr_1 (hts _ tw_3_91) (fun _ h9 => h9) dX8_copy_10 ?_
      refine lv_iload_n hx hb dX8_copy_13 rfl (lv_at hl 2 rfl) ?_
      refine lv_iload hx hb dX8_copy_14 (lv_at hl 4 rfl) ?_
      refine lv_iadd hx hb dX8_copy_16 ?_
      refine lv_aload_n hx hb dX8_copy_17 rfl (lv_at hl 0 rfl) ?_
      refine m_getr (C := RX8) (T := TX8) (N := 19) (ci := 5) hx hb hts iwX8 hown hK hV t0 rfl 0 (by decide) rfl rfl hr_1 (hts _ tw_3_91) (fun _ h9 => h9) dX8_copy_18 ?_
      refine lv_iload_n hx hb dX8_copy_21 rfl (lv_at hl 1 rfl) ?_
      refine lv_iload hx hb dX8_copy_22 (lv_at hl 4 rfl) ?_
      refine lv_iadd hx hb dX8_copy_24 ?_
      obtain ⟨hi_2, h⟩ := h
      refine m_bald hx hb hK hV tr_1 hi_2 dX8_copy_25 ?_
      obtain ⟨hi_3, h⟩ := h
      refine m_bast hx hb hK hV tr_1 hi_3 dX8_copy_26 (fun H locs hV => ?_)
      obtain ⟨I_4, eI_4⟩ : ∃ y, y = ms I r_1 (x2 + x4).toNatClampNeg (jb8 (I r_1 (x1 + x4).toNatClampNeg)) := ⟨_, rfl⟩
      replace hV : Wd D X ad n A s.heap J I_4 L H locs := by rw [eI_4]; exact hV
      replace h := h I_4 eI_4
      obtain ⟨x4_5, ex4_5⟩ : ∃ y : Int32, y = x4 + 1 := ⟨_, rfl⟩
      replace h := h x4_5 ex4_5
      refine lv_iinc (v := x4_5) (lv' := [(4, .int x4_5), (0, .ref (ad x0)), (1, .int x1), (2, .int x2), (3, .int x3)]) hx hb dX8_copy_27 hl (k := 4) rfl (by rw [ex4_5]; rfl) (by decide) rfl (fun ls hl => ?_)
      refine lv_goto (tgt := 3) hx hb dX8_copy_30 (by decide) ?_
      exact ih x4_5 _ _ _ _ _ h hV (lv_sub hl [1, 2, 3, 4, 0] rfl)
set_option maxHeartbeats 4000000 in
set_option maxRecDepth 100000 in
theorem s_X8_copy (l : Launch) (D : va_G) (X : XT) (ad : Nat → Nat) (n : Nat) (A : Nat → Prop) (J : MJ) (hWT : WT X n J) (x0 : Nat) (t0 : Ty X n x0 9) (x1 : Int32) (x2 : Int32) (x3 : Int32) (I : MI) (L : ML) (q : MI → ML → Prop) (h : wp_X8_copy X J x0 x1 x2 x3 I L q) : Met l yX8_copy (wz yX8_copy cX8_copy 5 none) ({ frames := 0, cells := 0, slots := 0, locals := 0 } : Room) (va_Pc [.ref (ad x0), .int x1, .int x2, .int x3] (Pr D X ad n A J I L)) (QV D X ad n A J q) 0 0 A := by
  refine Met_go (by decide +kernel) (Nat.le_of_ble_eq_true rfl) (fun p e s m below meth c hx hb hr hml hown hlk hnm hts hK hZ hA hV ls hl => ?_)
  have C0 : Cx p s m meth c cX8_copy none 5 yX8_copy [.ref (ad x0), .int x1, .int x2, .int x3] D X ad n A J := ⟨hx, hb, hr, hml, hown, hlk, hnm, hts, hK, hZ, hA, hWT⟩
  unfold wp_X8_copy at h
  have hl : lv_has ls 5 [(0, .ref (ad x0)), (1, .int x1), (2, .int x2), (3, .int x3)] := hl
  refine lv_iconst (v := 0) hx hb dX8_copy_0 (by decide) ?_
  refine lv_istore (lv' := [(4, .int 0), (0, .ref (ad x0)), (1, .int x1), (2, .int x2), (3, .int x3)]) hx hb dX8_copy_1 hl (by decide) rfl (fun ls hl => ?_)
  obtain ⟨fu0, h⟩ := h
  exact n_X8_copy_3 rfl C0 t0   fu0 0 _ _ _ _ _ h hV (lv_sub hl [1, 2, 3, 4, 0] rfl)
set_option maxHeartbeats 4000000 in
set_option maxRecDepth 100000 in
theorem s_X8_byteAt (l : Launch) (D : va_G) (X : XT) (ad : Nat → Nat) (n : Nat) (A : Nat → Prop) (J : MJ) (hWT : WT X n J) (x0 : Nat) (t0 : Ty X n x0 9) (x1 : Int32) (I : MI) (L : ML) (q : Int32 → MI → ML → Prop) (h : wp_X8_byteAt X J x0 x1 I L q) : Met l yX8_byteAt (wz yX8_byteAt cX8_byteAt 2 (some .int)) ({ frames := 0, cells := 0, slots := 0, locals := 0 } : Room) (va_Pc [.ref (ad x0), .int x1] (Pr D X ad n A J I L)) (QI D X ad n A J q) 0 0 A := by
  refine Met_go (by decide +kernel) (Nat.le_of_ble_eq_true rfl) (fun p e s m below meth c hx hb hr hml hown hlk hnm hts hK hZ hA hV ls hl => ?_)
  have C0 : Cx p s m meth c cX8_byteAt (some .int) 2 yX8_byteAt [.ref (ad x0), .int x1] D X ad n A J := ⟨hx, hb, hr, hml, hown, hlk, hnm, hts, hK, hZ, hA, hWT⟩
  unfold wp_X8_byteAt at h
  have hl : lv_has ls 2 [(0, .ref (ad x0)), (1, .int x1)] := hl
  refine lv_aload_n hx hb dX8_byteAt_0 rfl (lv_at hl 0 rfl) ?_
  obtain ⟨r_1, hr_1, h⟩ := h
  have tr_1 : Ty X n r_1 1 := hWT.r (c := 5) (j := 0) t0 rfl hr_1
  refine m_getr (C := RX8) (T := TX8) (N := 19) (ci := 5) hx hb hts iwX8 hown hK hV t0 rfl 0 (by decide) rfl rfl hr_1 (hts _ tw_3_91) (fun _ h9 => h9) dX8_byteAt_1 ?_
  refine lv_iload_n hx hb dX8_byteAt_4 rfl (lv_at hl 1 rfl) ?_
  obtain ⟨hi_2, h⟩ := h
  refine m_bald hx hb hK hV tr_1 hi_2 dX8_byteAt_5 ?_
  refine lv_sipush (v := 255) hx hb dX8_byteAt_6 (by decide) ?_
  refine lv_iand hx hb dX8_byteAt_9 ?_
  exact m_iret hx hb hr hlk hK hZ hA hV h dX8_byteAt_10
set_option maxHeartbeats 4000000 in
set_option maxRecDepth 100000 in
theorem s_X8_bit (l : Launch) (D : va_G) (X : XT) (ad : Nat → Nat) (n : Nat) (A : Nat → Prop) (J : MJ) (hWT : WT X n J) (x0 : Int32) (x1 : Int32) (x2 : Int32) (I : MI) (L : ML) (q : Int32 → MI → ML → Prop) (h : wp_X8_bit X J x0 x1 x2 I L q) : Met l yX8_bit (wz yX8_bit cX8_bit 3 (some .int)) ({ frames := 0, cells := 0, slots := 0, locals := 0 } : Room) (va_Pc [.int x0, .int x1, .int x2] (Pr D X ad n A J I L)) (QI D X ad n A J q) 0 0 A := by
  refine Met_go (by decide +kernel) (Nat.le_of_ble_eq_true rfl) (fun p e s m below meth c hx hb hr hml hown hlk hnm hts hK hZ hA hV ls hl => ?_)
  have C0 : Cx p s m meth c cX8_bit (some .int) 3 yX8_bit [.int x0, .int x1, .int x2] D X ad n A J := ⟨hx, hb, hr, hml, hown, hlk, hnm, hts, hK, hZ, hA, hWT⟩
  unfold wp_X8_bit at h
  have hl : lv_has ls 3 [(0, .int x0), (1, .int x1), (2, .int x2)] := hl
  refine lv_bipush (v := 64) hx hb dX8_bit_0 (by decide) ?_
  refine lv_iconst (v := 5) hx hb dX8_bit_2 (by decide) ?_
  refine lv_iload_n hx hb dX8_bit_3 rfl (lv_at hl 1 rfl) ?_
  refine lv_imul hx hb dX8_bit_4 ?_
  refine lv_iload_n hx hb dX8_bit_5 rfl (lv_at hl 0 rfl) ?_
  refine lv_iadd hx hb dX8_bit_6 ?_
  refine lv_imul hx hb dX8_bit_7 ?_
  refine lv_iload_n hx hb dX8_bit_8 rfl (lv_at hl 2 rfl) ?_
  refine lv_iadd hx hb dX8_bit_9 ?_
  exact m_iret hx hb hr hlk hK hZ hA hV h dX8_bit_10
set_option maxHeartbeats 4000000 in
set_option maxRecDepth 100000 in
theorem n_X8_turns_60 {p : Program} {l : Launch} {e : Env} {s : State} {m : MethodId} {below : List Frame} {meth : Method} {c : Code} {D : va_G} {X : XT} {ad : Nat → Nat} {n : Nat} {A : Nat → Prop} {J : MJ} {av : List Value} {R : Room} (hR : R = ({ frames := 1, cells := 0, slots := 0, locals := 22 } : Room)) (C0 : Cx p s m meth c cX8_turns none 6 yX8_turns av D X ad n A J) {q : MI → ML → Prop} {k37 : Int32 → Int32 → Int32 → MI → ML → Prop} {x0 : Nat} {x1 : Int32} {x2 : Int32} {x3 : Int32} {x4 : Int32} (t0 : Ty X n x0 9)
    (hk37 : ∀ (x1 : Int32) (x2 : Int32) (x3 : Int32) (I : MI) (L : ML) (H : Heap) (locs : List Loc) (ls : Array Slot), k37 x1 x2 x3 I L → Wd D X ad n A s.heap J I L H locs → lv_has ls 6 [(0, .ref (ad x0)), (1, .int x1), (2, .int x2), (3, .int x3)] → W p l e R s m av.toArray below meth c H locs 0 0 (MQ below (QV D X ad n A J q) av.toArray s 0 0 A) (F0 m 37 ls [])) : ∀ (fu : Nat) (x5 : Int32) (I : MI) (L : ML) (H : Heap) (locs : List Loc) (ls : Array Slot), wl_X8_turns_60 X J q k37 x0 x1 x2 x3 x4 fu x5 I L → Wd D X ad n A s.heap J I L H locs → lv_has ls 6 [(0, .ref (ad x0)), (1, .int x1), (2, .int x2), (3, .int x3), (4, .int x4), (5, .int x5)] → W p l e R s m av.toArray below meth c H locs 0 0 (MQ below (QV D X ad n A J q) av.toArray s 0 0 A) (F0 m 60 ls []) := by
  obtain ⟨hx, hb, hr, hml, hown, hlk, hnm, hts, hK, hZ, hA, hWT⟩ := id C0
  subst hR
  intro fu
  induction fu with
  | zero => intro x5 I L H locs ls h; exact absurd h (fun h => h)
  | succ fu ih =>
    intro x5 I L H locs ls h hV hl
    refine lv_iload hx hb dX8_turns_60 (lv_at hl 5 rfl) ?_
    refine lv_bipush (v := 64) hx hb dX8_turns_62 (by decide) ?_
    refine lv_icmp_ge (tgt := 109) hx hb dX8_turns_64 (by decide) (fun hc => ?_) (fun hc => ?_)
    · replace h := h.1 hc
      refine lv_iconst (v := 2) hx hb dX8_turns_109 (by decide) ?_
      refine lv_iload_n hx hb dX8_turns_110 rfl (lv_at hl 1 rfl) ?_
      refine lv_imul hx hb dX8_turns_111 ?_
      refine lv_iconst (v := 3) hx hb dX8_turns_112 (by decide) ?_
      refine lv_iload_n hx hb dX8_turns_113 rfl (lv_at hl 2 rfl) ?_
      refine lv_imul hx hb dX8_turns_114 ?_
      refine lv_iadd hx hb dX8_turns_115 ?_
      refine lv_iconst (v := 5) hx hb dX8_turns_116 (by decide) ?_
      refine lv_irem hx hb dX8_turns_117 (by decide) ?_
      refine lv_topi (fun x5_2 ex5_2 => ?_)
      replace h := h x5_2 ex5_2
      refine lv_istore (lv' := [(5, .int x5_2), (0, .ref (ad x0)), (1, .int x1), (2, .int x2), (3, .int x3), (4, .int x4)]) hx hb dX8_turns_118 hl (by decide) rfl (fun ls hl => ?_)
      refine lv_iload_n hx hb dX8_turns_120 rfl (lv_at hl 3 rfl) ?_
      refine lv_istore_n (lv' := [(1, .int x2), (5, .int x5_2), (0, .ref (ad x0)), (2, .int x2), (3, .int x3), (4, .int x4)]) hx hb dX8_turns_121 rfl hl (by decide) rfl (fun ls hl => ?_)
      refine lv_iload hx hb dX8_turns_122 (lv_at hl 1 rfl) ?_
      refine lv_istore_n (lv' := [(2, .int x5_2), (1, .int x2), (5, .int x5_2), (0, .ref (ad x0)), (3, .int x3), (4, .int x4)]) hx hb dX8_turns_124 rfl hl (by decide) rfl (fun ls hl => ?_)
      obtain ⟨x3_3, ex3_3⟩ : ∃ y : Int32, y = x3 + 1 := ⟨_, rfl⟩
      replace h := h x3_3 ex3_3
      refine lv_iinc (v := x3_3) (lv' := [(3, .int x3_3), (2, .int x5_2), (1, .int x2), (5, .int x5_2), (0, .ref (ad x0)), (4, .int x4)]) hx hb dX8_turns_125 hl (k := 4) rfl (by rw [ex3_3]; rfl) (by decide) rfl (fun ls hl => ?_)
      refine lv_goto (tgt := 37) hx hb dX8_turns_128 (by decide) ?_
      exact hk37 x2 x5_2 x3_3 _ _ _ _ _ h hV (lv_sub hl [4, 2, 1, 0] rfl)
    · replace h := h.2 hc
      refine lv_aload_n hx hb dX8_turns_67 rfl (lv_at hl 0 rfl) ?_
      obtain ⟨r_4, hr_4, h⟩ := h
      have tr_4 : Ty X n r_4 0 := hWT.r (c := 5) (j := 12) t0 rfl hr_4
      refine m_getr (C := RX8) (T := TX8) (N := 19) (ci := 5) hx hb hts iwX8 hown hK hV t0 rfl 12 (by decide) rfl rfl hr_4 (hts _ tw_3_103) (fun _ h9 => h9) dX8_turns_68 ?_
      refine lv_iload_n hx hb dX8_turns_71 rfl (lv_at hl 2 rfl) ?_
      refine lv_iconst (v := 2) hx hb dX8_turns_72 (by decide) ?_
      refine lv_iload_n hx hb dX8_turns_73 rfl (lv_at hl 1 rfl) ?_
      refine lv_imul hx hb dX8_turns_74 ?_
      refine lv_iconst (v := 3) hx hb dX8_turns_75 (by decide) ?_
      refine lv_iload_n hx hb dX8_turns_76 rfl (lv_at hl 2 rfl) ?_
      refine lv_imul hx hb dX8_turns_77 ?_
      refine lv_iadd hx hb dX8_turns_78 ?_
      refine lv_iconst (v := 5) hx hb dX8_turns_79 (by decide) ?_
      refine lv_irem hx hb dX8_turns_80 (by decide) ?_
      refine lv_iload hx hb dX8_turns_81 (lv_at hl 5 rfl) ?_
      refine k_calli (va_runS (As := [.int x2, .int (jrem ((2 * x1) + (3 * x2)) 5), .int x5]) (rest := [.ref (ad r_4)]) ⟨hx, hb, hml, hown, hts⟩ (s_X8_bit l D X ad n A J hWT x2 (jrem ((2 * x1) + (3 * x2)) 5) x5 I L _ h) (va_cwS 3 hts (gS tw_3_80 tw_3_81 tw_1_9 tw_3_82) rfl rfl rfl (by decide +kernel) (by decide)) (k_preS hK hV hA hZ _) rfl rfl hl.1 rfl (lv_room (Nat.le_of_ble_eq_true rfl)) dX8_turns_83 ⟨Nat.zero_le _, Nat.zero_le _⟩) hV (fun v_7 I_5 L_6 H locs h hV => ?_)
      refine lv_iload_n hx hb dX8_turns_86 rfl (lv_at hl 1 rfl) ?_
      refine lv_iload_n hx hb dX8_turns_87 rfl (lv_at hl 2 rfl) ?_
      refine lv_iload hx hb dX8_turns_88 (lv_at hl 5 rfl) ?_
      refine lv_bipush (v := 64) hx hb dX8_turns_90 (by decide) ?_
      refine lv_iadd hx hb dX8_turns_92 ?_
      refine lv_iload hx hb dX8_turns_93 (lv_at hl 4 rfl) ?_
      refine lv_isub hx hb dX8_turns_95 ?_
      refine lv_bipush (v := 64) hx hb dX8_turns_96 (by decide) ?_
      refine lv_irem hx hb dX8_turns_98 (by decide) ?_
      refine k_calli (va_runS (As := [.int x1, .int x2, .int (jrem ((x5 + 64) - x4) 64)]) (rest := [.int v_7, .ref (ad r_4)]) ⟨hx, hb, hml, hown, hts⟩ (s_X8_bit l D X ad n A J hWT x1 x2 (jrem ((x5 + 64) - x4) 64) I_5 L_6 _ h) (va_cwS 3 hts (gS tw_3_80 tw_3_81 tw_1_9 tw_3_82) rfl rfl rfl (by decide +kernel) (by decide)) (k_preS hK hV hA hZ _) rfl rfl hl.1 rfl (lv_room (Nat.le_of_ble_eq_true rfl)) dX8_turns_99 ⟨Nat.zero_le _, Nat.zero_le _⟩) hV (fun v_10 I_8 L_9 H locs h hV => ?_)
      obtain ⟨hi_11, h⟩ := h
      refine m_iast hx hb hK hV tr_4 hi_11 dX8_turns_102 (fun H locs hV => ?_)
      obtain ⟨I_12, eI_12⟩ : ∃ y, y = ms I_8 r_4 v_7.toNatClampNeg v_10 := ⟨_, rfl⟩
      replace hV : Wd D X ad n A s.heap J I_12 L_9 H locs := by rw [eI_12]; exact hV
      replace h := h I_12 eI_12
      obtain ⟨x5_13, ex5_13⟩ : ∃ y : Int32, y = x5 + 1 := ⟨_, rfl⟩
      replace h := h x5_13 ex5_13
      refine lv_iinc (v := x5_13) (lv' := [(5, .int x5_13), (0, .ref (ad x0)), (1, .int x1), (2, .int x2), (3, .int x3), (4, .int x4)]) hx hb dX8_turns_103 hl (k := 5) rfl (by rw [ex5_13]; rfl) (by decide) rfl (fun ls hl => ?_)
      refine lv_goto (tgt := 60) hx hb dX8_turns_106 (by decide) ?_
      exact ih x5_13 _ _ _ _ _ h hV (lv_sub hl [1, 2, 3, 4, 5, 0] rfl)
set_option maxHeartbeats 4000000 in
set_option maxRecDepth 100000 in
theorem n_X8_turns_37 {p : Program} {l : Launch} {e : Env} {s : State} {m : MethodId} {below : List Frame} {meth : Method} {c : Code} {D : va_G} {X : XT} {ad : Nat → Nat} {n : Nat} {A : Nat → Prop} {J : MJ} {av : List Value} {R : Room} (hR : R = ({ frames := 1, cells := 0, slots := 0, locals := 22 } : Room)) (C0 : Cx p s m meth c cX8_turns none 6 yX8_turns av D X ad n A J) {q : MI → ML → Prop}  {x0 : Nat} (t0 : Ty X n x0 9) : ∀ (fu : Nat) (x1 : Int32) (x2 : Int32) (x3 : Int32) (I : MI) (L : ML) (H : Heap) (locs : List Loc) (ls : Array Slot), wl_X8_turns_37 X J q  x0 fu x1 x2 x3 I L → Wd D X ad n A s.heap J I L H locs → lv_has ls 6 [(0, .ref (ad x0)), (1, .int x1), (2, .int x2), (3, .int x3)] → W p l e R s m av.toArray below meth c H locs 0 0 (MQ below (QV D X ad n A J q) av.toArray s 0 0 A) (F0 m 37 ls []) := by
  obtain ⟨hx, hb, hr, hml, hown, hlk, hnm, hts, hK, hZ, hA, hWT⟩ := id C0
  subst hR
  intro fu
  induction fu with
  | zero => intro x1 x2 x3 I L H locs ls h; exact absurd h (fun h => h)
  | succ fu ih =>
    intro x1 x2 x3 I L H locs ls h hV hl
    refine lv_iload_n hx hb dX8_turns_37 rfl (lv_at hl 3 rfl) ?_
    refine lv_bipush (v := 24) hx hb dX8_turns_38 (by decide) ?_
    refine lv_icmp_ge (tgt := 131) hx hb dX8_turns_40 (by decide) (fun hc => ?_) (fun hc => ?_)
    · replace h := h.1 hc
      exact m_vret hx hb hr hlk hK hZ hA hV h dX8_turns_131
    · replace h := h.2 hc
      refine lv_iload_n hx hb dX8_turns_43 rfl (lv_at hl 3 rfl) ?_
      refine lv_iconst (v := 1) hx hb dX8_turns_44 (by decide) ?_
      refine lv_iadd hx hb dX8_turns_45 ?_
      refine lv_iload_n hx hb dX8_turns_46 rfl (lv_at hl 3 rfl) ?_
      refine lv_iconst (v := 2) hx hb dX8_turns_47 (by decide) ?_
      refine lv_iadd hx hb dX8_turns_48 ?_
      refine lv_imul hx hb dX8_turns_49 ?_
      refine lv_iconst (v := 2) hx hb dX8_turns_50 (by decide) ?_
      refine lv_idiv hx hb dX8_turns_51 (by decide) ?_
      refine lv_bipush (v := 64) hx hb dX8_turns_52 (by decide) ?_
      refine lv_irem hx hb dX8_turns_54 (by decide) ?_
      refine lv_topi (fun x4_1 ex4_1 => ?_)
      replace h := h x4_1 ex4_1
      refine lv_istore (lv' := [(4, .int x4_1), (0, .ref (ad x0)), (1, .int x1), (2, .int x2), (3, .int x3)]) hx hb dX8_turns_55 hl (by decide) rfl (fun ls hl => ?_)
      refine lv_iconst (v := 0) hx hb dX8_turns_57 (by decide) ?_
      refine lv_istore (lv' := [(5, .int 0), (4, .int x4_1), (0, .ref (ad x0)), (1, .int x1), (2, .int x2), (3, .int x3)]) hx hb dX8_turns_58 hl (by decide) rfl (fun ls hl => ?_)
      obtain ⟨fu0, h⟩ := h
      exact n_X8_turns_60 rfl C0 t0  (fun y1 y2 y3 I L H locs ls h hV hl => ih y1 y2 y3 I L H locs ls h hV (lv_sub hl [0, 1, 2, 3] rfl)) fu0 0 _ _ _ _ _ h hV (lv_sub hl [2, 3, 4, 5, 1, 0] rfl)
set_option maxHeartbeats 4000000 in
set_option maxRecDepth 100000 in
theorem n_X8_turns_6 {p : Program} {l : Launch} {e : Env} {s : State} {m : MethodId} {below : List Frame} {meth : Method} {c : Code} {D : va_G} {X : XT} {ad : Nat → Nat} {n : Nat} {A : Nat → Prop} {J : MJ} {av : List Value} {R : Room} (hR : R = ({ frames := 1, cells := 0, slots := 0, locals := 22 } : Room)) (C0 : Cx p s m meth c cX8_turns none 6 yX8_turns av D X ad n A J) {q : MI → ML → Prop}  {x0 : Nat} {x1 : Int32} {x2 : Int32} (t0 : Ty X n x0 9) : ∀ (fu : Nat) (x3 : Int32) (I : MI) (L : ML) (H : Heap) (locs : List Loc) (ls : Array Slot), wl_X8_turns_6 X J q  x0 x1 x2 fu x3 I L → Wd D X ad n A s.heap J I L H locs → lv_has ls 6 [(0, .ref (ad x0)), (1, .int x1), (2, .int x2), (3, .int x3)] → W p l e R s m av.toArray below meth c H locs 0 0 (MQ below (QV D X ad n A J q) av.toArray s 0 0 A) (F0 m 6 ls []) := by
  obtain ⟨hx, hb, hr, hml, hown, hlk, hnm, hts, hK, hZ, hA, hWT⟩ := id C0
  subst hR
  intro fu
  induction fu with
  | zero => intro x3 I L H locs ls h; exact absurd h (fun h => h)
  | succ fu ih =>
    intro x3 I L H locs ls h hV hl
    refine lv_iload_n hx hb dX8_turns_6 rfl (lv_at hl 3 rfl) ?_
    refine lv_bipush (v := 64) hx hb dX8_turns_7 (by decide) ?_
    refine lv_icmp_ge (tgt := 35) hx hb dX8_turns_9 (by decide) (fun hc => ?_) (fun hc => ?_)
    · replace h := h.1 hc
      refine lv_iconst (v := 0) hx hb dX8_turns_35 (by decide) ?_
      refine lv_istore_n (lv' := [(3, .int 0), (0, .ref (ad x0)), (1, .int x1), (2, .int x2)]) hx hb dX8_turns_36 rfl hl (by decide) rfl (fun ls hl => ?_)
      obtain ⟨fu0, h⟩ := h
      exact n_X8_turns_37 rfl C0 t0   fu0 x1 x2 0 _ _ _ _ _ h hV (lv_sub hl [1, 2, 3, 0] rfl)
    · replace h := h.2 hc
      refine lv_aload_n hx hb dX8_turns_12 rfl (lv_at hl 0 rfl) ?_
      obtain ⟨r_14, hr_14, h⟩ := h
      have tr_14 : Ty X n r_14 0 := hWT.r (c := 5) (j := 12) t0 rfl hr_14
      refine m_getr (C := RX8) (T := TX8) (N := 19) (ci := 5) hx hb hts iwX8 hown hK hV t0 rfl 12 (by decide) rfl rfl hr_14 (hts _ tw_3_103) (fun _ h9 => h9) dX8_turns_13 ?_
      refine lv_iconst (v := 0) hx hb dX8_turns_16 (by decide) ?_
      refine lv_iconst (v := 0) hx hb dX8_turns_17 (by decide) ?_
      refine lv_iload_n hx hb dX8_turns_18 rfl (lv_at hl 3 rfl) ?_
      refine k_calli (va_runS (As := [.int 0, .int 0, .int x3]) (rest := [.ref (ad r_14)]) ⟨hx, hb, hml, hown, hts⟩ (s_X8_bit l D X ad n A J hWT 0 0 x3 I L _ h) (va_cwS 3 hts (gS tw_3_80 tw_3_81 tw_1_9 tw_3_82) rfl rfl rfl (by decide +kernel) (by decide)) (k_preS hK hV hA hZ _) rfl rfl hl.1 rfl (lv_room (Nat.le_of_ble_eq_true rfl)) dX8_turns_19 ⟨Nat.zero_le _, Nat.zero_le _⟩) hV (fun v_17 I_15 L_16 H locs h hV => ?_)
      refine lv_iconst (v := 0) hx hb dX8_turns_22 (by decide) ?_
      refine lv_iconst (v := 0) hx hb dX8_turns_23 (by decide) ?_
      refine lv_iload_n hx hb dX8_turns_24 rfl (lv_at hl 3 rfl) ?_
      refine k_calli (va_runS (As := [.int 0, .int 0, .int x3]) (rest := [.int v_17, .ref (ad r_14)]) ⟨hx, hb, hml, hown, hts⟩ (s_X8_bit l D X ad n A J hWT 0 0 x3 I_15 L_16 _ h) (va_cwS 3 hts (gS tw_3_80 tw_3_81 tw_1_9 tw_3_82) rfl rfl rfl (by decide +kernel) (by decide)) (k_preS hK hV hA hZ _) rfl rfl hl.1 rfl (lv_room (Nat.le_of_ble_eq_true rfl)) dX8_turns_25 ⟨Nat.zero_le _, Nat.zero_le _⟩) hV (fun v_20 I_18 L_19 H locs h hV => ?_)
      obtain ⟨hi_21, h⟩ := h
      refine m_iast hx hb hK hV tr_14 hi_21 dX8_turns_28 (fun H locs hV => ?_)
      obtain ⟨I_22, eI_22⟩ : ∃ y, y = ms I_18 r_14 v_17.toNatClampNeg v_20 := ⟨_, rfl⟩
      replace hV : Wd D X ad n A s.heap J I_22 L_19 H locs := by rw [eI_22]; exact hV
      replace h := h I_22 eI_22
      obtain ⟨x3_23, ex3_23⟩ : ∃ y : Int32, y = x3 + 1 := ⟨_, rfl⟩
      replace h := h x3_23 ex3_23
      refine lv_iinc (v := x3_23) (lv' := [(3, .int x3_23), (0, .ref (ad x0)), (1, .int x1), (2, .int x2)]) hx hb dX8_turns_29 hl (k := 3) rfl (by rw [ex3_23]; rfl) (by decide) rfl (fun ls hl => ?_)
      refine lv_goto (tgt := 6) hx hb dX8_turns_32 (by decide) ?_
      exact ih x3_23 _ _ _ _ _ h hV (lv_sub hl [1, 2, 3, 0] rfl)
set_option maxHeartbeats 4000000 in
set_option maxRecDepth 100000 in
theorem s_X8_turns (l : Launch) (D : va_G) (X : XT) (ad : Nat → Nat) (n : Nat) (A : Nat → Prop) (J : MJ) (hWT : WT X n J) (x0 : Nat) (t0 : Ty X n x0 9) (I : MI) (L : ML) (q : MI → ML → Prop) (h : wp_X8_turns X J x0 I L q) : Met l yX8_turns (wz yX8_turns cX8_turns 6 none) ({ frames := 1, cells := 0, slots := 0, locals := 22 } : Room) (va_Pc [.ref (ad x0)] (Pr D X ad n A J I L)) (QV D X ad n A J q) 0 0 A := by
  refine Met_go (by decide +kernel) (Nat.le_of_ble_eq_true rfl) (fun p e s m below meth c hx hb hr hml hown hlk hnm hts hK hZ hA hV ls hl => ?_)
  have C0 : Cx p s m meth c cX8_turns none 6 yX8_turns [.ref (ad x0)] D X ad n A J := ⟨hx, hb, hr, hml, hown, hlk, hnm, hts, hK, hZ, hA, hWT⟩
  unfold wp_X8_turns at h
  have hl : lv_has ls 6 [(0, .ref (ad x0))] := hl
  refine lv_iconst (v := 1) hx hb dX8_turns_0 (by decide) ?_
  refine lv_istore_n (lv' := [(1, .int 1), (0, .ref (ad x0))]) hx hb dX8_turns_1 rfl hl (by decide) rfl (fun ls hl => ?_)
  refine lv_iconst (v := 0) hx hb dX8_turns_2 (by decide) ?_
  refine lv_istore_n (lv' := [(2, .int 0), (1, .int 1), (0, .ref (ad x0))]) hx hb dX8_turns_3 rfl hl (by decide) rfl (fun ls hl => ?_)
  refine lv_iconst (v := 0) hx hb dX8_turns_4 (by decide) ?_
  refine lv_istore_n (lv' := [(3, .int 0), (2, .int 0), (1, .int 1), (0, .ref (ad x0))]) hx hb dX8_turns_5 rfl hl (by decide) rfl (fun ls hl => ?_)
  obtain ⟨fu0, h⟩ := h
  exact n_X8_turns_6 rfl C0 t0   fu0 0 _ _ _ _ _ h hV (lv_sub hl [3, 2, 1, 0] rfl)
set_option maxHeartbeats 4000000 in
set_option maxRecDepth 100000 in
theorem n_X8_constants_39 {p : Program} {l : Launch} {e : Env} {s : State} {m : MethodId} {below : List Frame} {meth : Method} {c : Code} {D : va_G} {X : XT} {ad : Nat → Nat} {n : Nat} {A : Nat → Prop} {J : MJ} {av : List Value} {R : Room} (hR : R = ({ frames := 0, cells := 0, slots := 0, locals := 0 } : Room)) (C0 : Cx p s m meth c cX8_constants none 3 yX8_constants av D X ad n A J) {q : MI → ML → Prop} {k4 : Int32 → Int32 → MI → ML → Prop} {x0 : Nat} {x1 : Int32} {x2 : Int32}  {I : MI} {L : ML} {H : Heap} {locs : List Loc} {ls : Array Slot} (t0 : Ty X n x0 9)
    (hk4 : ∀ (x1 : Int32) (x2 : Int32) (I : MI) (L : ML) (H : Heap) (locs : List Loc) (ls : Array Slot), k4 x1 x2 I L → Wd D X ad n A s.heap J I L H locs → lv_has ls 3 [(0, .ref (ad x0)), (1, .int x1), (2, .int x2)] → W p l e R s m av.toArray below meth c H locs 0 0 (MQ below (QV D X ad n A J q) av.toArray s 0 0 A) (F0 m 4 ls [])) (h : wj_X8_constants_39 X J q k4 x0 x1 x2  I L) (hV : Wd D X ad n A s.heap J I L H locs) (hl : lv_has ls 3 [(0, .ref (ad x0)), (1, .int x1), (2, .int x2)]) : W p l e R s m av.toArray below meth c H locs 0 0 (MQ below (QV D X ad n A J q) av.toArray s 0 0 A) (F0 m 39 ls []) := by
  obtain ⟨hx, hb, hr, hml, hown, hlk, hnm, hts, hK, hZ, hA, hWT⟩ := id C0
  subst hR
  unfold wj_X8_constants_39 at h
  obtain ⟨x2_5, ex2_5⟩ : ∃ y : Int32, y = x2 + 1 := ⟨_, rfl⟩
  replace h := h x2_5 ex2_5
  refine lv_iinc (v := x2_5) (lv' := [(2, .int x2_5), (0, .ref (ad x0)), (1, .int x1)]) hx hb dX8_constants_39 hl (k := 2) rfl (by rw [ex2_5]; rfl) (by decide) rfl (fun ls hl => ?_)
  refine lv_goto (tgt := 4) hx hb dX8_constants_42 (by decide) ?_
  exact hk4 x1 x2_5 _ _ _ _ _ h hV (lv_sub hl [1, 2, 0] rfl)
set_option maxHeartbeats 4000000 in
set_option maxRecDepth 100000 in
theorem n_X8_constants_4 {p : Program} {l : Launch} {e : Env} {s : State} {m : MethodId} {below : List Frame} {meth : Method} {c : Code} {D : va_G} {X : XT} {ad : Nat → Nat} {n : Nat} {A : Nat → Prop} {J : MJ} {av : List Value} {R : Room} (hR : R = ({ frames := 0, cells := 0, slots := 0, locals := 0 } : Room)) (C0 : Cx p s m meth c cX8_constants none 3 yX8_constants av D X ad n A J) {q : MI → ML → Prop}  {x0 : Nat} (t0 : Ty X n x0 9) : ∀ (fu : Nat) (x1 : Int32) (x2 : Int32) (I : MI) (L : ML) (H : Heap) (locs : List Loc) (ls : Array Slot), wl_X8_constants_4 X J q  x0 fu x1 x2 I L → Wd D X ad n A s.heap J I L H locs → lv_has ls 3 [(0, .ref (ad x0)), (1, .int x1), (2, .int x2)] → W p l e R s m av.toArray below meth c H locs 0 0 (MQ below (QV D X ad n A J q) av.toArray s 0 0 A) (F0 m 4 ls []) := by
  obtain ⟨hx, hb, hr, hml, hown, hlk, hnm, hts, hK, hZ, hA, hWT⟩ := id C0
  subst hR
  intro fu
  induction fu with
  | zero => intro x1 x2 I L H locs ls h; exact absurd h (fun h => h)
  | succ fu ih =>
    intro x1 x2 I L H locs ls h hV hl
    refine lv_iload_n hx hb dX8_constants_4 rfl (lv_at hl 2 rfl) ?_
    refine lv_sipush (v := 168) hx hb dX8_constants_5 (by decide) ?_
    refine lv_icmp_ge (tgt := 45) hx hb dX8_constants_8 (by decide) (fun hc => ?_) (fun hc => ?_)
    · replace h := h.1 hc
      exact m_vret hx hb hr hlk hK hZ hA hV h dX8_constants_45
    · replace h := h.2 hc
      refine lv_aload_n hx hb dX8_constants_11 rfl (lv_at hl 0 rfl) ?_
      obtain ⟨r_1, hr_1, h⟩ := h
      have tr_1 : Ty X n r_1 1 := hWT.r (c := 5) (j := 13) t0 rfl hr_1
      refine m_getr (C := RX8) (T := TX8) (N := 19) (ci := 5) hx hb hts iwX8 hown hK hV t0 rfl 13 (by decide) rfl rfl hr_1 (hts _ tw_3_104) (fun _ h9 => h9) dX8_constants_12 ?_
      refine lv_iload_n hx hb dX8_constants_15 rfl (lv_at hl 2 rfl) ?_
      refine lv_iload_n hx hb dX8_constants_16 rfl (lv_at hl 1 rfl) ?_
      refine lv_iconst (v := 1) hx hb dX8_constants_17 (by decide) ?_
      refine lv_iand hx hb dX8_constants_18 ?_
      refine lv_i2b hx hb dX8_constants_19 rfl ?_
      obtain ⟨hi_2, h⟩ := h
      refine m_bast hx hb hK hV tr_1 hi_2 dX8_constants_20 (fun H locs hV => ?_)
      obtain ⟨I_3, eI_3⟩ : ∃ y, y = ms I r_1 x2.toNatClampNeg (jb8 (jb8 (x1 &&& 1))) := ⟨_, rfl⟩
      replace hV : Wd D X ad n A s.heap J I_3 L H locs := by rw [eI_3]; exact hV
      replace h := h I_3 eI_3
      refine lv_iload_n hx hb dX8_constants_21 rfl (lv_at hl 1 rfl) ?_
      refine lv_iconst (v := 1) hx hb dX8_constants_22 (by decide) ?_
      refine lv_ishl hx hb dX8_constants_23 ?_
      refine lv_topi (fun x1_4 ex1_4 => ?_)
      replace h := h x1_4 ex1_4
      refine lv_istore_n (lv' := [(1, .int x1_4), (0, .ref (ad x0)), (2, .int x2)]) hx hb dX8_constants_24 rfl hl (by decide) rfl (fun ls hl => ?_)
      refine lv_iload_n hx hb dX8_constants_25 rfl (lv_at hl 0 rfl) ?_
      refine lv_sipush (v := 256) hx hb dX8_constants_26 (by decide) ?_
      refine lv_iand hx hb dX8_constants_29 ?_
      refine lv_if_eq (tgt := 39) hx hb dX8_constants_30 (by decide) (fun hc => ?_) (fun hc => ?_)
      · replace h := h.1 hc
        exact n_X8_constants_39 rfl C0 t0  (fun y1 y2 I L H locs ls h hV hl => ih y1 y2 I L H locs ls h hV (lv_sub hl [0, 1, 2] rfl)) h hV (lv_sub hl [1, 0, 2] rfl)
      · replace h := h.2 hc
        refine lv_iload_n hx hb dX8_constants_33 rfl (lv_at hl 0 rfl) ?_
        refine lv_sipush (v := 369) hx hb dX8_constants_34 (by decide) ?_
        refine lv_ixor hx hb dX8_constants_37 ?_
        refine lv_topi (fun x1_6 ex1_6 => ?_)
        replace h := h x1_6 ex1_6
        refine lv_istore_n (lv' := [(1, .int x1_6), (0, .ref (ad x0)), (2, .int x2)]) hx hb dX8_constants_38 rfl hl (by decide) rfl (fun ls hl => ?_)
        exact n_X8_constants_39 rfl C0 t0  (fun y1 y2 I L H locs ls h hV hl => ih y1 y2 I L H locs ls h hV (lv_sub hl [0, 1, 2] rfl)) h hV (lv_sub hl [1, 0, 2] rfl)
set_option maxHeartbeats 4000000 in
set_option maxRecDepth 100000 in
theorem s_X8_constants (l : Launch) (D : va_G) (X : XT) (ad : Nat → Nat) (n : Nat) (A : Nat → Prop) (J : MJ) (hWT : WT X n J) (x0 : Nat) (t0 : Ty X n x0 9) (I : MI) (L : ML) (q : MI → ML → Prop) (h : wp_X8_constants X J x0 I L q) : Met l yX8_constants (wz yX8_constants cX8_constants 3 none) ({ frames := 0, cells := 0, slots := 0, locals := 0 } : Room) (va_Pc [.ref (ad x0)] (Pr D X ad n A J I L)) (QV D X ad n A J q) 0 0 A := by
  refine Met_go (by decide +kernel) (Nat.le_of_ble_eq_true rfl) (fun p e s m below meth c hx hb hr hml hown hlk hnm hts hK hZ hA hV ls hl => ?_)
  have C0 : Cx p s m meth c cX8_constants none 3 yX8_constants [.ref (ad x0)] D X ad n A J := ⟨hx, hb, hr, hml, hown, hlk, hnm, hts, hK, hZ, hA, hWT⟩
  unfold wp_X8_constants at h
  have hl : lv_has ls 3 [(0, .ref (ad x0))] := hl
  refine lv_iconst (v := 1) hx hb dX8_constants_0 (by decide) ?_
  refine lv_istore_n (lv' := [(1, .int 1), (0, .ref (ad x0))]) hx hb dX8_constants_1 rfl hl (by decide) rfl (fun ls hl => ?_)
  refine lv_iconst (v := 0) hx hb dX8_constants_2 (by decide) ?_
  refine lv_istore_n (lv' := [(2, .int 0), (1, .int 1), (0, .ref (ad x0))]) hx hb dX8_constants_3 rfl hl (by decide) rfl (fun ls hl => ?_)
  obtain ⟨fu0, h⟩ := h
  exact n_X8_constants_4 rfl C0 t0   fu0 1 0 _ _ _ _ _ h hV (lv_sub hl [2, 1, 0] rfl)
set_option maxHeartbeats 4000000 in
set_option maxRecDepth 100000 in
theorem n_X8_theta_69 {p : Program} {l : Launch} {e : Env} {s : State} {m : MethodId} {below : List Frame} {meth : Method} {c : Code} {D : va_G} {X : XT} {ad : Nat → Nat} {n : Nat} {A : Nat → Prop} {J : MJ} {av : List Value} {R : Room} (hR : R = ({ frames := 1, cells := 0, slots := 0, locals := 22 } : Room)) (C0 : Cx p s m meth c cX8_theta none 5 yX8_theta av D X ad n A J) {q : MI → ML → Prop} {k55 : Int32 → MI → ML → Prop} {k62 : Int32 → MI → ML → Prop} {x0 : Nat} {x1 : Int32} {x2 : Int32} (t0 : Ty X n x0 9)
    (hk55 : ∀ (x1 : Int32) (I : MI) (L : ML) (H : Heap) (locs : List Loc) (ls : Array Slot), k55 x1 I L → Wd D X ad n A s.heap J I L H locs → lv_has ls 5 [(0, .ref (ad x0)), (1, .int x1)] → W p l e R s m av.toArray below meth c H locs 0 0 (MQ below (QV D X ad n A J q) av.toArray s 0 0 A) (F0 m 55 ls []))
    (hk62 : ∀ (x2 : Int32) (I : MI) (L : ML) (H : Heap) (locs : List Loc) (ls : Array Slot), k62 x2 I L → Wd D X ad n A s.heap J I L H locs → lv_has ls 5 [(0, .ref (ad x0)), (1, .int x1), (2, .int x2)] → W p l e R s m av.toArray below meth c H locs 0 0 (MQ below (QV D X ad n A J q) av.toArray s 0 0 A) (F0 m 62 ls [])) : ∀ (fu : Nat) (x3 : Int32) (I : MI) (L : ML) (H : Heap) (locs : List Loc) (ls : Array Slot), wl_X8_theta_69 X J q k55 k62 x0 x1 x2 fu x3 I L → Wd D X ad n A s.heap J I L H locs → lv_has ls 5 [(0, .ref (ad x0)), (1, .int x1), (2, .int x2), (3, .int x3)] → W p l e R s m av.toArray below meth c H locs 0 0 (MQ below (QV D X ad n A J q) av.toArray s 0 0 A) (F0 m 69 ls []) := by
  obtain ⟨hx, hb, hr, hml, hown, hlk, hnm, hts, hK, hZ, hA, hWT⟩ := id C0
  subst hR
  intro fu
  induction fu with
  | zero => intro x3 I L H locs ls h; exact absurd h (fun h => h)
  | succ fu ih =>
    intro x3 I L H locs ls h hV hl
    refine lv_iload_n hx hb dX8_theta_69 rfl (lv_at hl 3 rfl) ?_
    refine lv_bipush (v := 64) hx hb dX8_theta_70 (by decide) ?_
    refine lv_icmp_ge (tgt := 138) hx hb dX8_theta_72 (by decide) (fun hc => ?_) (fun hc => ?_)
    · replace h := h.1 hc
      obtain ⟨x2_2, ex2_2⟩ : ∃ y : Int32, y = x2 + 1 := ⟨_, rfl⟩
      replace h := h x2_2 ex2_2
      refine lv_iinc (v := x2_2) (lv' := [(2, .int x2_2), (0, .ref (ad x0)), (1, .int x1), (3, .int x3)]) hx hb dX8_theta_138 hl (k := 2) rfl (by rw [ex2_2]; rfl) (by decide) rfl (fun ls hl => ?_)
      refine lv_goto (tgt := 62) hx hb dX8_theta_141 (by decide) ?_
      exact hk62 x2_2 _ _ _ _ _ h hV (lv_sub hl [1, 2, 0] rfl)
    · replace h := h.2 hc
      refine lv_aload_n hx hb dX8_theta_75 rfl (lv_at hl 0 rfl) ?_
      obtain ⟨r_3, hr_3, h⟩ := h
      have tr_3 : Ty X n r_3 1 := hWT.r (c := 5) (j := 11) t0 rfl hr_3
      refine m_getr (C := RX8) (T := TX8) (N := 19) (ci := 5) hx hb hts iwX8 hown hK hV t0 rfl 11 (by decide) rfl rfl hr_3 (hts _ tw_3_102) (fun _ h9 => h9) dX8_theta_76 ?_
      refine lv_bipush (v := 64) hx hb dX8_theta_79 (by decide) ?_
      refine lv_iload_n hx hb dX8_theta_81 rfl (lv_at hl 2 rfl) ?_
      refine lv_iconst (v := 4) hx hb dX8_theta_82 (by decide) ?_
      refine lv_iadd hx hb dX8_theta_83 ?_
      refine lv_iconst (v := 5) hx hb dX8_theta_84 (by decide) ?_
      refine lv_irem hx hb dX8_theta_85 (by decide) ?_
      refine lv_imul hx hb dX8_theta_86 ?_
      refine lv_iload_n hx hb dX8_theta_87 rfl (lv_at hl 3 rfl) ?_
      refine lv_iadd hx hb dX8_theta_88 ?_
      obtain ⟨hi_4, h⟩ := h
      refine m_bald hx hb hK hV tr_3 hi_4 dX8_theta_89 ?_
      refine lv_aload_n hx hb dX8_theta_90 rfl (lv_at hl 0 rfl) ?_
      refine m_getr (C := RX8) (T := TX8) (N := 19) (ci := 5) hx hb hts iwX8 hown hK hV t0 rfl 11 (by decide) rfl rfl hr_3 (hts _ tw_3_102) (fun _ h9 => h9) dX8_theta_91 ?_
      refine lv_bipush (v := 64) hx hb dX8_theta_94 (by decide) ?_
      refine lv_iload_n hx hb dX8_theta_96 rfl (lv_at hl 2 rfl) ?_
      refine lv_iconst (v := 1) hx hb dX8_theta_97 (by decide) ?_
      refine lv_iadd hx hb dX8_theta_98 ?_
      refine lv_iconst (v := 5) hx hb dX8_theta_99 (by decide) ?_
      refine lv_irem hx hb dX8_theta_100 (by decide) ?_
      refine lv_imul hx hb dX8_theta_101 ?_
      refine lv_iload_n hx hb dX8_theta_102 rfl (lv_at hl 3 rfl) ?_
      refine lv_bipush (v := 63) hx hb dX8_theta_103 (by decide) ?_
      refine lv_iadd hx hb dX8_theta_105 ?_
      refine lv_bipush (v := 64) hx hb dX8_theta_106 (by decide) ?_
      refine lv_irem hx hb dX8_theta_108 (by decide) ?_
      refine lv_iadd hx hb dX8_theta_109 ?_
      obtain ⟨hi_5, h⟩ := h
      refine m_bald hx hb hK hV tr_3 hi_5 dX8_theta_110 ?_
      refine lv_ixor hx hb dX8_theta_111 ?_
      refine lv_topi (fun x4_6 ex4_6 => ?_)
      replace h := h x4_6 ex4_6
      refine lv_istore (lv' := [(4, .int x4_6), (0, .ref (ad x0)), (1, .int x1), (2, .int x2), (3, .int x3)]) hx hb dX8_theta_112 hl (by decide) rfl (fun ls hl => ?_)
      refine lv_aload_n hx hb dX8_theta_114 rfl (lv_at hl 1 rfl) ?_
      obtain ⟨r_7, hr_7, h⟩ := h
      have tr_7 : Ty X n r_7 1 := hWT.r (c := 5) (j := 9) t0 rfl hr_7
      refine m_getr (C := RX8) (T := TX8) (N := 19) (ci := 5) hx hb hts iwX8 hown hK hV t0 rfl 9 (by decide) rfl rfl hr_7 (hts _ tw_3_100) (fun _ h9 => h9) dX8_theta_115 ?_
      refine lv_iload_n hx hb dX8_theta_118 rfl (lv_at hl 3 rfl) ?_
      refine lv_iload_n hx hb dX8_theta_119 rfl (lv_at hl 2 rfl) ?_
      refine lv_iload_n hx hb dX8_theta_120 rfl (lv_at hl 4 rfl) ?_
      refine k_calli (va_runS (As := [.int x2, .int x1, .int x3]) (rest := [.ref (ad r_7)]) ⟨hx, hb, hml, hown, hts⟩ (s_X8_bit l D X ad n A J hWT x2 x1 x3 I L _ h) (va_cwS 3 hts (gS tw_3_80 tw_3_81 tw_1_9 tw_3_82) rfl rfl rfl (by decide +kernel) (by decide)) (k_preS hK hV hA hZ _) rfl rfl hl.1 rfl (lv_room (Nat.le_of_ble_eq_true rfl)) dX8_theta_121 ⟨Nat.zero_le _, Nat.zero_le _⟩) hV (fun v_10 I_8 L_9 H locs h hV => ?_)
      refine lv_dup2_11 hx hb dX8_theta_124 rfl rfl ?_
      obtain ⟨hi_11, h⟩ := h
      refine m_bald hx hb hK hV tr_7 hi_11 dX8_theta_125 ?_
      refine lv_iload hx hb dX8_theta_126 (lv_at hl 0 rfl) ?_
      refine lv_i2b hx hb dX8_theta_128 rfl ?_
      refine lv_ixor hx hb dX8_theta_129 ?_
      refine lv_i2b hx hb dX8_theta_130 rfl ?_
      obtain ⟨hi_12, h⟩ := h
      refine m_bast hx hb hK hV tr_7 hi_12 dX8_theta_131 (fun H locs hV => ?_)
      obtain ⟨I_13, eI_13⟩ : ∃ y, y = ms I_8 r_7 v_10.toNatClampNeg (jb8 (jb8 ((I_8 r_7 v_10.toNatClampNeg) ^^^ (jb8 x4_6)))) := ⟨_, rfl⟩
      replace hV : Wd D X ad n A s.heap J I_13 L_9 H locs := by rw [eI_13]; exact hV
      replace h := h I_13 eI_13
      obtain ⟨x3_14, ex3_14⟩ : ∃ y : Int32, y = x3 + 1 := ⟨_, rfl⟩
      replace h := h x3_14 ex3_14
      refine lv_iinc (v := x3_14) (lv' := [(3, .int x3_14), (4, .int x4_6), (0, .ref (ad x0)), (1, .int x1), (2, .int x2)]) hx hb dX8_theta_132 hl (k := 4) rfl (by rw [ex3_14]; rfl) (by decide) rfl (fun ls hl => ?_)
      refine lv_goto (tgt := 69) hx hb dX8_theta_135 (by decide) ?_
      exact ih x3_14 _ _ _ _ _ h hV (lv_sub hl [2, 3, 4, 0] rfl)
set_option maxHeartbeats 4000000 in
set_option maxRecDepth 100000 in
theorem n_X8_theta_62 {p : Program} {l : Launch} {e : Env} {s : State} {m : MethodId} {below : List Frame} {meth : Method} {c : Code} {D : va_G} {X : XT} {ad : Nat → Nat} {n : Nat} {A : Nat → Prop} {J : MJ} {av : List Value} {R : Room} (hR : R = ({ frames := 1, cells := 0, slots := 0, locals := 22 } : Room)) (C0 : Cx p s m meth c cX8_theta none 5 yX8_theta av D X ad n A J) {q : MI → ML → Prop} {k55 : Int32 → MI → ML → Prop} {x0 : Nat} {x1 : Int32} (t0 : Ty X n x0 9)
    (hk55 : ∀ (x1 : Int32) (I : MI) (L : ML) (H : Heap) (locs : List Loc) (ls : Array Slot), k55 x1 I L → Wd D X ad n A s.heap J I L H locs → lv_has ls 5 [(0, .ref (ad x0)), (1, .int x1)] → W p l e R s m av.toArray below meth c H locs 0 0 (MQ below (QV D X ad n A J q) av.toArray s 0 0 A) (F0 m 55 ls [])) : ∀ (fu : Nat) (x2 : Int32) (I : MI) (L : ML) (H : Heap) (locs : List Loc) (ls : Array Slot), wl_X8_theta_62 X J q k55 x0 x1 fu x2 I L → Wd D X ad n A s.heap J I L H locs → lv_has ls 5 [(0, .ref (ad x0)), (1, .int x1), (2, .int x2)] → W p l e R s m av.toArray below meth c H locs 0 0 (MQ below (QV D X ad n A J q) av.toArray s 0 0 A) (F0 m 62 ls []) := by
  obtain ⟨hx, hb, hr, hml, hown, hlk, hnm, hts, hK, hZ, hA, hWT⟩ := id C0
  subst hR
  intro fu
  induction fu with
  | zero => intro x2 I L H locs ls h; exact absurd h (fun h => h)
  | succ fu ih =>
    intro x2 I L H locs ls h hV hl
    refine lv_iload_n hx hb dX8_theta_62 rfl (lv_at hl 2 rfl) ?_
    refine lv_iconst (v := 5) hx hb dX8_theta_63 (by decide) ?_
    refine lv_icmp_ge (tgt := 144) hx hb dX8_theta_64 (by decide) (fun hc => ?_) (fun hc => ?_)
    · replace h := h.1 hc
      obtain ⟨x1_1, ex1_1⟩ : ∃ y : Int32, y = x1 + 1 := ⟨_, rfl⟩
      replace h := h x1_1 ex1_1
      refine lv_iinc (v := x1_1) (lv' := [(1, .int x1_1), (0, .ref (ad x0)), (2, .int x2)]) hx hb dX8_theta_144 hl (k := 1) rfl (by rw [ex1_1]; rfl) (by decide) rfl (fun ls hl => ?_)
      refine lv_goto (tgt := 55) hx hb dX8_theta_147 (by decide) ?_
      exact hk55 x1_1 _ _ _ _ _ h hV (lv_sub hl [1, 0] rfl)
    · replace h := h.2 hc
      refine lv_iconst (v := 0) hx hb dX8_theta_67 (by decide) ?_
      refine lv_istore_n (lv' := [(3, .int 0), (0, .ref (ad x0)), (1, .int x1), (2, .int x2)]) hx hb dX8_theta_68 rfl hl (by decide) rfl (fun ls hl => ?_)
      obtain ⟨fu0, h⟩ := h
      exact n_X8_theta_69 rfl C0 t0  hk55 (fun y2 I L H locs ls h hV hl => ih y2 I L H locs ls h hV (lv_sub hl [0, 1, 2] rfl)) fu0 0 _ _ _ _ _ h hV (lv_sub hl [1, 2, 3, 0] rfl)
set_option maxHeartbeats 4000000 in
set_option maxRecDepth 100000 in
theorem n_X8_theta_55 {p : Program} {l : Launch} {e : Env} {s : State} {m : MethodId} {below : List Frame} {meth : Method} {c : Code} {D : va_G} {X : XT} {ad : Nat → Nat} {n : Nat} {A : Nat → Prop} {J : MJ} {av : List Value} {R : Room} (hR : R = ({ frames := 1, cells := 0, slots := 0, locals := 22 } : Room)) (C0 : Cx p s m meth c cX8_theta none 5 yX8_theta av D X ad n A J) {q : MI → ML → Prop}  {x0 : Nat} (t0 : Ty X n x0 9) : ∀ (fu : Nat) (x1 : Int32) (I : MI) (L : ML) (H : Heap) (locs : List Loc) (ls : Array Slot), wl_X8_theta_55 X J q  x0 fu x1 I L → Wd D X ad n A s.heap J I L H locs → lv_has ls 5 [(0, .ref (ad x0)), (1, .int x1)] → W p l e R s m av.toArray below meth c H locs 0 0 (MQ below (QV D X ad n A J q) av.toArray s 0 0 A) (F0 m 55 ls []) := by
  obtain ⟨hx, hb, hr, hml, hown, hlk, hnm, hts, hK, hZ, hA, hWT⟩ := id C0
  subst hR
  intro fu
  induction fu with
  | zero => intro x1 I L H locs ls h; exact absurd h (fun h => h)
  | succ fu ih =>
    intro x1 I L H locs ls h hV hl
    refine lv_iload_n hx hb dX8_theta_55 rfl (lv_at hl 1 rfl) ?_
    refine lv_iconst (v := 5) hx hb dX8_theta_56 (by decide) ?_
    refine lv_icmp_ge (tgt := 150) hx hb dX8_theta_57 (by decide) (fun hc => ?_) (fun hc => ?_)
    · replace h := h.1 hc
      exact m_vret hx hb hr hlk hK hZ hA hV h dX8_theta_150
    · replace h := h.2 hc
      refine lv_iconst (v := 0) hx hb dX8_theta_60 (by decide) ?_
      refine lv_istore_n (lv' := [(2, .int 0), (0, .ref (ad x0)), (1, .int x1)]) hx hb dX8_theta_61 rfl hl (by decide) rfl (fun ls hl => ?_)
      obtain ⟨fu0, h⟩ := h
      exact n_X8_theta_62 rfl C0 t0  (fun y1 I L H locs ls h hV hl => ih y1 I L H locs ls h hV (lv_sub hl [0, 1] rfl)) fu0 0 _ _ _ _ _ h hV (lv_sub hl [1, 2, 0] rfl)
set_option maxHeartbeats 4000000 in
set_option maxRecDepth 100000 in
theorem n_X8_theta_13 {p : Program} {l : Launch} {e : Env} {s : State} {m : MethodId} {below : List Frame} {meth : Method} {c : Code} {D : va_G} {X : XT} {ad : Nat → Nat} {n : Nat} {A : Nat → Prop} {J : MJ} {av : List Value} {R : Room} (hR : R = ({ frames := 1, cells := 0, slots := 0, locals := 22 } : Room)) (C0 : Cx p s m meth c cX8_theta none 5 yX8_theta av D X ad n A J) {q : MI → ML → Prop} {k2 : Int32 → MI → ML → Prop} {x0 : Nat} {x1 : Int32} (t0 : Ty X n x0 9)
    (hk2 : ∀ (x1 : Int32) (I : MI) (L : ML) (H : Heap) (locs : List Loc) (ls : Array Slot), k2 x1 I L → Wd D X ad n A s.heap J I L H locs → lv_has ls 5 [(0, .ref (ad x0)), (1, .int x1)] → W p l e R s m av.toArray below meth c H locs 0 0 (MQ below (QV D X ad n A J q) av.toArray s 0 0 A) (F0 m 2 ls [])) : ∀ (fu : Nat) (x2 : Int32) (x3 : Int32) (I : MI) (L : ML) (H : Heap) (locs : List Loc) (ls : Array Slot), wl_X8_theta_13 X J q k2 x0 x1 fu x2 x3 I L → Wd D X ad n A s.heap J I L H locs → lv_has ls 5 [(0, .ref (ad x0)), (1, .int x1), (2, .int x2), (3, .int x3)] → W p l e R s m av.toArray below meth c H locs 0 0 (MQ below (QV D X ad n A J q) av.toArray s 0 0 A) (F0 m 13 ls []) := by
  obtain ⟨hx, hb, hr, hml, hown, hlk, hnm, hts, hK, hZ, hA, hWT⟩ := id C0
  subst hR
  intro fu
  induction fu with
  | zero => intro x2 x3 I L H locs ls h; exact absurd h (fun h => h)
  | succ fu ih =>
    intro x2 x3 I L H locs ls h hV hl
    refine lv_iload_n hx hb dX8_theta_13 rfl (lv_at hl 3 rfl) ?_
    refine lv_iconst (v := 5) hx hb dX8_theta_14 (by decide) ?_
    refine lv_icmp_ge (tgt := 39) hx hb dX8_theta_15 (by decide) (fun hc => ?_) (fun hc => ?_)
    · replace h := h.1 hc
      refine lv_aload_n hx hb dX8_theta_39 rfl (lv_at hl 0 rfl) ?_
      obtain ⟨r_15, hr_15, h⟩ := h
      have tr_15 : Ty X n r_15 1 := hWT.r (c := 5) (j := 11) t0 rfl hr_15
      refine m_getr (C := RX8) (T := TX8) (N := 19) (ci := 5) hx hb hts iwX8 hown hK hV t0 rfl 11 (by decide) rfl rfl hr_15 (hts _ tw_3_102) (fun _ h9 => h9) dX8_theta_40 ?_
      refine lv_iload_n hx hb dX8_theta_43 rfl (lv_at hl 1 rfl) ?_
      refine lv_iload_n hx hb dX8_theta_44 rfl (lv_at hl 2 rfl) ?_
      refine lv_i2b hx hb dX8_theta_45 rfl ?_
      obtain ⟨hi_16, h⟩ := h
      refine m_bast hx hb hK hV tr_15 hi_16 dX8_theta_46 (fun H locs hV => ?_)
      obtain ⟨I_17, eI_17⟩ : ∃ y, y = ms I r_15 x1.toNatClampNeg (jb8 (jb8 x2)) := ⟨_, rfl⟩
      replace hV : Wd D X ad n A s.heap J I_17 L H locs := by rw [eI_17]; exact hV
      replace h := h I_17 eI_17
      obtain ⟨x1_18, ex1_18⟩ : ∃ y : Int32, y = x1 + 1 := ⟨_, rfl⟩
      replace h := h x1_18 ex1_18
      refine lv_iinc (v := x1_18) (lv' := [(1, .int x1_18), (0, .ref (ad x0)), (2, .int x2), (3, .int x3)]) hx hb dX8_theta_47 hl (k := 1) rfl (by rw [ex1_18]; rfl) (by decide) rfl (fun ls hl => ?_)
      refine lv_goto (tgt := 2) hx hb dX8_theta_50 (by decide) ?_
      exact hk2 x1_18 _ _ _ _ _ h hV (lv_sub hl [1, 0] rfl)
    · replace h := h.2 hc
      refine lv_iload_n hx hb dX8_theta_18 rfl (lv_at hl 2 rfl) ?_
      refine lv_aload_n hx hb dX8_theta_19 rfl (lv_at hl 0 rfl) ?_
      obtain ⟨r_19, hr_19, h⟩ := h
      have tr_19 : Ty X n r_19 1 := hWT.r (c := 5) (j := 9) t0 rfl hr_19
      refine m_getr (C := RX8) (T := TX8) (N := 19) (ci := 5) hx hb hts iwX8 hown hK hV t0 rfl 9 (by decide) rfl rfl hr_19 (hts _ tw_3_100) (fun _ h9 => h9) dX8_theta_20 ?_
      refine lv_sipush (v := 320) hx hb dX8_theta_23 (by decide) ?_
      refine lv_iload_n hx hb dX8_theta_26 rfl (lv_at hl 3 rfl) ?_
      refine lv_imul hx hb dX8_theta_27 ?_
      refine lv_iload_n hx hb dX8_theta_28 rfl (lv_at hl 1 rfl) ?_
      refine lv_iadd hx hb dX8_theta_29 ?_
      obtain ⟨hi_20, h⟩ := h
      refine m_bald hx hb hK hV tr_19 hi_20 dX8_theta_30 ?_
      refine lv_ixor hx hb dX8_theta_31 ?_
      refine lv_topi (fun x2_21 ex2_21 => ?_)
      replace h := h x2_21 ex2_21
      refine lv_istore_n (lv' := [(2, .int x2_21), (0, .ref (ad x0)), (1, .int x1), (3, .int x3)]) hx hb dX8_theta_32 rfl hl (by decide) rfl (fun ls hl => ?_)
      obtain ⟨x3_22, ex3_22⟩ : ∃ y : Int32, y = x3 + 1 := ⟨_, rfl⟩
      replace h := h x3_22 ex3_22
      refine lv_iinc (v := x3_22) (lv' := [(3, .int x3_22), (2, .int x2_21), (0, .ref (ad x0)), (1, .int x1)]) hx hb dX8_theta_33 hl (k := 3) rfl (by rw [ex3_22]; rfl) (by decide) rfl (fun ls hl => ?_)
      refine lv_goto (tgt := 13) hx hb dX8_theta_36 (by decide) ?_
      exact ih x2_21 x3_22 _ _ _ _ _ h hV (lv_sub hl [2, 3, 1, 0] rfl)
set_option maxHeartbeats 4000000 in
set_option maxRecDepth 100000 in
theorem n_X8_theta_2 {p : Program} {l : Launch} {e : Env} {s : State} {m : MethodId} {below : List Frame} {meth : Method} {c : Code} {D : va_G} {X : XT} {ad : Nat → Nat} {n : Nat} {A : Nat → Prop} {J : MJ} {av : List Value} {R : Room} (hR : R = ({ frames := 1, cells := 0, slots := 0, locals := 22 } : Room)) (C0 : Cx p s m meth c cX8_theta none 5 yX8_theta av D X ad n A J) {q : MI → ML → Prop}  {x0 : Nat} (t0 : Ty X n x0 9) : ∀ (fu : Nat) (x1 : Int32) (I : MI) (L : ML) (H : Heap) (locs : List Loc) (ls : Array Slot), wl_X8_theta_2 X J q  x0 fu x1 I L → Wd D X ad n A s.heap J I L H locs → lv_has ls 5 [(0, .ref (ad x0)), (1, .int x1)] → W p l e R s m av.toArray below meth c H locs 0 0 (MQ below (QV D X ad n A J q) av.toArray s 0 0 A) (F0 m 2 ls []) := by
  obtain ⟨hx, hb, hr, hml, hown, hlk, hnm, hts, hK, hZ, hA, hWT⟩ := id C0
  subst hR
  intro fu
  induction fu with
  | zero => intro x1 I L H locs ls h; exact absurd h (fun h => h)
  | succ fu ih =>
    intro x1 I L H locs ls h hV hl
    refine lv_iload_n hx hb dX8_theta_2 rfl (lv_at hl 1 rfl) ?_
    refine lv_sipush (v := 320) hx hb dX8_theta_3 (by decide) ?_
    refine lv_icmp_ge (tgt := 53) hx hb dX8_theta_6 (by decide) (fun hc => ?_) (fun hc => ?_)
    · replace h := h.1 hc
      refine lv_iconst (v := 0) hx hb dX8_theta_53 (by decide) ?_
      refine lv_istore_n (lv' := [(1, .int 0), (0, .ref (ad x0))]) hx hb dX8_theta_54 rfl hl (by decide) rfl (fun ls hl => ?_)
      obtain ⟨fu0, h⟩ := h
      exact n_X8_theta_55 rfl C0 t0   fu0 0 _ _ _ _ _ h hV (lv_sub hl [1, 0] rfl)
    · replace h := h.2 hc
      refine lv_iconst (v := 0) hx hb dX8_theta_9 (by decide) ?_
      refine lv_istore_n (lv' := [(2, .int 0), (0, .ref (ad x0)), (1, .int x1)]) hx hb dX8_theta_10 rfl hl (by decide) rfl (fun ls hl => ?_)
      refine lv_iconst (v := 0) hx hb dX8_theta_11 (by decide) ?_
      refine lv_istore_n (lv' := [(3, .int 0), (2, .int 0), (0, .ref (ad x0)), (1, .int x1)]) hx hb dX8_theta_12 rfl hl (by decide) rfl (fun ls hl => ?_)
      obtain ⟨fu0, h⟩ := h
      exact n_X8_theta_13 rfl C0 t0  (fun y1 I L H locs ls h hV hl => ih y1 I L H locs ls h hV (lv_sub hl [0, 1] rfl)) fu0 0 0 _ _ _ _ _ h hV (lv_sub hl [2, 3, 1, 0] rfl)
set_option maxHeartbeats 4000000 in
set_option maxRecDepth 100000 in
theorem s_X8_theta (l : Launch) (D : va_G) (X : XT) (ad : Nat → Nat) (n : Nat) (A : Nat → Prop) (J : MJ) (hWT : WT X n J) (x0 : Nat) (t0 : Ty X n x0 9) (I : MI) (L : ML) (q : MI → ML → Prop) (h : wp_X8_theta X J x0 I L q) : Met l yX8_theta (wz yX8_theta cX8_theta 5 none) ({ frames := 1, cells := 0, slots := 0, locals := 22 } : Room) (va_Pc [.ref (ad x0)] (Pr D X ad n A J I L)) (QV D X ad n A J q) 0 0 A := by
  refine Met_go (by decide +kernel) (Nat.le_of_ble_eq_true rfl) (fun p e s m below meth c hx hb hr hml hown hlk hnm hts hK hZ hA hV ls hl => ?_)
  have C0 : Cx p s m meth c cX8_theta none 5 yX8_theta [.ref (ad x0)] D X ad n A J := ⟨hx, hb, hr, hml, hown, hlk, hnm, hts, hK, hZ, hA, hWT⟩
  unfold wp_X8_theta at h
  have hl : lv_has ls 5 [(0, .ref (ad x0))] := hl
  refine lv_iconst (v := 0) hx hb dX8_theta_0 (by decide) ?_
  refine lv_istore_n (lv' := [(1, .int 0), (0, .ref (ad x0))]) hx hb dX8_theta_1 rfl hl (by decide) rfl (fun ls hl => ?_)
  obtain ⟨fu0, h⟩ := h
  exact n_X8_theta_2 rfl C0 t0   fu0 0 _ _ _ _ _ h hV (lv_sub hl [1, 0] rfl)
set_option maxHeartbeats 4000000 in
set_option maxRecDepth 100000 in
theorem n_X8_round_145 {p : Program} {l : Launch} {e : Env} {s : State} {m : MethodId} {below : List Frame} {meth : Method} {c : Code} {D : va_G} {X : XT} {ad : Nat → Nat} {n : Nat} {A : Nat → Prop} {J : MJ} {av : List Value} {R : Room} (hR : R = ({ frames := 2, cells := 0, slots := 0, locals := 46 } : Room)) (C0 : Cx p s m meth c cX8_round none 6 yX8_round av D X ad n A J) {q : MI → ML → Prop}  {x0 : Nat} {x1 : Int32} (t0 : Ty X n x0 9) : ∀ (fu : Nat) (x2 : Int32) (I : MI) (L : ML) (H : Heap) (locs : List Loc) (ls : Array Slot), wl_X8_round_145 X J q  x0 x1 fu x2 I L → Wd D X ad n A s.heap J I L H locs → lv_has ls 6 [(0, .ref (ad x0)), (1, .int x1), (2, .int x2)] → W p l e R s m av.toArray below meth c H locs 0 0 (MQ below (QV D X ad n A J q) av.toArray s 0 0 A) (F0 m 145 ls []) := by
  obtain ⟨hx, hb, hr, hml, hown, hlk, hnm, hts, hK, hZ, hA, hWT⟩ := id C0
  subst hR
  intro fu
  induction fu with
  | zero => intro x2 I L H locs ls h; exact absurd h (fun h => h)
  | succ fu ih =>
    intro x2 I L H locs ls h hV hl
    refine lv_iload_n hx hb dX8_round_145 rfl (lv_at hl 2 rfl) ?_
    refine lv_bipush (v := 7) hx hb dX8_round_146 (by decide) ?_
    refine lv_icmp_ge (tgt := 182) hx hb dX8_round_148 (by decide) (fun hc => ?_) (fun hc => ?_)
    · replace h := h.1 hc
      exact m_vret hx hb hr hlk hK hZ hA hV h dX8_round_182
    · replace h := h.2 hc
      refine lv_aload_n hx hb dX8_round_151 rfl (lv_at hl 0 rfl) ?_
      obtain ⟨r_3, hr_3, h⟩ := h
      have tr_3 : Ty X n r_3 1 := hWT.r (c := 5) (j := 9) t0 rfl hr_3
      refine m_getr (C := RX8) (T := TX8) (N := 19) (ci := 5) hx hb hts iwX8 hown hK hV t0 rfl 9 (by decide) rfl rfl hr_3 (hts _ tw_3_100) (fun _ h9 => h9) dX8_round_152 ?_
      refine lv_iconst (v := 1) hx hb dX8_round_155 (by decide) ?_
      refine lv_iload_n hx hb dX8_round_156 rfl (lv_at hl 2 rfl) ?_
      refine lv_ishl hx hb dX8_round_157 ?_
      refine lv_iconst (v := 1) hx hb dX8_round_158 (by decide) ?_
      refine lv_isub hx hb dX8_round_159 ?_
      refine lv_dup2_11 hx hb dX8_round_160 rfl rfl ?_
      obtain ⟨hi_4, h⟩ := h
      refine m_bald hx hb hK hV tr_3 hi_4 dX8_round_161 ?_
      refine lv_aload_n hx hb dX8_round_162 rfl (lv_at hl 0 rfl) ?_
      obtain ⟨r_5, hr_5, h⟩ := h
      have tr_5 : Ty X n r_5 1 := hWT.r (c := 5) (j := 13) t0 rfl hr_5
      refine m_getr (C := RX8) (T := TX8) (N := 19) (ci := 5) hx hb hts iwX8 hown hK hV t0 rfl 13 (by decide) rfl rfl hr_5 (hts _ tw_3_104) (fun _ h9 => h9) dX8_round_163 ?_
      refine lv_bipush (v := 7) hx hb dX8_round_166 (by decide) ?_
      refine lv_iload_n hx hb dX8_round_168 rfl (lv_at hl 1 rfl) ?_
      refine lv_imul hx hb dX8_round_169 ?_
      refine lv_iload_n hx hb dX8_round_170 rfl (lv_at hl 2 rfl) ?_
      refine lv_iadd hx hb dX8_round_171 ?_
      obtain ⟨hi_6, h⟩ := h
      refine m_bald hx hb hK hV tr_5 hi_6 dX8_round_172 ?_
      refine lv_ixor hx hb dX8_round_173 ?_
      refine lv_i2b hx hb dX8_round_174 rfl ?_
      obtain ⟨hi_7, h⟩ := h
      refine m_bast hx hb hK hV tr_3 hi_7 dX8_round_175 (fun H locs hV => ?_)
      obtain ⟨I_8, eI_8⟩ : ∃ y, y = ms I r_3 ((jshl 1 x2) - 1).toNatClampNeg (jb8 (jb8 ((I r_3 ((jshl 1 x2) - 1).toNatClampNeg) ^^^ (I r_5 ((7 * x1) + x2).toNatClampNeg)))) := ⟨_, rfl⟩
      replace hV : Wd D X ad n A s.heap J I_8 L H locs := by rw [eI_8]; exact hV
      replace h := h I_8 eI_8
      obtain ⟨x2_9, ex2_9⟩ : ∃ y : Int32, y = x2 + 1 := ⟨_, rfl⟩
      replace h := h x2_9 ex2_9
      refine lv_iinc (v := x2_9) (lv' := [(2, .int x2_9), (0, .ref (ad x0)), (1, .int x1)]) hx hb dX8_round_176 hl (k := 2) rfl (by rw [ex2_9]; rfl) (by decide) rfl (fun ls hl => ?_)
      refine lv_goto (tgt := 145) hx hb dX8_round_179 (by decide) ?_
      exact ih x2_9 _ _ _ _ _ h hV (lv_sub hl [1, 2, 0] rfl)
set_option maxHeartbeats 4000000 in
set_option maxRecDepth 100000 in
theorem n_X8_round_53 {p : Program} {l : Launch} {e : Env} {s : State} {m : MethodId} {below : List Frame} {meth : Method} {c : Code} {D : va_G} {X : XT} {ad : Nat → Nat} {n : Nat} {A : Nat → Prop} {J : MJ} {av : List Value} {R : Room} (hR : R = ({ frames := 2, cells := 0, slots := 0, locals := 46 } : Room)) (C0 : Cx p s m meth c cX8_round none 6 yX8_round av D X ad n A J) {q : MI → ML → Prop} {k38 : Int32 → MI → ML → Prop} {k45 : Int32 → MI → ML → Prop} {x0 : Nat} {x1 : Int32} {x2 : Int32} {x3 : Int32} (t0 : Ty X n x0 9)
    (hk38 : ∀ (x2 : Int32) (I : MI) (L : ML) (H : Heap) (locs : List Loc) (ls : Array Slot), k38 x2 I L → Wd D X ad n A s.heap J I L H locs → lv_has ls 6 [(0, .ref (ad x0)), (1, .int x1), (2, .int x2)] → W p l e R s m av.toArray below meth c H locs 0 0 (MQ below (QV D X ad n A J q) av.toArray s 0 0 A) (F0 m 38 ls []))
    (hk45 : ∀ (x3 : Int32) (I : MI) (L : ML) (H : Heap) (locs : List Loc) (ls : Array Slot), k45 x3 I L → Wd D X ad n A s.heap J I L H locs → lv_has ls 6 [(0, .ref (ad x0)), (1, .int x1), (2, .int x2), (3, .int x3)] → W p l e R s m av.toArray below meth c H locs 0 0 (MQ below (QV D X ad n A J q) av.toArray s 0 0 A) (F0 m 45 ls [])) : ∀ (fu : Nat) (x4 : Int32) (I : MI) (L : ML) (H : Heap) (locs : List Loc) (ls : Array Slot), wl_X8_round_53 X J q k38 k45 x0 x1 x2 x3 fu x4 I L → Wd D X ad n A s.heap J I L H locs → lv_has ls 6 [(0, .ref (ad x0)), (1, .int x1), (2, .int x2), (3, .int x3), (4, .int x4)] → W p l e R s m av.toArray below meth c H locs 0 0 (MQ below (QV D X ad n A J q) av.toArray s 0 0 A) (F0 m 53 ls []) := by
  obtain ⟨hx, hb, hr, hml, hown, hlk, hnm, hts, hK, hZ, hA, hWT⟩ := id C0
  subst hR
  intro fu
  induction fu with
  | zero => intro x4 I L H locs ls h; exact absurd h (fun h => h)
  | succ fu ih =>
    intro x4 I L H locs ls h hV hl
    refine lv_iload hx hb dX8_round_53 (lv_at hl 4 rfl) ?_
    refine lv_bipush (v := 64) hx hb dX8_round_55 (by decide) ?_
    refine lv_icmp_ge (tgt := 131) hx hb dX8_round_57 (by decide) (fun hc => ?_) (fun hc => ?_)
    · replace h := h.1 hc
      obtain ⟨x3_11, ex3_11⟩ : ∃ y : Int32, y = x3 + 1 := ⟨_, rfl⟩
      replace h := h x3_11 ex3_11
      refine lv_iinc (v := x3_11) (lv' := [(3, .int x3_11), (0, .ref (ad x0)), (1, .int x1), (2, .int x2), (4, .int x4)]) hx hb dX8_round_131 hl (k := 3) rfl (by rw [ex3_11]; rfl) (by decide) rfl (fun ls hl => ?_)
      refine lv_goto (tgt := 45) hx hb dX8_round_134 (by decide) ?_
      exact hk45 x3_11 _ _ _ _ _ h hV (lv_sub hl [1, 2, 3, 0] rfl)
    · replace h := h.2 hc
      refine lv_aload_n hx hb dX8_round_60 rfl (lv_at hl 0 rfl) ?_
      obtain ⟨r_12, hr_12, h⟩ := h
      have tr_12 : Ty X n r_12 1 := hWT.r (c := 5) (j := 10) t0 rfl hr_12
      refine m_getr (C := RX8) (T := TX8) (N := 19) (ci := 5) hx hb hts iwX8 hown hK hV t0 rfl 10 (by decide) rfl rfl hr_12 (hts _ tw_3_101) (fun _ h9 => h9) dX8_round_61 ?_
      refine lv_iload_n hx hb dX8_round_64 rfl (lv_at hl 3 rfl) ?_
      refine lv_iconst (v := 1) hx hb dX8_round_65 (by decide) ?_
      refine lv_iadd hx hb dX8_round_66 ?_
      refine lv_iconst (v := 5) hx hb dX8_round_67 (by decide) ?_
      refine lv_irem hx hb dX8_round_68 (by decide) ?_
      refine lv_iload_n hx hb dX8_round_69 rfl (lv_at hl 2 rfl) ?_
      refine lv_iload hx hb dX8_round_70 (lv_at hl 4 rfl) ?_
      refine k_calli (va_runS (As := [.int (jrem (x3 + 1) 5), .int x2, .int x4]) (rest := [.ref (ad r_12)]) ⟨hx, hb, hml, hown, hts⟩ (s_X8_bit l D X ad n A J hWT (jrem (x3 + 1) 5) x2 x4 I L _ h) (va_cwS 3 hts (gS tw_3_80 tw_3_81 tw_1_9 tw_3_82) rfl rfl rfl (by decide +kernel) (by decide)) (k_preS hK hV hA hZ _) rfl rfl hl.1 rfl (lv_room (Nat.le_of_ble_eq_true rfl)) dX8_round_72 ⟨Nat.zero_le _, Nat.zero_le _⟩) hV (fun v_15 I_13 L_14 H locs h hV => ?_)
      obtain ⟨hi_16, h⟩ := h
      refine m_bald hx hb hK hV tr_12 hi_16 dX8_round_75 ?_
      refine lv_iconst (v := 1) hx hb dX8_round_76 (by decide) ?_
      refine lv_ixor hx hb dX8_round_77 ?_
      refine lv_topi (fun x5_17 ex5_17 => ?_)
      replace h := h x5_17 ex5_17
      refine lv_istore (lv' := [(5, .int x5_17), (0, .ref (ad x0)), (1, .int x1), (2, .int x2), (3, .int x3), (4, .int x4)]) hx hb dX8_round_78 hl (by decide) rfl (fun ls hl => ?_)
      refine lv_aload_n hx hb dX8_round_80 rfl (lv_at hl 1 rfl) ?_
      obtain ⟨r_18, hr_18, h⟩ := h
      have tr_18 : Ty X n r_18 1 := hWT.r (c := 5) (j := 9) t0 rfl hr_18
      refine m_getr (C := RX8) (T := TX8) (N := 19) (ci := 5) hx hb hts iwX8 hown hK hV t0 rfl 9 (by decide) rfl rfl hr_18 (hts _ tw_3_100) (fun _ h9 => h9) dX8_round_81 ?_
      refine lv_iload_n hx hb dX8_round_84 rfl (lv_at hl 4 rfl) ?_
      refine lv_iload_n hx hb dX8_round_85 rfl (lv_at hl 3 rfl) ?_
      refine lv_iload hx hb dX8_round_86 (lv_at hl 5 rfl) ?_
      refine k_calli (va_runS (As := [.int x3, .int x2, .int x4]) (rest := [.ref (ad r_18)]) ⟨hx, hb, hml, hown, hts⟩ (s_X8_bit l D X ad n A J hWT x3 x2 x4 I_13 L_14 _ h) (va_cwS 3 hts (gS tw_3_80 tw_3_81 tw_1_9 tw_3_82) rfl rfl rfl (by decide +kernel) (by decide)) (k_preS hK hV hA hZ _) rfl rfl hl.1 rfl (lv_room (Nat.le_of_ble_eq_true rfl)) dX8_round_88 ⟨Nat.zero_le _, Nat.zero_le _⟩) hV (fun v_21 I_19 L_20 H locs h hV => ?_)
      refine lv_aload_n hx hb dX8_round_91 rfl (lv_at hl 1 rfl) ?_
      refine m_getr (C := RX8) (T := TX8) (N := 19) (ci := 5) hx hb hts iwX8 hown hK hV t0 rfl 10 (by decide) rfl rfl hr_12 (hts _ tw_3_101) (fun _ h9 => h9) dX8_round_92 ?_
      refine lv_iload_n hx hb dX8_round_95 rfl (lv_at hl 4 rfl) ?_
      refine lv_iload_n hx hb dX8_round_96 rfl (lv_at hl 3 rfl) ?_
      refine lv_iload hx hb dX8_round_97 (lv_at hl 5 rfl) ?_
      refine k_calli (va_runS (As := [.int x3, .int x2, .int x4]) (rest := [.ref (ad r_12), .int v_21, .ref (ad r_18)]) ⟨hx, hb, hml, hown, hts⟩ (s_X8_bit l D X ad n A J hWT x3 x2 x4 I_19 L_20 _ h) (va_cwS 3 hts (gS tw_3_80 tw_3_81 tw_1_9 tw_3_82) rfl rfl rfl (by decide +kernel) (by decide)) (k_preS hK hV hA hZ _) rfl rfl hl.1 rfl (lv_room (Nat.le_of_ble_eq_true rfl)) dX8_round_99 ⟨Nat.zero_le _, Nat.zero_le _⟩) hV (fun v_24 I_22 L_23 H locs h hV => ?_)
      obtain ⟨hi_25, h⟩ := h
      refine m_bald hx hb hK hV tr_12 hi_25 dX8_round_102 ?_
      refine lv_iload hx hb dX8_round_103 (lv_at hl 0 rfl) ?_
      refine lv_aload_n hx hb dX8_round_105 rfl (lv_at hl 1 rfl) ?_
      refine m_getr (C := RX8) (T := TX8) (N := 19) (ci := 5) hx hb hts iwX8 hown hK hV t0 rfl 10 (by decide) rfl rfl hr_12 (hts _ tw_3_101) (fun _ h9 => h9) dX8_round_106 ?_
      refine lv_iload_n hx hb dX8_round_109 rfl (lv_at hl 4 rfl) ?_
      refine lv_iconst (v := 2) hx hb dX8_round_110 (by decide) ?_
      refine lv_iadd hx hb dX8_round_111 ?_
      refine lv_iconst (v := 5) hx hb dX8_round_112 (by decide) ?_
      refine lv_irem hx hb dX8_round_113 (by decide) ?_
      refine lv_iload_n hx hb dX8_round_114 rfl (lv_at hl 3 rfl) ?_
      refine lv_iload hx hb dX8_round_115 (lv_at hl 5 rfl) ?_
      refine k_calli (va_runS (As := [.int (jrem (x3 + 2) 5), .int x2, .int x4]) (rest := [.ref (ad r_12), .int x5_17, .int (I_22 r_12 v_24.toNatClampNeg), .int v_21, .ref (ad r_18)]) ⟨hx, hb, hml, hown, hts⟩ (s_X8_bit l D X ad n A J hWT (jrem (x3 + 2) 5) x2 x4 I_22 L_23 _ h) (va_cwS 3 hts (gS tw_3_80 tw_3_81 tw_1_9 tw_3_82) rfl rfl rfl (by decide +kernel) (by decide)) (k_preS hK hV hA hZ _) rfl rfl hl.1 rfl (lv_room (Nat.le_of_ble_eq_true rfl)) dX8_round_117 ⟨Nat.zero_le _, Nat.zero_le _⟩) hV (fun v_28 I_26 L_27 H locs h hV => ?_)
      obtain ⟨hi_29, h⟩ := h
      refine m_bald hx hb hK hV tr_12 hi_29 dX8_round_120 ?_
      refine lv_iand hx hb dX8_round_121 ?_
      refine lv_ixor hx hb dX8_round_122 ?_
      refine lv_i2b hx hb dX8_round_123 rfl ?_
      obtain ⟨hi_30, h⟩ := h
      refine m_bast hx hb hK hV tr_18 hi_30 dX8_round_124 (fun H locs hV => ?_)
      obtain ⟨I_31, eI_31⟩ : ∃ y, y = ms I_26 r_18 v_21.toNatClampNeg (jb8 (jb8 ((I_22 r_12 v_24.toNatClampNeg) ^^^ (x5_17 &&& (I_26 r_12 v_28.toNatClampNeg))))) := ⟨_, rfl⟩
      replace hV : Wd D X ad n A s.heap J I_31 L_27 H locs := by rw [eI_31]; exact hV
      replace h := h I_31 eI_31
      obtain ⟨x4_32, ex4_32⟩ : ∃ y : Int32, y = x4 + 1 := ⟨_, rfl⟩
      replace h := h x4_32 ex4_32
      refine lv_iinc (v := x4_32) (lv' := [(4, .int x4_32), (5, .int x5_17), (0, .ref (ad x0)), (1, .int x1), (2, .int x2), (3, .int x3)]) hx hb dX8_round_125 hl (k := 5) rfl (by rw [ex4_32]; rfl) (by decide) rfl (fun ls hl => ?_)
      refine lv_goto (tgt := 53) hx hb dX8_round_128 (by decide) ?_
      exact ih x4_32 _ _ _ _ _ h hV (lv_sub hl [2, 3, 4, 5, 0] rfl)
set_option maxHeartbeats 4000000 in
set_option maxRecDepth 100000 in
theorem n_X8_round_45 {p : Program} {l : Launch} {e : Env} {s : State} {m : MethodId} {below : List Frame} {meth : Method} {c : Code} {D : va_G} {X : XT} {ad : Nat → Nat} {n : Nat} {A : Nat → Prop} {J : MJ} {av : List Value} {R : Room} (hR : R = ({ frames := 2, cells := 0, slots := 0, locals := 46 } : Room)) (C0 : Cx p s m meth c cX8_round none 6 yX8_round av D X ad n A J) {q : MI → ML → Prop} {k38 : Int32 → MI → ML → Prop} {x0 : Nat} {x1 : Int32} {x2 : Int32} (t0 : Ty X n x0 9)
    (hk38 : ∀ (x2 : Int32) (I : MI) (L : ML) (H : Heap) (locs : List Loc) (ls : Array Slot), k38 x2 I L → Wd D X ad n A s.heap J I L H locs → lv_has ls 6 [(0, .ref (ad x0)), (1, .int x1), (2, .int x2)] → W p l e R s m av.toArray below meth c H locs 0 0 (MQ below (QV D X ad n A J q) av.toArray s 0 0 A) (F0 m 38 ls [])) : ∀ (fu : Nat) (x3 : Int32) (I : MI) (L : ML) (H : Heap) (locs : List Loc) (ls : Array Slot), wl_X8_round_45 X J q k38 x0 x1 x2 fu x3 I L → Wd D X ad n A s.heap J I L H locs → lv_has ls 6 [(0, .ref (ad x0)), (1, .int x1), (2, .int x2), (3, .int x3)] → W p l e R s m av.toArray below meth c H locs 0 0 (MQ below (QV D X ad n A J q) av.toArray s 0 0 A) (F0 m 45 ls []) := by
  obtain ⟨hx, hb, hr, hml, hown, hlk, hnm, hts, hK, hZ, hA, hWT⟩ := id C0
  subst hR
  intro fu
  induction fu with
  | zero => intro x3 I L H locs ls h; exact absurd h (fun h => h)
  | succ fu ih =>
    intro x3 I L H locs ls h hV hl
    refine lv_iload_n hx hb dX8_round_45 rfl (lv_at hl 3 rfl) ?_
    refine lv_iconst (v := 5) hx hb dX8_round_46 (by decide) ?_
    refine lv_icmp_ge (tgt := 137) hx hb dX8_round_47 (by decide) (fun hc => ?_) (fun hc => ?_)
    · replace h := h.1 hc
      obtain ⟨x2_10, ex2_10⟩ : ∃ y : Int32, y = x2 + 1 := ⟨_, rfl⟩
      replace h := h x2_10 ex2_10
      refine lv_iinc (v := x2_10) (lv' := [(2, .int x2_10), (0, .ref (ad x0)), (1, .int x1), (3, .int x3)]) hx hb dX8_round_137 hl (k := 2) rfl (by rw [ex2_10]; rfl) (by decide) rfl (fun ls hl => ?_)
      refine lv_goto (tgt := 38) hx hb dX8_round_140 (by decide) ?_
      exact hk38 x2_10 _ _ _ _ _ h hV (lv_sub hl [1, 2, 0] rfl)
    · replace h := h.2 hc
      refine lv_iconst (v := 0) hx hb dX8_round_50 (by decide) ?_
      refine lv_istore (lv' := [(4, .int 0), (0, .ref (ad x0)), (1, .int x1), (2, .int x2), (3, .int x3)]) hx hb dX8_round_51 hl (by decide) rfl (fun ls hl => ?_)
      obtain ⟨fu0, h⟩ := h
      exact n_X8_round_53 rfl C0 t0  hk38 (fun y3 I L H locs ls h hV hl => ih y3 I L H locs ls h hV (lv_sub hl [0, 1, 2, 3] rfl)) fu0 0 _ _ _ _ _ h hV (lv_sub hl [1, 2, 3, 4, 0] rfl)
set_option maxHeartbeats 4000000 in
set_option maxRecDepth 100000 in
theorem n_X8_round_38 {p : Program} {l : Launch} {e : Env} {s : State} {m : MethodId} {below : List Frame} {meth : Method} {c : Code} {D : va_G} {X : XT} {ad : Nat → Nat} {n : Nat} {A : Nat → Prop} {J : MJ} {av : List Value} {R : Room} (hR : R = ({ frames := 2, cells := 0, slots := 0, locals := 46 } : Room)) (C0 : Cx p s m meth c cX8_round none 6 yX8_round av D X ad n A J) {q : MI → ML → Prop}  {x0 : Nat} {x1 : Int32} (t0 : Ty X n x0 9) : ∀ (fu : Nat) (x2 : Int32) (I : MI) (L : ML) (H : Heap) (locs : List Loc) (ls : Array Slot), wl_X8_round_38 X J q  x0 x1 fu x2 I L → Wd D X ad n A s.heap J I L H locs → lv_has ls 6 [(0, .ref (ad x0)), (1, .int x1), (2, .int x2)] → W p l e R s m av.toArray below meth c H locs 0 0 (MQ below (QV D X ad n A J q) av.toArray s 0 0 A) (F0 m 38 ls []) := by
  obtain ⟨hx, hb, hr, hml, hown, hlk, hnm, hts, hK, hZ, hA, hWT⟩ := id C0
  subst hR
  intro fu
  induction fu with
  | zero => intro x2 I L H locs ls h; exact absurd h (fun h => h)
  | succ fu ih =>
    intro x2 I L H locs ls h hV hl
    refine lv_iload_n hx hb dX8_round_38 rfl (lv_at hl 2 rfl) ?_
    refine lv_iconst (v := 5) hx hb dX8_round_39 (by decide) ?_
    refine lv_icmp_ge (tgt := 143) hx hb dX8_round_40 (by decide) (fun hc => ?_) (fun hc => ?_)
    · replace h := h.1 hc
      refine lv_iconst (v := 0) hx hb dX8_round_143 (by decide) ?_
      refine lv_istore_n (lv' := [(2, .int 0), (0, .ref (ad x0)), (1, .int x1)]) hx hb dX8_round_144 rfl hl (by decide) rfl (fun ls hl => ?_)
      obtain ⟨fu0, h⟩ := h
      exact n_X8_round_145 rfl C0 t0   fu0 0 _ _ _ _ _ h hV (lv_sub hl [1, 2, 0] rfl)
    · replace h := h.2 hc
      refine lv_iconst (v := 0) hx hb dX8_round_43 (by decide) ?_
      refine lv_istore_n (lv' := [(3, .int 0), (0, .ref (ad x0)), (1, .int x1), (2, .int x2)]) hx hb dX8_round_44 rfl hl (by decide) rfl (fun ls hl => ?_)
      obtain ⟨fu0, h⟩ := h
      exact n_X8_round_45 rfl C0 t0  (fun y2 I L H locs ls h hV hl => ih y2 I L H locs ls h hV (lv_sub hl [0, 1, 2] rfl)) fu0 0 _ _ _ _ _ h hV (lv_sub hl [1, 2, 3, 0] rfl)
set_option maxHeartbeats 4000000 in
set_option maxRecDepth 100000 in
theorem n_X8_round_6 {p : Program} {l : Launch} {e : Env} {s : State} {m : MethodId} {below : List Frame} {meth : Method} {c : Code} {D : va_G} {X : XT} {ad : Nat → Nat} {n : Nat} {A : Nat → Prop} {J : MJ} {av : List Value} {R : Room} (hR : R = ({ frames := 2, cells := 0, slots := 0, locals := 46 } : Room)) (C0 : Cx p s m meth c cX8_round none 6 yX8_round av D X ad n A J) {q : MI → ML → Prop}  {x0 : Nat} {x1 : Int32} (t0 : Ty X n x0 9) : ∀ (fu : Nat) (x2 : Int32) (I : MI) (L : ML) (H : Heap) (locs : List Loc) (ls : Array Slot), wl_X8_round_6 X J q  x0 x1 fu x2 I L → Wd D X ad n A s.heap J I L H locs → lv_has ls 6 [(0, .ref (ad x0)), (1, .int x1), (2, .int x2)] → W p l e R s m av.toArray below meth c H locs 0 0 (MQ below (QV D X ad n A J q) av.toArray s 0 0 A) (F0 m 6 ls []) := by
  obtain ⟨hx, hb, hr, hml, hown, hlk, hnm, hts, hK, hZ, hA, hWT⟩ := id C0
  subst hR
  intro fu
  induction fu with
  | zero => intro x2 I L H locs ls h; exact absurd h (fun h => h)
  | succ fu ih =>
    intro x2 I L H locs ls h hV hl
    refine lv_iload_n hx hb dX8_round_6 rfl (lv_at hl 2 rfl) ?_
    refine lv_sipush (v := 1600) hx hb dX8_round_7 (by decide) ?_
    refine lv_icmp_ge (tgt := 36) hx hb dX8_round_10 (by decide) (fun hc => ?_) (fun hc => ?_)
    · replace h := h.1 hc
      refine lv_iconst (v := 0) hx hb dX8_round_36 (by decide) ?_
      refine lv_istore_n (lv' := [(2, .int 0), (0, .ref (ad x0)), (1, .int x1)]) hx hb dX8_round_37 rfl hl (by decide) rfl (fun ls hl => ?_)
      obtain ⟨fu0, h⟩ := h
      exact n_X8_round_38 rfl C0 t0   fu0 0 _ _ _ _ _ h hV (lv_sub hl [1, 2, 0] rfl)
    · replace h := h.2 hc
      refine lv_aload_n hx hb dX8_round_13 rfl (lv_at hl 0 rfl) ?_
      obtain ⟨r_33, hr_33, h⟩ := h
      have tr_33 : Ty X n r_33 1 := hWT.r (c := 5) (j := 10) t0 rfl hr_33
      refine m_getr (C := RX8) (T := TX8) (N := 19) (ci := 5) hx hb hts iwX8 hown hK hV t0 rfl 10 (by decide) rfl rfl hr_33 (hts _ tw_3_101) (fun _ h9 => h9) dX8_round_14 ?_
      refine lv_iload_n hx hb dX8_round_17 rfl (lv_at hl 2 rfl) ?_
      refine lv_aload_n hx hb dX8_round_18 rfl (lv_at hl 0 rfl) ?_
      obtain ⟨r_34, hr_34, h⟩ := h
      have tr_34 : Ty X n r_34 1 := hWT.r (c := 5) (j := 9) t0 rfl hr_34
      refine m_getr (C := RX8) (T := TX8) (N := 19) (ci := 5) hx hb hts iwX8 hown hK hV t0 rfl 9 (by decide) rfl rfl hr_34 (hts _ tw_3_100) (fun _ h9 => h9) dX8_round_19 ?_
      refine lv_aload_n hx hb dX8_round_22 rfl (lv_at hl 0 rfl) ?_
      obtain ⟨r_35, hr_35, h⟩ := h
      have tr_35 : Ty X n r_35 0 := hWT.r (c := 5) (j := 12) t0 rfl hr_35
      refine m_getr (C := RX8) (T := TX8) (N := 19) (ci := 5) hx hb hts iwX8 hown hK hV t0 rfl 12 (by decide) rfl rfl hr_35 (hts _ tw_3_103) (fun _ h9 => h9) dX8_round_23 ?_
      refine lv_iload_n hx hb dX8_round_26 rfl (lv_at hl 2 rfl) ?_
      obtain ⟨hi_36, h⟩ := h
      refine m_iald hx hb hK hV tr_35 hi_36 dX8_round_27 ?_
      obtain ⟨hi_37, h⟩ := h
      refine m_bald hx hb hK hV tr_34 hi_37 dX8_round_28 ?_
      obtain ⟨hi_38, h⟩ := h
      refine m_bast hx hb hK hV tr_33 hi_38 dX8_round_29 (fun H locs hV => ?_)
      obtain ⟨I_39, eI_39⟩ : ∃ y, y = ms I r_33 x2.toNatClampNeg (jb8 (I r_34 (I r_35 x2.toNatClampNeg).toNatClampNeg)) := ⟨_, rfl⟩
      replace hV : Wd D X ad n A s.heap J I_39 L H locs := by rw [eI_39]; exact hV
      replace h := h I_39 eI_39
      obtain ⟨x2_40, ex2_40⟩ : ∃ y : Int32, y = x2 + 1 := ⟨_, rfl⟩
      replace h := h x2_40 ex2_40
      refine lv_iinc (v := x2_40) (lv' := [(2, .int x2_40), (0, .ref (ad x0)), (1, .int x1)]) hx hb dX8_round_30 hl (k := 2) rfl (by rw [ex2_40]; rfl) (by decide) rfl (fun ls hl => ?_)
      refine lv_goto (tgt := 6) hx hb dX8_round_33 (by decide) ?_
      exact ih x2_40 _ _ _ _ _ h hV (lv_sub hl [1, 2, 0] rfl)
set_option maxHeartbeats 4000000 in
set_option maxRecDepth 100000 in
theorem s_X8_round (l : Launch) (D : va_G) (X : XT) (ad : Nat → Nat) (n : Nat) (A : Nat → Prop) (J : MJ) (hWT : WT X n J) (x0 : Nat) (t0 : Ty X n x0 9) (x1 : Int32) (I : MI) (L : ML) (q : MI → ML → Prop) (h : wp_X8_round X J x0 x1 I L q) : Met l yX8_round (wz yX8_round cX8_round 6 none) ({ frames := 2, cells := 0, slots := 0, locals := 46 } : Room) (va_Pc [.ref (ad x0), .int x1] (Pr D X ad n A J I L)) (QV D X ad n A J q) 0 0 A := by
  refine Met_go (by decide +kernel) (Nat.le_of_ble_eq_true rfl) (fun p e s m below meth c hx hb hr hml hown hlk hnm hts hK hZ hA hV ls hl => ?_)
  have C0 : Cx p s m meth c cX8_round none 6 yX8_round [.ref (ad x0), .int x1] D X ad n A J := ⟨hx, hb, hr, hml, hown, hlk, hnm, hts, hK, hZ, hA, hWT⟩
  unfold wp_X8_round at h
  have hl : lv_has ls 6 [(0, .ref (ad x0)), (1, .int x1)] := hl
  refine lv_aload_n hx hb dX8_round_0 rfl (lv_at hl 0 rfl) ?_
  refine k_callv (va_runV (As := []) (rest := []) ⟨hx, hb, hml, hown, hts⟩ (s_X8_theta l D X ad n A J hWT x0 t0 I L _ h) (cwV 0 hts (gV tw_3_227 tw_3_229 tw_0_24 tw_1_9 tw_3_230) rfl rfl rfl (by decide +kernel) (by decide)) (k_preV (ci := 5) hK hV hA hZ t0 rfl _) rfl rfl hl.1 rfl (lv_room (Nat.le_of_ble_eq_true rfl)) dX8_round_1 ⟨Nat.zero_le _, Nat.zero_le _⟩) hV (fun I_1 L_2 H locs h hV => ?_)
  refine lv_iconst (v := 0) hx hb dX8_round_4 (by decide) ?_
  refine lv_istore_n (lv' := [(2, .int 0), (0, .ref (ad x0)), (1, .int x1)]) hx hb dX8_round_5 rfl hl (by decide) rfl (fun ls hl => ?_)
  obtain ⟨fu0, h⟩ := h
  exact n_X8_round_6 rfl C0 t0   fu0 0 _ _ _ _ _ h hV (lv_sub hl [1, 2, 0] rfl)
set_option maxHeartbeats 4000000 in
set_option maxRecDepth 100000 in
theorem n_X8_rounds_2 {p : Program} {l : Launch} {e : Env} {s : State} {m : MethodId} {below : List Frame} {meth : Method} {c : Code} {D : va_G} {X : XT} {ad : Nat → Nat} {n : Nat} {A : Nat → Prop} {J : MJ} {av : List Value} {R : Room} (hR : R = ({ frames := 3, cells := 0, slots := 0, locals := 71 } : Room)) (C0 : Cx p s m meth c cX8_rounds none 2 yX8_rounds av D X ad n A J) {q : MI → ML → Prop}  {x0 : Nat} (t0 : Ty X n x0 9) : ∀ (fu : Nat) (x1 : Int32) (I : MI) (L : ML) (H : Heap) (locs : List Loc) (ls : Array Slot), wl_X8_rounds_2 X J q  x0 fu x1 I L → Wd D X ad n A s.heap J I L H locs → lv_has ls 2 [(0, .ref (ad x0)), (1, .int x1)] → W p l e R s m av.toArray below meth c H locs 0 0 (MQ below (QV D X ad n A J q) av.toArray s 0 0 A) (F0 m 2 ls []) := by
  obtain ⟨hx, hb, hr, hml, hown, hlk, hnm, hts, hK, hZ, hA, hWT⟩ := id C0
  subst hR
  intro fu
  induction fu with
  | zero => intro x1 I L H locs ls h; exact absurd h (fun h => h)
  | succ fu ih =>
    intro x1 I L H locs ls h hV hl
    refine lv_iload_n hx hb dX8_rounds_2 rfl (lv_at hl 1 rfl) ?_
    refine lv_bipush (v := 24) hx hb dX8_rounds_3 (by decide) ?_
    refine lv_icmp_ge (tgt := 19) hx hb dX8_rounds_5 (by decide) (fun hc => ?_) (fun hc => ?_)
    · replace h := h.1 hc
      exact m_vret hx hb hr hlk hK hZ hA hV h dX8_rounds_19
    · replace h := h.2 hc
      refine lv_aload_n hx hb dX8_rounds_8 rfl (lv_at hl 0 rfl) ?_
      refine lv_iload_n hx hb dX8_rounds_9 rfl (lv_at hl 1 rfl) ?_
      refine k_callv (va_runV (As := [.int x1]) (rest := []) ⟨hx, hb, hml, hown, hts⟩ (s_X8_round l D X ad n A J hWT x0 t0 x1 I L _ h) (cwV 1 hts (gV tw_3_223 tw_3_225 tw_0_23 tw_1_9 tw_3_226) rfl rfl rfl (by decide +kernel) (by decide)) (k_preV (ci := 5) hK hV hA hZ t0 rfl _) rfl rfl hl.1 rfl (lv_room (Nat.le_of_ble_eq_true rfl)) dX8_rounds_10 ⟨Nat.zero_le _, Nat.zero_le _⟩) hV (fun I_1 L_2 H locs h hV => ?_)
      obtain ⟨x1_3, ex1_3⟩ : ∃ y : Int32, y = x1 + 1 := ⟨_, rfl⟩
      replace h := h x1_3 ex1_3
      refine lv_iinc (v := x1_3) (lv' := [(1, .int x1_3), (0, .ref (ad x0))]) hx hb dX8_rounds_13 hl (k := 1) rfl (by rw [ex1_3]; rfl) (by decide) rfl (fun ls hl => ?_)
      refine lv_goto (tgt := 2) hx hb dX8_rounds_16 (by decide) ?_
      exact ih x1_3 _ _ _ _ _ h hV (lv_sub hl [1, 0] rfl)
set_option maxHeartbeats 4000000 in
set_option maxRecDepth 100000 in
theorem s_X8_rounds (l : Launch) (D : va_G) (X : XT) (ad : Nat → Nat) (n : Nat) (A : Nat → Prop) (J : MJ) (hWT : WT X n J) (x0 : Nat) (t0 : Ty X n x0 9) (I : MI) (L : ML) (q : MI → ML → Prop) (h : wp_X8_rounds X J x0 I L q) : Met l yX8_rounds (wz yX8_rounds cX8_rounds 2 none) ({ frames := 3, cells := 0, slots := 0, locals := 71 } : Room) (va_Pc [.ref (ad x0)] (Pr D X ad n A J I L)) (QV D X ad n A J q) 0 0 A := by
  refine Met_go (by decide +kernel) (Nat.le_of_ble_eq_true rfl) (fun p e s m below meth c hx hb hr hml hown hlk hnm hts hK hZ hA hV ls hl => ?_)
  have C0 : Cx p s m meth c cX8_rounds none 2 yX8_rounds [.ref (ad x0)] D X ad n A J := ⟨hx, hb, hr, hml, hown, hlk, hnm, hts, hK, hZ, hA, hWT⟩
  unfold wp_X8_rounds at h
  have hl : lv_has ls 2 [(0, .ref (ad x0))] := hl
  refine lv_iconst (v := 0) hx hb dX8_rounds_0 (by decide) ?_
  refine lv_istore_n (lv' := [(1, .int 0), (0, .ref (ad x0))]) hx hb dX8_rounds_1 rfl hl (by decide) rfl (fun ls hl => ?_)
  obtain ⟨fu0, h⟩ := h
  exact n_X8_rounds_2 rfl C0 t0   fu0 0 _ _ _ _ _ h hV (lv_sub hl [1, 0] rfl)
set_option maxHeartbeats 4000000 in
set_option maxRecDepth 100000 in
theorem s_X8_takes (l : Launch) (D : va_G) (X : XT) (ad : Nat → Nat) (n : Nat) (A : Nat → Prop) (J : MJ) (hWT : WT X n J) (x0 : Nat) (t0 : Ty X n x0 9) (x1 : Int32) (I : MI) (L : ML) (q : MI → ML → Prop) (h : wp_X8_takes X J x0 x1 I L q) : Met l yX8_takes (wz yX8_takes cX8_takes 2 none) ({ frames := 4, cells := 0, slots := 0, locals := 92 } : Room) (va_Pc [.ref (ad x0), .int x1] (Pr D X ad n A J I L)) (QV D X ad n A J q) 0 0 A := by
  refine Met_go (by decide +kernel) (Nat.le_of_ble_eq_true rfl) (fun p e s m below meth c hx hb hr hml hown hlk hnm hts hK hZ hA hV ls hl => ?_)
  have C0 : Cx p s m meth c cX8_takes none 2 yX8_takes [.ref (ad x0), .int x1] D X ad n A J := ⟨hx, hb, hr, hml, hown, hlk, hnm, hts, hK, hZ, hA, hWT⟩
  unfold wp_X8_takes at h
  have hl : lv_has ls 2 [(0, .ref (ad x0)), (1, .int x1)] := hl
  refine lv_aload_n hx hb dX8_takes_0 rfl (lv_at hl 0 rfl) ?_
  obtain ⟨r_1, hr_1, h⟩ := h
  have tr_1 : Ty X n r_1 1 := hWT.r (c := 5) (j := 9) t0 rfl hr_1
  refine m_getr (C := RX8) (T := TX8) (N := 19) (ci := 5) hx hb hts iwX8 hown hK hV t0 rfl 9 (by decide) rfl rfl hr_1 (hts _ tw_3_100) (fun _ h9 => h9) dX8_takes_1 ?_
  refine lv_aload_n hx hb dX8_takes_4 rfl (lv_at hl 0 rfl) ?_
  refine m_geti (C := RX8) (T := TX8) (N := 19) (ci := 5) hx hb hts iwX8 hown hK hV t0 rfl 14 (by decide) rfl rfl (hts _ tw_3_105) (fun _ h9 => h9) dX8_takes_5 ?_
  refine lv_dup2_11 hx hb dX8_takes_8 rfl rfl ?_
  obtain ⟨hi_2, h⟩ := h
  refine m_bald hx hb hK hV tr_1 hi_2 dX8_takes_9 ?_
  refine lv_iload_n hx hb dX8_takes_10 rfl (lv_at hl 1 rfl) ?_
  refine lv_i2b hx hb dX8_takes_11 rfl ?_
  refine lv_ixor hx hb dX8_takes_12 ?_
  refine lv_i2b hx hb dX8_takes_13 rfl ?_
  obtain ⟨hi_3, h⟩ := h
  refine m_bast hx hb hK hV tr_1 hi_3 dX8_takes_14 (fun H locs hV => ?_)
  obtain ⟨I_4, eI_4⟩ : ∃ y, y = ms I r_1 (I x0 14).toNatClampNeg (jb8 (jb8 ((I r_1 (I x0 14).toNatClampNeg) ^^^ (jb8 x1)))) := ⟨_, rfl⟩
  replace hV : Wd D X ad n A s.heap J I_4 L H locs := by rw [eI_4]; exact hV
  replace h := h I_4 eI_4
  refine lv_aload_n hx hb dX8_takes_15 rfl (lv_at hl 0 rfl) ?_
  refine lv_dup hx hb dX8_takes_16 rfl ?_
  refine m_geti (C := RX8) (T := TX8) (N := 19) (ci := 5) hx hb hts iwX8 hown hK hV t0 rfl 14 (by decide) rfl rfl (hts _ tw_3_105) (fun _ h9 => h9) dX8_takes_17 ?_
  refine lv_iconst (v := 1) hx hb dX8_takes_20 (by decide) ?_
  refine lv_iadd hx hb dX8_takes_21 ?_
  refine m_puti (C := RX8) (T := TX8) (N := 19) (ci := 5) (ty := .int) hx hb hts iwX8 hown hK hV tyX8 tyX8_ok nmX8 t0 rfl 14 (by decide) rfl rfl (hts _ tw_3_105) (fun _ h9 => h9) rfl (by decide +kernel) rfl rfl dX8_takes_22 (fun H locs hV => ?_)
  obtain ⟨I_5, eI_5⟩ : ∃ y, y = ms I_4 x0 14 ((I_4 x0 14) + 1) := ⟨_, rfl⟩
  replace hV : Wd D X ad n A s.heap J I_5 L H locs := by rw [eI_5]; exact hV
  replace h := h I_5 eI_5
  refine lv_aload_n hx hb dX8_takes_25 rfl (lv_at hl 0 rfl) ?_
  refine m_geti (C := RX8) (T := TX8) (N := 19) (ci := 5) hx hb hts iwX8 hown hK hV t0 rfl 14 (by decide) rfl rfl (hts _ tw_3_105) (fun _ h9 => h9) dX8_takes_26 ?_
  refine lv_aload_n hx hb dX8_takes_29 rfl (lv_at hl 0 rfl) ?_
  refine m_geti (C := RX8) (T := TX8) (N := 19) (ci := 5) hx hb hts iwX8 hown hK hV t0 rfl 15 (by decide) rfl rfl (hts _ tw_3_106) (fun _ h9 => h9) dX8_takes_30 ?_
  refine lv_icmp_ne (tgt := 45) hx hb dX8_takes_33 (by decide) (fun hc => ?_) (fun hc => ?_)
  · replace h := h.1 hc
    exact m_vret hx hb hr hlk hK hZ hA hV h dX8_takes_45
  · replace h := h.2 hc
    refine lv_aload_n hx hb dX8_takes_36 rfl (lv_at hl 0 rfl) ?_
    refine k_callv (va_runV (As := []) (rest := []) ⟨hx, hb, hml, hown, hts⟩ (s_X8_rounds l D X ad n A J hWT x0 t0 I_5 L _ h) (cwV 0 hts (gV tw_3_219 tw_3_221 tw_0_22 tw_1_9 tw_3_222) rfl rfl rfl (by decide +kernel) (by decide)) (k_preV (ci := 5) hK hV hA hZ t0 rfl _) rfl rfl hl.1 rfl (lv_room (Nat.le_of_ble_eq_true rfl)) dX8_takes_37 ⟨Nat.zero_le _, Nat.zero_le _⟩) hV (fun I_6 L_7 H locs h hV => ?_)
    refine lv_aload_n hx hb dX8_takes_40 rfl (lv_at hl 0 rfl) ?_
    refine lv_iconst (v := 0) hx hb dX8_takes_41 (by decide) ?_
    refine m_puti (C := RX8) (T := TX8) (N := 19) (ci := 5) (ty := .int) hx hb hts iwX8 hown hK hV tyX8 tyX8_ok nmX8 t0 rfl 14 (by decide) rfl rfl (hts _ tw_3_105) (fun _ h9 => h9) rfl (by decide +kernel) rfl rfl dX8_takes_42 (fun H locs hV => ?_)
    obtain ⟨I_8, eI_8⟩ : ∃ y, y = ms I_6 x0 14 0 := ⟨_, rfl⟩
    replace hV : Wd D X ad n A s.heap J I_8 L_7 H locs := by rw [eI_8]; exact hV
    replace h := h I_8 eI_8
    exact m_vret hx hb hr hlk hK hZ hA hV h dX8_takes_45
set_option maxHeartbeats 4000000 in
set_option maxRecDepth 100000 in
theorem n_X8_absorb_124 {p : Program} {l : Launch} {e : Env} {s : State} {m : MethodId} {below : List Frame} {meth : Method} {c : Code} {D : va_G} {X : XT} {ad : Nat → Nat} {n : Nat} {A : Nat → Prop} {J : MJ} {av : List Value} {R : Room} (hR : R = ({ frames := 5, cells := 0, slots := 0, locals := 113 } : Room)) (C0 : Cx p s m meth c cX8_absorb none 7 yX8_absorb av D X ad n A J) {q : MI → ML → Prop}  {x0 : Nat}  {I : MI} {L : ML} {H : Heap} {locs : List Loc} {ls : Array Slot} (t0 : Ty X n x0 9) (h : wj_X8_absorb_124 X J q  x0  I L) (hV : Wd D X ad n A s.heap J I L H locs) (hl : lv_has ls 7 [(0, .ref (ad x0))]) : W p l e R s m av.toArray below meth c H locs 0 0 (MQ below (QV D X ad n A J q) av.toArray s 0 0 A) (F0 m 124 ls []) := by
  obtain ⟨hx, hb, hr, hml, hown, hlk, hnm, hts, hK, hZ, hA, hWT⟩ := id C0
  subst hR
  unfold wj_X8_absorb_124 at h
  refine lv_aload_n hx hb dX8_absorb_124 rfl (lv_at hl 0 rfl) ?_
  refine lv_iconst (v := 1) hx hb dX8_absorb_125 (by decide) ?_
  refine k_callv (va_runV (As := [.int 1]) (rest := []) ⟨hx, hb, hml, hown, hts⟩ (s_X8_takes l D X ad n A J hWT x0 t0 1 I L _ h) (cwV 1 hts (gV tw_3_215 tw_3_217 tw_0_21 tw_1_9 tw_3_218) rfl rfl rfl (by decide +kernel) (by decide)) (k_preV (ci := 5) hK hV hA hZ t0 rfl _) rfl rfl hl.1 rfl (lv_room (Nat.le_of_ble_eq_true rfl)) dX8_absorb_126 ⟨Nat.zero_le _, Nat.zero_le _⟩) hV (fun I_3 L_4 H locs h hV => ?_)
  refine lv_aload_n hx hb dX8_absorb_129 rfl (lv_at hl 0 rfl) ?_
  obtain ⟨r_5, hr_5, h⟩ := h
  have tr_5 : Ty X n r_5 1 := hWT.r (c := 5) (j := 9) t0 rfl hr_5
  refine m_getr (C := RX8) (T := TX8) (N := 19) (ci := 5) hx hb hts iwX8 hown hK hV t0 rfl 9 (by decide) rfl rfl hr_5 (hts _ tw_3_100) (fun _ h9 => h9) dX8_absorb_130 ?_
  refine lv_aload_n hx hb dX8_absorb_133 rfl (lv_at hl 0 rfl) ?_
  refine m_geti (C := RX8) (T := TX8) (N := 19) (ci := 5) hx hb hts iwX8 hown hK hV t0 rfl 15 (by decide) rfl rfl (hts _ tw_3_106) (fun _ h9 => h9) dX8_absorb_134 ?_
  refine lv_iconst (v := 1) hx hb dX8_absorb_137 (by decide) ?_
  refine lv_isub hx hb dX8_absorb_138 ?_
  refine lv_dup2_11 hx hb dX8_absorb_139 rfl rfl ?_
  obtain ⟨hi_6, h⟩ := h
  refine m_bald hx hb hK hV tr_5 hi_6 dX8_absorb_140 ?_
  refine lv_iconst (v := 1) hx hb dX8_absorb_141 (by decide) ?_
  refine lv_ixor hx hb dX8_absorb_142 ?_
  refine lv_i2b hx hb dX8_absorb_143 rfl ?_
  obtain ⟨hi_7, h⟩ := h
  refine m_bast hx hb hK hV tr_5 hi_7 dX8_absorb_144 (fun H locs hV => ?_)
  obtain ⟨I_8, eI_8⟩ : ∃ y, y = ms I_3 r_5 ((I_3 x0 15) - 1).toNatClampNeg (jb8 (jb8 ((I_3 r_5 ((I_3 x0 15) - 1).toNatClampNeg) ^^^ 1))) := ⟨_, rfl⟩
  replace hV : Wd D X ad n A s.heap J I_8 L_4 H locs := by rw [eI_8]; exact hV
  replace h := h I_8 eI_8
  refine lv_aload_n hx hb dX8_absorb_145 rfl (lv_at hl 0 rfl) ?_
  refine k_callv (va_runV (As := []) (rest := []) ⟨hx, hb, hml, hown, hts⟩ (s_X8_rounds l D X ad n A J hWT x0 t0 I_8 L_4 _ h) (cwV 0 hts (gV tw_3_219 tw_3_221 tw_0_22 tw_1_9 tw_3_222) rfl rfl rfl (by decide +kernel) (by decide)) (k_preV (ci := 5) hK hV hA hZ t0 rfl _) rfl rfl hl.1 rfl (lv_room (Nat.le_of_ble_eq_true rfl)) dX8_absorb_146 ⟨Nat.zero_le _, Nat.zero_le _⟩) hV (fun I_9 L_10 H locs h hV => ?_)
  refine lv_aload_n hx hb dX8_absorb_149 rfl (lv_at hl 0 rfl) ?_
  refine lv_iconst (v := 0) hx hb dX8_absorb_150 (by decide) ?_
  refine m_puti (C := RX8) (T := TX8) (N := 19) (ci := 5) (ty := .int) hx hb hts iwX8 hown hK hV tyX8 tyX8_ok nmX8 t0 rfl 14 (by decide) rfl rfl (hts _ tw_3_105) (fun _ h9 => h9) rfl (by decide +kernel) rfl rfl dX8_absorb_151 (fun H locs hV => ?_)
  obtain ⟨I_11, eI_11⟩ : ∃ y, y = ms I_9 x0 14 0 := ⟨_, rfl⟩
  replace hV : Wd D X ad n A s.heap J I_11 L_10 H locs := by rw [eI_11]; exact hV
  replace h := h I_11 eI_11
  exact m_vret hx hb hr hlk hK hZ hA hV h dX8_absorb_154
set_option maxHeartbeats 4000000 in
set_option maxRecDepth 100000 in
theorem n_X8_absorb_107 {p : Program} {l : Launch} {e : Env} {s : State} {m : MethodId} {below : List Frame} {meth : Method} {c : Code} {D : va_G} {X : XT} {ad : Nat → Nat} {n : Nat} {A : Nat → Prop} {J : MJ} {av : List Value} {R : Room} (hR : R = ({ frames := 5, cells := 0, slots := 0, locals := 113 } : Room)) (C0 : Cx p s m meth c cX8_absorb none 7 yX8_absorb av D X ad n A J) {q : MI → ML → Prop}  {x0 : Nat} (t0 : Ty X n x0 9) : ∀ (fu : Nat) (x5 : Int32) (I : MI) (L : ML) (H : Heap) (locs : List Loc) (ls : Array Slot), wl_X8_absorb_107 X J q  x0 fu x5 I L → Wd D X ad n A s.heap J I L H locs → lv_has ls 7 [(0, .ref (ad x0)), (5, .int x5)] → W p l e R s m av.toArray below meth c H locs 0 0 (MQ below (QV D X ad n A J q) av.toArray s 0 0 A) (F0 m 107 ls []) := by
  obtain ⟨hx, hb, hr, hml, hown, hlk, hnm, hts, hK, hZ, hA, hWT⟩ := id C0
  subst hR
  intro fu
  induction fu with
  | zero => intro x5 I L H locs ls h; exact absurd h (fun h => h)
  | succ fu ih =>
    intro x5 I L H locs ls h hV hl
    refine lv_iload hx hb dX8_absorb_107 (lv_at hl 1 rfl) ?_
    refine lv_iconst (v := 4) hx hb dX8_absorb_109 (by decide) ?_
    refine lv_icmp_ge (tgt := 124) hx hb dX8_absorb_110 (by decide) (fun hc => ?_) (fun hc => ?_)
    · replace h := h.1 hc
      exact n_X8_absorb_124 rfl C0 t0   h hV (lv_sub hl [0] rfl)
    · replace h := h.2 hc
      refine lv_aload_n hx hb dX8_absorb_113 rfl (lv_at hl 0 rfl) ?_
      refine lv_iconst (v := 1) hx hb dX8_absorb_114 (by decide) ?_
      refine k_callv (va_runV (As := [.int 1]) (rest := []) ⟨hx, hb, hml, hown, hts⟩ (s_X8_takes l D X ad n A J hWT x0 t0 1 I L _ h) (cwV 1 hts (gV tw_3_215 tw_3_217 tw_0_21 tw_1_9 tw_3_218) rfl rfl rfl (by decide +kernel) (by decide)) (k_preV (ci := 5) hK hV hA hZ t0 rfl _) rfl rfl hl.1 rfl (lv_room (Nat.le_of_ble_eq_true rfl)) dX8_absorb_115 ⟨Nat.zero_le _, Nat.zero_le _⟩) hV (fun I_12 L_13 H locs h hV => ?_)
      obtain ⟨x5_14, ex5_14⟩ : ∃ y : Int32, y = x5 + 1 := ⟨_, rfl⟩
      replace h := h x5_14 ex5_14
      refine lv_iinc (v := x5_14) (lv' := [(5, .int x5_14), (0, .ref (ad x0))]) hx hb dX8_absorb_118 hl (k := 1) rfl (by rw [ex5_14]; rfl) (by decide) rfl (fun ls hl => ?_)
      refine lv_goto (tgt := 107) hx hb dX8_absorb_121 (by decide) ?_
      exact ih x5_14 _ _ _ _ _ h hV (lv_sub hl [1, 0] rfl)
set_option maxHeartbeats 4000000 in
set_option maxRecDepth 100000 in
theorem n_X8_absorb_50 {p : Program} {l : Launch} {e : Env} {s : State} {m : MethodId} {below : List Frame} {meth : Method} {c : Code} {D : va_G} {X : XT} {ad : Nat → Nat} {n : Nat} {A : Nat → Prop} {J : MJ} {av : List Value} {R : Room} (hR : R = ({ frames := 5, cells := 0, slots := 0, locals := 113 } : Room)) (C0 : Cx p s m meth c cX8_absorb none 7 yX8_absorb av D X ad n A J) {q : MI → ML → Prop} {k41 : Int32 → MI → ML → Prop} {x0 : Nat} {x2 : Int32} {x3 : Int32} {x4 : Int32} {x5 : Int32} (t0 : Ty X n x0 9)
    (hk41 : ∀ (x5 : Int32) (I : MI) (L : ML) (H : Heap) (locs : List Loc) (ls : Array Slot), k41 x5 I L → Wd D X ad n A s.heap J I L H locs → lv_has ls 7 [(0, .ref (ad x0)), (2, .int x2), (3, .int x3), (4, .int x4), (5, .int x5)] → W p l e R s m av.toArray below meth c H locs 0 0 (MQ below (QV D X ad n A J q) av.toArray s 0 0 A) (F0 m 41 ls [])) : ∀ (fu : Nat) (x6 : Int32) (I : MI) (L : ML) (H : Heap) (locs : List Loc) (ls : Array Slot), wl_X8_absorb_50 X J q k41 x0 x2 x3 x4 x5 fu x6 I L → Wd D X ad n A s.heap J I L H locs → lv_has ls 7 [(0, .ref (ad x0)), (2, .int x2), (3, .int x3), (4, .int x4), (5, .int x5), (6, .int x6)] → W p l e R s m av.toArray below meth c H locs 0 0 (MQ below (QV D X ad n A J q) av.toArray s 0 0 A) (F0 m 50 ls []) := by
  obtain ⟨hx, hb, hr, hml, hown, hlk, hnm, hts, hK, hZ, hA, hWT⟩ := id C0
  subst hR
  intro fu
  induction fu with
  | zero => intro x6 I L H locs ls h; exact absurd h (fun h => h)
  | succ fu ih =>
    intro x6 I L H locs ls h hV hl
    refine lv_iload hx hb dX8_absorb_50 (lv_at hl 5 rfl) ?_
    refine lv_bipush (v := 8) hx hb dX8_absorb_52 (by decide) ?_
    refine lv_icmp_ge (tgt := 80) hx hb dX8_absorb_54 (by decide) (fun hc => ?_) (fun hc => ?_)
    · replace h := h.1 hc
      obtain ⟨x5_19, ex5_19⟩ : ∃ y : Int32, y = x5 + 1 := ⟨_, rfl⟩
      replace h := h x5_19 ex5_19
      refine lv_iinc (v := x5_19) (lv' := [(5, .int x5_19), (0, .ref (ad x0)), (2, .int x2), (3, .int x3), (4, .int x4), (6, .int x6)]) hx hb dX8_absorb_80 hl (k := 4) rfl (by rw [ex5_19]; rfl) (by decide) rfl (fun ls hl => ?_)
      refine lv_goto (tgt := 41) hx hb dX8_absorb_83 (by decide) ?_
      exact hk41 x5_19 _ _ _ _ _ h hV (lv_sub hl [1, 2, 3, 4, 0] rfl)
    · replace h := h.2 hc
      refine lv_aload_n hx hb dX8_absorb_57 rfl (lv_at hl 0 rfl) ?_
      refine lv_aload_n hx hb dX8_absorb_58 rfl (lv_at hl 0 rfl) ?_
      refine lv_iload_n hx hb dX8_absorb_59 rfl (lv_at hl 1 rfl) ?_
      refine lv_iload hx hb dX8_absorb_60 (lv_at hl 4 rfl) ?_
      refine lv_iadd hx hb dX8_absorb_62 ?_
      refine k_calli (va_runV (As := [.int (x2 + x5)]) (rest := [.ref (ad x0)]) ⟨hx, hb, hml, hown, hts⟩ (s_X8_byteAt l D X ad n A J hWT x0 t0 (x2 + x5) I L _ h) (cwV 1 hts (gV tw_3_191 tw_3_193 tw_0_16 tw_1_9 tw_3_194) rfl rfl rfl (by decide +kernel) (by decide)) (k_preV (ci := 5) hK hV hA hZ t0 rfl _) rfl rfl hl.1 rfl (lv_room (Nat.le_of_ble_eq_true rfl)) dX8_absorb_63 ⟨Nat.zero_le _, Nat.zero_le _⟩) hV (fun v_22 I_20 L_21 H locs h hV => ?_)
      refine lv_iload hx hb dX8_absorb_66 (lv_at hl 5 rfl) ?_
      refine lv_ishr hx hb dX8_absorb_68 ?_
      refine lv_iconst (v := 1) hx hb dX8_absorb_69 (by decide) ?_
      refine lv_iand hx hb dX8_absorb_70 ?_
      refine k_callv (va_runV (As := [.int ((jshr v_22 x6) &&& 1)]) (rest := []) ⟨hx, hb, hml, hown, hts⟩ (s_X8_takes l D X ad n A J hWT x0 t0 ((jshr v_22 x6) &&& 1) I_20 L_21 _ h) (cwV 1 hts (gV tw_3_215 tw_3_217 tw_0_21 tw_1_9 tw_3_218) rfl rfl rfl (by decide +kernel) (by decide)) (k_preV (ci := 5) hK hV hA hZ t0 rfl _) rfl rfl hl.1 rfl (lv_room (Nat.le_of_ble_eq_true rfl)) dX8_absorb_71 ⟨Nat.zero_le _, Nat.zero_le _⟩) hV (fun I_23 L_24 H locs h hV => ?_)
      obtain ⟨x6_25, ex6_25⟩ : ∃ y : Int32, y = x6 + 1 := ⟨_, rfl⟩
      replace h := h x6_25 ex6_25
      refine lv_iinc (v := x6_25) (lv' := [(6, .int x6_25), (0, .ref (ad x0)), (2, .int x2), (3, .int x3), (4, .int x4), (5, .int x5)]) hx hb dX8_absorb_74 hl (k := 5) rfl (by rw [ex6_25]; rfl) (by decide) rfl (fun ls hl => ?_)
      refine lv_goto (tgt := 50) hx hb dX8_absorb_77 (by decide) ?_
      exact ih x6_25 _ _ _ _ _ h hV (lv_sub hl [1, 2, 3, 4, 5, 0] rfl)
set_option maxHeartbeats 4000000 in
set_option maxRecDepth 100000 in
theorem n_X8_absorb_41 {p : Program} {l : Launch} {e : Env} {s : State} {m : MethodId} {below : List Frame} {meth : Method} {c : Code} {D : va_G} {X : XT} {ad : Nat → Nat} {n : Nat} {A : Nat → Prop} {J : MJ} {av : List Value} {R : Room} (hR : R = ({ frames := 5, cells := 0, slots := 0, locals := 113 } : Room)) (C0 : Cx p s m meth c cX8_absorb none 7 yX8_absorb av D X ad n A J) {q : MI → ML → Prop}  {x0 : Nat} {x2 : Int32} {x3 : Int32} {x4 : Int32} (t0 : Ty X n x0 9) : ∀ (fu : Nat) (x5 : Int32) (I : MI) (L : ML) (H : Heap) (locs : List Loc) (ls : Array Slot), wl_X8_absorb_41 X J q  x0 x2 x3 x4 fu x5 I L → Wd D X ad n A s.heap J I L H locs → lv_has ls 7 [(0, .ref (ad x0)), (2, .int x2), (3, .int x3), (4, .int x4), (5, .int x5)] → W p l e R s m av.toArray below meth c H locs 0 0 (MQ below (QV D X ad n A J q) av.toArray s 0 0 A) (F0 m 41 ls []) := by
  obtain ⟨hx, hb, hr, hml, hown, hlk, hnm, hts, hK, hZ, hA, hWT⟩ := id C0
  subst hR
  intro fu
  induction fu with
  | zero => intro x5 I L H locs ls h; exact absurd h (fun h => h)
  | succ fu ih =>
    intro x5 I L H locs ls h hV hl
    refine lv_iload hx hb dX8_absorb_41 (lv_at hl 4 rfl) ?_
    refine lv_iload_n hx hb dX8_absorb_43 rfl (lv_at hl 2 rfl) ?_
    refine lv_icmp_ge (tgt := 86) hx hb dX8_absorb_44 (by decide) (fun hc => ?_) (fun hc => ?_)
    · replace h := h.1 hc
      refine lv_iload hx hb dX8_absorb_86 (lv_at hl 3 rfl) ?_
      refine lv_if_eq (tgt := 104) hx hb dX8_absorb_88 (by decide) (fun hc => ?_) (fun hc => ?_)
      · replace h := h.1 hc
        refine lv_iconst (v := 0) hx hb dX8_absorb_104 (by decide) ?_
        refine lv_istore (lv' := [(5, .int 0), (0, .ref (ad x0)), (2, .int x2), (3, .int x3), (4, .int x4)]) hx hb dX8_absorb_105 hl (by decide) rfl (fun ls hl => ?_)
        obtain ⟨fu0, h⟩ := h
        exact n_X8_absorb_107 rfl C0 t0   fu0 0 _ _ _ _ _ h hV (lv_sub hl [1, 0] rfl)
      · replace h := h.2 hc
        refine lv_aload_n hx hb dX8_absorb_91 rfl (lv_at hl 0 rfl) ?_
        refine lv_iconst (v := 0) hx hb dX8_absorb_92 (by decide) ?_
        refine k_callv (va_runV (As := [.int 0]) (rest := []) ⟨hx, hb, hml, hown, hts⟩ (s_X8_takes l D X ad n A J hWT x0 t0 0 I L _ h) (cwV 1 hts (gV tw_3_215 tw_3_217 tw_0_21 tw_1_9 tw_3_218) rfl rfl rfl (by decide +kernel) (by decide)) (k_preV (ci := 5) hK hV hA hZ t0 rfl _) rfl rfl hl.1 rfl (lv_room (Nat.le_of_ble_eq_true rfl)) dX8_absorb_93 ⟨Nat.zero_le _, Nat.zero_le _⟩) hV (fun I_15 L_16 H locs h hV => ?_)
        refine lv_aload_n hx hb dX8_absorb_96 rfl (lv_at hl 0 rfl) ?_
        refine lv_iconst (v := 1) hx hb dX8_absorb_97 (by decide) ?_
        refine k_callv (va_runV (As := [.int 1]) (rest := []) ⟨hx, hb, hml, hown, hts⟩ (s_X8_takes l D X ad n A J hWT x0 t0 1 I_15 L_16 _ h) (cwV 1 hts (gV tw_3_215 tw_3_217 tw_0_21 tw_1_9 tw_3_218) rfl rfl rfl (by decide +kernel) (by decide)) (k_preV (ci := 5) hK hV hA hZ t0 rfl _) rfl rfl hl.1 rfl (lv_room (Nat.le_of_ble_eq_true rfl)) dX8_absorb_98 ⟨Nat.zero_le _, Nat.zero_le _⟩) hV (fun I_17 L_18 H locs h hV => ?_)
        refine lv_goto (tgt := 124) hx hb dX8_absorb_101 (by decide) ?_
        exact n_X8_absorb_124 rfl C0 t0   h hV (lv_sub hl [0] rfl)
    · replace h := h.2 hc
      refine lv_iconst (v := 0) hx hb dX8_absorb_47 (by decide) ?_
      refine lv_istore (lv' := [(6, .int 0), (0, .ref (ad x0)), (2, .int x2), (3, .int x3), (4, .int x4), (5, .int x5)]) hx hb dX8_absorb_48 hl (by decide) rfl (fun ls hl => ?_)
      obtain ⟨fu0, h⟩ := h
      exact n_X8_absorb_50 rfl C0 t0  (fun y5 I L H locs ls h hV hl => ih y5 I L H locs ls h hV (lv_sub hl [0, 1, 2, 3, 4] rfl)) fu0 0 _ _ _ _ _ h hV (lv_sub hl [1, 2, 3, 4, 5, 0] rfl)
set_option maxHeartbeats 4000000 in
set_option maxRecDepth 100000 in
theorem n_X8_absorb_16 {p : Program} {l : Launch} {e : Env} {s : State} {m : MethodId} {below : List Frame} {meth : Method} {c : Code} {D : va_G} {X : XT} {ad : Nat → Nat} {n : Nat} {A : Nat → Prop} {J : MJ} {av : List Value} {R : Room} (hR : R = ({ frames := 5, cells := 0, slots := 0, locals := 113 } : Room)) (C0 : Cx p s m meth c cX8_absorb none 7 yX8_absorb av D X ad n A J) {q : MI → ML → Prop}  {x0 : Nat} {x2 : Int32} {x3 : Int32} {x4 : Int32} (t0 : Ty X n x0 9) : ∀ (fu : Nat) (x5 : Int32) (I : MI) (L : ML) (H : Heap) (locs : List Loc) (ls : Array Slot), wl_X8_absorb_16 X J q  x0 x2 x3 x4 fu x5 I L → Wd D X ad n A s.heap J I L H locs → lv_has ls 7 [(0, .ref (ad x0)), (2, .int x2), (3, .int x3), (4, .int x4), (5, .int x5)] → W p l e R s m av.toArray below meth c H locs 0 0 (MQ below (QV D X ad n A J q) av.toArray s 0 0 A) (F0 m 16 ls []) := by
  obtain ⟨hx, hb, hr, hml, hown, hlk, hnm, hts, hK, hZ, hA, hWT⟩ := id C0
  subst hR
  intro fu
  induction fu with
  | zero => intro x5 I L H locs ls h; exact absurd h (fun h => h)
  | succ fu ih =>
    intro x5 I L H locs ls h hV hl
    refine lv_iload hx hb dX8_absorb_16 (lv_at hl 4 rfl) ?_
    refine lv_sipush (v := 1600) hx hb dX8_absorb_18 (by decide) ?_
    refine lv_icmp_ge (tgt := 38) hx hb dX8_absorb_21 (by decide) (fun hc => ?_) (fun hc => ?_)
    · replace h := h.1 hc
      refine lv_iconst (v := 0) hx hb dX8_absorb_38 (by decide) ?_
      refine lv_istore (lv' := [(5, .int 0), (0, .ref (ad x0)), (2, .int x2), (3, .int x3), (4, .int x4)]) hx hb dX8_absorb_39 hl (by decide) rfl (fun ls hl => ?_)
      obtain ⟨fu0, h⟩ := h
      exact n_X8_absorb_41 rfl C0 t0   fu0 0 _ _ _ _ _ h hV (lv_sub hl [1, 2, 3, 4, 0] rfl)
    · replace h := h.2 hc
      refine lv_aload_n hx hb dX8_absorb_24 rfl (lv_at hl 0 rfl) ?_
      obtain ⟨r_26, hr_26, h⟩ := h
      have tr_26 : Ty X n r_26 1 := hWT.r (c := 5) (j := 9) t0 rfl hr_26
      refine m_getr (C := RX8) (T := TX8) (N := 19) (ci := 5) hx hb hts iwX8 hown hK hV t0 rfl 9 (by decide) rfl rfl hr_26 (hts _ tw_3_100) (fun _ h9 => h9) dX8_absorb_25 ?_
      refine lv_iload hx hb dX8_absorb_28 (lv_at hl 4 rfl) ?_
      refine lv_iconst (v := 0) hx hb dX8_absorb_30 (by decide) ?_
      obtain ⟨hi_27, h⟩ := h
      refine m_bast hx hb hK hV tr_26 hi_27 dX8_absorb_31 (fun H locs hV => ?_)
      obtain ⟨I_28, eI_28⟩ : ∃ y, y = ms I r_26 x5.toNatClampNeg (jb8 0) := ⟨_, rfl⟩
      replace hV : Wd D X ad n A s.heap J I_28 L H locs := by rw [eI_28]; exact hV
      replace h := h I_28 eI_28
      obtain ⟨x5_29, ex5_29⟩ : ∃ y : Int32, y = x5 + 1 := ⟨_, rfl⟩
      replace h := h x5_29 ex5_29
      refine lv_iinc (v := x5_29) (lv' := [(5, .int x5_29), (0, .ref (ad x0)), (2, .int x2), (3, .int x3), (4, .int x4)]) hx hb dX8_absorb_32 hl (k := 4) rfl (by rw [ex5_29]; rfl) (by decide) rfl (fun ls hl => ?_)
      refine lv_goto (tgt := 16) hx hb dX8_absorb_35 (by decide) ?_
      exact ih x5_29 _ _ _ _ _ h hV (lv_sub hl [1, 2, 3, 4, 0] rfl)
set_option maxHeartbeats 4000000 in
set_option maxRecDepth 100000 in
theorem s_X8_absorb (l : Launch) (D : va_G) (X : XT) (ad : Nat → Nat) (n : Nat) (A : Nat → Prop) (J : MJ) (hWT : WT X n J) (x0 : Nat) (t0 : Ty X n x0 9) (x1 : Int32) (x2 : Int32) (x3 : Int32) (x4 : Int32) (I : MI) (L : ML) (q : MI → ML → Prop) (h : wp_X8_absorb X J x0 x1 x2 x3 x4 I L q) : Met l yX8_absorb (wz yX8_absorb cX8_absorb 7 none) ({ frames := 5, cells := 0, slots := 0, locals := 113 } : Room) (va_Pc [.ref (ad x0), .int x1, .int x2, .int x3, .int x4] (Pr D X ad n A J I L)) (QV D X ad n A J q) 0 0 A := by
  refine Met_go (by decide +kernel) (Nat.le_of_ble_eq_true rfl) (fun p e s m below meth c hx hb hr hml hown hlk hnm hts hK hZ hA hV ls hl => ?_)
  have C0 : Cx p s m meth c cX8_absorb none 7 yX8_absorb [.ref (ad x0), .int x1, .int x2, .int x3, .int x4] D X ad n A J := ⟨hx, hb, hr, hml, hown, hlk, hnm, hts, hK, hZ, hA, hWT⟩
  unfold wp_X8_absorb at h
  have hl : lv_has ls 7 [(0, .ref (ad x0)), (1, .int x1), (2, .int x2), (3, .int x3), (4, .int x4)] := hl
  refine lv_aload_n hx hb dX8_absorb_0 rfl (lv_at hl 0 rfl) ?_
  refine lv_bipush (v := 8) hx hb dX8_absorb_1 (by decide) ?_
  refine lv_iload_n hx hb dX8_absorb_3 rfl (lv_at hl 1 rfl) ?_
  refine lv_imul hx hb dX8_absorb_4 ?_
  refine m_puti (C := RX8) (T := TX8) (N := 19) (ci := 5) (ty := .int) hx hb hts iwX8 hown hK hV tyX8 tyX8_ok nmX8 t0 rfl 15 (by decide) rfl rfl (hts _ tw_3_106) (fun _ h9 => h9) rfl (by decide +kernel) rfl rfl dX8_absorb_5 (fun H locs hV => ?_)
  obtain ⟨I_1, eI_1⟩ : ∃ y, y = ms I x0 15 (8 * x1) := ⟨_, rfl⟩
  replace hV : Wd D X ad n A s.heap J I_1 L H locs := by rw [eI_1]; exact hV
  replace h := h I_1 eI_1
  refine lv_aload_n hx hb dX8_absorb_8 rfl (lv_at hl 0 rfl) ?_
  refine lv_iconst (v := 0) hx hb dX8_absorb_9 (by decide) ?_
  refine m_puti (C := RX8) (T := TX8) (N := 19) (ci := 5) (ty := .int) hx hb hts iwX8 hown hK hV tyX8 tyX8_ok nmX8 t0 rfl 14 (by decide) rfl rfl (hts _ tw_3_105) (fun _ h9 => h9) rfl (by decide +kernel) rfl rfl dX8_absorb_10 (fun H locs hV => ?_)
  obtain ⟨I_2, eI_2⟩ : ∃ y, y = ms I_1 x0 14 0 := ⟨_, rfl⟩
  replace hV : Wd D X ad n A s.heap J I_2 L H locs := by rw [eI_2]; exact hV
  replace h := h I_2 eI_2
  refine lv_iconst (v := 0) hx hb dX8_absorb_13 (by decide) ?_
  refine lv_istore (lv' := [(5, .int 0), (0, .ref (ad x0)), (1, .int x1), (2, .int x2), (3, .int x3), (4, .int x4)]) hx hb dX8_absorb_14 hl (by decide) rfl (fun ls hl => ?_)
  obtain ⟨fu0, h⟩ := h
  exact n_X8_absorb_16 rfl C0 t0   fu0 0 _ _ _ _ _ h hV (lv_sub hl [1, 3, 4, 5, 0] rfl)
set_option maxHeartbeats 4000000 in
set_option maxRecDepth 100000 in
theorem n_X8_told_24 {p : Program} {l : Launch} {e : Env} {s : State} {m : MethodId} {below : List Frame} {meth : Method} {c : Code} {D : va_G} {X : XT} {ad : Nat → Nat} {n : Nat} {A : Nat → Prop} {J : MJ} {av : List Value} {R : Room} (hR : R = ({ frames := 4, cells := 0, slots := 0, locals := 92 } : Room)) (C0 : Cx p s m meth c cX8_told (some .int) 3 yX8_told av D X ad n A J) {q : Int32 → MI → ML → Prop}  {x0 : Nat} (t0 : Ty X n x0 9) : ∀ (fu : Nat) (x1 : Int32) (x2 : Int32) (I : MI) (L : ML) (H : Heap) (locs : List Loc) (ls : Array Slot), wl_X8_told_24 X J q  x0 fu x1 x2 I L → Wd D X ad n A s.heap J I L H locs → lv_has ls 3 [(0, .ref (ad x0)), (1, .int x1), (2, .int x2)] → W p l e R s m av.toArray below meth c H locs 0 0 (MQ below (QI D X ad n A J q) av.toArray s 0 0 A) (F0 m 24 ls []) := by
  obtain ⟨hx, hb, hr, hml, hown, hlk, hnm, hts, hK, hZ, hA, hWT⟩ := id C0
  subst hR
  intro fu
  induction fu with
  | zero => intro x1 x2 I L H locs ls h; exact absurd h (fun h => h)
  | succ fu ih =>
    intro x1 x2 I L H locs ls h hV hl
    refine lv_iload_n hx hb dX8_told_24 rfl (lv_at hl 2 rfl) ?_
    refine lv_bipush (v := 8) hx hb dX8_told_25 (by decide) ?_
    refine lv_icmp_ge (tgt := 52) hx hb dX8_told_27 (by decide) (fun hc => ?_) (fun hc => ?_)
    · replace h := h.1 hc
      refine lv_aload_n hx hb dX8_told_52 rfl (lv_at hl 0 rfl) ?_
      refine lv_dup hx hb dX8_told_53 rfl ?_
      refine m_geti (C := RX8) (T := TX8) (N := 19) (ci := 5) hx hb hts iwX8 hown hK hV t0 rfl 14 (by decide) rfl rfl (hts _ tw_3_105) (fun _ h9 => h9) dX8_told_54 ?_
      refine lv_bipush (v := 8) hx hb dX8_told_57 (by decide) ?_
      refine lv_iadd hx hb dX8_told_59 ?_
      refine m_puti (C := RX8) (T := TX8) (N := 19) (ci := 5) (ty := .int) hx hb hts iwX8 hown hK hV tyX8 tyX8_ok nmX8 t0 rfl 14 (by decide) rfl rfl (hts _ tw_3_105) (fun _ h9 => h9) rfl (by decide +kernel) rfl rfl dX8_told_60 (fun H locs hV => ?_)
      obtain ⟨I_1, eI_1⟩ : ∃ y, y = ms I x0 14 ((I x0 14) + 8) := ⟨_, rfl⟩
      replace hV : Wd D X ad n A s.heap J I_1 L H locs := by rw [eI_1]; exact hV
      replace h := h I_1 eI_1
      refine lv_iload_n hx hb dX8_told_63 rfl (lv_at hl 1 rfl) ?_
      exact m_iret hx hb hr hlk hK hZ hA hV h dX8_told_64
    · replace h := h.2 hc
      refine lv_iload_n hx hb dX8_told_30 rfl (lv_at hl 1 rfl) ?_
      refine lv_aload_n hx hb dX8_told_31 rfl (lv_at hl 0 rfl) ?_
      obtain ⟨r_2, hr_2, h⟩ := h
      have tr_2 : Ty X n r_2 1 := hWT.r (c := 5) (j := 9) t0 rfl hr_2
      refine m_getr (C := RX8) (T := TX8) (N := 19) (ci := 5) hx hb hts iwX8 hown hK hV t0 rfl 9 (by decide) rfl rfl hr_2 (hts _ tw_3_100) (fun _ h9 => h9) dX8_told_32 ?_
      refine lv_aload_n hx hb dX8_told_35 rfl (lv_at hl 0 rfl) ?_
      refine m_geti (C := RX8) (T := TX8) (N := 19) (ci := 5) hx hb hts iwX8 hown hK hV t0 rfl 14 (by decide) rfl rfl (hts _ tw_3_105) (fun _ h9 => h9) dX8_told_36 ?_
      refine lv_iload_n hx hb dX8_told_39 rfl (lv_at hl 2 rfl) ?_
      refine lv_iadd hx hb dX8_told_40 ?_
      obtain ⟨hi_3, h⟩ := h
      refine m_bald hx hb hK hV tr_2 hi_3 dX8_told_41 ?_
      refine lv_iload_n hx hb dX8_told_42 rfl (lv_at hl 2 rfl) ?_
      refine lv_ishl hx hb dX8_told_43 ?_
      refine lv_ior hx hb dX8_told_44 ?_
      refine lv_topi (fun x1_4 ex1_4 => ?_)
      replace h := h x1_4 ex1_4
      refine lv_istore_n (lv' := [(1, .int x1_4), (0, .ref (ad x0)), (2, .int x2)]) hx hb dX8_told_45 rfl hl (by decide) rfl (fun ls hl => ?_)
      obtain ⟨x2_5, ex2_5⟩ : ∃ y : Int32, y = x2 + 1 := ⟨_, rfl⟩
      replace h := h x2_5 ex2_5
      refine lv_iinc (v := x2_5) (lv' := [(2, .int x2_5), (1, .int x1_4), (0, .ref (ad x0))]) hx hb dX8_told_46 hl (k := 2) rfl (by rw [ex2_5]; rfl) (by decide) rfl (fun ls hl => ?_)
      refine lv_goto (tgt := 24) hx hb dX8_told_49 (by decide) ?_
      exact ih x1_4 x2_5 _ _ _ _ _ h hV (lv_sub hl [2, 1, 0] rfl)
set_option maxHeartbeats 4000000 in
set_option maxRecDepth 100000 in
theorem n_X8_told_20 {p : Program} {l : Launch} {e : Env} {s : State} {m : MethodId} {below : List Frame} {meth : Method} {c : Code} {D : va_G} {X : XT} {ad : Nat → Nat} {n : Nat} {A : Nat → Prop} {J : MJ} {av : List Value} {R : Room} (hR : R = ({ frames := 4, cells := 0, slots := 0, locals := 92 } : Room)) (C0 : Cx p s m meth c cX8_told (some .int) 3 yX8_told av D X ad n A J) {q : Int32 → MI → ML → Prop}  {x0 : Nat}  {I : MI} {L : ML} {H : Heap} {locs : List Loc} {ls : Array Slot} (t0 : Ty X n x0 9) (h : wj_X8_told_20 X J q  x0  I L) (hV : Wd D X ad n A s.heap J I L H locs) (hl : lv_has ls 3 [(0, .ref (ad x0))]) : W p l e R s m av.toArray below meth c H locs 0 0 (MQ below (QI D X ad n A J q) av.toArray s 0 0 A) (F0 m 20 ls []) := by
  obtain ⟨hx, hb, hr, hml, hown, hlk, hnm, hts, hK, hZ, hA, hWT⟩ := id C0
  subst hR
  unfold wj_X8_told_20 at h
  refine lv_iconst (v := 0) hx hb dX8_told_20 (by decide) ?_
  refine lv_istore_n (lv' := [(1, .int 0), (0, .ref (ad x0))]) hx hb dX8_told_21 rfl hl (by decide) rfl (fun ls hl => ?_)
  refine lv_iconst (v := 0) hx hb dX8_told_22 (by decide) ?_
  refine lv_istore_n (lv' := [(2, .int 0), (1, .int 0), (0, .ref (ad x0))]) hx hb dX8_told_23 rfl hl (by decide) rfl (fun ls hl => ?_)
  obtain ⟨fu0, h⟩ := h
  exact n_X8_told_24 rfl C0 t0   fu0 0 0 _ _ _ _ _ h hV (lv_sub hl [2, 1, 0] rfl)
set_option maxHeartbeats 4000000 in
set_option maxRecDepth 100000 in
theorem s_X8_told (l : Launch) (D : va_G) (X : XT) (ad : Nat → Nat) (n : Nat) (A : Nat → Prop) (J : MJ) (hWT : WT X n J) (x0 : Nat) (t0 : Ty X n x0 9) (I : MI) (L : ML) (q : Int32 → MI → ML → Prop) (h : wp_X8_told X J x0 I L q) : Met l yX8_told (wz yX8_told cX8_told 3 (some .int)) ({ frames := 4, cells := 0, slots := 0, locals := 92 } : Room) (va_Pc [.ref (ad x0)] (Pr D X ad n A J I L)) (QI D X ad n A J q) 0 0 A := by
  refine Met_go (by decide +kernel) (Nat.le_of_ble_eq_true rfl) (fun p e s m below meth c hx hb hr hml hown hlk hnm hts hK hZ hA hV ls hl => ?_)
  have C0 : Cx p s m meth c cX8_told (some .int) 3 yX8_told [.ref (ad x0)] D X ad n A J := ⟨hx, hb, hr, hml, hown, hlk, hnm, hts, hK, hZ, hA, hWT⟩
  unfold wp_X8_told at h
  have hl : lv_has ls 3 [(0, .ref (ad x0))] := hl
  refine lv_aload_n hx hb dX8_told_0 rfl (lv_at hl 0 rfl) ?_
  refine m_geti (C := RX8) (T := TX8) (N := 19) (ci := 5) hx hb hts iwX8 hown hK hV t0 rfl 14 (by decide) rfl rfl (hts _ tw_3_105) (fun _ h9 => h9) dX8_told_1 ?_
  refine lv_aload_n hx hb dX8_told_4 rfl (lv_at hl 0 rfl) ?_
  refine m_geti (C := RX8) (T := TX8) (N := 19) (ci := 5) hx hb hts iwX8 hown hK hV t0 rfl 15 (by decide) rfl rfl (hts _ tw_3_106) (fun _ h9 => h9) dX8_told_5 ?_
  refine lv_icmp_ne (tgt := 20) hx hb dX8_told_8 (by decide) (fun hc => ?_) (fun hc => ?_)
  · replace h := h.1 hc
    exact n_X8_told_20 rfl C0 t0   h hV (lv_sub hl [0] rfl)
  · replace h := h.2 hc
    refine lv_aload_n hx hb dX8_told_11 rfl (lv_at hl 0 rfl) ?_
    refine k_callv (va_runV (As := []) (rest := []) ⟨hx, hb, hml, hown, hts⟩ (s_X8_rounds l D X ad n A J hWT x0 t0 I L _ h) (cwV 0 hts (gV tw_3_219 tw_3_221 tw_0_22 tw_1_9 tw_3_222) rfl rfl rfl (by decide +kernel) (by decide)) (k_preV (ci := 5) hK hV hA hZ t0 rfl _) rfl rfl hl.1 rfl (lv_room (Nat.le_of_ble_eq_true rfl)) dX8_told_12 ⟨Nat.zero_le _, Nat.zero_le _⟩) hV (fun I_6 L_7 H locs h hV => ?_)
    refine lv_aload_n hx hb dX8_told_15 rfl (lv_at hl 0 rfl) ?_
    refine lv_iconst (v := 0) hx hb dX8_told_16 (by decide) ?_
    refine m_puti (C := RX8) (T := TX8) (N := 19) (ci := 5) (ty := .int) hx hb hts iwX8 hown hK hV tyX8 tyX8_ok nmX8 t0 rfl 14 (by decide) rfl rfl (hts _ tw_3_105) (fun _ h9 => h9) rfl (by decide +kernel) rfl rfl dX8_told_17 (fun H locs hV => ?_)
    obtain ⟨I_8, eI_8⟩ : ∃ y, y = ms I_6 x0 14 0 := ⟨_, rfl⟩
    replace hV : Wd D X ad n A s.heap J I_8 L_7 H locs := by rw [eI_8]; exact hV
    replace h := h I_8 eI_8
    exact n_X8_told_20 rfl C0 t0   h hV (lv_sub hl [0] rfl)
set_option maxHeartbeats 4000000 in
set_option maxRecDepth 100000 in
theorem n_X8_tells_2 {p : Program} {l : Launch} {e : Env} {s : State} {m : MethodId} {below : List Frame} {meth : Method} {c : Code} {D : va_G} {X : XT} {ad : Nat → Nat} {n : Nat} {A : Nat → Prop} {J : MJ} {av : List Value} {R : Room} (hR : R = ({ frames := 5, cells := 0, slots := 0, locals := 114 } : Room)) (C0 : Cx p s m meth c cX8_tells none 4 yX8_tells av D X ad n A J) {q : MI → ML → Prop}  {x0 : Nat} {x1 : Int32} {x2 : Int32} (t0 : Ty X n x0 9) : ∀ (fu : Nat) (x3 : Int32) (I : MI) (L : ML) (H : Heap) (locs : List Loc) (ls : Array Slot), wl_X8_tells_2 X J q  x0 x1 x2 fu x3 I L → Wd D X ad n A s.heap J I L H locs → lv_has ls 4 [(0, .ref (ad x0)), (1, .int x1), (2, .int x2), (3, .int x3)] → W p l e R s m av.toArray below meth c H locs 0 0 (MQ below (QV D X ad n A J q) av.toArray s 0 0 A) (F0 m 2 ls []) := by
  obtain ⟨hx, hb, hr, hml, hown, hlk, hnm, hts, hK, hZ, hA, hWT⟩ := id C0
  subst hR
  intro fu
  induction fu with
  | zero => intro x3 I L H locs ls h; exact absurd h (fun h => h)
  | succ fu ih =>
    intro x3 I L H locs ls h hV hl
    refine lv_iload_n hx hb dX8_tells_2 rfl (lv_at hl 3 rfl) ?_
    refine lv_iload_n hx hb dX8_tells_3 rfl (lv_at hl 2 rfl) ?_
    refine lv_icmp_ge (tgt := 26) hx hb dX8_tells_4 (by decide) (fun hc => ?_) (fun hc => ?_)
    · replace h := h.1 hc
      exact m_vret hx hb hr hlk hK hZ hA hV h dX8_tells_26
    · replace h := h.2 hc
      refine lv_aload_n hx hb dX8_tells_7 rfl (lv_at hl 0 rfl) ?_
      obtain ⟨r_1, hr_1, h⟩ := h
      have tr_1 : Ty X n r_1 1 := hWT.r (c := 5) (j := 0) t0 rfl hr_1
      refine m_getr (C := RX8) (T := TX8) (N := 19) (ci := 5) hx hb hts iwX8 hown hK hV t0 rfl 0 (by decide) rfl rfl hr_1 (hts _ tw_3_91) (fun _ h9 => h9) dX8_tells_8 ?_
      refine lv_iload_n hx hb dX8_tells_11 rfl (lv_at hl 1 rfl) ?_
      refine lv_iload_n hx hb dX8_tells_12 rfl (lv_at hl 3 rfl) ?_
      refine lv_iadd hx hb dX8_tells_13 ?_
      refine lv_aload_n hx hb dX8_tells_14 rfl (lv_at hl 0 rfl) ?_
      refine k_calli (va_runV (As := []) (rest := [.int (x1 + x3), .ref (ad r_1)]) ⟨hx, hb, hml, hown, hts⟩ (s_X8_told l D X ad n A J hWT x0 t0 I L _ h) (cwV 0 hts (gV tw_3_235 tw_3_237 tw_0_26 tw_1_9 tw_3_238) rfl rfl rfl (by decide +kernel) (by decide)) (k_preV (ci := 5) hK hV hA hZ t0 rfl _) rfl rfl hl.1 rfl (lv_room (Nat.le_of_ble_eq_true rfl)) dX8_tells_15 ⟨Nat.zero_le _, Nat.zero_le _⟩) hV (fun v_4 I_2 L_3 H locs h hV => ?_)
      refine lv_i2b hx hb dX8_tells_18 rfl ?_
      obtain ⟨hi_5, h⟩ := h
      refine m_bast hx hb hK hV tr_1 hi_5 dX8_tells_19 (fun H locs hV => ?_)
      obtain ⟨I_6, eI_6⟩ : ∃ y, y = ms I_2 r_1 (x1 + x3).toNatClampNeg (jb8 (jb8 v_4)) := ⟨_, rfl⟩
      replace hV : Wd D X ad n A s.heap J I_6 L_3 H locs := by rw [eI_6]; exact hV
      replace h := h I_6 eI_6
      obtain ⟨x3_7, ex3_7⟩ : ∃ y : Int32, y = x3 + 1 := ⟨_, rfl⟩
      replace h := h x3_7 ex3_7
      refine lv_iinc (v := x3_7) (lv' := [(3, .int x3_7), (0, .ref (ad x0)), (1, .int x1), (2, .int x2)]) hx hb dX8_tells_20 hl (k := 3) rfl (by rw [ex3_7]; rfl) (by decide) rfl (fun ls hl => ?_)
      refine lv_goto (tgt := 2) hx hb dX8_tells_23 (by decide) ?_
      exact ih x3_7 _ _ _ _ _ h hV (lv_sub hl [1, 2, 3, 0] rfl)
set_option maxHeartbeats 4000000 in
set_option maxRecDepth 100000 in
theorem s_X8_tells (l : Launch) (D : va_G) (X : XT) (ad : Nat → Nat) (n : Nat) (A : Nat → Prop) (J : MJ) (hWT : WT X n J) (x0 : Nat) (t0 : Ty X n x0 9) (x1 : Int32) (x2 : Int32) (I : MI) (L : ML) (q : MI → ML → Prop) (h : wp_X8_tells X J x0 x1 x2 I L q) : Met l yX8_tells (wz yX8_tells cX8_tells 4 none) ({ frames := 5, cells := 0, slots := 0, locals := 114 } : Room) (va_Pc [.ref (ad x0), .int x1, .int x2] (Pr D X ad n A J I L)) (QV D X ad n A J q) 0 0 A := by
  refine Met_go (by decide +kernel) (Nat.le_of_ble_eq_true rfl) (fun p e s m below meth c hx hb hr hml hown hlk hnm hts hK hZ hA hV ls hl => ?_)
  have C0 : Cx p s m meth c cX8_tells none 4 yX8_tells [.ref (ad x0), .int x1, .int x2] D X ad n A J := ⟨hx, hb, hr, hml, hown, hlk, hnm, hts, hK, hZ, hA, hWT⟩
  unfold wp_X8_tells at h
  have hl : lv_has ls 4 [(0, .ref (ad x0)), (1, .int x1), (2, .int x2)] := hl
  refine lv_iconst (v := 0) hx hb dX8_tells_0 (by decide) ?_
  refine lv_istore_n (lv' := [(3, .int 0), (0, .ref (ad x0)), (1, .int x1), (2, .int x2)]) hx hb dX8_tells_1 rfl hl (by decide) rfl (fun ls hl => ?_)
  obtain ⟨fu0, h⟩ := h
  exact n_X8_tells_2 rfl C0 t0   fu0 0 _ _ _ _ _ h hV (lv_sub hl [1, 2, 3, 0] rfl)
set_option maxHeartbeats 4000000 in
set_option maxRecDepth 100000 in
theorem n_X8_powers_56 {p : Program} {l : Launch} {e : Env} {s : State} {m : MethodId} {below : List Frame} {meth : Method} {c : Code} {D : va_G} {X : XT} {ad : Nat → Nat} {n : Nat} {A : Nat → Prop} {J : MJ} {av : List Value} {R : Room} (hR : R = ({ frames := 0, cells := 0, slots := 0, locals := 0 } : Room)) (C0 : Cx p s m meth c cX8_powers none 4 yX8_powers av D X ad n A J) {q : MI → ML → Prop} {k45 : Int32 → MI → ML → Prop} {x0 : Nat} {x1 : Int32} (t0 : Ty X n x0 9)
    (hk45 : ∀ (x1 : Int32) (I : MI) (L : ML) (H : Heap) (locs : List Loc) (ls : Array Slot), k45 x1 I L → Wd D X ad n A s.heap J I L H locs → lv_has ls 4 [(0, .ref (ad x0)), (1, .int x1)] → W p l e R s m av.toArray below meth c H locs 0 0 (MQ below (QV D X ad n A J q) av.toArray s 0 0 A) (F0 m 45 ls [])) : ∀ (fu : Nat) (x2 : Int32) (x3 : Int32) (I : MI) (L : ML) (H : Heap) (locs : List Loc) (ls : Array Slot), wl_X8_powers_56 X J q k45 x0 x1 fu x2 x3 I L → Wd D X ad n A s.heap J I L H locs → lv_has ls 4 [(0, .ref (ad x0)), (1, .int x1), (2, .int x2), (3, .int x3)] → W p l e R s m av.toArray below meth c H locs 0 0 (MQ below (QV D X ad n A J q) av.toArray s 0 0 A) (F0 m 56 ls []) := by
  obtain ⟨hx, hb, hr, hml, hown, hlk, hnm, hts, hK, hZ, hA, hWT⟩ := id C0
  subst hR
  intro fu
  induction fu with
  | zero => intro x2 x3 I L H locs ls h; exact absurd h (fun h => h)
  | succ fu ih =>
    intro x2 x3 I L H locs ls h hV hl
    refine lv_iload_n hx hb dX8_powers_56 rfl (lv_at hl 3 rfl) ?_
    refine lv_bipush (v := 7) hx hb dX8_powers_57 (by decide) ?_
    refine lv_icmp_ge (tgt := 81) hx hb dX8_powers_59 (by decide) (fun hc => ?_) (fun hc => ?_)
    · replace h := h.1 hc
      refine lv_aload_n hx hb dX8_powers_81 rfl (lv_at hl 0 rfl) ?_
      obtain ⟨r_4, hr_4, h⟩ := h
      have tr_4 : Ty X n r_4 0 := hWT.r (c := 5) (j := 18) t0 rfl hr_4
      refine m_getr (C := RX8) (T := TX8) (N := 19) (ci := 5) hx hb hts iwX8 hown hK hV t0 rfl 18 (by decide) rfl rfl hr_4 (hts _ tw_3_109) (fun _ h9 => h9) dX8_powers_82 ?_
      refine lv_iload_n hx hb dX8_powers_85 rfl (lv_at hl 1 rfl) ?_
      refine lv_iconst (v := 2) hx hb dX8_powers_86 (by decide) ?_
      refine lv_iload_n hx hb dX8_powers_87 rfl (lv_at hl 2 rfl) ?_
      refine lv_imul hx hb dX8_powers_88 ?_
      refine lv_iconst (v := 1) hx hb dX8_powers_89 (by decide) ?_
      refine lv_iadd hx hb dX8_powers_90 ?_
      obtain ⟨hi_5, h⟩ := h
      refine m_iast hx hb hK hV tr_4 hi_5 dX8_powers_91 (fun H locs hV => ?_)
      obtain ⟨I_6, eI_6⟩ : ∃ y, y = ms I r_4 x1.toNatClampNeg ((2 * x2) + 1) := ⟨_, rfl⟩
      replace hV : Wd D X ad n A s.heap J I_6 L H locs := by rw [eI_6]; exact hV
      replace h := h I_6 eI_6
      obtain ⟨x1_7, ex1_7⟩ : ∃ y : Int32, y = x1 + 1 := ⟨_, rfl⟩
      replace h := h x1_7 ex1_7
      refine lv_iinc (v := x1_7) (lv' := [(1, .int x1_7), (0, .ref (ad x0)), (2, .int x2), (3, .int x3)]) hx hb dX8_powers_92 hl (k := 1) rfl (by rw [ex1_7]; rfl) (by decide) rfl (fun ls hl => ?_)
      refine lv_goto (tgt := 45) hx hb dX8_powers_95 (by decide) ?_
      exact hk45 x1_7 _ _ _ _ _ h hV (lv_sub hl [1, 0] rfl)
    · replace h := h.2 hc
      refine lv_iload_n hx hb dX8_powers_62 rfl (lv_at hl 2 rfl) ?_
      refine lv_iload_n hx hb dX8_powers_63 rfl (lv_at hl 1 rfl) ?_
      refine lv_iload_n hx hb dX8_powers_64 rfl (lv_at hl 3 rfl) ?_
      refine lv_ishr hx hb dX8_powers_65 ?_
      refine lv_iconst (v := 1) hx hb dX8_powers_66 (by decide) ?_
      refine lv_iand hx hb dX8_powers_67 ?_
      refine lv_bipush (v := 6) hx hb dX8_powers_68 (by decide) ?_
      refine lv_iload_n hx hb dX8_powers_70 rfl (lv_at hl 3 rfl) ?_
      refine lv_isub hx hb dX8_powers_71 ?_
      refine lv_ishl hx hb dX8_powers_72 ?_
      refine lv_ior hx hb dX8_powers_73 ?_
      refine lv_topi (fun x2_8 ex2_8 => ?_)
      replace h := h x2_8 ex2_8
      refine lv_istore_n (lv' := [(2, .int x2_8), (0, .ref (ad x0)), (1, .int x1), (3, .int x3)]) hx hb dX8_powers_74 rfl hl (by decide) rfl (fun ls hl => ?_)
      obtain ⟨x3_9, ex3_9⟩ : ∃ y : Int32, y = x3 + 1 := ⟨_, rfl⟩
      replace h := h x3_9 ex3_9
      refine lv_iinc (v := x3_9) (lv' := [(3, .int x3_9), (2, .int x2_8), (0, .ref (ad x0)), (1, .int x1)]) hx hb dX8_powers_75 hl (k := 3) rfl (by rw [ex3_9]; rfl) (by decide) rfl (fun ls hl => ?_)
      refine lv_goto (tgt := 56) hx hb dX8_powers_78 (by decide) ?_
      exact ih x2_8 x3_9 _ _ _ _ _ h hV (lv_sub hl [2, 3, 1, 0] rfl)
set_option maxHeartbeats 4000000 in
set_option maxRecDepth 100000 in
theorem n_X8_powers_45 {p : Program} {l : Launch} {e : Env} {s : State} {m : MethodId} {below : List Frame} {meth : Method} {c : Code} {D : va_G} {X : XT} {ad : Nat → Nat} {n : Nat} {A : Nat → Prop} {J : MJ} {av : List Value} {R : Room} (hR : R = ({ frames := 0, cells := 0, slots := 0, locals := 0 } : Room)) (C0 : Cx p s m meth c cX8_powers none 4 yX8_powers av D X ad n A J) {q : MI → ML → Prop}  {x0 : Nat} (t0 : Ty X n x0 9) : ∀ (fu : Nat) (x1 : Int32) (I : MI) (L : ML) (H : Heap) (locs : List Loc) (ls : Array Slot), wl_X8_powers_45 X J q  x0 fu x1 I L → Wd D X ad n A s.heap J I L H locs → lv_has ls 4 [(0, .ref (ad x0)), (1, .int x1)] → W p l e R s m av.toArray below meth c H locs 0 0 (MQ below (QV D X ad n A J q) av.toArray s 0 0 A) (F0 m 45 ls []) := by
  obtain ⟨hx, hb, hr, hml, hown, hlk, hnm, hts, hK, hZ, hA, hWT⟩ := id C0
  subst hR
  intro fu
  induction fu with
  | zero => intro x1 I L H locs ls h; exact absurd h (fun h => h)
  | succ fu ih =>
    intro x1 I L H locs ls h hV hl
    refine lv_iload_n hx hb dX8_powers_45 rfl (lv_at hl 1 rfl) ?_
    refine lv_sipush (v := 128) hx hb dX8_powers_46 (by decide) ?_
    refine lv_icmp_ge (tgt := 98) hx hb dX8_powers_49 (by decide) (fun hc => ?_) (fun hc => ?_)
    · replace h := h.1 hc
      exact m_vret hx hb hr hlk hK hZ hA hV h dX8_powers_98
    · replace h := h.2 hc
      refine lv_iconst (v := 0) hx hb dX8_powers_52 (by decide) ?_
      refine lv_istore_n (lv' := [(2, .int 0), (0, .ref (ad x0)), (1, .int x1)]) hx hb dX8_powers_53 rfl hl (by decide) rfl (fun ls hl => ?_)
      refine lv_iconst (v := 0) hx hb dX8_powers_54 (by decide) ?_
      refine lv_istore_n (lv' := [(3, .int 0), (2, .int 0), (0, .ref (ad x0)), (1, .int x1)]) hx hb dX8_powers_55 rfl hl (by decide) rfl (fun ls hl => ?_)
      obtain ⟨fu0, h⟩ := h
      exact n_X8_powers_56 rfl C0 t0  (fun y1 I L H locs ls h hV hl => ih y1 I L H locs ls h hV (lv_sub hl [0, 1] rfl)) fu0 0 0 _ _ _ _ _ h hV (lv_sub hl [2, 3, 1, 0] rfl)
set_option maxHeartbeats 4000000 in
set_option maxRecDepth 100000 in
theorem n_X8_powers_9 {p : Program} {l : Launch} {e : Env} {s : State} {m : MethodId} {below : List Frame} {meth : Method} {c : Code} {D : va_G} {X : XT} {ad : Nat → Nat} {n : Nat} {A : Nat → Prop} {J : MJ} {av : List Value} {R : Room} (hR : R = ({ frames := 0, cells := 0, slots := 0, locals := 0 } : Room)) (C0 : Cx p s m meth c cX8_powers none 4 yX8_powers av D X ad n A J) {q : MI → ML → Prop}  {x0 : Nat} (t0 : Ty X n x0 9) : ∀ (fu : Nat) (x1 : Int32) (I : MI) (L : ML) (H : Heap) (locs : List Loc) (ls : Array Slot), wl_X8_powers_9 X J q  x0 fu x1 I L → Wd D X ad n A s.heap J I L H locs → lv_has ls 4 [(0, .ref (ad x0)), (1, .int x1)] → W p l e R s m av.toArray below meth c H locs 0 0 (MQ below (QV D X ad n A J q) av.toArray s 0 0 A) (F0 m 9 ls []) := by
  obtain ⟨hx, hb, hr, hml, hown, hlk, hnm, hts, hK, hZ, hA, hWT⟩ := id C0
  subst hR
  intro fu
  induction fu with
  | zero => intro x1 I L H locs ls h; exact absurd h (fun h => h)
  | succ fu ih =>
    intro x1 I L H locs ls h hV hl
    refine lv_iload_n hx hb dX8_powers_9 rfl (lv_at hl 1 rfl) ?_
    refine lv_sipush (v := 256) hx hb dX8_powers_10 (by decide) ?_
    refine lv_icmp_ge (tgt := 43) hx hb dX8_powers_13 (by decide) (fun hc => ?_) (fun hc => ?_)
    · replace h := h.1 hc
      refine lv_iconst (v := 0) hx hb dX8_powers_43 (by decide) ?_
      refine lv_istore_n (lv' := [(1, .int 0), (0, .ref (ad x0))]) hx hb dX8_powers_44 rfl hl (by decide) rfl (fun ls hl => ?_)
      obtain ⟨fu0, h⟩ := h
      exact n_X8_powers_45 rfl C0 t0   fu0 0 _ _ _ _ _ h hV (lv_sub hl [1, 0] rfl)
    · replace h := h.2 hc
      refine lv_aload_n hx hb dX8_powers_16 rfl (lv_at hl 0 rfl) ?_
      obtain ⟨r_10, hr_10, h⟩ := h
      have tr_10 : Ty X n r_10 0 := hWT.r (c := 5) (j := 17) t0 rfl hr_10
      refine m_getr (C := RX8) (T := TX8) (N := 19) (ci := 5) hx hb hts iwX8 hown hK hV t0 rfl 17 (by decide) rfl rfl hr_10 (hts _ tw_3_108) (fun _ h9 => h9) dX8_powers_17 ?_
      refine lv_iload_n hx hb dX8_powers_20 rfl (lv_at hl 1 rfl) ?_
      refine lv_bipush (v := 17) hx hb dX8_powers_21 (by decide) ?_
      refine lv_aload_n hx hb dX8_powers_23 rfl (lv_at hl 0 rfl) ?_
      refine m_getr (C := RX8) (T := TX8) (N := 19) (ci := 5) hx hb hts iwX8 hown hK hV t0 rfl 17 (by decide) rfl rfl hr_10 (hts _ tw_3_108) (fun _ h9 => h9) dX8_powers_24 ?_
      refine lv_iload_n hx hb dX8_powers_27 rfl (lv_at hl 1 rfl) ?_
      refine lv_iconst (v := 1) hx hb dX8_powers_28 (by decide) ?_
      refine lv_isub hx hb dX8_powers_29 ?_
      obtain ⟨hi_11, h⟩ := h
      refine m_iald hx hb hK hV tr_10 hi_11 dX8_powers_30 ?_
      refine lv_imul hx hb dX8_powers_31 ?_
      refine lv_sipush (v := 3329) hx hb dX8_powers_32 (by decide) ?_
      refine lv_irem hx hb dX8_powers_35 (by decide) ?_
      obtain ⟨hi_12, h⟩ := h
      refine m_iast hx hb hK hV tr_10 hi_12 dX8_powers_36 (fun H locs hV => ?_)
      obtain ⟨I_13, eI_13⟩ : ∃ y, y = ms I r_10 x1.toNatClampNeg (jrem (17 * (I r_10 (x1 - 1).toNatClampNeg)) 3329) := ⟨_, rfl⟩
      replace hV : Wd D X ad n A s.heap J I_13 L H locs := by rw [eI_13]; exact hV
      replace h := h I_13 eI_13
      obtain ⟨x1_14, ex1_14⟩ : ∃ y : Int32, y = x1 + 1 := ⟨_, rfl⟩
      replace h := h x1_14 ex1_14
      refine lv_iinc (v := x1_14) (lv' := [(1, .int x1_14), (0, .ref (ad x0))]) hx hb dX8_powers_37 hl (k := 1) rfl (by rw [ex1_14]; rfl) (by decide) rfl (fun ls hl => ?_)
      refine lv_goto (tgt := 9) hx hb dX8_powers_40 (by decide) ?_
      exact ih x1_14 _ _ _ _ _ h hV (lv_sub hl [1, 0] rfl)
set_option maxHeartbeats 4000000 in
set_option maxRecDepth 100000 in
theorem s_X8_powers (l : Launch) (D : va_G) (X : XT) (ad : Nat → Nat) (n : Nat) (A : Nat → Prop) (J : MJ) (hWT : WT X n J) (x0 : Nat) (t0 : Ty X n x0 9) (I : MI) (L : ML) (q : MI → ML → Prop) (h : wp_X8_powers X J x0 I L q) : Met l yX8_powers (wz yX8_powers cX8_powers 4 none) ({ frames := 0, cells := 0, slots := 0, locals := 0 } : Room) (va_Pc [.ref (ad x0)] (Pr D X ad n A J I L)) (QV D X ad n A J q) 0 0 A := by
  refine Met_go (by decide +kernel) (Nat.le_of_ble_eq_true rfl) (fun p e s m below meth c hx hb hr hml hown hlk hnm hts hK hZ hA hV ls hl => ?_)
  have C0 : Cx p s m meth c cX8_powers none 4 yX8_powers [.ref (ad x0)] D X ad n A J := ⟨hx, hb, hr, hml, hown, hlk, hnm, hts, hK, hZ, hA, hWT⟩
  unfold wp_X8_powers at h
  have hl : lv_has ls 4 [(0, .ref (ad x0))] := hl
  refine lv_aload_n hx hb dX8_powers_0 rfl (lv_at hl 0 rfl) ?_
  obtain ⟨r_1, hr_1, h⟩ := h
  have tr_1 : Ty X n r_1 0 := hWT.r (c := 5) (j := 17) t0 rfl hr_1
  refine m_getr (C := RX8) (T := TX8) (N := 19) (ci := 5) hx hb hts iwX8 hown hK hV t0 rfl 17 (by decide) rfl rfl hr_1 (hts _ tw_3_108) (fun _ h9 => h9) dX8_powers_1 ?_
  refine lv_iconst (v := 0) hx hb dX8_powers_4 (by decide) ?_
  refine lv_iconst (v := 1) hx hb dX8_powers_5 (by decide) ?_
  obtain ⟨hi_2, h⟩ := h
  refine m_iast hx hb hK hV tr_1 hi_2 dX8_powers_6 (fun H locs hV => ?_)
  obtain ⟨I_3, eI_3⟩ : ∃ y, y = ms I r_1 (0 : Int32).toNatClampNeg 1 := ⟨_, rfl⟩
  replace hV : Wd D X ad n A s.heap J I_3 L H locs := by rw [eI_3]; exact hV
  replace h := h I_3 eI_3
  refine lv_iconst (v := 1) hx hb dX8_powers_7 (by decide) ?_
  refine lv_istore_n (lv' := [(1, .int 1), (0, .ref (ad x0))]) hx hb dX8_powers_8 rfl hl (by decide) rfl (fun ls hl => ?_)
  obtain ⟨fu0, h⟩ := h
  exact n_X8_powers_9 rfl C0 t0   fu0 1 _ _ _ _ _ h hV (lv_sub hl [1, 0] rfl)
