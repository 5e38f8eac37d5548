theorem tw_4_10 : Cond.constantLong RX8 85 (3329) ∈ gt := g4 10 (by decide +kernel) (by decide +kernel)
theorem tw_3_107 : Cond.fieldLink RX8 36 "LatticeVaultModel" "pol" "[I" ∈ gt := g3 107 (by decide +kernel) (by decide +kernel)
theorem tw_4_15 : Cond.methodLink RX8 87 yX8_copyPol ∈ gt := g4 15 (by decide +kernel) (by decide +kernel)
theorem tw_4_17 : Cond.instanceMethod yX8_copyPol ∈ gt := g4 17 (by decide +kernel) (by decide +kernel)
theorem tw_0_30 : Cond.selects RX8 yX8_copyPol yX8_copyPol ∈ gt := g0 30 (by decide +kernel) (by decide +kernel)
theorem tw_4_18 : Cond.code yX8_copyPol cX8_copyPol 4 none ∈ gt := g4 18 rfl (by rfl)
theorem tw_4_7 : Cond.methodLink RX8 91 yX8_ring ∈ gt := g4 7 (by decide +kernel) (by decide +kernel)
theorem tw_4_8 : Cond.static yX8_ring ∈ gt := g4 8 (by decide +kernel) (by decide +kernel)
theorem tw_4_9 : Cond.code yX8_ring cX8_ring 3 (some .int) ∈ gt := g4 9 rfl (by rfl)
theorem tw_4_75 : Cond.constantLong RX8 95 (3303) ∈ gt := g4 75 (by decide +kernel) (by decide +kernel)
theorem tw_4_84 : Cond.constantLong RX8 97 (2) ∈ gt := g4 84 (by decide +kernel) (by decide +kernel)
theorem tw_4_85 : Cond.constantLong RX8 99 (6658) ∈ gt := g4 85 (by decide +kernel) (by decide +kernel)
theorem tw_4_55 : Cond.methodLink RX8 101 yX8_group ∈ gt := g4 55 (by decide +kernel) (by decide +kernel)
theorem tw_4_57 : Cond.instanceMethod yX8_group ∈ gt := g4 57 (by decide +kernel) (by decide +kernel)
theorem tw_0_39 : Cond.selects RX8 yX8_group yX8_group ∈ gt := g0 39 (by decide +kernel) (by decide +kernel)
theorem tw_4_58 : Cond.code yX8_group cX8_group 7 (some .int) ∈ gt := g4 58 rfl (by rfl)
def wp_X8_ring (X : XT) (J : MJ) (x0 : Int64) (I : MI) (L : ML) (q : Int32 → MI → ML → Prop) : Prop := (∀ x2_1 : Int32, x2_1 = (jlrem x0 3329).toInt32 → (((0 ≤ x2_1) → q x2_1 I L) ∧ (¬ (0 ≤ x2_1) → q (x2_1 + 3329) I L)))
def wl_X8_copyPol_2 (X : XT) (J : MJ) (q : MI → ML → Prop)  (x0 : Nat) (x1 : Int32) (x2 : Int32) : Nat → Int32 → MI → ML → Prop
  | 0 => fun _ _ _ => False
  | fu + 1 => fun x3 I L => (((256 ≤ x3) → q I L) ∧ (¬ (256 ≤ x3) → (∃ r_1 : Nat, J x0 16 = some r_1 ∧ (vp_in ((256 * x1) + x3) (sl X r_1) ∧ (vp_in ((256 * x2) + x3) (sl X r_1) ∧ ∀ I_4, I_4 = ms I r_1 ((256 * x2) + x3).toNatClampNeg (I r_1 ((256 * x1) + x3).toNatClampNeg) → (∀ x3_5 : Int32, x3_5 = x3 + 1 → wl_X8_copyPol_2 X J q  x0 x1 x2 fu x3_5 I_4 L))))))
def wp_X8_copyPol (X : XT) (J : MJ) (x0 : Nat) (x1 : Int32) (x2 : Int32) (I : MI) (L : ML) (q : MI → ML → Prop) : Prop := ∃ fu0 : Nat, wl_X8_copyPol_2 X J q  x0 x1 x2 fu0 0 I L
def wl_X8_zero_2 (X : XT) (J : MJ) (q : MI → ML → Prop)  (x0 : Nat) (x1 : Int32) : Nat → Int32 → MI → ML → Prop
  | 0 => fun _ _ _ => False
  | fu + 1 => fun x2 I L => (((256 ≤ x2) → q I L) ∧ (¬ (256 ≤ x2) → (∃ r_1 : Nat, J x0 16 = some r_1 ∧ (vp_in ((256 * x1) + x2) (sl X r_1) ∧ ∀ I_3, I_3 = ms I r_1 ((256 * x1) + x2).toNatClampNeg 0 → (∀ x2_4 : Int32, x2_4 = x2 + 1 → wl_X8_zero_2 X J q  x0 x1 fu x2_4 I_3 L)))))
def wp_X8_zero (X : XT) (J : MJ) (x0 : Nat) (x1 : Int32) (I : MI) (L : ML) (q : MI → ML → Prop) : Prop := ∃ fu0 : Nat, wl_X8_zero_2 X J q  x0 x1 fu0 0 I L
def wl_X8_bringForward_24 (X : XT) (J : MJ) (q : MI → ML → Prop) (k9 : Int32 → MI → ML → Prop) (x0 : Nat) (x1 : Int32) (x2 : Int32) : Nat → Int64 → Int64 → Int32 → MI → ML → Prop
  | 0 => fun _ _ _ _ _ => False
  | fu + 1 => fun x3 x5 x7 I L => (((128 ≤ x7) → (∃ r_3 : Nat, J x0 16 = some r_3 ∧ (wp_X8_ring X J x3 I L (fun v_6 I_4 L_5 => (vp_in ((256 * x1) + (2 * x2)) (sl X r_3) ∧ ∀ I_8, I_8 = ms I_4 r_3 ((256 * x1) + (2 * x2)).toNatClampNeg v_6 → (wp_X8_ring X J x5 I_8 L_5 (fun v_11 I_9 L_10 => (vp_in (((256 * x1) + (2 * x2)) + 1) (sl X r_3) ∧ ∀ I_13, I_13 = ms I_9 r_3 (((256 * x1) + (2 * x2)) + 1).toNatClampNeg v_11 → (∀ x2_14 : Int32, x2_14 = x2 + 1 → k9 x2_14 I_13 L_10))))))))) ∧ (¬ (128 ≤ x7) → (∃ r_15 : Nat, J x0 17 = some r_15 ∧ (∃ r_16 : Nat, J x0 18 = some r_16 ∧ (vp_in x2 (sl X r_16) ∧ (vp_in (jrem ((I r_16 x2.toNatClampNeg) * x7) 256) (sl X r_15) ∧ (∀ x8_19 : Int64, x8_19 = (I r_15 (jrem ((I r_16 x2.toNatClampNeg) * x7) 256).toNatClampNeg).toInt64 → (∃ r_20 : Nat, J x0 16 = some r_20 ∧ (vp_in (4608 + (2 * x7)) (sl X r_20) ∧ (∀ x3_22 : Int64, x3_22 = x3 + (x8_19 * ((I r_20 (4608 + (2 * x7)).toNatClampNeg).toInt64)) → (vp_in ((4608 + (2 * x7)) + 1) (sl X r_20) ∧ (∀ x5_24 : Int64, x5_24 = x5 + (x8_19 * ((I r_20 ((4608 + (2 * x7)) + 1).toNatClampNeg).toInt64)) → (∀ x7_25 : Int32, x7_25 = x7 + 1 → wl_X8_bringForward_24 X J q k9 x0 x1 x2 fu x3_22 x5_24 x7_25 I L)))))))))))))
def wl_X8_bringForward_9 (X : XT) (J : MJ) (q : MI → ML → Prop)  (x0 : Nat) (x1 : Int32) : Nat → Int32 → MI → ML → Prop
  | 0 => fun _ _ _ => False
  | fu + 1 => fun x2 I L => (((128 ≤ x2) → q I L) ∧ (¬ (128 ≤ x2) → ∃ fu0 : Nat, wl_X8_bringForward_24 X J q (wl_X8_bringForward_9 X J q  x0 x1 fu) x0 x1 x2 fu0 0 0 0 I L))
def wp_X8_bringForward (X : XT) (J : MJ) (x0 : Nat) (x1 : Int32) (I : MI) (L : ML) (q : MI → ML → Prop) : Prop := (wp_X8_copyPol X J x0 x1 18 I L (fun I_1 L_2 => ∃ fu0 : Nat, wl_X8_bringForward_9 X J q  x0 x1 fu0 0 I_1 L_2))
def wl_X8_bringBack_24 (X : XT) (J : MJ) (q : MI → ML → Prop) (k9 : Int32 → MI → ML → Prop) (x0 : Nat) (x1 : Int32) (x2 : Int32) : Nat → Int64 → Int64 → Int32 → MI → ML → Prop
  | 0 => fun _ _ _ _ _ => False
  | fu + 1 => fun x3 x5 x7 I L => (((128 ≤ x7) → (∃ r_3 : Nat, J x0 16 = some r_3 ∧ (wp_X8_ring X J x3 I L (fun v_6 I_4 L_5 => (wp_X8_ring X J (3303 * v_6.toInt64) I_4 L_5 (fun v_9 I_7 L_8 => (vp_in ((256 * x1) + (2 * x2)) (sl X r_3) ∧ ∀ I_11, I_11 = ms I_7 r_3 ((256 * x1) + (2 * x2)).toNatClampNeg v_9 → (wp_X8_ring X J x5 I_11 L_8 (fun v_14 I_12 L_13 => (wp_X8_ring X J (3303 * v_14.toInt64) I_12 L_13 (fun v_17 I_15 L_16 => (vp_in (((256 * x1) + (2 * x2)) + 1) (sl X r_3) ∧ ∀ I_19, I_19 = ms I_15 r_3 (((256 * x1) + (2 * x2)) + 1).toNatClampNeg v_17 → (∀ x2_20 : Int32, x2_20 = x2 + 1 → k9 x2_20 I_19 L_16))))))))))))) ∧ (¬ (128 ≤ x7) → (∃ r_21 : Nat, J x0 17 = some r_21 ∧ (∃ r_22 : Nat, J x0 18 = some r_22 ∧ (vp_in x7 (sl X r_22) ∧ (vp_in (jrem (256 - (jrem ((I r_22 x7.toNatClampNeg) * x2) 256)) 256) (sl X r_21) ∧ (∀ x8_25 : Int64, x8_25 = (I r_21 (jrem (256 - (jrem ((I r_22 x7.toNatClampNeg) * x2) 256)) 256).toNatClampNeg).toInt64 → (∃ r_26 : Nat, J x0 16 = some r_26 ∧ (vp_in (4608 + (2 * x7)) (sl X r_26) ∧ (∀ x3_28 : Int64, x3_28 = x3 + (x8_25 * ((I r_26 (4608 + (2 * x7)).toNatClampNeg).toInt64)) → (vp_in ((4608 + (2 * x7)) + 1) (sl X r_26) ∧ (∀ x5_30 : Int64, x5_30 = x5 + (x8_25 * ((I r_26 ((4608 + (2 * x7)) + 1).toNatClampNeg).toInt64)) → (∀ x7_31 : Int32, x7_31 = x7 + 1 → wl_X8_bringBack_24 X J q k9 x0 x1 x2 fu x3_28 x5_30 x7_31 I L)))))))))))))
def wl_X8_bringBack_9 (X : XT) (J : MJ) (q : MI → ML → Prop)  (x0 : Nat) (x1 : Int32) : Nat → Int32 → MI → ML → Prop
  | 0 => fun _ _ _ => False
  | fu + 1 => fun x2 I L => (((128 ≤ x2) → q I L) ∧ (¬ (128 ≤ x2) → ∃ fu0 : Nat, wl_X8_bringBack_24 X J q (wl_X8_bringBack_9 X J q  x0 x1 fu) x0 x1 x2 fu0 0 0 0 I L))
def wp_X8_bringBack (X : XT) (J : MJ) (x0 : Nat) (x1 : Int32) (I : MI) (L : ML) (q : MI → ML → Prop) : Prop := (wp_X8_copyPol X J x0 x1 18 I L (fun I_1 L_2 => ∃ fu0 : Nat, wl_X8_bringBack_9 X J q  x0 x1 fu0 0 I_1 L_2))
def wj_X8_product_225 (X : XT) (J : MJ) (q : MI → ML → Prop) (k3 : Int32 → MI → ML → Prop) (x0 : Nat) (x1 : Int32) (x2 : Int32) (x3 : Int32) (x4 : Int32) (x5 : Int32) (z0 : Nat) (z1 : Int32) (z2 : Int64) (z3 : Int32) (I : MI) (L : ML) : Prop := (wp_X8_ring X J (z2 + z3.toInt64) I L (fun v_24 I_22 L_23 => (vp_in z1 (sl X z0) ∧ ∀ I_26, I_26 = ms I_22 z0 z1.toNatClampNeg v_24 → (∀ x5_27 : Int32, x5_27 = x5 + 1 → k3 x5_27 I_26 L_23))))
def wj_X8_product_175 (X : XT) (J : MJ) (q : MI → ML → Prop) (k3 : Int32 → MI → ML → Prop) (x0 : Nat) (x1 : Int32) (x2 : Int32) (x3 : Int32) (x4 : Int32) (x5 : Int32) (x16 : Int64) (z0 : Nat) (z1 : Int32) (z2 : Int64) (z3 : Int32) (I : MI) (L : ML) : Prop := (wp_X8_ring X J (z2 + z3.toInt64) I L (fun v_18 I_16 L_17 => (vp_in z1 (sl X z0) ∧ ∀ I_20, I_20 = ms I_16 z0 z1.toNatClampNeg v_18 → (∃ r_21 : Nat, J x0 16 = some r_21 ∧ (((x4 = 0) → wj_X8_product_225 X J q k3 x0 x1 x2 x3 x4 x5 r_21 (((256 * x3) + (2 * x5)) + 1) x16 0 I_20 L_17) ∧ (¬ (x4 = 0) → (vp_in (((256 * x3) + (2 * x5)) + 1) (sl X r_21) ∧ wj_X8_product_225 X J q k3 x0 x1 x2 x3 x4 x5 r_21 (((256 * x3) + (2 * x5)) + 1) x16 (I_20 r_21 (((256 * x3) + (2 * x5)) + 1).toNatClampNeg) I_20 L_17)))))))
def wl_X8_product_3 (X : XT) (J : MJ) (q : MI → ML → Prop)  (x0 : Nat) (x1 : Int32) (x2 : Int32) (x3 : Int32) (x4 : Int32) : Nat → Int32 → MI → ML → Prop
  | 0 => fun _ _ _ => False
  | fu + 1 => fun x5 I L => (((128 ≤ x5) → q I L) ∧ (¬ (128 ≤ x5) → (∃ r_1 : Nat, J x0 16 = some r_1 ∧ (vp_in ((256 * x1) + (2 * x5)) (sl X r_1) ∧ (∀ x6_3 : Int64, x6_3 = (I r_1 ((256 * x1) + (2 * x5)).toNatClampNeg).toInt64 → (vp_in (((256 * x1) + (2 * x5)) + 1) (sl X r_1) ∧ (∀ x8_5 : Int64, x8_5 = (I r_1 (((256 * x1) + (2 * x5)) + 1).toNatClampNeg).toInt64 → (vp_in ((256 * x2) + (2 * x5)) (sl X r_1) ∧ (∀ x10_7 : Int64, x10_7 = (I r_1 ((256 * x2) + (2 * x5)).toNatClampNeg).toInt64 → (vp_in (((256 * x2) + (2 * x5)) + 1) (sl X r_1) ∧ (∀ x12_9 : Int64, x12_9 = (I r_1 (((256 * x2) + (2 * x5)) + 1).toNatClampNeg).toInt64 → (∃ r_10 : Nat, J x0 17 = some r_10 ∧ (∃ r_11 : Nat, J x0 18 = some r_11 ∧ (vp_in x5 (sl X r_11) ∧ (vp_in (jrem (I r_11 x5.toNatClampNeg) 256) (sl X r_10) ∧ (∀ x14_14 : Int64, x14_14 = (x6_3 * x10_7) + ((jlrem (x8_5 * x12_9) 3329) * ((I r_10 (jrem (I r_11 x5.toNatClampNeg) 256).toNatClampNeg).toInt64)) → (∀ x16_15 : Int64, x16_15 = (x6_3 * x12_9) + (x8_5 * x10_7) → (((x4 = 0) → wj_X8_product_175 X J q (wl_X8_product_3 X J q  x0 x1 x2 x3 x4 fu) x0 x1 x2 x3 x4 x5 x16_15 r_1 ((256 * x3) + (2 * x5)) x14_14 0 I L) ∧ (¬ (x4 = 0) → (vp_in ((256 * x3) + (2 * x5)) (sl X r_1) ∧ wj_X8_product_175 X J q (wl_X8_product_3 X J q  x0 x1 x2 x3 x4 fu) x0 x1 x2 x3 x4 x5 x16_15 r_1 ((256 * x3) + (2 * x5)) x14_14 (I r_1 ((256 * x3) + (2 * x5)).toNatClampNeg) I L))))))))))))))))))))
def wp_X8_product (X : XT) (J : MJ) (x0 : Nat) (x1 : Int32) (x2 : Int32) (x3 : Int32) (x4 : Int32) (I : MI) (L : ML) (q : MI → ML → Prop) : Prop := ∃ fu0 : Nat, wl_X8_product_3 X J q  x0 x1 x2 x3 x4 fu0 0 I L
def wl_X8_plus_3 (X : XT) (J : MJ) (q : MI → ML → Prop)  (x0 : Nat) (x1 : Int32) (x2 : Int32) (x3 : Int32) : Nat → Int32 → MI → ML → Prop
  | 0 => fun _ _ _ => False
  | fu + 1 => fun x4 I L => (((256 ≤ x4) → q I L) ∧ (¬ (256 ≤ x4) → (∃ r_1 : Nat, J x0 16 = some r_1 ∧ (vp_in ((256 * x1) + x4) (sl X r_1) ∧ (vp_in ((256 * x2) + x4) (sl X r_1) ∧ (wp_X8_ring X J (((I r_1 ((256 * x1) + x4).toNatClampNeg).toInt64) + (x3.toInt64 * ((I r_1 ((256 * x2) + x4).toNatClampNeg).toInt64))) I L (fun v_6 I_4 L_5 => (vp_in ((256 * x1) + x4) (sl X r_1) ∧ ∀ I_8, I_8 = ms I_4 r_1 ((256 * x1) + x4).toNatClampNeg v_6 → (∀ x4_9 : Int32, x4_9 = x4 + 1 → wl_X8_plus_3 X J q  x0 x1 x2 x3 fu x4_9 I_8 L_5)))))))))
def wp_X8_plus (X : XT) (J : MJ) (x0 : Nat) (x1 : Int32) (x2 : Int32) (x3 : Int32) (I : MI) (L : ML) (q : MI → ML → Prop) : Prop := ∃ fu0 : Nat, wl_X8_plus_3 X J q  x0 x1 x2 x3 fu0 0 I L
def wl_X8_pressed_2 (X : XT) (J : MJ) (q : MI → ML → Prop)  (x0 : Nat) (x1 : Int32) (x2 : Int32) : Nat → Int32 → MI → ML → Prop
  | 0 => fun _ _ _ => False
  | fu + 1 => fun x3 I L => (((256 ≤ x3) → q I L) ∧ (¬ (256 ≤ x3) → (∃ r_1 : Nat, J x0 16 = some r_1 ∧ (vp_in ((256 * x1) + x3) (sl X r_1) ∧ (∀ x4_3 : Int64, x4_3 = ((2 * ((I r_1 ((256 * x1) + x3).toNatClampNeg).toInt64)) * (jlshl 1 x2)) + 3329 → (¬ jlshl 1 x2 = 0 ∧ (vp_in ((256 * x1) + x3) (sl X r_1) ∧ ∀ I_6, I_6 = ms I r_1 ((256 * x1) + x3).toNatClampNeg ((jlrem (x4_3 / 6658) (jlshl 1 x2)).toInt32) → (∀ x3_7 : Int32, x3_7 = x3 + 1 → wl_X8_pressed_2 X J q  x0 x1 x2 fu x3_7 I_6 L))))))))
def wp_X8_pressed (X : XT) (J : MJ) (x0 : Nat) (x1 : Int32) (x2 : Int32) (I : MI) (L : ML) (q : MI → ML → Prop) : Prop := ∃ fu0 : Nat, wl_X8_pressed_2 X J q  x0 x1 x2 fu0 0 I L
def wl_X8_stretched_2 (X : XT) (J : MJ) (q : MI → ML → Prop)  (x0 : Nat) (x1 : Int32) (x2 : Int32) : Nat → Int32 → MI → ML → Prop
  | 0 => fun _ _ _ => False
  | fu + 1 => fun x3 I L => (((256 ≤ x3) → q I L) ∧ (¬ (256 ≤ x3) → (∃ r_1 : Nat, J x0 16 = some r_1 ∧ (vp_in ((256 * x1) + x3) (sl X r_1) ∧ (¬ jshl 1 x2 = 0 ∧ (∀ x4_4 : Int64, x4_4 = (jrem (I r_1 ((256 * x1) + x3).toNatClampNeg) (jshl 1 x2)).toInt64 → (¬ jlshl 2 x2 = 0 ∧ (vp_in ((256 * x1) + x3) (sl X r_1) ∧ ∀ I_7, I_7 = ms I r_1 ((256 * x1) + x3).toNatClampNeg (((((2 * x4_4) * 3329) + (jlshl 1 x2)) / (jlshl 2 x2)).toInt32) → (∀ x3_8 : Int32, x3_8 = x3 + 1 → wl_X8_stretched_2 X J q  x0 x1 x2 fu x3_8 I_7 L)))))))))
def wp_X8_stretched (X : XT) (J : MJ) (x0 : Nat) (x1 : Int32) (x2 : Int32) (I : MI) (L : ML) (q : MI → ML → Prop) : Prop := ∃ fu0 : Nat, wl_X8_stretched_2 X J q  x0 x1 x2 fu0 0 I L
def wl_X8_written_31 (X : XT) (J : MJ) (q : MI → ML → Prop)  (x0 : Nat) (x1 : Int32) (x2 : Int32) (x3 : Int32) : Nat → Int32 → MI → ML → Prop
  | 0 => fun _ _ _ => False
  | fu + 1 => fun x4 I L => ((((256 * x2) ≤ x4) → q I L) ∧ (¬ ((256 * x2) ≤ x4) → (∃ r_1 : Nat, J x0 16 = some r_1 ∧ (¬ x2 = 0 ∧ (vp_in ((256 * x1) + (x4 / x2)) (sl X r_1) ∧ (¬ x2 = 0 ∧ (∀ x5_5 : Int32, x5_5 = (jshr (I r_1 ((256 * x1) + (x4 / x2)).toNatClampNeg) (jrem x4 x2)) &&& 1 → (∃ r_6 : Nat, J x0 0 = some r_6 ∧ (vp_in (x3 + (x4 / 8)) (sl X r_6) ∧ (vp_in (x3 + (x4 / 8)) (sl X r_6) ∧ ∀ I_9, I_9 = ms I r_6 (x3 + (x4 / 8)).toNatClampNeg (jb8 (jb8 ((I r_6 (x3 + (x4 / 8)).toNatClampNeg) ||| (jb8 (jshl x5_5 (jrem x4 8)))))) → (∀ x4_10 : Int32, x4_10 = x4 + 1 → wl_X8_written_31 X J q  x0 x1 x2 x3 fu x4_10 I_9 L)))))))))))
def wl_X8_written_3 (X : XT) (J : MJ) (q : MI → ML → Prop)  (x0 : Nat) (x1 : Int32) (x2 : Int32) (x3 : Int32) : Nat → Int32 → MI → ML → Prop
  | 0 => fun _ _ _ => False
  | fu + 1 => fun x4 I L => ((((32 * x2) ≤ x4) → ∃ fu0 : Nat, wl_X8_written_31 X J q  x0 x1 x2 x3 fu0 0 I L) ∧ (¬ ((32 * x2) ≤ x4) → (∃ r_11 : Nat, J x0 0 = some r_11 ∧ (vp_in (x3 + x4) (sl X r_11) ∧ ∀ I_13, I_13 = ms I r_11 (x3 + x4).toNatClampNeg (jb8 0) → (∀ x4_14 : Int32, x4_14 = x4 + 1 → wl_X8_written_3 X J q  x0 x1 x2 x3 fu x4_14 I_13 L)))))
def wp_X8_written (X : XT) (J : MJ) (x0 : Nat) (x1 : Int32) (x2 : Int32) (x3 : Int32) (I : MI) (L : ML) (q : MI → ML → Prop) : Prop := ∃ fu0 : Nat, wl_X8_written_3 X J q  x0 x1 x2 x3 fu0 0 I L
def wl_X8_group_6 (X : XT) (J : MJ) (q : Int32 → MI → ML → Prop)  (x0 : Nat) (x1 : Int32) (x2 : Int32) (x3 : Int32) : Nat → Int32 → Int32 → MI → ML → Prop
  | 0 => fun _ _ _ _ => False
  | fu + 1 => fun x4 x5 I L => (((x3 ≤ x5) → q x4 I L) ∧ (¬ (x3 ≤ x5) → (∀ x6_1 : Int32, x6_1 = (x3 * x2) + x5 → (wp_X8_byteAt X J x0 (x1 + (x6_1 / 8)) I L (fun v_4 I_2 L_3 => (∀ x4_5 : Int32, x4_5 = x4 ||| (jshl ((jshr v_4 (jrem x6_1 8)) &&& 1) x5) → (∀ x5_6 : Int32, x5_6 = x5 + 1 → wl_X8_group_6 X J q  x0 x1 x2 x3 fu x4_5 x5_6 I_2 L_3)))))))
def wp_X8_group (X : XT) (J : MJ) (x0 : Nat) (x1 : Int32) (x2 : Int32) (x3 : Int32) (I : MI) (L : ML) (q : Int32 → MI → ML → Prop) : Prop := ∃ fu0 : Nat, wl_X8_group_6 X J q  x0 x1 x2 x3 fu0 0 0 I L
def wl_X8_readPol_3 (X : XT) (J : MJ) (q : MI → ML → Prop)  (x0 : Nat) (x1 : Int32) (x2 : Int32) (x3 : Int32) : Nat → Int32 → MI → ML → Prop
  | 0 => fun _ _ _ => False
  | fu + 1 => fun x4 I L => (((256 ≤ x4) → q I L) ∧ (¬ (256 ≤ x4) → (∃ r_1 : Nat, J x0 16 = some r_1 ∧ (wp_X8_group X J x0 x3 x4 x2 I L (fun v_4 I_2 L_3 => (vp_in ((256 * x1) + x4) (sl X r_1) ∧ ∀ I_6, I_6 = ms I_2 r_1 ((256 * x1) + x4).toNatClampNeg (jrem v_4 3329) → (∀ x4_7 : Int32, x4_7 = x4 + 1 → wl_X8_readPol_3 X J q  x0 x1 x2 x3 fu x4_7 I_6 L_3)))))))
def wp_X8_readPol (X : XT) (J : MJ) (x0 : Nat) (x1 : Int32) (x2 : Int32) (x3 : Int32) (I : MI) (L : ML) (q : MI → ML → Prop) : Prop := ∃ fu0 : Nat, wl_X8_readPol_3 X J q  x0 x1 x2 x3 fu0 0 I L
set_option maxHeartbeats 4000000 in
set_option maxRecDepth 100000 in
theorem s_X8_ring (l : Launch) (D : va_G) (X : XT) (ad : Nat → Nat) (n : Nat) (A : Nat → Prop) (J : MJ) (hWT : WT X n J) (x0 : Int64) (I : MI) (L : ML) (q : Int32 → MI → ML → Prop) (h : wp_X8_ring X J x0 I L q) : Met l yX8_ring (wz yX8_ring cX8_ring 3 (some .int)) ({ frames := 0, cells := 0, slots := 0, locals := 0 } : Room) (va_Pc [.long x0] (Pr D X ad n A J I L)) (QI D X ad n A J q) 0 0 A := by
  refine Met_go (by decide +kernel) (Nat.le_of_ble_eq_true rfl) (fun p e s m below meth c hx hb hr hml hown hlk hnm hts hK hZ hA hV ls hl => ?_)
  have C0 : Cx p s m meth c cX8_ring (some .int) 3 yX8_ring [.long x0] D X ad n A J := ⟨hx, hb, hr, hml, hown, hlk, hnm, hts, hK, hZ, hA, hWT⟩
  unfold wp_X8_ring at h
  have hl : lv_has ls 3 [(0, .long x0)] := hl
  refine lv_lload_n hx hb dX8_ring_0 rfl (lv_at hl 0 rfl) ?_
  refine lv_ldc2 (v := 3329) hx hb hown (hts _ tw_4_10) dX8_ring_1 ?_
  refine lv_lrem hx hb dX8_ring_4 (by decide) ?_
  refine lv_l2i hx hb dX8_ring_5 rfl ?_
  refine lv_topi (fun x2_1 ex2_1 => ?_)
  replace h := h x2_1 ex2_1
  refine lv_istore_n (lv' := [(2, .int x2_1), (0, .long x0)]) hx hb dX8_ring_6 rfl hl (by decide) rfl (fun ls hl => ?_)
  refine lv_iload_n hx hb dX8_ring_7 rfl (lv_at hl 0 rfl) ?_
  refine lv_if_ge (tgt := 19) hx hb dX8_ring_8 (by decide) (fun hc => ?_) (fun hc => ?_)
  · replace h := h.1 hc
    refine lv_iload_n hx hb dX8_ring_19 rfl (lv_at hl 0 rfl) ?_
    exact m_iret hx hb hr hlk hK hZ hA hV h dX8_ring_20
  · replace h := h.2 hc
    refine lv_iload_n hx hb dX8_ring_11 rfl (lv_at hl 0 rfl) ?_
    refine lv_sipush (v := 3329) hx hb dX8_ring_12 (by decide) ?_
    refine lv_iadd hx hb dX8_ring_15 ?_
    refine lv_goto (tgt := 20) hx hb dX8_ring_16 (by decide) ?_
    exact m_iret hx hb hr hlk hK hZ hA hV h dX8_ring_20
set_option maxHeartbeats 4000000 in
set_option maxRecDepth 100000 in
theorem n_X8_copyPol_2 {p : Program} {l : Launch} {e : Env} {s : State} {m : MethodId} {below : List Frame} {meth : Method} {c : Code} {D : va_G} {X : XT} {ad : Nat → Nat} {n : Nat} {A : Nat → Prop} {J : MJ} {av : List Value} {R : Room} (hR : R = ({ frames := 0, cells := 0, slots := 0, locals := 0 } : Room)) (C0 : Cx p s m meth c cX8_copyPol none 4 yX8_copyPol av D X ad n A J) {q : MI → ML → Prop}  {x0 : Nat} {x1 : Int32} {x2 : Int32} (t0 : Ty X n x0 9) : ∀ (fu : Nat) (x3 : Int32) (I : MI) (L : ML) (H : Heap) (locs : List Loc) (ls : Array Slot), wl_X8_copyPol_2 X J q  x0 x1 x2 fu x3 I L → Wd D X ad n A s.heap J I L H locs → lv_has ls 4 [(0, .ref (ad x0)), (1, .int x1), (2, .int x2), (3, .int x3)] → W p l e R s m av.toArray below meth c H locs 0 0 (MQ below (QV D X ad n A J q) av.toArray s 0 0 A) (F0 m 2 ls []) := by
  obtain ⟨hx, hb, hr, hml, hown, hlk, hnm, hts, hK, hZ, hA, hWT⟩ := id C0
  subst hR
  intro fu
  induction fu with
  | zero => intro x3 I L H locs ls h; exact absurd h (fun h => h)
  | succ fu ih =>
    intro x3 I L H locs ls h hV hl
    refine lv_iload_n hx hb dX8_copyPol_2 rfl (lv_at hl 3 rfl) ?_
    refine lv_sipush (v := 256) hx hb dX8_copyPol_3 (by decide) ?_
    refine lv_icmp_ge (tgt := 39) hx hb dX8_copyPol_6 (by decide) (fun hc => ?_) (fun hc => ?_)
    · replace h := h.1 hc
      exact m_vret hx hb hr hlk hK hZ hA hV h dX8_copyPol_39
    · replace h := h.2 hc
      refine lv_aload_n hx hb dX8_copyPol_9 rfl (lv_at hl 0 rfl) ?_
      obtain ⟨r_1, hr_1, h⟩ := h
      have tr_1 : Ty X n r_1 0 := hWT.r (c := 5) (j := 16) t0 rfl hr_1
      refine m_getr (C := RX8) (T := TX8) (N := 19) (ci := 5) hx hb hts iwX8 hown hK hV t0 rfl 16 (by decide) rfl rfl hr_1 (hts _ tw_3_107) (fun _ h9 => h9) dX8_copyPol_10 ?_
      refine lv_sipush (v := 256) hx hb dX8_copyPol_13 (by decide) ?_
      refine lv_iload_n hx hb dX8_copyPol_16 rfl (lv_at hl 2 rfl) ?_
      refine lv_imul hx hb dX8_copyPol_17 ?_
      refine lv_iload_n hx hb dX8_copyPol_18 rfl (lv_at hl 3 rfl) ?_
      refine lv_iadd hx hb dX8_copyPol_19 ?_
      refine lv_aload_n hx hb dX8_copyPol_20 rfl (lv_at hl 0 rfl) ?_
      refine m_getr (C := RX8) (T := TX8) (N := 19) (ci := 5) hx hb hts iwX8 hown hK hV t0 rfl 16 (by decide) rfl rfl hr_1 (hts _ tw_3_107) (fun _ h9 => h9) dX8_copyPol_21 ?_
      refine lv_sipush (v := 256) hx hb dX8_copyPol_24 (by decide) ?_
      refine lv_iload_n hx hb dX8_copyPol_27 rfl (lv_at hl 1 rfl) ?_
      refine lv_imul hx hb dX8_copyPol_28 ?_
      refine lv_iload_n hx hb dX8_copyPol_29 rfl (lv_at hl 3 rfl) ?_
      refine lv_iadd hx hb dX8_copyPol_30 ?_
      obtain ⟨hi_2, h⟩ := h
      refine m_iald hx hb hK hV tr_1 hi_2 dX8_copyPol_31 ?_
      obtain ⟨hi_3, h⟩ := h
      refine m_iast hx hb hK hV tr_1 hi_3 dX8_copyPol_32 (fun H locs hV => ?_)
      obtain ⟨I_4, eI_4⟩ : ∃ y, y = ms I r_1 ((256 * x2) + x3).toNatClampNeg (I r_1 ((256 * x1) + x3).toNatClampNeg) := ⟨_, rfl⟩
      replace hV : Wd D X ad n A s.heap J I_4 L H locs := by rw [eI_4]; exact hV
      replace h := h I_4 eI_4
      obtain ⟨x3_5, ex3_5⟩ : ∃ y : Int32, y = x3 + 1 := ⟨_, rfl⟩
      replace h := h x3_5 ex3_5
      refine lv_iinc (v := x3_5) (lv' := [(3, .int x3_5), (0, .ref (ad x0)), (1, .int x1), (2, .int x2)]) hx hb dX8_copyPol_33 hl (k := 3) rfl (by rw [ex3_5]; rfl) (by decide) rfl (fun ls hl => ?_)
      refine lv_goto (tgt := 2) hx hb dX8_copyPol_36 (by decide) ?_
      exact ih x3_5 _ _ _ _ _ h hV (lv_sub hl [1, 2, 3, 0] rfl)
set_option maxHeartbeats 4000000 in
set_option maxRecDepth 100000 in
theorem s_X8_copyPol (l : Launch) (D : va_G) (X : XT) (ad : Nat → Nat) (n : Nat) (A : Nat → Prop) (J : MJ) (hWT : WT X n J) (x0 : Nat) (t0 : Ty X n x0 9) (x1 : Int32) (x2 : Int32) (I : MI) (L : ML) (q : MI → ML → Prop) (h : wp_X8_copyPol X J x0 x1 x2 I L q) : Met l yX8_copyPol (wz yX8_copyPol cX8_copyPol 4 none) ({ frames := 0, cells := 0, slots := 0, locals := 0 } : Room) (va_Pc [.ref (ad x0), .int x1, .int x2] (Pr D X ad n A J I L)) (QV D X ad n A J q) 0 0 A := by
  refine Met_go (by decide +kernel) (Nat.le_of_ble_eq_true rfl) (fun p e s m below meth c hx hb hr hml hown hlk hnm hts hK hZ hA hV ls hl => ?_)
  have C0 : Cx p s m meth c cX8_copyPol none 4 yX8_copyPol [.ref (ad x0), .int x1, .int x2] D X ad n A J := ⟨hx, hb, hr, hml, hown, hlk, hnm, hts, hK, hZ, hA, hWT⟩
  unfold wp_X8_copyPol at h
  have hl : lv_has ls 4 [(0, .ref (ad x0)), (1, .int x1), (2, .int x2)] := hl
  refine lv_iconst (v := 0) hx hb dX8_copyPol_0 (by decide) ?_
  refine lv_istore_n (lv' := [(3, .int 0), (0, .ref (ad x0)), (1, .int x1), (2, .int x2)]) hx hb dX8_copyPol_1 rfl hl (by decide) rfl (fun ls hl => ?_)
  obtain ⟨fu0, h⟩ := h
  exact n_X8_copyPol_2 rfl C0 t0   fu0 0 _ _ _ _ _ h hV (lv_sub hl [1, 2, 3, 0] rfl)
set_option maxHeartbeats 4000000 in
set_option maxRecDepth 100000 in
theorem n_X8_zero_2 {p : Program} {l : Launch} {e : Env} {s : State} {m : MethodId} {below : List Frame} {meth : Method} {c : Code} {D : va_G} {X : XT} {ad : Nat → Nat} {n : Nat} {A : Nat → Prop} {J : MJ} {av : List Value} {R : Room} (hR : R = ({ frames := 0, cells := 0, slots := 0, locals := 0 } : Room)) (C0 : Cx p s m meth c cX8_zero none 3 yX8_zero av D X ad n A J) {q : MI → ML → Prop}  {x0 : Nat} {x1 : Int32} (t0 : Ty X n x0 9) : ∀ (fu : Nat) (x2 : Int32) (I : MI) (L : ML) (H : Heap) (locs : List Loc) (ls : Array Slot), wl_X8_zero_2 X J q  x0 x1 fu x2 I L → Wd D X ad n A s.heap J I L H locs → lv_has ls 3 [(0, .ref (ad x0)), (1, .int x1), (2, .int x2)] → W p l e R s m av.toArray below meth c H locs 0 0 (MQ below (QV D X ad n A J q) av.toArray s 0 0 A) (F0 m 2 ls []) := by
  obtain ⟨hx, hb, hr, hml, hown, hlk, hnm, hts, hK, hZ, hA, hWT⟩ := id C0
  subst hR
  intro fu
  induction fu with
  | zero => intro x2 I L H locs ls h; exact absurd h (fun h => h)
  | succ fu ih =>
    intro x2 I L H locs ls h hV hl
    refine lv_iload_n hx hb dX8_zero_2 rfl (lv_at hl 2 rfl) ?_
    refine lv_sipush (v := 256) hx hb dX8_zero_3 (by decide) ?_
    refine lv_icmp_ge (tgt := 28) hx hb dX8_zero_6 (by decide) (fun hc => ?_) (fun hc => ?_)
    · replace h := h.1 hc
      exact m_vret hx hb hr hlk hK hZ hA hV h dX8_zero_28
    · replace h := h.2 hc
      refine lv_aload_n hx hb dX8_zero_9 rfl (lv_at hl 0 rfl) ?_
      obtain ⟨r_1, hr_1, h⟩ := h
      have tr_1 : Ty X n r_1 0 := hWT.r (c := 5) (j := 16) t0 rfl hr_1
      refine m_getr (C := RX8) (T := TX8) (N := 19) (ci := 5) hx hb hts iwX8 hown hK hV t0 rfl 16 (by decide) rfl rfl hr_1 (hts _ tw_3_107) (fun _ h9 => h9) dX8_zero_10 ?_
      refine lv_sipush (v := 256) hx hb dX8_zero_13 (by decide) ?_
      refine lv_iload_n hx hb dX8_zero_16 rfl (lv_at hl 1 rfl) ?_
      refine lv_imul hx hb dX8_zero_17 ?_
      refine lv_iload_n hx hb dX8_zero_18 rfl (lv_at hl 2 rfl) ?_
      refine lv_iadd hx hb dX8_zero_19 ?_
      refine lv_iconst (v := 0) hx hb dX8_zero_20 (by decide) ?_
      obtain ⟨hi_2, h⟩ := h
      refine m_iast hx hb hK hV tr_1 hi_2 dX8_zero_21 (fun H locs hV => ?_)
      obtain ⟨I_3, eI_3⟩ : ∃ y, y = ms I r_1 ((256 * x1) + x2).toNatClampNeg 0 := ⟨_, rfl⟩
      replace hV : Wd D X ad n A s.heap J I_3 L H locs := by rw [eI_3]; exact hV
      replace h := h I_3 eI_3
      obtain ⟨x2_4, ex2_4⟩ : ∃ y : Int32, y = x2 + 1 := ⟨_, rfl⟩
      replace h := h x2_4 ex2_4
      refine lv_iinc (v := x2_4) (lv' := [(2, .int x2_4), (0, .ref (ad x0)), (1, .int x1)]) hx hb dX8_zero_22 hl (k := 2) rfl (by rw [ex2_4]; rfl) (by decide) rfl (fun ls hl => ?_)
      refine lv_goto (tgt := 2) hx hb dX8_zero_25 (by decide) ?_
      exact ih x2_4 _ _ _ _ _ h hV (lv_sub hl [1, 2, 0] rfl)
set_option maxHeartbeats 4000000 in
set_option maxRecDepth 100000 in
theorem s_X8_zero (l : Launch) (D : va_G) (X : XT) (ad : Nat → Nat) (n : Nat) (A : Nat → Prop) (J : MJ) (hWT : WT X n J) (x0 : Nat) (t0 : Ty X n x0 9) (x1 : Int32) (I : MI) (L : ML) (q : MI → ML → Prop) (h : wp_X8_zero X J x0 x1 I L q) : Met l yX8_zero (wz yX8_zero cX8_zero 3 none) ({ frames := 0, cells := 0, slots := 0, locals := 0 } : Room) (va_Pc [.ref (ad x0), .int x1] (Pr D X ad n A J I L)) (QV D X ad n A J q) 0 0 A := by
  refine Met_go (by decide +kernel) (Nat.le_of_ble_eq_true rfl) (fun p e s m below meth c hx hb hr hml hown hlk hnm hts hK hZ hA hV ls hl => ?_)
  have C0 : Cx p s m meth c cX8_zero none 3 yX8_zero [.ref (ad x0), .int x1] D X ad n A J := ⟨hx, hb, hr, hml, hown, hlk, hnm, hts, hK, hZ, hA, hWT⟩
  unfold wp_X8_zero at h
  have hl : lv_has ls 3 [(0, .ref (ad x0)), (1, .int x1)] := hl
  refine lv_iconst (v := 0) hx hb dX8_zero_0 (by decide) ?_
  refine lv_istore_n (lv' := [(2, .int 0), (0, .ref (ad x0)), (1, .int x1)]) hx hb dX8_zero_1 rfl hl (by decide) rfl (fun ls hl => ?_)
  obtain ⟨fu0, h⟩ := h
  exact n_X8_zero_2 rfl C0 t0   fu0 0 _ _ _ _ _ h hV (lv_sub hl [1, 2, 0] rfl)
set_option maxHeartbeats 4000000 in
set_option maxRecDepth 100000 in
theorem n_X8_bringForward_24 {p : Program} {l : Launch} {e : Env} {s : State} {m : MethodId} {below : List Frame} {meth : Method} {c : Code} {D : va_G} {X : XT} {ad : Nat → Nat} {n : Nat} {A : Nat → Prop} {J : MJ} {av : List Value} {R : Room} (hR : R = ({ frames := 1, cells := 0, slots := 0, locals := 23 } : Room)) (C0 : Cx p s m meth c cX8_bringForward none 10 yX8_bringForward av D X ad n A J) {q : MI → ML → Prop} {k9 : Int32 → MI → ML → Prop} {x0 : Nat} {x1 : Int32} {x2 : Int32} (t0 : Ty X n x0 9)
    (hk9 : ∀ (x2 : Int32) (I : MI) (L : ML) (H : Heap) (locs : List Loc) (ls : Array Slot), k9 x2 I L → Wd D X ad n A s.heap J I L H locs → lv_has ls 10 [(0, .ref (ad x0)), (1, .int x1), (2, .int x2)] → W p l e R s m av.toArray below meth c H locs 0 0 (MQ below (QV D X ad n A J q) av.toArray s 0 0 A) (F0 m 9 ls [])) : ∀ (fu : Nat) (x3 : Int64) (x5 : Int64) (x7 : Int32) (I : MI) (L : ML) (H : Heap) (locs : List Loc) (ls : Array Slot), wl_X8_bringForward_24 X J q k9 x0 x1 x2 fu x3 x5 x7 I L → Wd D X ad n A s.heap J I L H locs → lv_has ls 10 [(0, .ref (ad x0)), (1, .int x1), (2, .int x2), (3, .long x3), (5, .long x5), (7, .int x7)] → W p l e R s m av.toArray below meth c H locs 0 0 (MQ below (QV D X ad n A J q) av.toArray s 0 0 A) (F0 m 24 ls []) := by
  obtain ⟨hx, hb, hr, hml, hown, hlk, hnm, hts, hK, hZ, hA, hWT⟩ := id C0
  subst hR
  intro fu
  induction fu with
  | zero => intro x3 x5 x7 I L H locs ls h; exact absurd h (fun h => h)
  | succ fu ih =>
    intro x3 x5 x7 I L H locs ls h hV hl
    refine lv_iload hx hb dX8_bringForward_24 (lv_at hl 5 rfl) ?_
    refine lv_sipush (v := 128) hx hb dX8_bringForward_26 (by decide) ?_
    refine lv_icmp_ge (tgt := 103) hx hb dX8_bringForward_29 (by decide) (fun hc => ?_) (fun hc => ?_)
    · replace h := h.1 hc
      refine lv_aload_n hx hb dX8_bringForward_103 rfl (lv_at hl 0 rfl) ?_
      obtain ⟨r_3, hr_3, h⟩ := h
      have tr_3 : Ty X n r_3 0 := hWT.r (c := 5) (j := 16) t0 rfl hr_3
      refine m_getr (C := RX8) (T := TX8) (N := 19) (ci := 5) hx hb hts iwX8 hown hK hV t0 rfl 16 (by decide) rfl rfl hr_3 (hts _ tw_3_107) (fun _ h9 => h9) dX8_bringForward_104 ?_
      refine lv_sipush (v := 256) hx hb dX8_bringForward_107 (by decide) ?_
      refine lv_iload_n hx hb dX8_bringForward_110 rfl (lv_at hl 1 rfl) ?_
      refine lv_imul hx hb dX8_bringForward_111 ?_
      refine lv_iconst (v := 2) hx hb dX8_bringForward_112 (by decide) ?_
      refine lv_iload_n hx hb dX8_bringForward_113 rfl (lv_at hl 2 rfl) ?_
      refine lv_imul hx hb dX8_bringForward_114 ?_
      refine lv_iadd hx hb dX8_bringForward_115 ?_
      refine lv_lload_n hx hb dX8_bringForward_116 rfl (lv_at hl 3 rfl) ?_
      refine k_calli (va_runS (As := [.long x3]) (rest := [.int ((256 * x1) + (2 * x2)), .ref (ad r_3)]) ⟨hx, hb, hml, hown, hts⟩ (s_X8_ring l D X ad n A J hWT x3 I L _ h) (va_cwS 1 hts (gS tw_4_7 tw_4_8 tw_1_9 tw_4_9) rfl rfl rfl (by decide +kernel) (by decide)) (k_preS hK hV hA hZ _) rfl rfl hl.1 rfl (lv_room (Nat.le_of_ble_eq_true rfl)) dX8_bringForward_117 ⟨Nat.zero_le _, Nat.zero_le _⟩) hV (fun v_6 I_4 L_5 H locs h hV => ?_)
      obtain ⟨hi_7, h⟩ := h
      refine m_iast hx hb hK hV tr_3 hi_7 dX8_bringForward_120 (fun H locs hV => ?_)
      obtain ⟨I_8, eI_8⟩ : ∃ y, y = ms I_4 r_3 ((256 * x1) + (2 * x2)).toNatClampNeg v_6 := ⟨_, rfl⟩
      replace hV : Wd D X ad n A s.heap J I_8 L_5 H locs := by rw [eI_8]; exact hV
      replace h := h I_8 eI_8
      refine lv_aload_n hx hb dX8_bringForward_121 rfl (lv_at hl 0 rfl) ?_
      refine m_getr (C := RX8) (T := TX8) (N := 19) (ci := 5) hx hb hts iwX8 hown hK hV t0 rfl 16 (by decide) rfl rfl hr_3 (hts _ tw_3_107) (fun _ h9 => h9) dX8_bringForward_122 ?_
      refine lv_sipush (v := 256) hx hb dX8_bringForward_125 (by decide) ?_
      refine lv_iload_n hx hb dX8_bringForward_128 rfl (lv_at hl 1 rfl) ?_
      refine lv_imul hx hb dX8_bringForward_129 ?_
      refine lv_iconst (v := 2) hx hb dX8_bringForward_130 (by decide) ?_
      refine lv_iload_n hx hb dX8_bringForward_131 rfl (lv_at hl 2 rfl) ?_
      refine lv_imul hx hb dX8_bringForward_132 ?_
      refine lv_iadd hx hb dX8_bringForward_133 ?_
      refine lv_iconst (v := 1) hx hb dX8_bringForward_134 (by decide) ?_
      refine lv_iadd hx hb dX8_bringForward_135 ?_
      refine lv_lload hx hb dX8_bringForward_136 (lv_at hl 4 rfl) ?_
      refine k_calli (va_runS (As := [.long x5]) (rest := [.int (((256 * x1) + (2 * x2)) + 1), .ref (ad r_3)]) ⟨hx, hb, hml, hown, hts⟩ (s_X8_ring l D X ad n A J hWT x5 I_8 L_5 _ h) (va_cwS 1 hts (gS tw_4_7 tw_4_8 tw_1_9 tw_4_9) rfl rfl rfl (by decide +kernel) (by decide)) (k_preS hK hV hA hZ _) rfl rfl hl.1 rfl (lv_room (Nat.le_of_ble_eq_true rfl)) dX8_bringForward_138 ⟨Nat.zero_le _, Nat.zero_le _⟩) hV (fun v_11 I_9 L_10 H locs h hV => ?_)
      obtain ⟨hi_12, h⟩ := h
      refine m_iast hx hb hK hV tr_3 hi_12 dX8_bringForward_141 (fun H locs hV => ?_)
      obtain ⟨I_13, eI_13⟩ : ∃ y, y = ms I_9 r_3 (((256 * x1) + (2 * x2)) + 1).toNatClampNeg v_11 := ⟨_, rfl⟩
      replace hV : Wd D X ad n A s.heap J I_13 L_10 H locs := by rw [eI_13]; exact hV
      replace h := h I_13 eI_13
      obtain ⟨x2_14, ex2_14⟩ : ∃ y : Int32, y = x2 + 1 := ⟨_, rfl⟩
      replace h := h x2_14 ex2_14
      refine lv_iinc (v := x2_14) (lv' := [(2, .int x2_14), (0, .ref (ad x0)), (1, .int x1), (3, .long x3), (5, .long x5), (7, .int x7)]) hx hb dX8_bringForward_142 hl (k := 2) rfl (by rw [ex2_14]; rfl) (by decide) rfl (fun ls hl => ?_)
      refine lv_goto (tgt := 9) hx hb dX8_bringForward_145 (by decide) ?_
      exact hk9 x2_14 _ _ _ _ _ h hV (lv_sub hl [1, 2, 0] rfl)
    · replace h := h.2 hc
      refine lv_aload_n hx hb dX8_bringForward_32 rfl (lv_at hl 0 rfl) ?_
      obtain ⟨r_15, hr_15, h⟩ := h
      have tr_15 : Ty X n r_15 0 := hWT.r (c := 5) (j := 17) t0 rfl hr_15
      refine m_getr (C := RX8) (T := TX8) (N := 19) (ci := 5) hx hb hts iwX8 hown hK hV t0 rfl 17 (by decide) rfl rfl hr_15 (hts _ tw_3_108) (fun _ h9 => h9) dX8_bringForward_33 ?_
      refine lv_aload_n hx hb dX8_bringForward_36 rfl (lv_at hl 0 rfl) ?_
      obtain ⟨r_16, hr_16, h⟩ := h
      have tr_16 : Ty X n r_16 0 := hWT.r (c := 5) (j := 18) t0 rfl hr_16
      refine m_getr (C := RX8) (T := TX8) (N := 19) (ci := 5) hx hb hts iwX8 hown hK hV t0 rfl 18 (by decide) rfl rfl hr_16 (hts _ tw_3_109) (fun _ h9 => h9) dX8_bringForward_37 ?_
      refine lv_iload_n hx hb dX8_bringForward_40 rfl (lv_at hl 2 rfl) ?_
      obtain ⟨hi_17, h⟩ := h
      refine m_iald hx hb hK hV tr_16 hi_17 dX8_bringForward_41 ?_
      refine lv_iload hx hb dX8_bringForward_42 (lv_at hl 5 rfl) ?_
      refine lv_imul hx hb dX8_bringForward_44 ?_
      refine lv_sipush (v := 256) hx hb dX8_bringForward_45 (by decide) ?_
      refine lv_irem hx hb dX8_bringForward_48 (by decide) ?_
      obtain ⟨hi_18, h⟩ := h
      refine m_iald hx hb hK hV tr_15 hi_18 dX8_bringForward_49 ?_
      refine lv_i2l hx hb dX8_bringForward_50 rfl ?_
      refine lv_topl (fun x8_19 ex8_19 => ?_)
      replace h := h x8_19 ex8_19
      refine lv_lstore (lv' := [(8, .long x8_19), (0, .ref (ad x0)), (1, .int x1), (2, .int x2), (3, .long x3), (5, .long x5), (7, .int x7)]) hx hb dX8_bringForward_51 hl (by decide) rfl (fun ls hl => ?_)
      refine lv_lload_n hx hb dX8_bringForward_53 rfl (lv_at hl 4 rfl) ?_
      refine lv_lload hx hb dX8_bringForward_54 (lv_at hl 0 rfl) ?_
      refine lv_aload_n hx hb dX8_bringForward_56 rfl (lv_at hl 1 rfl) ?_
      obtain ⟨r_20, hr_20, h⟩ := h
      have tr_20 : Ty X n r_20 0 := hWT.r (c := 5) (j := 16) t0 rfl hr_20
      refine m_getr (C := RX8) (T := TX8) (N := 19) (ci := 5) hx hb hts iwX8 hown hK hV t0 rfl 16 (by decide) rfl rfl hr_20 (hts _ tw_3_107) (fun _ h9 => h9) dX8_bringForward_57 ?_
      refine lv_sipush (v := 4608) hx hb dX8_bringForward_60 (by decide) ?_
      refine lv_iconst (v := 2) hx hb dX8_bringForward_63 (by decide) ?_
      refine lv_iload hx hb dX8_bringForward_64 (lv_at hl 6 rfl) ?_
      refine lv_imul hx hb dX8_bringForward_66 ?_
      refine lv_iadd hx hb dX8_bringForward_67 ?_
      obtain ⟨hi_21, h⟩ := h
      refine m_iald hx hb hK hV tr_20 hi_21 dX8_bringForward_68 ?_
      refine lv_i2l hx hb dX8_bringForward_69 rfl ?_
      refine lv_lmul hx hb dX8_bringForward_70 ?_
      refine lv_ladd hx hb dX8_bringForward_71 ?_
      refine lv_topl (fun x3_22 ex3_22 => ?_)
      replace h := h x3_22 ex3_22
      refine lv_lstore_n (lv' := [(3, .long x3_22), (8, .long x8_19), (0, .ref (ad x0)), (1, .int x1), (2, .int x2), (5, .long x5), (7, .int x7)]) hx hb dX8_bringForward_72 rfl hl (by decide) rfl (fun ls hl => ?_)
      refine lv_lload hx hb dX8_bringForward_73 (lv_at hl 5 rfl) ?_
      refine lv_lload hx hb dX8_bringForward_75 (lv_at hl 1 rfl) ?_
      refine lv_aload_n hx hb dX8_bringForward_77 rfl (lv_at hl 2 rfl) ?_
      refine m_getr (C := RX8) (T := TX8) (N := 19) (ci := 5) hx hb hts iwX8 hown hK hV t0 rfl 16 (by decide) rfl rfl hr_20 (hts _ tw_3_107) (fun _ h9 => h9) dX8_bringForward_78 ?_
      refine lv_sipush (v := 4608) hx hb dX8_bringForward_81 (by decide) ?_
      refine lv_iconst (v := 2) hx hb dX8_bringForward_84 (by decide) ?_
      refine lv_iload hx hb dX8_bringForward_85 (lv_at hl 6 rfl) ?_
      refine lv_imul hx hb dX8_bringForward_87 ?_
      refine lv_iadd hx hb dX8_bringForward_88 ?_
      refine lv_iconst (v := 1) hx hb dX8_bringForward_89 (by decide) ?_
      refine lv_iadd hx hb dX8_bringForward_90 ?_
      obtain ⟨hi_23, h⟩ := h
      refine m_iald hx hb hK hV tr_20 hi_23 dX8_bringForward_91 ?_
      refine lv_i2l hx hb dX8_bringForward_92 rfl ?_
      refine lv_lmul hx hb dX8_bringForward_93 ?_
      refine lv_ladd hx hb dX8_bringForward_94 ?_
      refine lv_topl (fun x5_24 ex5_24 => ?_)
      replace h := h x5_24 ex5_24
      refine lv_lstore (lv' := [(5, .long x5_24), (3, .long x3_22), (8, .long x8_19), (0, .ref (ad x0)), (1, .int x1), (2, .int x2), (7, .int x7)]) hx hb dX8_bringForward_95 hl (by decide) rfl (fun ls hl => ?_)
      obtain ⟨x7_25, ex7_25⟩ : ∃ y : Int32, y = x7 + 1 := ⟨_, rfl⟩
      replace h := h x7_25 ex7_25
      refine lv_iinc (v := x7_25) (lv' := [(7, .int x7_25), (5, .long x5_24), (3, .long x3_22), (8, .long x8_19), (0, .ref (ad x0)), (1, .int x1), (2, .int x2)]) hx hb dX8_bringForward_97 hl (k := 6) rfl (by rw [ex7_25]; rfl) (by decide) rfl (fun ls hl => ?_)
      refine lv_goto (tgt := 24) hx hb dX8_bringForward_100 (by decide) ?_
      exact ih x3_22 x5_24 x7_25 _ _ _ _ _ h hV (lv_sub hl [4, 5, 6, 2, 1, 0] rfl)
set_option maxHeartbeats 4000000 in
set_option maxRecDepth 100000 in
theorem n_X8_bringForward_9 {p : Program} {l : Launch} {e : Env} {s : State} {m : MethodId} {below : List Frame} {meth : Method} {c : Code} {D : va_G} {X : XT} {ad : Nat → Nat} {n : Nat} {A : Nat → Prop} {J : MJ} {av : List Value} {R : Room} (hR : R = ({ frames := 1, cells := 0, slots := 0, locals := 23 } : Room)) (C0 : Cx p s m meth c cX8_bringForward none 10 yX8_bringForward av D X ad n A J) {q : MI → ML → Prop}  {x0 : Nat} {x1 : Int32} (t0 : Ty X n x0 9) : ∀ (fu : Nat) (x2 : Int32) (I : MI) (L : ML) (H : Heap) (locs : List Loc) (ls : Array Slot), wl_X8_bringForward_9 X J q  x0 x1 fu x2 I L → Wd D X ad n A s.heap J I L H locs → lv_has ls 10 [(0, .ref (ad x0)), (1, .int x1), (2, .int x2)] → W p l e R s m av.toArray below meth c H locs 0 0 (MQ below (QV D X ad n A J q) av.toArray s 0 0 A) (F0 m 9 ls []) := by
  obtain ⟨hx, hb, hr, hml, hown, hlk, hnm, hts, hK, hZ, hA, hWT⟩ := id C0
  subst hR
  intro fu
  induction fu with
  | zero => intro x2 I L H locs ls h; exact absurd h (fun h => h)
  | succ fu ih =>
    intro x2 I L H locs ls h hV hl
    refine lv_iload_n hx hb dX8_bringForward_9 rfl (lv_at hl 2 rfl) ?_
    refine lv_sipush (v := 128) hx hb dX8_bringForward_10 (by decide) ?_
    refine lv_icmp_ge (tgt := 148) hx hb dX8_bringForward_13 (by decide) (fun hc => ?_) (fun hc => ?_)
    · replace h := h.1 hc
      exact m_vret hx hb hr hlk hK hZ hA hV h dX8_bringForward_148
    · replace h := h.2 hc
      refine lv_lconst (v := 0) hx hb dX8_bringForward_16 (by decide) ?_
      refine lv_lstore_n (lv' := [(3, .long 0), (0, .ref (ad x0)), (1, .int x1), (2, .int x2)]) hx hb dX8_bringForward_17 rfl hl (by decide) rfl (fun ls hl => ?_)
      refine lv_lconst (v := 0) hx hb dX8_bringForward_18 (by decide) ?_
      refine lv_lstore (lv' := [(5, .long 0), (3, .long 0), (0, .ref (ad x0)), (1, .int x1), (2, .int x2)]) hx hb dX8_bringForward_19 hl (by decide) rfl (fun ls hl => ?_)
      refine lv_iconst (v := 0) hx hb dX8_bringForward_21 (by decide) ?_
      refine lv_istore (lv' := [(7, .int 0), (5, .long 0), (3, .long 0), (0, .ref (ad x0)), (1, .int x1), (2, .int x2)]) hx hb dX8_bringForward_22 hl (by decide) rfl (fun ls hl => ?_)
      obtain ⟨fu0, h⟩ := h
      exact n_X8_bringForward_24 rfl C0 t0  (fun y2 I L H locs ls h hV hl => ih y2 I L H locs ls h hV (lv_sub hl [0, 1, 2] rfl)) fu0 0 0 0 _ _ _ _ _ h hV (lv_sub hl [3, 4, 5, 2, 1, 0] rfl)
set_option maxHeartbeats 4000000 in
set_option maxRecDepth 100000 in
theorem s_X8_bringForward (l : Launch) (D : va_G) (X : XT) (ad : Nat → Nat) (n : Nat) (A : Nat → Prop) (J : MJ) (hWT : WT X n J) (x0 : Nat) (t0 : Ty X n x0 9) (x1 : Int32) (I : MI) (L : ML) (q : MI → ML → Prop) (h : wp_X8_bringForward X J x0 x1 I L q) : Met l yX8_bringForward (wz yX8_bringForward cX8_bringForward 10 none) ({ frames := 1, cells := 0, slots := 0, locals := 23 } : Room) (va_Pc [.ref (ad x0), .int x1] (Pr D X ad n A J I L)) (QV D X ad n A J q) 0 0 A := by
  refine Met_go (by decide +kernel) (Nat.le_of_ble_eq_true rfl) (fun p e s m below meth c hx hb hr hml hown hlk hnm hts hK hZ hA hV ls hl => ?_)
  have C0 : Cx p s m meth c cX8_bringForward none 10 yX8_bringForward [.ref (ad x0), .int x1] D X ad n A J := ⟨hx, hb, hr, hml, hown, hlk, hnm, hts, hK, hZ, hA, hWT⟩
  unfold wp_X8_bringForward at h
  have hl : lv_has ls 10 [(0, .ref (ad x0)), (1, .int x1)] := hl
  refine lv_aload_n hx hb dX8_bringForward_0 rfl (lv_at hl 0 rfl) ?_
  refine lv_iload_n hx hb dX8_bringForward_1 rfl (lv_at hl 1 rfl) ?_
  refine lv_bipush (v := 18) hx hb dX8_bringForward_2 (by decide) ?_
  refine k_callv (va_runV (As := [.int x1, .int 18]) (rest := []) ⟨hx, hb, hml, hown, hts⟩ (s_X8_copyPol l D X ad n A J hWT x0 t0 x1 18 I L _ h) (cwV 2 hts (gV tw_4_15 tw_4_17 tw_0_30 tw_1_9 tw_4_18) rfl rfl rfl (by decide +kernel) (by decide)) (k_preV (ci := 5) hK hV hA hZ t0 rfl _) rfl rfl hl.1 rfl (lv_room (Nat.le_of_ble_eq_true rfl)) dX8_bringForward_4 ⟨Nat.zero_le _, Nat.zero_le _⟩) hV (fun I_1 L_2 H locs h hV => ?_)
  refine lv_iconst (v := 0) hx hb dX8_bringForward_7 (by decide) ?_
  refine lv_istore_n (lv' := [(2, .int 0), (0, .ref (ad x0)), (1, .int x1)]) hx hb dX8_bringForward_8 rfl hl (by decide) rfl (fun ls hl => ?_)
  obtain ⟨fu0, h⟩ := h
  exact n_X8_bringForward_9 rfl C0 t0   fu0 0 _ _ _ _ _ h hV (lv_sub hl [1, 2, 0] rfl)
set_option maxHeartbeats 4000000 in
set_option maxRecDepth 100000 in
theorem n_X8_bringBack_24 {p : Program} {l : Launch} {e : Env} {s : State} {m : MethodId} {below : List Frame} {meth : Method} {c : Code} {D : va_G} {X : XT} {ad : Nat → Nat} {n : Nat} {A : Nat → Prop} {J : MJ} {av : List Value} {R : Room} (hR : R = ({ frames := 1, cells := 0, slots := 0, locals := 23 } : Room)) (C0 : Cx p s m meth c cX8_bringBack none 10 yX8_bringBack av D X ad n A J) {q : MI → ML → Prop} {k9 : Int32 → MI → ML → Prop} {x0 : Nat} {x1 : Int32} {x2 : Int32} (t0 : Ty X n x0 9)
    (hk9 : ∀ (x2 : Int32) (I : MI) (L : ML) (H : Heap) (locs : List Loc) (ls : Array Slot), k9 x2 I L → Wd D X ad n A s.heap J I L H locs → lv_has ls 10 [(0, .ref (ad x0)), (1, .int x1), (2, .int x2)] → W p l e R s m av.toArray below meth c H locs 0 0 (MQ below (QV D X ad n A J q) av.toArray s 0 0 A) (F0 m 9 ls [])) : ∀ (fu : Nat) (x3 : Int64) (x5 : Int64) (x7 : Int32) (I : MI) (L : ML) (H : Heap) (locs : List Loc) (ls : Array Slot), wl_X8_bringBack_24 X J q k9 x0 x1 x2 fu x3 x5 x7 I L → Wd D X ad n A s.heap J I L H locs → lv_has ls 10 [(0, .ref (ad x0)), (1, .int x1), (2, .int x2), (3, .long x3), (5, .long x5), (7, .int x7)] → W p l e R s m av.toArray below meth c H locs 0 0 (MQ below (QV D X ad n A J q) av.toArray s 0 0 A) (F0 m 24 ls []) := by
  obtain ⟨hx, hb, hr, hml, hown, hlk, hnm, hts, hK, hZ, hA, hWT⟩ := id C0
  subst hR
  intro fu
  induction fu with
  | zero => intro x3 x5 x7 I L H locs ls h; exact absurd h (fun h => h)
  | succ fu ih =>
    intro x3 x5 x7 I L H locs ls h hV hl
    refine lv_iload hx hb dX8_bringBack_24 (lv_at hl 5 rfl) ?_
    refine lv_sipush (v := 128) hx hb dX8_bringBack_26 (by decide) ?_
    refine lv_icmp_ge (tgt := 111) hx hb dX8_bringBack_29 (by decide) (fun hc => ?_) (fun hc => ?_)
    · replace h := h.1 hc
      refine lv_aload_n hx hb dX8_bringBack_111 rfl (lv_at hl 0 rfl) ?_
      obtain ⟨r_3, hr_3, h⟩ := h
      have tr_3 : Ty X n r_3 0 := hWT.r (c := 5) (j := 16) t0 rfl hr_3
      refine m_getr (C := RX8) (T := TX8) (N := 19) (ci := 5) hx hb hts iwX8 hown hK hV t0 rfl 16 (by decide) rfl rfl hr_3 (hts _ tw_3_107) (fun _ h9 => h9) dX8_bringBack_112 ?_
      refine lv_sipush (v := 256) hx hb dX8_bringBack_115 (by decide) ?_
      refine lv_iload_n hx hb dX8_bringBack_118 rfl (lv_at hl 1 rfl) ?_
      refine lv_imul hx hb dX8_bringBack_119 ?_
      refine lv_iconst (v := 2) hx hb dX8_bringBack_120 (by decide) ?_
      refine lv_iload_n hx hb dX8_bringBack_121 rfl (lv_at hl 2 rfl) ?_
      refine lv_imul hx hb dX8_bringBack_122 ?_
      refine lv_iadd hx hb dX8_bringBack_123 ?_
      refine lv_ldc2 (v := 3303) hx hb hown (hts _ tw_4_75) dX8_bringBack_124 ?_
      refine lv_lload_n hx hb dX8_bringBack_127 rfl (lv_at hl 3 rfl) ?_
      refine k_calli (va_runS (As := [.long x3]) (rest := [.long 3303, .int ((256 * x1) + (2 * x2)), .ref (ad r_3)]) ⟨hx, hb, hml, hown, hts⟩ (s_X8_ring l D X ad n A J hWT x3 I L _ h) (va_cwS 1 hts (gS tw_4_7 tw_4_8 tw_1_9 tw_4_9) rfl rfl rfl (by decide +kernel) (by decide)) (k_preS hK hV hA hZ _) rfl rfl hl.1 rfl (lv_room (Nat.le_of_ble_eq_true rfl)) dX8_bringBack_128 ⟨Nat.zero_le _, Nat.zero_le _⟩) hV (fun v_6 I_4 L_5 H locs h hV => ?_)
      refine lv_i2l hx hb dX8_bringBack_131 rfl ?_
      refine lv_lmul hx hb dX8_bringBack_132 ?_
      refine k_calli (va_runS (As := [.long (3303 * v_6.toInt64)]) (rest := [.int ((256 * x1) + (2 * x2)), .ref (ad r_3)]) ⟨hx, hb, hml, hown, hts⟩ (s_X8_ring l D X ad n A J hWT (3303 * v_6.toInt64) I_4 L_5 _ h) (va_cwS 1 hts (gS tw_4_7 tw_4_8 tw_1_9 tw_4_9) rfl rfl rfl (by decide +kernel) (by decide)) (k_preS hK hV hA hZ _) rfl rfl hl.1 rfl (lv_room (Nat.le_of_ble_eq_true rfl)) dX8_bringBack_133 ⟨Nat.zero_le _, Nat.zero_le _⟩) hV (fun v_9 I_7 L_8 H locs h hV => ?_)
      obtain ⟨hi_10, h⟩ := h
      refine m_iast hx hb hK hV tr_3 hi_10 dX8_bringBack_136 (fun H locs hV => ?_)
      obtain ⟨I_11, eI_11⟩ : ∃ y, y = ms I_7 r_3 ((256 * x1) + (2 * x2)).toNatClampNeg v_9 := ⟨_, rfl⟩
      replace hV : Wd D X ad n A s.heap J I_11 L_8 H locs := by rw [eI_11]; exact hV
      replace h := h I_11 eI_11
      refine lv_aload_n hx hb dX8_bringBack_137 rfl (lv_at hl 0 rfl) ?_
      refine m_getr (C := RX8) (T := TX8) (N := 19) (ci := 5) hx hb hts iwX8 hown hK hV t0 rfl 16 (by decide) rfl rfl hr_3 (hts _ tw_3_107) (fun _ h9 => h9) dX8_bringBack_138 ?_
      refine lv_sipush (v := 256) hx hb dX8_bringBack_141 (by decide) ?_
      refine lv_iload_n hx hb dX8_bringBack_144 rfl (lv_at hl 1 rfl) ?_
      refine lv_imul hx hb dX8_bringBack_145 ?_
      refine lv_iconst (v := 2) hx hb dX8_bringBack_146 (by decide) ?_
      refine lv_iload_n hx hb dX8_bringBack_147 rfl (lv_at hl 2 rfl) ?_
      refine lv_imul hx hb dX8_bringBack_148 ?_
      refine lv_iadd hx hb dX8_bringBack_149 ?_
      refine lv_iconst (v := 1) hx hb dX8_bringBack_150 (by decide) ?_
      refine lv_iadd hx hb dX8_bringBack_151 ?_
      refine lv_ldc2 (v := 3303) hx hb hown (hts _ tw_4_75) dX8_bringBack_152 ?_
      refine lv_lload hx hb dX8_bringBack_155 (lv_at hl 4 rfl) ?_
      refine k_calli (va_runS (As := [.long x5]) (rest := [.long 3303, .int (((256 * x1) + (2 * x2)) + 1), .ref (ad r_3)]) ⟨hx, hb, hml, hown, hts⟩ (s_X8_ring l D X ad n A J hWT x5 I_11 L_8 _ h) (va_cwS 1 hts (gS tw_4_7 tw_4_8 tw_1_9 tw_4_9) rfl rfl rfl (by decide +kernel) (by decide)) (k_preS hK hV hA hZ _) rfl rfl hl.1 rfl (lv_room (Nat.le_of_ble_eq_true rfl)) dX8_bringBack_157 ⟨Nat.zero_le _, Nat.zero_le _⟩) hV (fun v_14 I_12 L_13 H locs h hV => ?_)
      refine lv_i2l hx hb dX8_bringBack_160 rfl ?_
      refine lv_lmul hx hb dX8_bringBack_161 ?_
      refine k_calli (va_runS (As := [.long (3303 * v_14.toInt64)]) (rest := [.int (((256 * x1) + (2 * x2)) + 1), .ref (ad r_3)]) ⟨hx, hb, hml, hown, hts⟩ (s_X8_ring l D X ad n A J hWT (3303 * v_14.toInt64) I_12 L_13 _ h) (va_cwS 1 hts (gS tw_4_7 tw_4_8 tw_1_9 tw_4_9) rfl rfl rfl (by decide +kernel) (by decide)) (k_preS hK hV hA hZ _) rfl rfl hl.1 rfl (lv_room (Nat.le_of_ble_eq_true rfl)) dX8_bringBack_162 ⟨Nat.zero_le _, Nat.zero_le _⟩) hV (fun v_17 I_15 L_16 H locs h hV => ?_)
      obtain ⟨hi_18, h⟩ := h
      refine m_iast hx hb hK hV tr_3 hi_18 dX8_bringBack_165 (fun H locs hV => ?_)
      obtain ⟨I_19, eI_19⟩ : ∃ y, y = ms I_15 r_3 (((256 * x1) + (2 * x2)) + 1).toNatClampNeg v_17 := ⟨_, rfl⟩
      replace hV : Wd D X ad n A s.heap J I_19 L_16 H locs := by rw [eI_19]; exact hV
      replace h := h I_19 eI_19
      obtain ⟨x2_20, ex2_20⟩ : ∃ y : Int32, y = x2 + 1 := ⟨_, rfl⟩
      replace h := h x2_20 ex2_20
      refine lv_iinc (v := x2_20) (lv' := [(2, .int x2_20), (0, .ref (ad x0)), (1, .int x1), (3, .long x3), (5, .long x5), (7, .int x7)]) hx hb dX8_bringBack_166 hl (k := 2) rfl (by rw [ex2_20]; rfl) (by decide) rfl (fun ls hl => ?_)
      refine lv_goto (tgt := 9) hx hb dX8_bringBack_169 (by decide) ?_
      exact hk9 x2_20 _ _ _ _ _ h hV (lv_sub hl [1, 2, 0] rfl)
    · replace h := h.2 hc
      refine lv_aload_n hx hb dX8_bringBack_32 rfl (lv_at hl 0 rfl) ?_
      obtain ⟨r_21, hr_21, h⟩ := h
      have tr_21 : Ty X n r_21 0 := hWT.r (c := 5) (j := 17) t0 rfl hr_21
      refine m_getr (C := RX8) (T := TX8) (N := 19) (ci := 5) hx hb hts iwX8 hown hK hV t0 rfl 17 (by decide) rfl rfl hr_21 (hts _ tw_3_108) (fun _ h9 => h9) dX8_bringBack_33 ?_
      refine lv_sipush (v := 256) hx hb dX8_bringBack_36 (by decide) ?_
      refine lv_aload_n hx hb dX8_bringBack_39 rfl (lv_at hl 0 rfl) ?_
      obtain ⟨r_22, hr_22, h⟩ := h
      have tr_22 : Ty X n r_22 0 := hWT.r (c := 5) (j := 18) t0 rfl hr_22
      refine m_getr (C := RX8) (T := TX8) (N := 19) (ci := 5) hx hb hts iwX8 hown hK hV t0 rfl 18 (by decide) rfl rfl hr_22 (hts _ tw_3_109) (fun _ h9 => h9) dX8_bringBack_40 ?_
      refine lv_iload hx hb dX8_bringBack_43 (lv_at hl 5 rfl) ?_
      obtain ⟨hi_23, h⟩ := h
      refine m_iald hx hb hK hV tr_22 hi_23 dX8_bringBack_45 ?_
      refine lv_iload_n hx hb dX8_bringBack_46 rfl (lv_at hl 2 rfl) ?_
      refine lv_imul hx hb dX8_bringBack_47 ?_
      refine lv_sipush (v := 256) hx hb dX8_bringBack_48 (by decide) ?_
      refine lv_irem hx hb dX8_bringBack_51 (by decide) ?_
      refine lv_isub hx hb dX8_bringBack_52 ?_
      refine lv_sipush (v := 256) hx hb dX8_bringBack_53 (by decide) ?_
      refine lv_irem hx hb dX8_bringBack_56 (by decide) ?_
      obtain ⟨hi_24, h⟩ := h
      refine m_iald hx hb hK hV tr_21 hi_24 dX8_bringBack_57 ?_
      refine lv_i2l hx hb dX8_bringBack_58 rfl ?_
      refine lv_topl (fun x8_25 ex8_25 => ?_)
      replace h := h x8_25 ex8_25
      refine lv_lstore (lv' := [(8, .long x8_25), (0, .ref (ad x0)), (1, .int x1), (2, .int x2), (3, .long x3), (5, .long x5), (7, .int x7)]) hx hb dX8_bringBack_59 hl (by decide) rfl (fun ls hl => ?_)
      refine lv_lload_n hx hb dX8_bringBack_61 rfl (lv_at hl 4 rfl) ?_
      refine lv_lload hx hb dX8_bringBack_62 (lv_at hl 0 rfl) ?_
      refine lv_aload_n hx hb dX8_bringBack_64 rfl (lv_at hl 1 rfl) ?_
      obtain ⟨r_26, hr_26, h⟩ := h
      have tr_26 : Ty X n r_26 0 := hWT.r (c := 5) (j := 16) t0 rfl hr_26
      refine m_getr (C := RX8) (T := TX8) (N := 19) (ci := 5) hx hb hts iwX8 hown hK hV t0 rfl 16 (by decide) rfl rfl hr_26 (hts _ tw_3_107) (fun _ h9 => h9) dX8_bringBack_65 ?_
      refine lv_sipush (v := 4608) hx hb dX8_bringBack_68 (by decide) ?_
      refine lv_iconst (v := 2) hx hb dX8_bringBack_71 (by decide) ?_
      refine lv_iload hx hb dX8_bringBack_72 (lv_at hl 6 rfl) ?_
      refine lv_imul hx hb dX8_bringBack_74 ?_
      refine lv_iadd hx hb dX8_bringBack_75 ?_
      obtain ⟨hi_27, h⟩ := h
      refine m_iald hx hb hK hV tr_26 hi_27 dX8_bringBack_76 ?_
      refine lv_i2l hx hb dX8_bringBack_77 rfl ?_
      refine lv_lmul hx hb dX8_bringBack_78 ?_
      refine lv_ladd hx hb dX8_bringBack_79 ?_
      refine lv_topl (fun x3_28 ex3_28 => ?_)
      replace h := h x3_28 ex3_28
      refine lv_lstore_n (lv' := [(3, .long x3_28), (8, .long x8_25), (0, .ref (ad x0)), (1, .int x1), (2, .int x2), (5, .long x5), (7, .int x7)]) hx hb dX8_bringBack_80 rfl hl (by decide) rfl (fun ls hl => ?_)
      refine lv_lload hx hb dX8_bringBack_81 (lv_at hl 5 rfl) ?_
      refine lv_lload hx hb dX8_bringBack_83 (lv_at hl 1 rfl) ?_
      refine lv_aload_n hx hb dX8_bringBack_85 rfl (lv_at hl 2 rfl) ?_
      refine m_getr (C := RX8) (T := TX8) (N := 19) (ci := 5) hx hb hts iwX8 hown hK hV t0 rfl 16 (by decide) rfl rfl hr_26 (hts _ tw_3_107) (fun _ h9 => h9) dX8_bringBack_86 ?_
      refine lv_sipush (v := 4608) hx hb dX8_bringBack_89 (by decide) ?_
      refine lv_iconst (v := 2) hx hb dX8_bringBack_92 (by decide) ?_
      refine lv_iload hx hb dX8_bringBack_93 (lv_at hl 6 rfl) ?_
      refine lv_imul hx hb dX8_bringBack_95 ?_
      refine lv_iadd hx hb dX8_bringBack_96 ?_
      refine lv_iconst (v := 1) hx hb dX8_bringBack_97 (by decide) ?_
      refine lv_iadd hx hb dX8_bringBack_98 ?_
      obtain ⟨hi_29, h⟩ := h
      refine m_iald hx hb hK hV tr_26 hi_29 dX8_bringBack_99 ?_
      refine lv_i2l hx hb dX8_bringBack_100 rfl ?_
      refine lv_lmul hx hb dX8_bringBack_101 ?_
      refine lv_ladd hx hb dX8_bringBack_102 ?_
      refine lv_topl (fun x5_30 ex5_30 => ?_)
      replace h := h x5_30 ex5_30
      refine lv_lstore (lv' := [(5, .long x5_30), (3, .long x3_28), (8, .long x8_25), (0, .ref (ad x0)), (1, .int x1), (2, .int x2), (7, .int x7)]) hx hb dX8_bringBack_103 hl (by decide) rfl (fun ls hl => ?_)
      obtain ⟨x7_31, ex7_31⟩ : ∃ y : Int32, y = x7 + 1 := ⟨_, rfl⟩
      replace h := h x7_31 ex7_31
      refine lv_iinc (v := x7_31) (lv' := [(7, .int x7_31), (5, .long x5_30), (3, .long x3_28), (8, .long x8_25), (0, .ref (ad x0)), (1, .int x1), (2, .int x2)]) hx hb dX8_bringBack_105 hl (k := 6) rfl (by rw [ex7_31]; rfl) (by decide) rfl (fun ls hl => ?_)
      refine lv_goto (tgt := 24) hx hb dX8_bringBack_108 (by decide) ?_
      exact ih x3_28 x5_30 x7_31 _ _ _ _ _ h hV (lv_sub hl [4, 5, 6, 2, 1, 0] rfl)
set_option maxHeartbeats 4000000 in
set_option maxRecDepth 100000 in
theorem n_X8_bringBack_9 {p : Program} {l : Launch} {e : Env} {s : State} {m : MethodId} {below : List Frame} {meth : Method} {c : Code} {D : va_G} {X : XT} {ad : Nat → Nat} {n : Nat} {A : Nat → Prop} {J : MJ} {av : List Value} {R : Room} (hR : R = ({ frames := 1, cells := 0, slots := 0, locals := 23 } : Room)) (C0 : Cx p s m meth c cX8_bringBack none 10 yX8_bringBack av D X ad n A J) {q : MI → ML → Prop}  {x0 : Nat} {x1 : Int32} (t0 : Ty X n x0 9) : ∀ (fu : Nat) (x2 : Int32) (I : MI) (L : ML) (H : Heap) (locs : List Loc) (ls : Array Slot), wl_X8_bringBack_9 X J q  x0 x1 fu x2 I L → Wd D X ad n A s.heap J I L H locs → lv_has ls 10 [(0, .ref (ad x0)), (1, .int x1), (2, .int x2)] → W p l e R s m av.toArray below meth c H locs 0 0 (MQ below (QV D X ad n A J q) av.toArray s 0 0 A) (F0 m 9 ls []) := by
  obtain ⟨hx, hb, hr, hml, hown, hlk, hnm, hts, hK, hZ, hA, hWT⟩ := id C0
  subst hR
  intro fu
  induction fu with
  | zero => intro x2 I L H locs ls h; exact absurd h (fun h => h)
  | succ fu ih =>
    intro x2 I L H locs ls h hV hl
    refine lv_iload_n hx hb dX8_bringBack_9 rfl (lv_at hl 2 rfl) ?_
    refine lv_sipush (v := 128) hx hb dX8_bringBack_10 (by decide) ?_
    refine lv_icmp_ge (tgt := 172) hx hb dX8_bringBack_13 (by decide) (fun hc => ?_) (fun hc => ?_)
    · replace h := h.1 hc
      exact m_vret hx hb hr hlk hK hZ hA hV h dX8_bringBack_172
    · replace h := h.2 hc
      refine lv_lconst (v := 0) hx hb dX8_bringBack_16 (by decide) ?_
      refine lv_lstore_n (lv' := [(3, .long 0), (0, .ref (ad x0)), (1, .int x1), (2, .int x2)]) hx hb dX8_bringBack_17 rfl hl (by decide) rfl (fun ls hl => ?_)
      refine lv_lconst (v := 0) hx hb dX8_bringBack_18 (by decide) ?_
      refine lv_lstore (lv' := [(5, .long 0), (3, .long 0), (0, .ref (ad x0)), (1, .int x1), (2, .int x2)]) hx hb dX8_bringBack_19 hl (by decide) rfl (fun ls hl => ?_)
      refine lv_iconst (v := 0) hx hb dX8_bringBack_21 (by decide) ?_
      refine lv_istore (lv' := [(7, .int 0), (5, .long 0), (3, .long 0), (0, .ref (ad x0)), (1, .int x1), (2, .int x2)]) hx hb dX8_bringBack_22 hl (by decide) rfl (fun ls hl => ?_)
      obtain ⟨fu0, h⟩ := h
      exact n_X8_bringBack_24 rfl C0 t0  (fun y2 I L H locs ls h hV hl => ih y2 I L H locs ls h hV (lv_sub hl [0, 1, 2] rfl)) fu0 0 0 0 _ _ _ _ _ h hV (lv_sub hl [3, 4, 5, 2, 1, 0] rfl)
set_option maxHeartbeats 4000000 in
set_option maxRecDepth 100000 in
theorem s_X8_bringBack (l : Launch) (D : va_G) (X : XT) (ad : Nat → Nat) (n : Nat) (A : Nat → Prop) (J : MJ) (hWT : WT X n J) (x0 : Nat) (t0 : Ty X n x0 9) (x1 : Int32) (I : MI) (L : ML) (q : MI → ML → Prop) (h : wp_X8_bringBack X J x0 x1 I L q) : Met l yX8_bringBack (wz yX8_bringBack cX8_bringBack 10 none) ({ frames := 1, cells := 0, slots := 0, locals := 23 } : Room) (va_Pc [.ref (ad x0), .int x1] (Pr D X ad n A J I L)) (QV D X ad n A J q) 0 0 A := by
  refine Met_go (by decide +kernel) (Nat.le_of_ble_eq_true rfl) (fun p e s m below meth c hx hb hr hml hown hlk hnm hts hK hZ hA hV ls hl => ?_)
  have C0 : Cx p s m meth c cX8_bringBack none 10 yX8_bringBack [.ref (ad x0), .int x1] D X ad n A J := ⟨hx, hb, hr, hml, hown, hlk, hnm, hts, hK, hZ, hA, hWT⟩
  unfold wp_X8_bringBack at h
  have hl : lv_has ls 10 [(0, .ref (ad x0)), (1, .int x1)] := hl
  refine lv_aload_n hx hb dX8_bringBack_0 rfl (lv_at hl 0 rfl) ?_
  refine lv_iload_n hx hb dX8_bringBack_1 rfl (lv_at hl 1 rfl) ?_
  refine lv_bipush (v := 18) hx hb dX8_bringBack_2 (by decide) ?_
  refine k_callv (va_runV (As := [.int x1, .int 18]) (rest := []) ⟨hx, hb, hml, hown, hts⟩ (s_X8_copyPol l D X ad n A J hWT x0 t0 x1 18 I L _ h) (cwV 2 hts (gV tw_4_15 tw_4_17 tw_0_30 tw_1_9 tw_4_18) rfl rfl rfl (by decide +kernel) (by decide)) (k_preV (ci := 5) hK hV hA hZ t0 rfl _) rfl rfl hl.1 rfl (lv_room (Nat.le_of_ble_eq_true rfl)) dX8_bringBack_4 ⟨Nat.zero_le _, Nat.zero_le _⟩) hV (fun I_1 L_2 H locs h hV => ?_)
  refine lv_iconst (v := 0) hx hb dX8_bringBack_7 (by decide) ?_
  refine lv_istore_n (lv' := [(2, .int 0), (0, .ref (ad x0)), (1, .int x1)]) hx hb dX8_bringBack_8 rfl hl (by decide) rfl (fun ls hl => ?_)
  obtain ⟨fu0, h⟩ := h
  exact n_X8_bringBack_9 rfl C0 t0   fu0 0 _ _ _ _ _ h hV (lv_sub hl [1, 2, 0] rfl)
set_option maxHeartbeats 4000000 in
set_option maxRecDepth 100000 in
theorem n_X8_product_225 {p : Program} {l : Launch} {e : Env} {s : State} {m : MethodId} {below : List Frame} {meth : Method} {c : Code} {D : va_G} {X : XT} {ad : Nat → Nat} {n : Nat} {A : Nat → Prop} {J : MJ} {av : List Value} {R : Room} (hR : R = ({ frames := 1, cells := 0, slots := 0, locals := 22 } : Room)) (C0 : Cx p s m meth c cX8_product none 18 yX8_product av D X ad n A J) {q : MI → ML → Prop} {k3 : Int32 → MI → ML → Prop} {x0 : Nat} {x1 : Int32} {x2 : Int32} {x3 : Int32} {x4 : Int32} {x5 : Int32} {z0 : Nat} {z1 : Int32} {z2 : Int64} {z3 : Int32} {I : MI} {L : ML} {H : Heap} {locs : List Loc} {ls : Array Slot} (t0 : Ty X n x0 9) (u0 : Ty X n z0 0)
    (hk3 : ∀ (x5 : Int32) (I : MI) (L : ML) (H : Heap) (locs : List Loc) (ls : Array Slot), k3 x5 I L → Wd D X ad n A s.heap J I L H locs → lv_has ls 18 [(0, .ref (ad x0)), (1, .int x1), (2, .int x2), (3, .int x3), (4, .int x4), (5, .int x5)] → W p l e R s m av.toArray below meth c H locs 0 0 (MQ below (QV D X ad n A J q) av.toArray s 0 0 A) (F0 m 3 ls [])) (h : wj_X8_product_225 X J q k3 x0 x1 x2 x3 x4 x5 z0 z1 z2 z3 I L) (hV : Wd D X ad n A s.heap J I L H locs) (hl : lv_has ls 18 [(0, .ref (ad x0)), (1, .int x1), (2, .int x2), (3, .int x3), (4, .int x4), (5, .int x5)]) : W p l e R s m av.toArray below meth c H locs 0 0 (MQ below (QV D X ad n A J q) av.toArray s 0 0 A) (F0 m 225 ls [.int z3, .long z2, .int z1, .ref (ad z0)]) := by
  obtain ⟨hx, hb, hr, hml, hown, hlk, hnm, hts, hK, hZ, hA, hWT⟩ := id C0
  subst hR
  unfold wj_X8_product_225 at h
  refine lv_i2l hx hb dX8_product_225 rfl ?_
  refine lv_ladd hx hb dX8_product_226 ?_
  refine k_calli (va_runS (As := [.long (z2 + z3.toInt64)]) (rest := [.int z1, .ref (ad z0)]) ⟨hx, hb, hml, hown, hts⟩ (s_X8_ring l D X ad n A J hWT (z2 + z3.toInt64) I L _ h) (va_cwS 1 hts (gS tw_4_7 tw_4_8 tw_1_9 tw_4_9) rfl rfl rfl (by decide +kernel) (by decide)) (k_preS hK hV hA hZ _) rfl rfl hl.1 rfl (lv_room (Nat.le_of_ble_eq_true rfl)) dX8_product_227 ⟨Nat.zero_le _, Nat.zero_le _⟩) hV (fun v_24 I_22 L_23 H locs h hV => ?_)
  obtain ⟨hi_25, h⟩ := h
  refine m_iast hx hb hK hV u0 hi_25 dX8_product_230 (fun H locs hV => ?_)
  obtain ⟨I_26, eI_26⟩ : ∃ y, y = ms I_22 z0 z1.toNatClampNeg v_24 := ⟨_, rfl⟩
  replace hV : Wd D X ad n A s.heap J I_26 L_23 H locs := by rw [eI_26]; exact hV
  replace h := h I_26 eI_26
  obtain ⟨x5_27, ex5_27⟩ : ∃ y : Int32, y = x5 + 1 := ⟨_, rfl⟩
  replace h := h x5_27 ex5_27
  refine lv_iinc (v := x5_27) (lv' := [(5, .int x5_27), (0, .ref (ad x0)), (1, .int x1), (2, .int x2), (3, .int x3), (4, .int x4)]) hx hb dX8_product_231 hl (k := 5) rfl (by rw [ex5_27]; rfl) (by decide) rfl (fun ls hl => ?_)
  refine lv_goto (tgt := 3) hx hb dX8_product_234 (by decide) ?_
  exact hk3 x5_27 _ _ _ _ _ h hV (lv_sub hl [1, 2, 3, 4, 5, 0] rfl)
set_option maxHeartbeats 4000000 in
set_option maxRecDepth 100000 in
theorem n_X8_product_175 {p : Program} {l : Launch} {e : Env} {s : State} {m : MethodId} {below : List Frame} {meth : Method} {c : Code} {D : va_G} {X : XT} {ad : Nat → Nat} {n : Nat} {A : Nat → Prop} {J : MJ} {av : List Value} {R : Room} (hR : R = ({ frames := 1, cells := 0, slots := 0, locals := 22 } : Room)) (C0 : Cx p s m meth c cX8_product none 18 yX8_product av D X ad n A J) {q : MI → ML → Prop} {k3 : Int32 → MI → ML → Prop} {x0 : Nat} {x1 : Int32} {x2 : Int32} {x3 : Int32} {x4 : Int32} {x5 : Int32} {x16 : Int64} {z0 : Nat} {z1 : Int32} {z2 : Int64} {z3 : Int32} {I : MI} {L : ML} {H : Heap} {locs : List Loc} {ls : Array Slot} (t0 : Ty X n x0 9) (u0 : Ty X n z0 0)
    (hk3 : ∀ (x5 : Int32) (I : MI) (L : ML) (H : Heap) (locs : List Loc) (ls : Array Slot), k3 x5 I L → Wd D X ad n A s.heap J I L H locs → lv_has ls 18 [(0, .ref (ad x0)), (1, .int x1), (2, .int x2), (3, .int x3), (4, .int x4), (5, .int x5)] → W p l e R s m av.toArray below meth c H locs 0 0 (MQ below (QV D X ad n A J q) av.toArray s 0 0 A) (F0 m 3 ls [])) (h : wj_X8_product_175 X J q k3 x0 x1 x2 x3 x4 x5 x16 z0 z1 z2 z3 I L) (hV : Wd D X ad n A s.heap J I L H locs) (hl : lv_has ls 18 [(0, .ref (ad x0)), (1, .int x1), (2, .int x2), (3, .int x3), (4, .int x4), (5, .int x5), (16, .long x16)]) : W p l e R s m av.toArray below meth c H locs 0 0 (MQ below (QV D X ad n A J q) av.toArray s 0 0 A) (F0 m 175 ls [.int z3, .long z2, .int z1, .ref (ad z0)]) := by
  obtain ⟨hx, hb, hr, hml, hown, hlk, hnm, hts, hK, hZ, hA, hWT⟩ := id C0
  subst hR
  unfold wj_X8_product_175 at h
  refine lv_i2l hx hb dX8_product_175 rfl ?_
  refine lv_ladd hx hb dX8_product_176 ?_
  refine k_calli (va_runS (As := [.long (z2 + z3.toInt64)]) (rest := [.int z1, .ref (ad z0)]) ⟨hx, hb, hml, hown, hts⟩ (s_X8_ring l D X ad n A J hWT (z2 + z3.toInt64) I L _ h) (va_cwS 1 hts (gS tw_4_7 tw_4_8 tw_1_9 tw_4_9) rfl rfl rfl (by decide +kernel) (by decide)) (k_preS hK hV hA hZ _) rfl rfl hl.1 rfl (lv_room (Nat.le_of_ble_eq_true rfl)) dX8_product_177 ⟨Nat.zero_le _, Nat.zero_le _⟩) hV (fun v_18 I_16 L_17 H locs h hV => ?_)
  obtain ⟨hi_19, h⟩ := h
  refine m_iast hx hb hK hV u0 hi_19 dX8_product_180 (fun H locs hV => ?_)
  obtain ⟨I_20, eI_20⟩ : ∃ y, y = ms I_16 z0 z1.toNatClampNeg v_18 := ⟨_, rfl⟩
  replace hV : Wd D X ad n A s.heap J I_20 L_17 H locs := by rw [eI_20]; exact hV
  replace h := h I_20 eI_20
  refine lv_aload_n hx hb dX8_product_181 rfl (lv_at hl 0 rfl) ?_
  obtain ⟨r_21, hr_21, h⟩ := h
  have tr_21 : Ty X n r_21 0 := hWT.r (c := 5) (j := 16) t0 rfl hr_21
  refine m_getr (C := RX8) (T := TX8) (N := 19) (ci := 5) hx hb hts iwX8 hown hK hV t0 rfl 16 (by decide) rfl rfl hr_21 (hts _ tw_3_107) (fun _ h9 => h9) dX8_product_182 ?_
  refine lv_sipush (v := 256) hx hb dX8_product_185 (by decide) ?_
  refine lv_iload_n hx hb dX8_product_188 rfl (lv_at hl 3 rfl) ?_
  refine lv_imul hx hb dX8_product_189 ?_
  refine lv_iconst (v := 2) hx hb dX8_product_190 (by decide) ?_
  refine lv_iload hx hb dX8_product_191 (lv_at hl 5 rfl) ?_
  refine lv_imul hx hb dX8_product_193 ?_
  refine lv_iadd hx hb dX8_product_194 ?_
  refine lv_iconst (v := 1) hx hb dX8_product_195 (by decide) ?_
  refine lv_iadd hx hb dX8_product_196 ?_
  refine lv_lload hx hb dX8_product_197 (lv_at hl 6 rfl) ?_
  refine lv_iload hx hb dX8_product_199 (lv_at hl 4 rfl) ?_
  refine lv_if_eq (tgt := 224) hx hb dX8_product_201 (by decide) (fun hc => ?_) (fun hc => ?_)
  · replace h := h.1 hc
    refine lv_iconst (v := 0) hx hb dX8_product_224 (by decide) ?_
    exact n_X8_product_225 rfl C0 t0 tr_21 hk3 h hV (lv_sub hl [0, 1, 2, 3, 4, 5] rfl)
  · replace h := h.2 hc
    refine lv_aload_n hx hb dX8_product_204 rfl (lv_at hl 0 rfl) ?_
    refine m_getr (C := RX8) (T := TX8) (N := 19) (ci := 5) hx hb hts iwX8 hown hK hV t0 rfl 16 (by decide) rfl rfl hr_21 (hts _ tw_3_107) (fun _ h9 => h9) dX8_product_205 ?_
    refine lv_sipush (v := 256) hx hb dX8_product_208 (by decide) ?_
    refine lv_iload_n hx hb dX8_product_211 rfl (lv_at hl 3 rfl) ?_
    refine lv_imul hx hb dX8_product_212 ?_
    refine lv_iconst (v := 2) hx hb dX8_product_213 (by decide) ?_
    refine lv_iload hx hb dX8_product_214 (lv_at hl 5 rfl) ?_
    refine lv_imul hx hb dX8_product_216 ?_
    refine lv_iadd hx hb dX8_product_217 ?_
    refine lv_iconst (v := 1) hx hb dX8_product_218 (by decide) ?_
    refine lv_iadd hx hb dX8_product_219 ?_
    obtain ⟨hi_28, h⟩ := h
    refine m_iald hx hb hK hV tr_21 hi_28 dX8_product_220 ?_
    refine lv_goto (tgt := 225) hx hb dX8_product_221 (by decide) ?_
    exact n_X8_product_225 rfl C0 t0 tr_21 hk3 h hV (lv_sub hl [0, 1, 2, 3, 4, 5] rfl)
set_option maxHeartbeats 4000000 in
set_option maxRecDepth 100000 in
theorem n_X8_product_3 {p : Program} {l : Launch} {e : Env} {s : State} {m : MethodId} {below : List Frame} {meth : Method} {c : Code} {D : va_G} {X : XT} {ad : Nat → Nat} {n : Nat} {A : Nat → Prop} {J : MJ} {av : List Value} {R : Room} (hR : R = ({ frames := 1, cells := 0, slots := 0, locals := 22 } : Room)) (C0 : Cx p s m meth c cX8_product none 18 yX8_product av D X ad n A J) {q : MI → ML → Prop}  {x0 : Nat} {x1 : Int32} {x2 : Int32} {x3 : Int32} {x4 : Int32} (t0 : Ty X n x0 9) : ∀ (fu : Nat) (x5 : Int32) (I : MI) (L : ML) (H : Heap) (locs : List Loc) (ls : Array Slot), wl_X8_product_3 X J q  x0 x1 x2 x3 x4 fu x5 I L → Wd D X ad n A s.heap J I L H locs → lv_has ls 18 [(0, .ref (ad x0)), (1, .int x1), (2, .int x2), (3, .int x3), (4, .int x4), (5, .int x5)] → W p l e R s m av.toArray below meth c H locs 0 0 (MQ below (QV D X ad n A J q) av.toArray s 0 0 A) (F0 m 3 ls []) := by
  obtain ⟨hx, hb, hr, hml, hown, hlk, hnm, hts, hK, hZ, hA, hWT⟩ := id C0
  subst hR
  intro fu
  induction fu with
  | zero => intro x5 I L H locs ls h; exact absurd h (fun h => h)
  | succ fu ih =>
    intro x5 I L H locs ls h hV hl
    refine lv_iload hx hb dX8_product_3 (lv_at hl 5 rfl) ?_
    refine lv_sipush (v := 128) hx hb dX8_product_5 (by decide) ?_
    refine lv_icmp_ge (tgt := 237) hx hb dX8_product_8 (by decide) (fun hc => ?_) (fun hc => ?_)
    · replace h := h.1 hc
      exact m_vret hx hb hr hlk hK hZ hA hV h dX8_product_237
    · replace h := h.2 hc
      refine lv_aload_n hx hb dX8_product_11 rfl (lv_at hl 0 rfl) ?_
      obtain ⟨r_1, hr_1, h⟩ := h
      have tr_1 : Ty X n r_1 0 := hWT.r (c := 5) (j := 16) t0 rfl hr_1
      refine m_getr (C := RX8) (T := TX8) (N := 19) (ci := 5) hx hb hts iwX8 hown hK hV t0 rfl 16 (by decide) rfl rfl hr_1 (hts _ tw_3_107) (fun _ h9 => h9) dX8_product_12 ?_
      refine lv_sipush (v := 256) hx hb dX8_product_15 (by decide) ?_
      refine lv_iload_n hx hb dX8_product_18 rfl (lv_at hl 1 rfl) ?_
      refine lv_imul hx hb dX8_product_19 ?_
      refine lv_iconst (v := 2) hx hb dX8_product_20 (by decide) ?_
      refine lv_iload hx hb dX8_product_21 (lv_at hl 5 rfl) ?_
      refine lv_imul hx hb dX8_product_23 ?_
      refine lv_iadd hx hb dX8_product_24 ?_
      obtain ⟨hi_2, h⟩ := h
      refine m_iald hx hb hK hV tr_1 hi_2 dX8_product_25 ?_
      refine lv_i2l hx hb dX8_product_26 rfl ?_
      refine lv_topl (fun x6_3 ex6_3 => ?_)
      replace h := h x6_3 ex6_3
      refine lv_lstore (lv' := [(6, .long x6_3), (0, .ref (ad x0)), (1, .int x1), (2, .int x2), (3, .int x3), (4, .int x4), (5, .int x5)]) hx hb dX8_product_27 hl (by decide) rfl (fun ls hl => ?_)
      refine lv_aload_n hx hb dX8_product_29 rfl (lv_at hl 1 rfl) ?_
      refine m_getr (C := RX8) (T := TX8) (N := 19) (ci := 5) hx hb hts iwX8 hown hK hV t0 rfl 16 (by decide) rfl rfl hr_1 (hts _ tw_3_107) (fun _ h9 => h9) dX8_product_30 ?_
      refine lv_sipush (v := 256) hx hb dX8_product_33 (by decide) ?_
      refine lv_iload_n hx hb dX8_product_36 rfl (lv_at hl 2 rfl) ?_
      refine lv_imul hx hb dX8_product_37 ?_
      refine lv_iconst (v := 2) hx hb dX8_product_38 (by decide) ?_
      refine lv_iload hx hb dX8_product_39 (lv_at hl 6 rfl) ?_
      refine lv_imul hx hb dX8_product_41 ?_
      refine lv_iadd hx hb dX8_product_42 ?_
      refine lv_iconst (v := 1) hx hb dX8_product_43 (by decide) ?_
      refine lv_iadd hx hb dX8_product_44 ?_
      obtain ⟨hi_4, h⟩ := h
      refine m_iald hx hb hK hV tr_1 hi_4 dX8_product_45 ?_
      refine lv_i2l hx hb dX8_product_46 rfl ?_
      refine lv_topl (fun x8_5 ex8_5 => ?_)
      replace h := h x8_5 ex8_5
      refine lv_lstore (lv' := [(8, .long x8_5), (6, .long x6_3), (0, .ref (ad x0)), (1, .int x1), (2, .int x2), (3, .int x3), (4, .int x4), (5, .int x5)]) hx hb dX8_product_47 hl (by decide) rfl (fun ls hl => ?_)
      refine lv_aload_n hx hb dX8_product_49 rfl (lv_at hl 2 rfl) ?_
      refine m_getr (C := RX8) (T := TX8) (N := 19) (ci := 5) hx hb hts iwX8 hown hK hV t0 rfl 16 (by decide) rfl rfl hr_1 (hts _ tw_3_107) (fun _ h9 => h9) dX8_product_50 ?_
      refine lv_sipush (v := 256) hx hb dX8_product_53 (by decide) ?_
      refine lv_iload_n hx hb dX8_product_56 rfl (lv_at hl 4 rfl) ?_
      refine lv_imul hx hb dX8_product_57 ?_
      refine lv_iconst (v := 2) hx hb dX8_product_58 (by decide) ?_
      refine lv_iload hx hb dX8_product_59 (lv_at hl 7 rfl) ?_
      refine lv_imul hx hb dX8_product_61 ?_
      refine lv_iadd hx hb dX8_product_62 ?_
      obtain ⟨hi_6, h⟩ := h
      refine m_iald hx hb hK hV tr_1 hi_6 dX8_product_63 ?_
      refine lv_i2l hx hb dX8_product_64 rfl ?_
      refine lv_topl (fun x10_7 ex10_7 => ?_)
      replace h := h x10_7 ex10_7
      refine lv_lstore (lv' := [(10, .long x10_7), (8, .long x8_5), (6, .long x6_3), (0, .ref (ad x0)), (1, .int x1), (2, .int x2), (3, .int x3), (4, .int x4), (5, .int x5)]) hx hb dX8_product_65 hl (by decide) rfl (fun ls hl => ?_)
      refine lv_aload_n hx hb dX8_product_67 rfl (lv_at hl 3 rfl) ?_
      refine m_getr (C := RX8) (T := TX8) (N := 19) (ci := 5) hx hb hts iwX8 hown hK hV t0 rfl 16 (by decide) rfl rfl hr_1 (hts _ tw_3_107) (fun _ h9 => h9) dX8_product_68 ?_
      refine lv_sipush (v := 256) hx hb dX8_product_71 (by decide) ?_
      refine lv_iload_n hx hb dX8_product_74 rfl (lv_at hl 5 rfl) ?_
      refine lv_imul hx hb dX8_product_75 ?_
      refine lv_iconst (v := 2) hx hb dX8_product_76 (by decide) ?_
      refine lv_iload hx hb dX8_product_77 (lv_at hl 8 rfl) ?_
      refine lv_imul hx hb dX8_product_79 ?_
      refine lv_iadd hx hb dX8_product_80 ?_
      refine lv_iconst (v := 1) hx hb dX8_product_81 (by decide) ?_
      refine lv_iadd hx hb dX8_product_82 ?_
      obtain ⟨hi_8, h⟩ := h
      refine m_iald hx hb hK hV tr_1 hi_8 dX8_product_83 ?_
      refine lv_i2l hx hb dX8_product_84 rfl ?_
      refine lv_topl (fun x12_9 ex12_9 => ?_)
      replace h := h x12_9 ex12_9
      refine lv_lstore (lv' := [(12, .long x12_9), (10, .long x10_7), (8, .long x8_5), (6, .long x6_3), (0, .ref (ad x0)), (1, .int x1), (2, .int x2), (3, .int x3), (4, .int x4), (5, .int x5)]) hx hb dX8_product_85 hl (by decide) rfl (fun ls hl => ?_)
      refine lv_lload hx hb dX8_product_87 (lv_at hl 3 rfl) ?_
      refine lv_lload hx hb dX8_product_89 (lv_at hl 1 rfl) ?_
      refine lv_lmul hx hb dX8_product_91 ?_
      refine lv_lload hx hb dX8_product_92 (lv_at hl 2 rfl) ?_
      refine lv_lload hx hb dX8_product_94 (lv_at hl 0 rfl) ?_
      refine lv_lmul hx hb dX8_product_96 ?_
      refine lv_ldc2 (v := 3329) hx hb hown (hts _ tw_4_10) dX8_product_97 ?_
      refine lv_lrem hx hb dX8_product_100 (by decide) ?_
      refine lv_aload_n hx hb dX8_product_101 rfl (lv_at hl 4 rfl) ?_
      obtain ⟨r_10, hr_10, h⟩ := h
      have tr_10 : Ty X n r_10 0 := hWT.r (c := 5) (j := 17) t0 rfl hr_10
      refine m_getr (C := RX8) (T := TX8) (N := 19) (ci := 5) hx hb hts iwX8 hown hK hV t0 rfl 17 (by decide) rfl rfl hr_10 (hts _ tw_3_108) (fun _ h9 => h9) dX8_product_102 ?_
      refine lv_aload_n hx hb dX8_product_105 rfl (lv_at hl 4 rfl) ?_
      obtain ⟨r_11, hr_11, h⟩ := h
      have tr_11 : Ty X n r_11 0 := hWT.r (c := 5) (j := 18) t0 rfl hr_11
      refine m_getr (C := RX8) (T := TX8) (N := 19) (ci := 5) hx hb hts iwX8 hown hK hV t0 rfl 18 (by decide) rfl rfl hr_11 (hts _ tw_3_109) (fun _ h9 => h9) dX8_product_106 ?_
      refine lv_iload hx hb dX8_product_109 (lv_at hl 9 rfl) ?_
      obtain ⟨hi_12, h⟩ := h
      refine m_iald hx hb hK hV tr_11 hi_12 dX8_product_111 ?_
      refine lv_sipush (v := 256) hx hb dX8_product_112 (by decide) ?_
      refine lv_irem hx hb dX8_product_115 (by decide) ?_
      obtain ⟨hi_13, h⟩ := h
      refine m_iald hx hb hK hV tr_10 hi_13 dX8_product_116 ?_
      refine lv_i2l hx hb dX8_product_117 rfl ?_
      refine lv_lmul hx hb dX8_product_118 ?_
      refine lv_ladd hx hb dX8_product_119 ?_
      refine lv_topl (fun x14_14 ex14_14 => ?_)
      replace h := h x14_14 ex14_14
      refine lv_lstore (lv' := [(14, .long x14_14), (12, .long x12_9), (10, .long x10_7), (8, .long x8_5), (6, .long x6_3), (0, .ref (ad x0)), (1, .int x1), (2, .int x2), (3, .int x3), (4, .int x4), (5, .int x5)]) hx hb dX8_product_120 hl (by decide) rfl (fun ls hl => ?_)
      refine lv_lload hx hb dX8_product_122 (lv_at hl 4 rfl) ?_
      refine lv_lload hx hb dX8_product_124 (lv_at hl 1 rfl) ?_
      refine lv_lmul hx hb dX8_product_126 ?_
      refine lv_lload hx hb dX8_product_127 (lv_at hl 3 rfl) ?_
      refine lv_lload hx hb dX8_product_129 (lv_at hl 2 rfl) ?_
      refine lv_lmul hx hb dX8_product_131 ?_
      refine lv_ladd hx hb dX8_product_132 ?_
      refine lv_topl (fun x16_15 ex16_15 => ?_)
      replace h := h x16_15 ex16_15
      refine lv_lstore (lv' := [(16, .long x16_15), (14, .long x14_14), (12, .long x12_9), (10, .long x10_7), (8, .long x8_5), (6, .long x6_3), (0, .ref (ad x0)), (1, .int x1), (2, .int x2), (3, .int x3), (4, .int x4), (5, .int x5)]) hx hb dX8_product_133 hl (by decide) rfl (fun ls hl => ?_)
      refine lv_aload_n hx hb dX8_product_135 rfl (lv_at hl 6 rfl) ?_
      refine m_getr (C := RX8) (T := TX8) (N := 19) (ci := 5) hx hb hts iwX8 hown hK hV t0 rfl 16 (by decide) rfl rfl hr_1 (hts _ tw_3_107) (fun _ h9 => h9) dX8_product_136 ?_
      refine lv_sipush (v := 256) hx hb dX8_product_139 (by decide) ?_
      refine lv_iload_n hx hb dX8_product_142 rfl (lv_at hl 9 rfl) ?_
      refine lv_imul hx hb dX8_product_143 ?_
      refine lv_iconst (v := 2) hx hb dX8_product_144 (by decide) ?_
      refine lv_iload hx hb dX8_product_145 (lv_at hl 11 rfl) ?_
      refine lv_imul hx hb dX8_product_147 ?_
      refine lv_iadd hx hb dX8_product_148 ?_
      refine lv_lload hx hb dX8_product_149 (lv_at hl 1 rfl) ?_
      refine lv_iload hx hb dX8_product_151 (lv_at hl 10 rfl) ?_
      refine lv_if_eq (tgt := 174) hx hb dX8_product_153 (by decide) (fun hc => ?_) (fun hc => ?_)
      · replace h := h.1 hc
        refine lv_iconst (v := 0) hx hb dX8_product_174 (by decide) ?_
        exact n_X8_product_175 rfl C0 t0 tr_1 (fun y5 I L H locs ls h hV hl => ih y5 I L H locs ls h hV (lv_sub hl [0, 1, 2, 3, 4, 5] rfl)) h hV (lv_sub hl [6, 7, 8, 9, 10, 11, 0] rfl)
      · replace h := h.2 hc
        refine lv_aload_n hx hb dX8_product_156 rfl (lv_at hl 6 rfl) ?_
        refine m_getr (C := RX8) (T := TX8) (N := 19) (ci := 5) hx hb hts iwX8 hown hK hV t0 rfl 16 (by decide) rfl rfl hr_1 (hts _ tw_3_107) (fun _ h9 => h9) dX8_product_157 ?_
        refine lv_sipush (v := 256) hx hb dX8_product_160 (by decide) ?_
        refine lv_iload_n hx hb dX8_product_163 rfl (lv_at hl 9 rfl) ?_
        refine lv_imul hx hb dX8_product_164 ?_
        refine lv_iconst (v := 2) hx hb dX8_product_165 (by decide) ?_
        refine lv_iload hx hb dX8_product_166 (lv_at hl 11 rfl) ?_
        refine lv_imul hx hb dX8_product_168 ?_
        refine lv_iadd hx hb dX8_product_169 ?_
        obtain ⟨hi_29, h⟩ := h
        refine m_iald hx hb hK hV tr_1 hi_29 dX8_product_170 ?_
        refine lv_goto (tgt := 175) hx hb dX8_product_171 (by decide) ?_
        exact n_X8_product_175 rfl C0 t0 tr_1 (fun y5 I L H locs ls h hV hl => ih y5 I L H locs ls h hV (lv_sub hl [0, 1, 2, 3, 4, 5] rfl)) h hV (lv_sub hl [6, 7, 8, 9, 10, 11, 0] rfl)
set_option maxHeartbeats 4000000 in
set_option maxRecDepth 100000 in
theorem s_X8_product (l : Launch) (D : va_G) (X : XT) (ad : Nat → Nat) (n : Nat) (A : Nat → Prop) (J : MJ) (hWT : WT X n J) (x0 : Nat) (t0 : Ty X n x0 9) (x1 : Int32) (x2 : Int32) (x3 : Int32) (x4 : Int32) (I : MI) (L : ML) (q : MI → ML → Prop) (h : wp_X8_product X J x0 x1 x2 x3 x4 I L q) : Met l yX8_product (wz yX8_product cX8_product 18 none) ({ frames := 1, cells := 0, slots := 0, locals := 22 } : Room) (va_Pc [.ref (ad x0), .int x1, .int x2, .int x3, .int x4] (Pr D X ad n A J I L)) (QV D X ad n A J q) 0 0 A := by
  refine Met_go (by decide +kernel) (Nat.le_of_ble_eq_true rfl) (fun p e s m below meth c hx hb hr hml hown hlk hnm hts hK hZ hA hV ls hl => ?_)
  have C0 : Cx p s m meth c cX8_product none 18 yX8_product [.ref (ad x0), .int x1, .int x2, .int x3, .int x4] D X ad n A J := ⟨hx, hb, hr, hml, hown, hlk, hnm, hts, hK, hZ, hA, hWT⟩
  unfold wp_X8_product at h
  have hl : lv_has ls 18 [(0, .ref (ad x0)), (1, .int x1), (2, .int x2), (3, .int x3), (4, .int x4)] := hl
  refine lv_iconst (v := 0) hx hb dX8_product_0 (by decide) ?_
  refine lv_istore (lv' := [(5, .int 0), (0, .ref (ad x0)), (1, .int x1), (2, .int x2), (3, .int x3), (4, .int x4)]) hx hb dX8_product_1 hl (by decide) rfl (fun ls hl => ?_)
  obtain ⟨fu0, h⟩ := h
  exact n_X8_product_3 rfl C0 t0   fu0 0 _ _ _ _ _ h hV (lv_sub hl [1, 2, 3, 4, 5, 0] rfl)
set_option maxHeartbeats 4000000 in
set_option maxRecDepth 100000 in
theorem n_X8_plus_3 {p : Program} {l : Launch} {e : Env} {s : State} {m : MethodId} {below : List Frame} {meth : Method} {c : Code} {D : va_G} {X : XT} {ad : Nat → Nat} {n : Nat} {A : Nat → Prop} {J : MJ} {av : List Value} {R : Room} (hR : R = ({ frames := 1, cells := 0, slots := 0, locals := 22 } : Room)) (C0 : Cx p s m meth c cX8_plus none 5 yX8_plus av D X ad n A J) {q : MI → ML → Prop}  {x0 : Nat} {x1 : Int32} {x2 : Int32} {x3 : Int32} (t0 : Ty X n x0 9) : ∀ (fu : Nat) (x4 : Int32) (I : MI) (L : ML) (H : Heap) (locs : List Loc) (ls : Array Slot), wl_X8_plus_3 X J q  x0 x1 x2 x3 fu x4 I L → Wd D X ad n A s.heap J I L H locs → lv_has ls 5 [(0, .ref (ad x0)), (1, .int x1), (2, .int x2), (3, .int x3), (4, .int x4)] → W p l e R s m av.toArray below meth c H locs 0 0 (MQ below (QV D X ad n A J q) av.toArray s 0 0 A) (F0 m 3 ls []) := by
  obtain ⟨hx, hb, hr, hml, hown, hlk, hnm, hts, hK, hZ, hA, hWT⟩ := id C0
  subst hR
  intro fu
  induction fu with
  | zero => intro x4 I L H locs ls h; exact absurd h (fun h => h)
  | succ fu ih =>
    intro x4 I L H locs ls h hV hl
    refine lv_iload hx hb dX8_plus_3 (lv_at hl 4 rfl) ?_
    refine lv_sipush (v := 256) hx hb dX8_plus_5 (by decide) ?_
    refine lv_icmp_ge (tgt := 65) hx hb dX8_plus_8 (by decide) (fun hc => ?_) (fun hc => ?_)
    · replace h := h.1 hc
      exact m_vret hx hb hr hlk hK hZ hA hV h dX8_plus_65
    · replace h := h.2 hc
      refine lv_aload_n hx hb dX8_plus_11 rfl (lv_at hl 0 rfl) ?_
      obtain ⟨r_1, hr_1, h⟩ := h
      have tr_1 : Ty X n r_1 0 := hWT.r (c := 5) (j := 16) t0 rfl hr_1
      refine m_getr (C := RX8) (T := TX8) (N := 19) (ci := 5) hx hb hts iwX8 hown hK hV t0 rfl 16 (by decide) rfl rfl hr_1 (hts _ tw_3_107) (fun _ h9 => h9) dX8_plus_12 ?_
      refine lv_sipush (v := 256) hx hb dX8_plus_15 (by decide) ?_
      refine lv_iload_n hx hb dX8_plus_18 rfl (lv_at hl 1 rfl) ?_
      refine lv_imul hx hb dX8_plus_19 ?_
      refine lv_iload hx hb dX8_plus_20 (lv_at hl 4 rfl) ?_
      refine lv_iadd hx hb dX8_plus_22 ?_
      refine lv_aload_n hx hb dX8_plus_23 rfl (lv_at hl 0 rfl) ?_
      refine m_getr (C := RX8) (T := TX8) (N := 19) (ci := 5) hx hb hts iwX8 hown hK hV t0 rfl 16 (by decide) rfl rfl hr_1 (hts _ tw_3_107) (fun _ h9 => h9) dX8_plus_24 ?_
      refine lv_sipush (v := 256) hx hb dX8_plus_27 (by decide) ?_
      refine lv_iload_n hx hb dX8_plus_30 rfl (lv_at hl 1 rfl) ?_
      refine lv_imul hx hb dX8_plus_31 ?_
      refine lv_iload hx hb dX8_plus_32 (lv_at hl 4 rfl) ?_
      refine lv_iadd hx hb dX8_plus_34 ?_
      obtain ⟨hi_2, h⟩ := h
      refine m_iald hx hb hK hV tr_1 hi_2 dX8_plus_35 ?_
      refine lv_i2l hx hb dX8_plus_36 rfl ?_
      refine lv_iload_n hx hb dX8_plus_37 rfl (lv_at hl 3 rfl) ?_
      refine lv_i2l hx hb dX8_plus_38 rfl ?_
      refine lv_aload_n hx hb dX8_plus_39 rfl (lv_at hl 0 rfl) ?_
      refine m_getr (C := RX8) (T := TX8) (N := 19) (ci := 5) hx hb hts iwX8 hown hK hV t0 rfl 16 (by decide) rfl rfl hr_1 (hts _ tw_3_107) (fun _ h9 => h9) dX8_plus_40 ?_
      refine lv_sipush (v := 256) hx hb dX8_plus_43 (by decide) ?_
      refine lv_iload_n hx hb dX8_plus_46 rfl (lv_at hl 2 rfl) ?_
      refine lv_imul hx hb dX8_plus_47 ?_
      refine lv_iload hx hb dX8_plus_48 (lv_at hl 4 rfl) ?_
      refine lv_iadd hx hb dX8_plus_50 ?_
      obtain ⟨hi_3, h⟩ := h
      refine m_iald hx hb hK hV tr_1 hi_3 dX8_plus_51 ?_
      refine lv_i2l hx hb dX8_plus_52 rfl ?_
      refine lv_lmul hx hb dX8_plus_53 ?_
      refine lv_ladd hx hb dX8_plus_54 ?_
      refine k_calli (va_runS (As := [.long (((I r_1 ((256 * x1) + x4).toNatClampNeg).toInt64) + (x3.toInt64 * ((I r_1 ((256 * x2) + x4).toNatClampNeg).toInt64)))]) (rest := [.int ((256 * x1) + x4), .ref (ad r_1)]) ⟨hx, hb, hml, hown, hts⟩ (s_X8_ring l D X ad n A J hWT (((I r_1 ((256 * x1) + x4).toNatClampNeg).toInt64) + (x3.toInt64 * ((I r_1 ((256 * x2) + x4).toNatClampNeg).toInt64))) I L _ h) (va_cwS 1 hts (gS tw_4_7 tw_4_8 tw_1_9 tw_4_9) rfl rfl rfl (by decide +kernel) (by decide)) (k_preS hK hV hA hZ _) rfl rfl hl.1 rfl (lv_room (Nat.le_of_ble_eq_true rfl)) dX8_plus_55 ⟨Nat.zero_le _, Nat.zero_le _⟩) hV (fun v_6 I_4 L_5 H locs h hV => ?_)
      obtain ⟨hi_7, h⟩ := h
      refine m_iast hx hb hK hV tr_1 hi_7 dX8_plus_58 (fun H locs hV => ?_)
      obtain ⟨I_8, eI_8⟩ : ∃ y, y = ms I_4 r_1 ((256 * x1) + x4).toNatClampNeg v_6 := ⟨_, rfl⟩
      replace hV : Wd D X ad n A s.heap J I_8 L_5 H locs := by rw [eI_8]; exact hV
      replace h := h I_8 eI_8
      obtain ⟨x4_9, ex4_9⟩ : ∃ y : Int32, y = x4 + 1 := ⟨_, rfl⟩
      replace h := h x4_9 ex4_9
      refine lv_iinc (v := x4_9) (lv' := [(4, .int x4_9), (0, .ref (ad x0)), (1, .int x1), (2, .int x2), (3, .int x3)]) hx hb dX8_plus_59 hl (k := 4) rfl (by rw [ex4_9]; rfl) (by decide) rfl (fun ls hl => ?_)
      refine lv_goto (tgt := 3) hx hb dX8_plus_62 (by decide) ?_
      exact ih x4_9 _ _ _ _ _ h hV (lv_sub hl [1, 2, 3, 4, 0] rfl)
set_option maxHeartbeats 4000000 in
set_option maxRecDepth 100000 in
theorem s_X8_plus (l : Launch) (D : va_G) (X : XT) (ad : Nat → Nat) (n : Nat) (A : Nat → Prop) (J : MJ) (hWT : WT X n J) (x0 : Nat) (t0 : Ty X n x0 9) (x1 : Int32) (x2 : Int32) (x3 : Int32) (I : MI) (L : ML) (q : MI → ML → Prop) (h : wp_X8_plus X J x0 x1 x2 x3 I L q) : Met l yX8_plus (wz yX8_plus cX8_plus 5 none) ({ frames := 1, cells := 0, slots := 0, locals := 22 } : Room) (va_Pc [.ref (ad x0), .int x1, .int x2, .int x3] (Pr D X ad n A J I L)) (QV D X ad n A J q) 0 0 A := by
  refine Met_go (by decide +kernel) (Nat.le_of_ble_eq_true rfl) (fun p e s m below meth c hx hb hr hml hown hlk hnm hts hK hZ hA hV ls hl => ?_)
  have C0 : Cx p s m meth c cX8_plus none 5 yX8_plus [.ref (ad x0), .int x1, .int x2, .int x3] D X ad n A J := ⟨hx, hb, hr, hml, hown, hlk, hnm, hts, hK, hZ, hA, hWT⟩
  unfold wp_X8_plus at h
  have hl : lv_has ls 5 [(0, .ref (ad x0)), (1, .int x1), (2, .int x2), (3, .int x3)] := hl
  refine lv_iconst (v := 0) hx hb dX8_plus_0 (by decide) ?_
  refine lv_istore (lv' := [(4, .int 0), (0, .ref (ad x0)), (1, .int x1), (2, .int x2), (3, .int x3)]) hx hb dX8_plus_1 hl (by decide) rfl (fun ls hl => ?_)
  obtain ⟨fu0, h⟩ := h
  exact n_X8_plus_3 rfl C0 t0   fu0 0 _ _ _ _ _ h hV (lv_sub hl [1, 2, 3, 4, 0] rfl)
set_option maxHeartbeats 4000000 in
set_option maxRecDepth 100000 in
theorem n_X8_pressed_2 {p : Program} {l : Launch} {e : Env} {s : State} {m : MethodId} {below : List Frame} {meth : Method} {c : Code} {D : va_G} {X : XT} {ad : Nat → Nat} {n : Nat} {A : Nat → Prop} {J : MJ} {av : List Value} {R : Room} (hR : R = ({ frames := 0, cells := 0, slots := 0, locals := 0 } : Room)) (C0 : Cx p s m meth c cX8_pressed none 6 yX8_pressed av D X ad n A J) {q : MI → ML → Prop}  {x0 : Nat} {x1 : Int32} {x2 : Int32} (t0 : Ty X n x0 9) : ∀ (fu : Nat) (x3 : Int32) (I : MI) (L : ML) (H : Heap) (locs : List Loc) (ls : Array Slot), wl_X8_pressed_2 X J q  x0 x1 x2 fu x3 I L → Wd D X ad n A s.heap J I L H locs → lv_has ls 6 [(0, .ref (ad x0)), (1, .int x1), (2, .int x2), (3, .int x3)] → W p l e R s m av.toArray below meth c H locs 0 0 (MQ below (QV D X ad n A J q) av.toArray s 0 0 A) (F0 m 2 ls []) := by
  obtain ⟨hx, hb, hr, hml, hown, hlk, hnm, hts, hK, hZ, hA, hWT⟩ := id C0
  subst hR
  intro fu
  induction fu with
  | zero => intro x3 I L H locs ls h; exact absurd h (fun h => h)
  | succ fu ih =>
    intro x3 I L H locs ls h hV hl
    refine lv_iload_n hx hb dX8_pressed_2 rfl (lv_at hl 3 rfl) ?_
    refine lv_sipush (v := 256) hx hb dX8_pressed_3 (by decide) ?_
    refine lv_icmp_ge (tgt := 65) hx hb dX8_pressed_6 (by decide) (fun hc => ?_) (fun hc => ?_)
    · replace h := h.1 hc
      exact m_vret hx hb hr hlk hK hZ hA hV h dX8_pressed_65
    · replace h := h.2 hc
      refine lv_ldc2 (v := 2) hx hb hown (hts _ tw_4_84) dX8_pressed_9 ?_
      refine lv_aload_n hx hb dX8_pressed_12 rfl (lv_at hl 0 rfl) ?_
      obtain ⟨r_1, hr_1, h⟩ := h
      have tr_1 : Ty X n r_1 0 := hWT.r (c := 5) (j := 16) t0 rfl hr_1
      refine m_getr (C := RX8) (T := TX8) (N := 19) (ci := 5) hx hb hts iwX8 hown hK hV t0 rfl 16 (by decide) rfl rfl hr_1 (hts _ tw_3_107) (fun _ h9 => h9) dX8_pressed_13 ?_
      refine lv_sipush (v := 256) hx hb dX8_pressed_16 (by decide) ?_
      refine lv_iload_n hx hb dX8_pressed_19 rfl (lv_at hl 1 rfl) ?_
      refine lv_imul hx hb dX8_pressed_20 ?_
      refine lv_iload_n hx hb dX8_pressed_21 rfl (lv_at hl 3 rfl) ?_
      refine lv_iadd hx hb dX8_pressed_22 ?_
      obtain ⟨hi_2, h⟩ := h
      refine m_iald hx hb hK hV tr_1 hi_2 dX8_pressed_23 ?_
      refine lv_i2l hx hb dX8_pressed_24 rfl ?_
      refine lv_lmul hx hb dX8_pressed_25 ?_
      refine lv_lconst (v := 1) hx hb dX8_pressed_26 (by decide) ?_
      refine lv_iload_n hx hb dX8_pressed_27 rfl (lv_at hl 2 rfl) ?_
      refine lv_lshl hx hb dX8_pressed_28 rfl ?_
      refine lv_lmul hx hb dX8_pressed_29 ?_
      refine lv_ldc2 (v := 3329) hx hb hown (hts _ tw_4_10) dX8_pressed_30 ?_
      refine lv_ladd hx hb dX8_pressed_33 ?_
      refine lv_topl (fun x4_3 ex4_3 => ?_)
      replace h := h x4_3 ex4_3
      refine lv_lstore (lv' := [(4, .long x4_3), (0, .ref (ad x0)), (1, .int x1), (2, .int x2), (3, .int x3)]) hx hb dX8_pressed_34 hl (by decide) rfl (fun ls hl => ?_)
      refine lv_aload_n hx hb dX8_pressed_36 rfl (lv_at hl 1 rfl) ?_
      refine m_getr (C := RX8) (T := TX8) (N := 19) (ci := 5) hx hb hts iwX8 hown hK hV t0 rfl 16 (by decide) rfl rfl hr_1 (hts _ tw_3_107) (fun _ h9 => h9) dX8_pressed_37 ?_
      refine lv_sipush (v := 256) hx hb dX8_pressed_40 (by decide) ?_
      refine lv_iload_n hx hb dX8_pressed_43 rfl (lv_at hl 2 rfl) ?_
      refine lv_imul hx hb dX8_pressed_44 ?_
      refine lv_iload_n hx hb dX8_pressed_45 rfl (lv_at hl 4 rfl) ?_
      refine lv_iadd hx hb dX8_pressed_46 ?_
      refine lv_lload hx hb dX8_pressed_47 (lv_at hl 0 rfl) ?_
      refine lv_ldc2 (v := 6658) hx hb hown (hts _ tw_4_85) dX8_pressed_49 ?_
      refine lv_ldiv hx hb dX8_pressed_52 (by decide) ?_
      refine lv_lconst (v := 1) hx hb dX8_pressed_53 (by decide) ?_
      refine lv_iload_n hx hb dX8_pressed_54 rfl (lv_at hl 3 rfl) ?_
      refine lv_lshl hx hb dX8_pressed_55 rfl ?_
      obtain ⟨hn_4, h⟩ := h
      refine lv_lrem hx hb dX8_pressed_56 hn_4 ?_
      refine lv_l2i hx hb dX8_pressed_57 rfl ?_
      obtain ⟨hi_5, h⟩ := h
      refine m_iast hx hb hK hV tr_1 hi_5 dX8_pressed_58 (fun H locs hV => ?_)
      obtain ⟨I_6, eI_6⟩ : ∃ y, y = ms I r_1 ((256 * x1) + x3).toNatClampNeg ((jlrem (x4_3 / 6658) (jlshl 1 x2)).toInt32) := ⟨_, rfl⟩
      replace hV : Wd D X ad n A s.heap J I_6 L H locs := by rw [eI_6]; exact hV
      replace h := h I_6 eI_6
      obtain ⟨x3_7, ex3_7⟩ : ∃ y : Int32, y = x3 + 1 := ⟨_, rfl⟩
      replace h := h x3_7 ex3_7
      refine lv_iinc (v := x3_7) (lv' := [(3, .int x3_7), (4, .long x4_3), (0, .ref (ad x0)), (1, .int x1), (2, .int x2)]) hx hb dX8_pressed_59 hl (k := 4) rfl (by rw [ex3_7]; rfl) (by decide) rfl (fun ls hl => ?_)
      refine lv_goto (tgt := 2) hx hb dX8_pressed_62 (by decide) ?_
      exact ih x3_7 _ _ _ _ _ h hV (lv_sub hl [2, 3, 4, 0] rfl)
set_option maxHeartbeats 4000000 in
set_option maxRecDepth 100000 in
theorem s_X8_pressed (l : Launch) (D : va_G) (X : XT) (ad : Nat → Nat) (n : Nat) (A : Nat → Prop) (J : MJ) (hWT : WT X n J) (x0 : Nat) (t0 : Ty X n x0 9) (x1 : Int32) (x2 : Int32) (I : MI) (L : ML) (q : MI → ML → Prop) (h : wp_X8_pressed X J x0 x1 x2 I L q) : Met l yX8_pressed (wz yX8_pressed cX8_pressed 6 none) ({ frames := 0, cells := 0, slots := 0, locals := 0 } : Room) (va_Pc [.ref (ad x0), .int x1, .int x2] (Pr D X ad n A J I L)) (QV D X ad n A J q) 0 0 A := by
  refine Met_go (by decide +kernel) (Nat.le_of_ble_eq_true rfl) (fun p e s m below meth c hx hb hr hml hown hlk hnm hts hK hZ hA hV ls hl => ?_)
  have C0 : Cx p s m meth c cX8_pressed none 6 yX8_pressed [.ref (ad x0), .int x1, .int x2] D X ad n A J := ⟨hx, hb, hr, hml, hown, hlk, hnm, hts, hK, hZ, hA, hWT⟩
  unfold wp_X8_pressed at h
  have hl : lv_has ls 6 [(0, .ref (ad x0)), (1, .int x1), (2, .int x2)] := hl
  refine lv_iconst (v := 0) hx hb dX8_pressed_0 (by decide) ?_
  refine lv_istore_n (lv' := [(3, .int 0), (0, .ref (ad x0)), (1, .int x1), (2, .int x2)]) hx hb dX8_pressed_1 rfl hl (by decide) rfl (fun ls hl => ?_)
  obtain ⟨fu0, h⟩ := h
  exact n_X8_pressed_2 rfl C0 t0   fu0 0 _ _ _ _ _ h hV (lv_sub hl [1, 2, 3, 0] rfl)
set_option maxHeartbeats 4000000 in
set_option maxRecDepth 100000 in
theorem n_X8_stretched_2 {p : Program} {l : Launch} {e : Env} {s : State} {m : MethodId} {below : List Frame} {meth : Method} {c : Code} {D : va_G} {X : XT} {ad : Nat → Nat} {n : Nat} {A : Nat → Prop} {J : MJ} {av : List Value} {R : Room} (hR : R = ({ frames := 0, cells := 0, slots := 0, locals := 0 } : Room)) (C0 : Cx p s m meth c cX8_stretched none 6 yX8_stretched av D X ad n A J) {q : MI → ML → Prop}  {x0 : Nat} {x1 : Int32} {x2 : Int32} (t0 : Ty X n x0 9) : ∀ (fu : Nat) (x3 : Int32) (I : MI) (L : ML) (H : Heap) (locs : List Loc) (ls : Array Slot), wl_X8_stretched_2 X J q  x0 x1 x2 fu x3 I L → Wd D X ad n A s.heap J I L H locs → lv_has ls 6 [(0, .ref (ad x0)), (1, .int x1), (2, .int x2), (3, .int x3)] → W p l e R s m av.toArray below meth c H locs 0 0 (MQ below (QV D X ad n A J q) av.toArray s 0 0 A) (F0 m 2 ls []) := by
  obtain ⟨hx, hb, hr, hml, hown, hlk, hnm, hts, hK, hZ, hA, hWT⟩ := id C0
  subst hR
  intro fu
  induction fu with
  | zero => intro x3 I L H locs ls h; exact absurd h (fun h => h)
  | succ fu ih =>
    intro x3 I L H locs ls h hV hl
    refine lv_iload_n hx hb dX8_stretched_2 rfl (lv_at hl 3 rfl) ?_
    refine lv_sipush (v := 256) hx hb dX8_stretched_3 (by decide) ?_
    refine lv_icmp_ge (tgt := 67) hx hb dX8_stretched_6 (by decide) (fun hc => ?_) (fun hc => ?_)
    · replace h := h.1 hc
      exact m_vret hx hb hr hlk hK hZ hA hV h dX8_stretched_67
    · replace h := h.2 hc
      refine lv_aload_n hx hb dX8_stretched_9 rfl (lv_at hl 0 rfl) ?_
      obtain ⟨r_1, hr_1, h⟩ := h
      have tr_1 : Ty X n r_1 0 := hWT.r (c := 5) (j := 16) t0 rfl hr_1
      refine m_getr (C := RX8) (T := TX8) (N := 19) (ci := 5) hx hb hts iwX8 hown hK hV t0 rfl 16 (by decide) rfl rfl hr_1 (hts _ tw_3_107) (fun _ h9 => h9) dX8_stretched_10 ?_
      refine lv_sipush (v := 256) hx hb dX8_stretched_13 (by decide) ?_
      refine lv_iload_n hx hb dX8_stretched_16 rfl (lv_at hl 1 rfl) ?_
      refine lv_imul hx hb dX8_stretched_17 ?_
      refine lv_iload_n hx hb dX8_stretched_18 rfl (lv_at hl 3 rfl) ?_
      refine lv_iadd hx hb dX8_stretched_19 ?_
      obtain ⟨hi_2, h⟩ := h
      refine m_iald hx hb hK hV tr_1 hi_2 dX8_stretched_20 ?_
      refine lv_iconst (v := 1) hx hb dX8_stretched_21 (by decide) ?_
      refine lv_iload_n hx hb dX8_stretched_22 rfl (lv_at hl 2 rfl) ?_
      refine lv_ishl hx hb dX8_stretched_23 ?_
      obtain ⟨hn_3, h⟩ := h
      refine lv_irem hx hb dX8_stretched_24 hn_3 ?_
      refine lv_i2l hx hb dX8_stretched_25 rfl ?_
      refine lv_topl (fun x4_4 ex4_4 => ?_)
      replace h := h x4_4 ex4_4
      refine lv_lstore (lv' := [(4, .long x4_4), (0, .ref (ad x0)), (1, .int x1), (2, .int x2), (3, .int x3)]) hx hb dX8_stretched_26 hl (by decide) rfl (fun ls hl => ?_)
      refine lv_aload_n hx hb dX8_stretched_28 rfl (lv_at hl 1 rfl) ?_
      refine m_getr (C := RX8) (T := TX8) (N := 19) (ci := 5) hx hb hts iwX8 hown hK hV t0 rfl 16 (by decide) rfl rfl hr_1 (hts _ tw_3_107) (fun _ h9 => h9) dX8_stretched_29 ?_
      refine lv_sipush (v := 256) hx hb dX8_stretched_32 (by decide) ?_
      refine lv_iload_n hx hb dX8_stretched_35 rfl (lv_at hl 2 rfl) ?_
      refine lv_imul hx hb dX8_stretched_36 ?_
      refine lv_iload_n hx hb dX8_stretched_37 rfl (lv_at hl 4 rfl) ?_
      refine lv_iadd hx hb dX8_stretched_38 ?_
      refine lv_ldc2 (v := 2) hx hb hown (hts _ tw_4_84) dX8_stretched_39 ?_
      refine lv_lload hx hb dX8_stretched_42 (lv_at hl 0 rfl) ?_
      refine lv_lmul hx hb dX8_stretched_44 ?_
      refine lv_ldc2 (v := 3329) hx hb hown (hts _ tw_4_10) dX8_stretched_45 ?_
      refine lv_lmul hx hb dX8_stretched_48 ?_
      refine lv_lconst (v := 1) hx hb dX8_stretched_49 (by decide) ?_
      refine lv_iload_n hx hb dX8_stretched_50 rfl (lv_at hl 3 rfl) ?_
      refine lv_lshl hx hb dX8_stretched_51 rfl ?_
      refine lv_ladd hx hb dX8_stretched_52 ?_
      refine lv_ldc2 (v := 2) hx hb hown (hts _ tw_4_84) dX8_stretched_53 ?_
      refine lv_iload_n hx hb dX8_stretched_56 rfl (lv_at hl 3 rfl) ?_
      refine lv_lshl hx hb dX8_stretched_57 rfl ?_
      obtain ⟨hn_5, h⟩ := h
      refine lv_ldiv hx hb dX8_stretched_58 hn_5 ?_
      refine lv_l2i hx hb dX8_stretched_59 rfl ?_
      obtain ⟨hi_6, h⟩ := h
      refine m_iast hx hb hK hV tr_1 hi_6 dX8_stretched_60 (fun H locs hV => ?_)
      obtain ⟨I_7, eI_7⟩ : ∃ y, y = ms I r_1 ((256 * x1) + x3).toNatClampNeg (((((2 * x4_4) * 3329) + (jlshl 1 x2)) / (jlshl 2 x2)).toInt32) := ⟨_, rfl⟩
      replace hV : Wd D X ad n A s.heap J I_7 L H locs := by rw [eI_7]; exact hV
      replace h := h I_7 eI_7
      obtain ⟨x3_8, ex3_8⟩ : ∃ y : Int32, y = x3 + 1 := ⟨_, rfl⟩
      replace h := h x3_8 ex3_8
      refine lv_iinc (v := x3_8) (lv' := [(3, .int x3_8), (4, .long x4_4), (0, .ref (ad x0)), (1, .int x1), (2, .int x2)]) hx hb dX8_stretched_61 hl (k := 4) rfl (by rw [ex3_8]; rfl) (by decide) rfl (fun ls hl => ?_)
      refine lv_goto (tgt := 2) hx hb dX8_stretched_64 (by decide) ?_
      exact ih x3_8 _ _ _ _ _ h hV (lv_sub hl [2, 3, 4, 0] rfl)
set_option maxHeartbeats 4000000 in
set_option maxRecDepth 100000 in
theorem s_X8_stretched (l : Launch) (D : va_G) (X : XT) (ad : Nat → Nat) (n : Nat) (A : Nat → Prop) (J : MJ) (hWT : WT X n J) (x0 : Nat) (t0 : Ty X n x0 9) (x1 : Int32) (x2 : Int32) (I : MI) (L : ML) (q : MI → ML → Prop) (h : wp_X8_stretched X J x0 x1 x2 I L q) : Met l yX8_stretched (wz yX8_stretched cX8_stretched 6 none) ({ frames := 0, cells := 0, slots := 0, locals := 0 } : Room) (va_Pc [.ref (ad x0), .int x1, .int x2] (Pr D X ad n A J I L)) (QV D X ad n A J q) 0 0 A := by
  refine Met_go (by decide +kernel) (Nat.le_of_ble_eq_true rfl) (fun p e s m below meth c hx hb hr hml hown hlk hnm hts hK hZ hA hV ls hl => ?_)
  have C0 : Cx p s m meth c cX8_stretched none 6 yX8_stretched [.ref (ad x0), .int x1, .int x2] D X ad n A J := ⟨hx, hb, hr, hml, hown, hlk, hnm, hts, hK, hZ, hA, hWT⟩
  unfold wp_X8_stretched at h
  have hl : lv_has ls 6 [(0, .ref (ad x0)), (1, .int x1), (2, .int x2)] := hl
  refine lv_iconst (v := 0) hx hb dX8_stretched_0 (by decide) ?_
  refine lv_istore_n (lv' := [(3, .int 0), (0, .ref (ad x0)), (1, .int x1), (2, .int x2)]) hx hb dX8_stretched_1 rfl hl (by decide) rfl (fun ls hl => ?_)
  obtain ⟨fu0, h⟩ := h
  exact n_X8_stretched_2 rfl C0 t0   fu0 0 _ _ _ _ _ h hV (lv_sub hl [1, 2, 3, 0] rfl)
set_option maxHeartbeats 4000000 in
set_option maxRecDepth 100000 in
theorem n_X8_written_31 {p : Program} {l : Launch} {e : Env} {s : State} {m : MethodId} {below : List Frame} {meth : Method} {c : Code} {D : va_G} {X : XT} {ad : Nat → Nat} {n : Nat} {A : Nat → Prop} {J : MJ} {av : List Value} {R : Room} (hR : R = ({ frames := 0, cells := 0, slots := 0, locals := 0 } : Room)) (C0 : Cx p s m meth c cX8_written none 6 yX8_written av D X ad n A J) {q : MI → ML → Prop}  {x0 : Nat} {x1 : Int32} {x2 : Int32} {x3 : Int32} (t0 : Ty X n x0 9) : ∀ (fu : Nat) (x4 : Int32) (I : MI) (L : ML) (H : Heap) (locs : List Loc) (ls : Array Slot), wl_X8_written_31 X J q  x0 x1 x2 x3 fu x4 I L → Wd D X ad n A s.heap J I L H locs → lv_has ls 6 [(0, .ref (ad x0)), (1, .int x1), (2, .int x2), (3, .int x3), (4, .int x4)] → W p l e R s m av.toArray below meth c H locs 0 0 (MQ below (QV D X ad n A J q) av.toArray s 0 0 A) (F0 m 31 ls []) := by
  obtain ⟨hx, hb, hr, hml, hown, hlk, hnm, hts, hK, hZ, hA, hWT⟩ := id C0
  subst hR
  intro fu
  induction fu with
  | zero => intro x4 I L H locs ls h; exact absurd h (fun h => h)
  | succ fu ih =>
    intro x4 I L H locs ls h hV hl
    refine lv_iload hx hb dX8_written_31 (lv_at hl 4 rfl) ?_
    refine lv_sipush (v := 256) hx hb dX8_written_33 (by decide) ?_
    refine lv_iload_n hx hb dX8_written_36 rfl (lv_at hl 2 rfl) ?_
    refine lv_imul hx hb dX8_written_37 ?_
    refine lv_icmp_ge (tgt := 96) hx hb dX8_written_38 (by decide) (fun hc => ?_) (fun hc => ?_)
    · replace h := h.1 hc
      exact m_vret hx hb hr hlk hK hZ hA hV h dX8_written_96
    · replace h := h.2 hc
      refine lv_aload_n hx hb dX8_written_41 rfl (lv_at hl 0 rfl) ?_
      obtain ⟨r_1, hr_1, h⟩ := h
      have tr_1 : Ty X n r_1 0 := hWT.r (c := 5) (j := 16) t0 rfl hr_1
      refine m_getr (C := RX8) (T := TX8) (N := 19) (ci := 5) hx hb hts iwX8 hown hK hV t0 rfl 16 (by decide) rfl rfl hr_1 (hts _ tw_3_107) (fun _ h9 => h9) dX8_written_42 ?_
      refine lv_sipush (v := 256) hx hb dX8_written_45 (by decide) ?_
      refine lv_iload_n hx hb dX8_written_48 rfl (lv_at hl 1 rfl) ?_
      refine lv_imul hx hb dX8_written_49 ?_
      refine lv_iload hx hb dX8_written_50 (lv_at hl 4 rfl) ?_
      refine lv_iload_n hx hb dX8_written_52 rfl (lv_at hl 2 rfl) ?_
      obtain ⟨hn_2, h⟩ := h
      refine lv_idiv hx hb dX8_written_53 hn_2 ?_
      refine lv_iadd hx hb dX8_written_54 ?_
      obtain ⟨hi_3, h⟩ := h
      refine m_iald hx hb hK hV tr_1 hi_3 dX8_written_55 ?_
      refine lv_iload hx hb dX8_written_56 (lv_at hl 4 rfl) ?_
      refine lv_iload_n hx hb dX8_written_58 rfl (lv_at hl 2 rfl) ?_
      obtain ⟨hn_4, h⟩ := h
      refine lv_irem hx hb dX8_written_59 hn_4 ?_
      refine lv_ishr hx hb dX8_written_60 ?_
      refine lv_iconst (v := 1) hx hb dX8_written_61 (by decide) ?_
      refine lv_iand hx hb dX8_written_62 ?_
      refine lv_topi (fun x5_5 ex5_5 => ?_)
      replace h := h x5_5 ex5_5
      refine lv_istore (lv' := [(5, .int x5_5), (0, .ref (ad x0)), (1, .int x1), (2, .int x2), (3, .int x3), (4, .int x4)]) hx hb dX8_written_63 hl (by decide) rfl (fun ls hl => ?_)
      refine lv_aload_n hx hb dX8_written_65 rfl (lv_at hl 1 rfl) ?_
      obtain ⟨r_6, hr_6, h⟩ := h
      have tr_6 : Ty X n r_6 1 := hWT.r (c := 5) (j := 0) t0 rfl hr_6
      refine m_getr (C := RX8) (T := TX8) (N := 19) (ci := 5) hx hb hts iwX8 hown hK hV t0 rfl 0 (by decide) rfl rfl hr_6 (hts _ tw_3_91) (fun _ h9 => h9) dX8_written_66 ?_
      refine lv_iload_n hx hb dX8_written_69 rfl (lv_at hl 4 rfl) ?_
      refine lv_iload hx hb dX8_written_70 (lv_at hl 5 rfl) ?_
      refine lv_bipush (v := 8) hx hb dX8_written_72 (by decide) ?_
      refine lv_idiv hx hb dX8_written_74 (by decide) ?_
      refine lv_iadd hx hb dX8_written_75 ?_
      refine lv_dup2_11 hx hb dX8_written_76 rfl rfl ?_
      obtain ⟨hi_7, h⟩ := h
      refine m_bald hx hb hK hV tr_6 hi_7 dX8_written_77 ?_
      refine lv_iload hx hb dX8_written_78 (lv_at hl 0 rfl) ?_
      refine lv_iload hx hb dX8_written_80 (lv_at hl 5 rfl) ?_
      refine lv_bipush (v := 8) hx hb dX8_written_82 (by decide) ?_
      refine lv_irem hx hb dX8_written_84 (by decide) ?_
      refine lv_ishl hx hb dX8_written_85 ?_
      refine lv_i2b hx hb dX8_written_86 rfl ?_
      refine lv_ior hx hb dX8_written_87 ?_
      refine lv_i2b hx hb dX8_written_88 rfl ?_
      obtain ⟨hi_8, h⟩ := h
      refine m_bast hx hb hK hV tr_6 hi_8 dX8_written_89 (fun H locs hV => ?_)
      obtain ⟨I_9, eI_9⟩ : ∃ y, y = ms I r_6 (x3 + (x4 / 8)).toNatClampNeg (jb8 (jb8 ((I r_6 (x3 + (x4 / 8)).toNatClampNeg) ||| (jb8 (jshl x5_5 (jrem x4 8)))))) := ⟨_, rfl⟩
      replace hV : Wd D X ad n A s.heap J I_9 L H locs := by rw [eI_9]; exact hV
      replace h := h I_9 eI_9
      obtain ⟨x4_10, ex4_10⟩ : ∃ y : Int32, y = x4 + 1 := ⟨_, rfl⟩
      replace h := h x4_10 ex4_10
      refine lv_iinc (v := x4_10) (lv' := [(4, .int x4_10), (5, .int x5_5), (0, .ref (ad x0)), (1, .int x1), (2, .int x2), (3, .int x3)]) hx hb dX8_written_90 hl (k := 5) rfl (by rw [ex4_10]; rfl) (by decide) rfl (fun ls hl => ?_)
      refine lv_goto (tgt := 31) hx hb dX8_written_93 (by decide) ?_
      exact ih x4_10 _ _ _ _ _ h hV (lv_sub hl [2, 3, 4, 5, 0] rfl)
set_option maxHeartbeats 4000000 in
set_option maxRecDepth 100000 in
theorem n_X8_written_3 {p : Program} {l : Launch} {e : Env} {s : State} {m : MethodId} {below : List Frame} {meth : Method} {c : Code} {D : va_G} {X : XT} {ad : Nat → Nat} {n : Nat} {A : Nat → Prop} {J : MJ} {av : List Value} {R : Room} (hR : R = ({ frames := 0, cells := 0, slots := 0, locals := 0 } : Room)) (C0 : Cx p s m meth c cX8_written none 6 yX8_written av D X ad n A J) {q : MI → ML → Prop}  {x0 : Nat} {x1 : Int32} {x2 : Int32} {x3 : Int32} (t0 : Ty X n x0 9) : ∀ (fu : Nat) (x4 : Int32) (I : MI) (L : ML) (H : Heap) (locs : List Loc) (ls : Array Slot), wl_X8_written_3 X J q  x0 x1 x2 x3 fu x4 I L → Wd D X ad n A s.heap J I L H locs → lv_has ls 6 [(0, .ref (ad x0)), (1, .int x1), (2, .int x2), (3, .int x3), (4, .int x4)] → W p l e R s m av.toArray below meth c H locs 0 0 (MQ below (QV D X ad n A J q) av.toArray s 0 0 A) (F0 m 3 ls []) := by
  obtain ⟨hx, hb, hr, hml, hown, hlk, hnm, hts, hK, hZ, hA, hWT⟩ := id C0
  subst hR
  intro fu
  induction fu with
  | zero => intro x4 I L H locs ls h; exact absurd h (fun h => h)
  | succ fu ih =>
    intro x4 I L H locs ls h hV hl
    refine lv_iload hx hb dX8_written_3 (lv_at hl 4 rfl) ?_
    refine lv_bipush (v := 32) hx hb dX8_written_5 (by decide) ?_
    refine lv_iload_n hx hb dX8_written_7 rfl (lv_at hl 2 rfl) ?_
    refine lv_imul hx hb dX8_written_8 ?_
    refine lv_icmp_ge (tgt := 28) hx hb dX8_written_9 (by decide) (fun hc => ?_) (fun hc => ?_)
    · replace h := h.1 hc
      refine lv_iconst (v := 0) hx hb dX8_written_28 (by decide) ?_
      refine lv_istore (lv' := [(4, .int 0), (0, .ref (ad x0)), (1, .int x1), (2, .int x2), (3, .int x3)]) hx hb dX8_written_29 hl (by decide) rfl (fun ls hl => ?_)
      obtain ⟨fu0, h⟩ := h
      exact n_X8_written_31 rfl C0 t0   fu0 0 _ _ _ _ _ h hV (lv_sub hl [1, 2, 3, 4, 0] rfl)
    · replace h := h.2 hc
      refine lv_aload_n hx hb dX8_written_12 rfl (lv_at hl 0 rfl) ?_
      obtain ⟨r_11, hr_11, h⟩ := h
      have tr_11 : Ty X n r_11 1 := hWT.r (c := 5) (j := 0) t0 rfl hr_11
      refine m_getr (C := RX8) (T := TX8) (N := 19) (ci := 5) hx hb hts iwX8 hown hK hV t0 rfl 0 (by decide) rfl rfl hr_11 (hts _ tw_3_91) (fun _ h9 => h9) dX8_written_13 ?_
      refine lv_iload_n hx hb dX8_written_16 rfl (lv_at hl 3 rfl) ?_
      refine lv_iload hx hb dX8_written_17 (lv_at hl 4 rfl) ?_
      refine lv_iadd hx hb dX8_written_19 ?_
      refine lv_iconst (v := 0) hx hb dX8_written_20 (by decide) ?_
      obtain ⟨hi_12, h⟩ := h
      refine m_bast hx hb hK hV tr_11 hi_12 dX8_written_21 (fun H locs hV => ?_)
      obtain ⟨I_13, eI_13⟩ : ∃ y, y = ms I r_11 (x3 + x4).toNatClampNeg (jb8 0) := ⟨_, rfl⟩
      replace hV : Wd D X ad n A s.heap J I_13 L H locs := by rw [eI_13]; exact hV
      replace h := h I_13 eI_13
      obtain ⟨x4_14, ex4_14⟩ : ∃ y : Int32, y = x4 + 1 := ⟨_, rfl⟩
      replace h := h x4_14 ex4_14
      refine lv_iinc (v := x4_14) (lv' := [(4, .int x4_14), (0, .ref (ad x0)), (1, .int x1), (2, .int x2), (3, .int x3)]) hx hb dX8_written_22 hl (k := 4) rfl (by rw [ex4_14]; rfl) (by decide) rfl (fun ls hl => ?_)
      refine lv_goto (tgt := 3) hx hb dX8_written_25 (by decide) ?_
      exact ih x4_14 _ _ _ _ _ h hV (lv_sub hl [1, 2, 3, 4, 0] rfl)
set_option maxHeartbeats 4000000 in
set_option maxRecDepth 100000 in
theorem s_X8_written (l : Launch) (D : va_G) (X : XT) (ad : Nat → Nat) (n : Nat) (A : Nat → Prop) (J : MJ) (hWT : WT X n J) (x0 : Nat) (t0 : Ty X n x0 9) (x1 : Int32) (x2 : Int32) (x3 : Int32) (I : MI) (L : ML) (q : MI → ML → Prop) (h : wp_X8_written X J x0 x1 x2 x3 I L q) : Met l yX8_written (wz yX8_written cX8_written 6 none) ({ frames := 0, cells := 0, slots := 0, locals := 0 } : Room) (va_Pc [.ref (ad x0), .int x1, .int x2, .int x3] (Pr D X ad n A J I L)) (QV D X ad n A J q) 0 0 A := by
  refine Met_go (by decide +kernel) (Nat.le_of_ble_eq_true rfl) (fun p e s m below meth c hx hb hr hml hown hlk hnm hts hK hZ hA hV ls hl => ?_)
  have C0 : Cx p s m meth c cX8_written none 6 yX8_written [.ref (ad x0), .int x1, .int x2, .int x3] D X ad n A J := ⟨hx, hb, hr, hml, hown, hlk, hnm, hts, hK, hZ, hA, hWT⟩
  unfold wp_X8_written at h
  have hl : lv_has ls 6 [(0, .ref (ad x0)), (1, .int x1), (2, .int x2), (3, .int x3)] := hl
  refine lv_iconst (v := 0) hx hb dX8_written_0 (by decide) ?_
  refine lv_istore (lv' := [(4, .int 0), (0, .ref (ad x0)), (1, .int x1), (2, .int x2), (3, .int x3)]) hx hb dX8_written_1 hl (by decide) rfl (fun ls hl => ?_)
  obtain ⟨fu0, h⟩ := h
  exact n_X8_written_3 rfl C0 t0   fu0 0 _ _ _ _ _ h hV (lv_sub hl [1, 2, 3, 4, 0] rfl)
set_option maxHeartbeats 4000000 in
set_option maxRecDepth 100000 in
theorem n_X8_group_6 {p : Program} {l : Launch} {e : Env} {s : State} {m : MethodId} {below : List Frame} {meth : Method} {c : Code} {D : va_G} {X : XT} {ad : Nat → Nat} {n : Nat} {A : Nat → Prop} {J : MJ} {av : List Value} {R : Room} (hR : R = ({ frames := 1, cells := 0, slots := 0, locals := 21 } : Room)) (C0 : Cx p s m meth c cX8_group (some .int) 7 yX8_group av D X ad n A J) {q : Int32 → MI → ML → Prop}  {x0 : Nat} {x1 : Int32} {x2 : Int32} {x3 : Int32} (t0 : Ty X n x0 9) : ∀ (fu : Nat) (x4 : Int32) (x5 : Int32) (I : MI) (L : ML) (H : Heap) (locs : List Loc) (ls : Array Slot), wl_X8_group_6 X J q  x0 x1 x2 x3 fu x4 x5 I L → Wd D X ad n A s.heap J I L H locs → lv_has ls 7 [(0, .ref (ad x0)), (1, .int x1), (2, .int x2), (3, .int x3), (4, .int x4), (5, .int x5)] → W p l e R s m av.toArray below meth c H locs 0 0 (MQ below (QI D X ad n A J q) av.toArray s 0 0 A) (F0 m 6 ls []) := by
  obtain ⟨hx, hb, hr, hml, hown, hlk, hnm, hts, hK, hZ, hA, hWT⟩ := id C0
  subst hR
  intro fu
  induction fu with
  | zero => intro x4 x5 I L H locs ls h; exact absurd h (fun h => h)
  | succ fu ih =>
    intro x4 x5 I L H locs ls h hV hl
    refine lv_iload hx hb dX8_group_6 (lv_at hl 5 rfl) ?_
    refine lv_iload_n hx hb dX8_group_8 rfl (lv_at hl 3 rfl) ?_
    refine lv_icmp_ge (tgt := 53) hx hb dX8_group_9 (by decide) (fun hc => ?_) (fun hc => ?_)
    · replace h := h.1 hc
      refine lv_iload hx hb dX8_group_53 (lv_at hl 4 rfl) ?_
      exact m_iret hx hb hr hlk hK hZ hA hV h dX8_group_55
    · replace h := h.2 hc
      refine lv_iload_n hx hb dX8_group_12 rfl (lv_at hl 3 rfl) ?_
      refine lv_iload_n hx hb dX8_group_13 rfl (lv_at hl 2 rfl) ?_
      refine lv_imul hx hb dX8_group_14 ?_
      refine lv_iload hx hb dX8_group_15 (lv_at hl 5 rfl) ?_
      refine lv_iadd hx hb dX8_group_17 ?_
      refine lv_topi (fun x6_1 ex6_1 => ?_)
      replace h := h x6_1 ex6_1
      refine lv_istore (lv' := [(6, .int x6_1), (0, .ref (ad x0)), (1, .int x1), (2, .int x2), (3, .int x3), (4, .int x4), (5, .int x5)]) hx hb dX8_group_18 hl (by decide) rfl (fun ls hl => ?_)
      refine lv_iload hx hb dX8_group_20 (lv_at hl 5 rfl) ?_
      refine lv_aload_n hx hb dX8_group_22 rfl (lv_at hl 1 rfl) ?_
      refine lv_iload_n hx hb dX8_group_23 rfl (lv_at hl 2 rfl) ?_
      refine lv_iload hx hb dX8_group_24 (lv_at hl 0 rfl) ?_
      refine lv_bipush (v := 8) hx hb dX8_group_26 (by decide) ?_
      refine lv_idiv hx hb dX8_group_28 (by decide) ?_
      refine lv_iadd hx hb dX8_group_29 ?_
      refine k_calli (va_runV (As := [.int (x1 + (x6_1 / 8))]) (rest := [.int x4]) ⟨hx, hb, hml, hown, hts⟩ (s_X8_byteAt l D X ad n A J hWT x0 t0 (x1 + (x6_1 / 8)) I L _ h) (cwV 1 hts (gV tw_3_191 tw_3_193 tw_0_16 tw_1_9 tw_3_194) rfl rfl rfl (by decide +kernel) (by decide)) (k_preV (ci := 5) hK hV hA hZ t0 rfl _) rfl rfl hl.1 rfl (lv_room (Nat.le_of_ble_eq_true rfl)) dX8_group_30 ⟨Nat.zero_le _, Nat.zero_le _⟩) hV (fun v_4 I_2 L_3 H locs h hV => ?_)
      refine lv_iload hx hb dX8_group_33 (lv_at hl 0 rfl) ?_
      refine lv_bipush (v := 8) hx hb dX8_group_35 (by decide) ?_
      refine lv_irem hx hb dX8_group_37 (by decide) ?_
      refine lv_ishr hx hb dX8_group_38 ?_
      refine lv_iconst (v := 1) hx hb dX8_group_39 (by decide) ?_
      refine lv_iand hx hb dX8_group_40 ?_
      refine lv_iload hx hb dX8_group_41 (lv_at hl 6 rfl) ?_
      refine lv_ishl hx hb dX8_group_43 ?_
      refine lv_ior hx hb dX8_group_44 ?_
      refine lv_topi (fun x4_5 ex4_5 => ?_)
      replace h := h x4_5 ex4_5
      refine lv_istore (lv' := [(4, .int x4_5), (6, .int x6_1), (0, .ref (ad x0)), (1, .int x1), (2, .int x2), (3, .int x3), (5, .int x5)]) hx hb dX8_group_45 hl (by decide) rfl (fun ls hl => ?_)
      obtain ⟨x5_6, ex5_6⟩ : ∃ y : Int32, y = x5 + 1 := ⟨_, rfl⟩
      replace h := h x5_6 ex5_6
      refine lv_iinc (v := x5_6) (lv' := [(5, .int x5_6), (4, .int x4_5), (6, .int x6_1), (0, .ref (ad x0)), (1, .int x1), (2, .int x2), (3, .int x3)]) hx hb dX8_group_47 hl (k := 6) rfl (by rw [ex5_6]; rfl) (by decide) rfl (fun ls hl => ?_)
      refine lv_goto (tgt := 6) hx hb dX8_group_50 (by decide) ?_
      exact ih x4_5 x5_6 _ _ _ _ _ h hV (lv_sub hl [3, 4, 5, 6, 1, 0] rfl)
set_option maxHeartbeats 4000000 in
set_option maxRecDepth 100000 in
theorem s_X8_group (l : Launch) (D : va_G) (X : XT) (ad : Nat → Nat) (n : Nat) (A : Nat → Prop) (J : MJ) (hWT : WT X n J) (x0 : Nat) (t0 : Ty X n x0 9) (x1 : Int32) (x2 : Int32) (x3 : Int32) (I : MI) (L : ML) (q : Int32 → MI → ML → Prop) (h : wp_X8_group X J x0 x1 x2 x3 I L q) : Met l yX8_group (wz yX8_group cX8_group 7 (some .int)) ({ frames := 1, cells := 0, slots := 0, locals := 21 } : Room) (va_Pc [.ref (ad x0), .int x1, .int x2, .int x3] (Pr D X ad n A J I L)) (QI D X ad n A J q) 0 0 A := by
  refine Met_go (by decide +kernel) (Nat.le_of_ble_eq_true rfl) (fun p e s m below meth c hx hb hr hml hown hlk hnm hts hK hZ hA hV ls hl => ?_)
  have C0 : Cx p s m meth c cX8_group (some .int) 7 yX8_group [.ref (ad x0), .int x1, .int x2, .int x3] D X ad n A J := ⟨hx, hb, hr, hml, hown, hlk, hnm, hts, hK, hZ, hA, hWT⟩
  unfold wp_X8_group at h
  have hl : lv_has ls 7 [(0, .ref (ad x0)), (1, .int x1), (2, .int x2), (3, .int x3)] := hl
  refine lv_iconst (v := 0) hx hb dX8_group_0 (by decide) ?_
  refine lv_istore (lv' := [(4, .int 0), (0, .ref (ad x0)), (1, .int x1), (2, .int x2), (3, .int x3)]) hx hb dX8_group_1 hl (by decide) rfl (fun ls hl => ?_)
  refine lv_iconst (v := 0) hx hb dX8_group_3 (by decide) ?_
  refine lv_istore (lv' := [(5, .int 0), (4, .int 0), (0, .ref (ad x0)), (1, .int x1), (2, .int x2), (3, .int x3)]) hx hb dX8_group_4 hl (by decide) rfl (fun ls hl => ?_)
  obtain ⟨fu0, h⟩ := h
  exact n_X8_group_6 rfl C0 t0   fu0 0 0 _ _ _ _ _ h hV (lv_sub hl [2, 3, 4, 5, 1, 0] rfl)
set_option maxHeartbeats 4000000 in
set_option maxRecDepth 100000 in
theorem n_X8_readPol_3 {p : Program} {l : Launch} {e : Env} {s : State} {m : MethodId} {below : List Frame} {meth : Method} {c : Code} {D : va_G} {X : XT} {ad : Nat → Nat} {n : Nat} {A : Nat → Prop} {J : MJ} {av : List Value} {R : Room} (hR : R = ({ frames := 2, cells := 0, slots := 0, locals := 47 } : Room)) (C0 : Cx p s m meth c cX8_readPol none 5 yX8_readPol av D X ad n A J) {q : MI → ML → Prop}  {x0 : Nat} {x1 : Int32} {x2 : Int32} {x3 : Int32} (t0 : Ty X n x0 9) : ∀ (fu : Nat) (x4 : Int32) (I : MI) (L : ML) (H : Heap) (locs : List Loc) (ls : Array Slot), wl_X8_readPol_3 X J q  x0 x1 x2 x3 fu x4 I L → Wd D X ad n A s.heap J I L H locs → lv_has ls 5 [(0, .ref (ad x0)), (1, .int x1), (2, .int x2), (3, .int x3), (4, .int x4)] → W p l e R s m av.toArray below meth c H locs 0 0 (MQ below (QV D X ad n A J q) av.toArray s 0 0 A) (F0 m 3 ls []) := by
  obtain ⟨hx, hb, hr, hml, hown, hlk, hnm, hts, hK, hZ, hA, hWT⟩ := id C0
  subst hR
  intro fu
  induction fu with
  | zero => intro x4 I L H locs ls h; exact absurd h (fun h => h)
  | succ fu ih =>
    intro x4 I L H locs ls h hV hl
    refine lv_iload hx hb dX8_readPol_3 (lv_at hl 4 rfl) ?_
    refine lv_sipush (v := 256) hx hb dX8_readPol_5 (by decide) ?_
    refine lv_icmp_ge (tgt := 42) hx hb dX8_readPol_8 (by decide) (fun hc => ?_) (fun hc => ?_)
    · replace h := h.1 hc
      exact m_vret hx hb hr hlk hK hZ hA hV h dX8_readPol_42
    · replace h := h.2 hc
      refine lv_aload_n hx hb dX8_readPol_11 rfl (lv_at hl 0 rfl) ?_
      obtain ⟨r_1, hr_1, h⟩ := h
      have tr_1 : Ty X n r_1 0 := hWT.r (c := 5) (j := 16) t0 rfl hr_1
      refine m_getr (C := RX8) (T := TX8) (N := 19) (ci := 5) hx hb hts iwX8 hown hK hV t0 rfl 16 (by decide) rfl rfl hr_1 (hts _ tw_3_107) (fun _ h9 => h9) dX8_readPol_12 ?_
      refine lv_sipush (v := 256) hx hb dX8_readPol_15 (by decide) ?_
      refine lv_iload_n hx hb dX8_readPol_18 rfl (lv_at hl 1 rfl) ?_
      refine lv_imul hx hb dX8_readPol_19 ?_
      refine lv_iload hx hb dX8_readPol_20 (lv_at hl 4 rfl) ?_
      refine lv_iadd hx hb dX8_readPol_22 ?_
      refine lv_aload_n hx hb dX8_readPol_23 rfl (lv_at hl 0 rfl) ?_
      refine lv_iload_n hx hb dX8_readPol_24 rfl (lv_at hl 3 rfl) ?_
      refine lv_iload hx hb dX8_readPol_25 (lv_at hl 4 rfl) ?_
      refine lv_iload_n hx hb dX8_readPol_27 rfl (lv_at hl 2 rfl) ?_
      refine k_calli (va_runV (As := [.int x3, .int x4, .int x2]) (rest := [.int ((256 * x1) + x4), .ref (ad r_1)]) ⟨hx, hb, hml, hown, hts⟩ (s_X8_group l D X ad n A J hWT x0 t0 x3 x4 x2 I L _ h) (cwV 3 hts (gV tw_4_55 tw_4_57 tw_0_39 tw_1_9 tw_4_58) rfl rfl rfl (by decide +kernel) (by decide)) (k_preV (ci := 5) hK hV hA hZ t0 rfl _) rfl rfl hl.1 rfl (lv_room (Nat.le_of_ble_eq_true rfl)) dX8_readPol_28 ⟨Nat.zero_le _, Nat.zero_le _⟩) hV (fun v_4 I_2 L_3 H locs h hV => ?_)
      refine lv_sipush (v := 3329) hx hb dX8_readPol_31 (by decide) ?_
      refine lv_irem hx hb dX8_readPol_34 (by decide) ?_
      obtain ⟨hi_5, h⟩ := h
      refine m_iast hx hb hK hV tr_1 hi_5 dX8_readPol_35 (fun H locs hV => ?_)
      obtain ⟨I_6, eI_6⟩ : ∃ y, y = ms I_2 r_1 ((256 * x1) + x4).toNatClampNeg (jrem v_4 3329) := ⟨_, rfl⟩
      replace hV : Wd D X ad n A s.heap J I_6 L_3 H locs := by rw [eI_6]; exact hV
      replace h := h I_6 eI_6
      obtain ⟨x4_7, ex4_7⟩ : ∃ y : Int32, y = x4 + 1 := ⟨_, rfl⟩
      replace h := h x4_7 ex4_7
      refine lv_iinc (v := x4_7) (lv' := [(4, .int x4_7), (0, .ref (ad x0)), (1, .int x1), (2, .int x2), (3, .int x3)]) hx hb dX8_readPol_36 hl (k := 4) rfl (by rw [ex4_7]; rfl) (by decide) rfl (fun ls hl => ?_)
      refine lv_goto (tgt := 3) hx hb dX8_readPol_39 (by decide) ?_
      exact ih x4_7 _ _ _ _ _ h hV (lv_sub hl [1, 2, 3, 4, 0] rfl)
set_option maxHeartbeats 4000000 in
set_option maxRecDepth 100000 in
theorem s_X8_readPol (l : Launch) (D : va_G) (X : XT) (ad : Nat → Nat) (n : Nat) (A : Nat → Prop) (J : MJ) (hWT : WT X n J) (x0 : Nat) (t0 : Ty X n x0 9) (x1 : Int32) (x2 : Int32) (x3 : Int32) (I : MI) (L : ML) (q : MI → ML → Prop) (h : wp_X8_readPol X J x0 x1 x2 x3 I L q) : Met l yX8_readPol (wz yX8_readPol cX8_readPol 5 none) ({ frames := 2, cells := 0, slots := 0, locals := 47 } : Room) (va_Pc [.ref (ad x0), .int x1, .int x2, .int x3] (Pr D X ad n A J I L)) (QV D X ad n A J q) 0 0 A := by
  refine Met_go (by decide +kernel) (Nat.le_of_ble_eq_true rfl) (fun p e s m below meth c hx hb hr hml hown hlk hnm hts hK hZ hA hV ls hl => ?_)
  have C0 : Cx p s m meth c cX8_readPol none 5 yX8_readPol [.ref (ad x0), .int x1, .int x2, .int x3] D X ad n A J := ⟨hx, hb, hr, hml, hown, hlk, hnm, hts, hK, hZ, hA, hWT⟩
  unfold wp_X8_readPol at h
  have hl : lv_has ls 5 [(0, .ref (ad x0)), (1, .int x1), (2, .int x2), (3, .int x3)] := hl
  refine lv_iconst (v := 0) hx hb dX8_readPol_0 (by decide) ?_
  refine lv_istore (lv' := [(4, .int 0), (0, .ref (ad x0)), (1, .int x1), (2, .int x2), (3, .int x3)]) hx hb dX8_readPol_1 hl (by decide) rfl (fun ls hl => ?_)
  obtain ⟨fu0, h⟩ := h
  exact n_X8_readPol_3 rfl C0 t0   fu0 0 _ _ _ _ _ h hV (lv_sub hl [1, 2, 3, 4, 0] rfl)
