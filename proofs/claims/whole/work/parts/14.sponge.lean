theorem tw_1_52 : Cond.fieldLink RX6 15 "LatticeVault$Sponge" "rate" "I" ∈ gt := g1 52 (by decide +kernel) (by decide +kernel)
theorem tw_1_53 : Cond.fieldLink RX6 23 "LatticeVault$Sponge" "suffix" "I" ∈ gt := g1 53 (by decide +kernel) (by decide +kernel)
theorem tw_1_54 : Cond.fieldLink RX6 26 "LatticeVault$Sponge" "place" "I" ∈ gt := g1 54 (by decide +kernel) (by decide +kernel)
theorem tw_1_51 : Cond.fieldLink RX6 9 "LatticeVault$Sponge" "lanes" "[J" ∈ gt := g1 51 (by decide +kernel) (by decide +kernel)
theorem tw_2_12 : Cond.methodLink RX6 29 yJ7_fill_d0a16 ∈ gt := g2 12 (by decide +kernel) (by decide +kernel)
theorem tw_2_13 : Cond.static yJ7_fill_d0a16 ∈ gt := g2 13 (by decide +kernel) (by decide +kernel)
theorem tw_1_11 : Cond.initialized RJ7 ∈ gt := g1 11 (by decide +kernel) (by decide +kernel)
theorem tw_2_14 : Cond.code yJ7_fill_d0a16 cJ7_fill_d0a16 5 none ∈ gt := g2 14 rfl (by rfl)
theorem tw_2_10 : Cond.fieldLink RX6 19 "LatticeVault$Sponge" "RATES" "[I" ∈ gt := g2 10 (by decide +kernel) (by decide +kernel)
theorem tw_2_37 : Cond.fieldLink RX6 67 "LatticeVault$Sponge" "ROUND_CONSTANTS" "[J" ∈ gt := g2 37 (by decide +kernel) (by decide +kernel)
theorem tw_2_36 : Cond.constantLong RX6 65 (-1) ∈ gt := g2 36 (by decide +kernel) (by decide +kernel)
theorem tw_2_32 : Cond.fieldLink RX6 59 "LatticeVault$Sponge" "WALK" "[I" ∈ gt := g2 32 (by decide +kernel) (by decide +kernel)
theorem tw_2_34 : Cond.fieldLink RX6 62 "LatticeVault$Sponge" "TURNS" "[I" ∈ gt := g2 34 (by decide +kernel) (by decide +kernel)
theorem tw_2_24 : Cond.methodLink RX6 35 yX6_mixIn ∈ gt := g2 24 (by decide +kernel) (by decide +kernel)
theorem tw_2_26 : Cond.instanceMethod yX6_mixIn ∈ gt := g2 26 (by decide +kernel) (by decide +kernel)
theorem tw_0_1 : Cond.selects RX6 yX6_mixIn yX6_mixIn ∈ gt := g0 1 (by decide +kernel) (by decide +kernel)
theorem tw_1_4 : Cond.initialized RX6 ∈ gt := g1 4 (by decide +kernel) (by decide +kernel)
theorem tw_2_27 : Cond.code yX6_mixIn cX6_mixIn 3 none ∈ gt := g2 27 rfl (by rfl)
theorem tw_2_28 : Cond.methodLink RX6 39 yX6_doRounds ∈ gt := g2 28 (by decide +kernel) (by decide +kernel)
theorem tw_2_30 : Cond.instanceMethod yX6_doRounds ∈ gt := g2 30 (by decide +kernel) (by decide +kernel)
theorem tw_0_2 : Cond.selects RX6 yX6_doRounds yX6_doRounds ∈ gt := g0 2 (by decide +kernel) (by decide +kernel)
theorem tw_2_31 : Cond.code yX6_doRounds cX6_doRounds 36 none ∈ gt := g2 31 rfl (by rfl)
theorem tw_2_19 : Cond.methodLink RX6 42 yX4_byteAt ∈ gt := g2 19 (by decide +kernel) (by decide +kernel)
theorem tw_2_20 : Cond.methodLink RX6 48 yX6_absorbByte ∈ gt := g2 20 (by decide +kernel) (by decide +kernel)
theorem tw_2_21 : Cond.instanceMethod yX6_absorbByte ∈ gt := g2 21 (by decide +kernel) (by decide +kernel)
theorem tw_2_22 : Cond.selects RX6 yX6_absorbByte yX6_absorbByte ∈ gt := g2 22 (by decide +kernel) (by decide +kernel)
theorem tw_2_23 : Cond.code yX6_absorbByte cX6_absorbByte 2 none ∈ gt := g2 23 rfl (by rfl)
theorem tw_2_53 : Cond.methodLink RX6 52 yX6_tellByte ∈ gt := g2 53 (by decide +kernel) (by decide +kernel)
theorem tw_2_54 : Cond.instanceMethod yX6_tellByte ∈ gt := g2 54 (by decide +kernel) (by decide +kernel)
theorem tw_2_55 : Cond.selects RX6 yX6_tellByte yX6_tellByte ∈ gt := g2 55 (by decide +kernel) (by decide +kernel)
theorem tw_2_56 : Cond.code yX6_tellByte cX6_tellByte 2 (some .int) ∈ gt := g2 56 rfl (by rfl)
theorem tw_2_57 : Cond.methodLink RX6 56 yX4_append ∈ gt := g2 57 (by decide +kernel) (by decide +kernel)
def wj_X6_begin_44 (X : XT) (J : MJ) (q : MI → ML → Prop)  (x0 : Nat) (z0 : Nat) (z1 : Int32) (I : MI) (L : ML) : Prop := (∀ I_2, I_2 = ms I z0 2 z1 → (∀ I_3, I_3 = ms I_2 x0 3 0 → (∃ r_4 : Nat, J x0 0 = some r_4 ∧ (wp_J7_fill_d0a16 X J r_4 0 I_3 L (fun I_5 L_6 => q I_5 L_6)))))
def wj_X6_begin_37 (X : XT) (J : MJ) (q : MI → ML → Prop)  (x0 : Nat) (z0 : Nat) (I : MI) (L : ML) : Prop := wj_X6_begin_44 X J q  x0 z0 6 I L
def wj_X6_begin_24 (X : XT) (J : MJ) (q : MI → ML → Prop)  (x0 : Nat) (x1 : Int32) (z0 : Nat) (z1 : Int32) (I : MI) (L : ML) : Prop := (∀ I_1, I_1 = ms I z0 1 z1 → (((x1 = 0) → wj_X6_begin_37 X J q  x0 x0 I_1 L) ∧ (¬ (x1 = 0) → ((¬ (x1 = 1) → wj_X6_begin_44 X J q  x0 x0 31 I_1 L) ∧ ((x1 = 1) → wj_X6_begin_37 X J q  x0 x0 I_1 L)))))
def wj_X6_begin_21 (X : XT) (J : MJ) (q : MI → ML → Prop)  (x0 : Nat) (x1 : Int32) (z0 : Nat) (I : MI) (L : ML) : Prop := wj_X6_begin_24 X J q  x0 x1 z0 136 I L
def wp_X6_begin (X : XT) (J : MJ) (x0 : Nat) (x1 : Int32) (I : MI) (L : ML) (q : MI → ML → Prop) : Prop := (((x1 < 0) → wj_X6_begin_21 X J q  x0 x1 x0 I L) ∧ (¬ (x1 < 0) → ((((nI (stL 0)) ≤ x1) → wj_X6_begin_21 X J q  x0 x1 x0 I L) ∧ (¬ ((nI (stL 0)) ≤ x1) → (vp_in x1 (stL 0) ∧ wj_X6_begin_24 X J q  x0 x1 x0 (sI 0 x1.toNatClampNeg) I L)))))
def wp_X6_mixIn (X : XT) (J : MJ) (x0 : Nat) (x1 : Int32) (x2 : Int32) (I : MI) (L : ML) (q : MI → ML → Prop) : Prop := (∃ r_1 : Nat, J x0 0 = some r_1 ∧ (vp_in (jshr x1 3) (sl X r_1) ∧ (vp_in (jshr x1 3) (sl X r_1) ∧ ∀ L_4, L_4 = ms L r_1 (jshr x1 3).toNatClampNeg ((L r_1 (jshr x1 3).toNatClampNeg) ^^^ (jlshl x2.toInt64 (jshl (x1 &&& 7) 3))) → q I L_4)))
def wl_X6_doRounds_345 (X : XT) (J : MJ) (q : MI → ML → Prop) (k7 : Int32 → MI → ML → Prop) (x1 : Nat) (x2 : Int32) : Nat → Int32 → MI → ML → Prop
  | 0 => fun _ _ _ => False
  | fu + 1 => fun x25 I L => (((25 ≤ x25) → (vp_in 0 (sl X x1) ∧ (vp_in x2 24 ∧ (vp_in 0 (sl X x1) ∧ ∀ L_42, L_42 = ms L x1 (0 : Int32).toNatClampNeg ((L x1 (0 : Int32).toNatClampNeg) ^^^ (sJ x2.toNatClampNeg)) → (∀ x2_43 : Int32, x2_43 = x2 + 1 → k7 x2_43 I L_42))))) ∧ (¬ (25 ≤ x25) → (vp_in x25 (sl X x1) ∧ (∀ x26_45 : Int64, x26_45 = L x1 x25.toNatClampNeg → (vp_in (x25 + 1) (sl X x1) ∧ (∀ x28_47 : Int64, x28_47 = L x1 (x25 + 1).toNatClampNeg → (vp_in (x25 + 2) (sl X x1) ∧ (∀ x30_49 : Int64, x30_49 = L x1 (x25 + 2).toNatClampNeg → (vp_in (x25 + 3) (sl X x1) ∧ (∀ x32_51 : Int64, x32_51 = L x1 (x25 + 3).toNatClampNeg → (vp_in (x25 + 4) (sl X x1) ∧ (∀ x34_53 : Int64, x34_53 = L x1 (x25 + 4).toNatClampNeg → (vp_in x25 (sl X x1) ∧ ∀ L_55, L_55 = ms L x1 x25.toNatClampNeg (x26_45 ^^^ ((x28_47 ^^^ (-1)) &&& x30_49)) → (vp_in (x25 + 1) (sl X x1) ∧ ∀ L_57, L_57 = ms L_55 x1 (x25 + 1).toNatClampNeg (x28_47 ^^^ ((x30_49 ^^^ (-1)) &&& x32_51)) → (vp_in (x25 + 2) (sl X x1) ∧ ∀ L_59, L_59 = ms L_57 x1 (x25 + 2).toNatClampNeg (x30_49 ^^^ ((x32_51 ^^^ (-1)) &&& x34_53)) → (vp_in (x25 + 3) (sl X x1) ∧ ∀ L_61, L_61 = ms L_59 x1 (x25 + 3).toNatClampNeg (x32_51 ^^^ ((x34_53 ^^^ (-1)) &&& x26_45)) → (vp_in (x25 + 4) (sl X x1) ∧ ∀ L_63, L_63 = ms L_61 x1 (x25 + 4).toNatClampNeg (x34_53 ^^^ ((x26_45 ^^^ (-1)) &&& x28_47)) → (∀ x25_64 : Int32, x25_64 = x25 + 5 → wl_X6_doRounds_345 X J q k7 x1 x2 fu x25_64 I L_63))))))))))))))))))
def wl_X6_doRounds_285 (X : XT) (J : MJ) (q : MI → ML → Prop) (k7 : Int32 → MI → ML → Prop) (x1 : Nat) (x2 : Int32) : Nat → Int64 → Int32 → MI → ML → Prop
  | 0 => fun _ _ _ _ => False
  | fu + 1 => fun x23 x25 I L => (((24 ≤ x25) → ∃ fu0 : Nat, wl_X6_doRounds_345 X J q k7 x1 x2 fu0 0 I L) ∧ (¬ (24 ≤ x25) → (vp_in x25 (stL 1) ∧ (∀ x26_66 : Int32, x26_66 = sI 1 x25.toNatClampNeg → (vp_in x25 (stL 2) ∧ (∀ x27_68 : Int32, x27_68 = sI 2 x25.toNatClampNeg → (vp_in x26_66 (sl X x1) ∧ (∀ x28_70 : Int64, x28_70 = L x1 x26_66.toNatClampNeg → (vp_in x26_66 (sl X x1) ∧ ∀ L_72, L_72 = ms L x1 x26_66.toNatClampNeg ((jlshl x23 x27_68) ||| (jlushr x23 (64 - x27_68))) → (∀ x25_73 : Int32, x25_73 = x25 + 1 → wl_X6_doRounds_285 X J q k7 x1 x2 fu x28_70 x25_73 I L_72))))))))))
def wl_X6_doRounds_211 (X : XT) (J : MJ) (q : MI → ML → Prop) (k7 : Int32 → MI → ML → Prop) (x1 : Nat) (x2 : Int32) (x13 : Int64) (x15 : Int64) (x17 : Int64) (x19 : Int64) (x21 : Int64) : Nat → Int32 → MI → ML → Prop
  | 0 => fun _ _ _ => False
  | fu + 1 => fun x23 I L => (((25 ≤ x23) → (vp_in 1 (sl X x1) ∧ (∀ x23_38 : Int64, x23_38 = L x1 (1 : Int32).toNatClampNeg → ∃ fu0 : Nat, wl_X6_doRounds_285 X J q k7 x1 x2 fu0 x23_38 0 I L))) ∧ (¬ (25 ≤ x23) → (vp_in x23 (sl X x1) ∧ (vp_in x23 (sl X x1) ∧ ∀ L_76, L_76 = ms L x1 x23.toNatClampNeg ((L x1 x23.toNatClampNeg) ^^^ x13) → (vp_in (x23 + 1) (sl X x1) ∧ (vp_in (x23 + 1) (sl X x1) ∧ ∀ L_79, L_79 = ms L_76 x1 (x23 + 1).toNatClampNeg ((L_76 x1 (x23 + 1).toNatClampNeg) ^^^ x15) → (vp_in (x23 + 2) (sl X x1) ∧ (vp_in (x23 + 2) (sl X x1) ∧ ∀ L_82, L_82 = ms L_79 x1 (x23 + 2).toNatClampNeg ((L_79 x1 (x23 + 2).toNatClampNeg) ^^^ x17) → (vp_in (x23 + 3) (sl X x1) ∧ (vp_in (x23 + 3) (sl X x1) ∧ ∀ L_85, L_85 = ms L_82 x1 (x23 + 3).toNatClampNeg ((L_82 x1 (x23 + 3).toNatClampNeg) ^^^ x19) → (vp_in (x23 + 4) (sl X x1) ∧ (vp_in (x23 + 4) (sl X x1) ∧ ∀ L_88, L_88 = ms L_85 x1 (x23 + 4).toNatClampNeg ((L_85 x1 (x23 + 4).toNatClampNeg) ^^^ x21) → (∀ x23_89 : Int32, x23_89 = x23 + 5 → wl_X6_doRounds_211 X J q k7 x1 x2 x13 x15 x17 x19 x21 fu x23_89 I L_88)))))))))))))
def wl_X6_doRounds_7 (X : XT) (J : MJ) (q : MI → ML → Prop)  (x1 : Nat) : Nat → Int32 → MI → ML → Prop
  | 0 => fun _ _ _ => False
  | fu + 1 => fun x2 I L => (((24 ≤ x2) → q I L) ∧ (¬ (24 ≤ x2) → (vp_in 0 (sl X x1) ∧ (vp_in 5 (sl X x1) ∧ (vp_in 10 (sl X x1) ∧ (vp_in 15 (sl X x1) ∧ (vp_in 20 (sl X x1) ∧ (∀ x3_7 : Int64, x3_7 = ((((L x1 (0 : Int32).toNatClampNeg) ^^^ (L x1 (5 : Int32).toNatClampNeg)) ^^^ (L x1 (10 : Int32).toNatClampNeg)) ^^^ (L x1 (15 : Int32).toNatClampNeg)) ^^^ (L x1 (20 : Int32).toNatClampNeg) → (vp_in 1 (sl X x1) ∧ (vp_in 6 (sl X x1) ∧ (vp_in 11 (sl X x1) ∧ (vp_in 16 (sl X x1) ∧ (vp_in 21 (sl X x1) ∧ (∀ x5_13 : Int64, x5_13 = ((((L x1 (1 : Int32).toNatClampNeg) ^^^ (L x1 (6 : Int32).toNatClampNeg)) ^^^ (L x1 (11 : Int32).toNatClampNeg)) ^^^ (L x1 (16 : Int32).toNatClampNeg)) ^^^ (L x1 (21 : Int32).toNatClampNeg) → (vp_in 2 (sl X x1) ∧ (vp_in 7 (sl X x1) ∧ (vp_in 12 (sl X x1) ∧ (vp_in 17 (sl X x1) ∧ (vp_in 22 (sl X x1) ∧ (∀ x7_19 : Int64, x7_19 = ((((L x1 (2 : Int32).toNatClampNeg) ^^^ (L x1 (7 : Int32).toNatClampNeg)) ^^^ (L x1 (12 : Int32).toNatClampNeg)) ^^^ (L x1 (17 : Int32).toNatClampNeg)) ^^^ (L x1 (22 : Int32).toNatClampNeg) → (vp_in 3 (sl X x1) ∧ (vp_in 8 (sl X x1) ∧ (vp_in 13 (sl X x1) ∧ (vp_in 18 (sl X x1) ∧ (vp_in 23 (sl X x1) ∧ (∀ x9_25 : Int64, x9_25 = ((((L x1 (3 : Int32).toNatClampNeg) ^^^ (L x1 (8 : Int32).toNatClampNeg)) ^^^ (L x1 (13 : Int32).toNatClampNeg)) ^^^ (L x1 (18 : Int32).toNatClampNeg)) ^^^ (L x1 (23 : Int32).toNatClampNeg) → (vp_in 4 (sl X x1) ∧ (vp_in 9 (sl X x1) ∧ (vp_in 14 (sl X x1) ∧ (vp_in 19 (sl X x1) ∧ (vp_in 24 (sl X x1) ∧ (∀ x11_31 : Int64, x11_31 = ((((L x1 (4 : Int32).toNatClampNeg) ^^^ (L x1 (9 : Int32).toNatClampNeg)) ^^^ (L x1 (14 : Int32).toNatClampNeg)) ^^^ (L x1 (19 : Int32).toNatClampNeg)) ^^^ (L x1 (24 : Int32).toNatClampNeg) → (∀ x13_32 : Int64, x13_32 = x11_31 ^^^ ((jlshl x5_13 1) ||| (jlushr x5_13 63)) → (∀ x15_33 : Int64, x15_33 = x3_7 ^^^ ((jlshl x7_19 1) ||| (jlushr x7_19 63)) → (∀ x17_34 : Int64, x17_34 = x5_13 ^^^ ((jlshl x9_25 1) ||| (jlushr x9_25 63)) → (∀ x19_35 : Int64, x19_35 = x7_19 ^^^ ((jlshl x11_31 1) ||| (jlushr x11_31 63)) → (∀ x21_36 : Int64, x21_36 = x9_25 ^^^ ((jlshl x3_7 1) ||| (jlushr x3_7 63)) → ∃ fu0 : Nat, wl_X6_doRounds_211 X J q (wl_X6_doRounds_7 X J q  x1 fu) x1 x2 x13_32 x15_33 x17_34 x19_35 x21_36 fu0 0 I L)))))))))))))))))))))))))))))))))))))
def wp_X6_doRounds (X : XT) (J : MJ) (x0 : Nat) (I : MI) (L : ML) (q : MI → ML → Prop) : Prop := (∃ r_1 : Nat, J x0 0 = some r_1 ∧ ∃ fu0 : Nat, wl_X6_doRounds_7 X J q  r_1 fu0 0 I L)
def wp_X6_absorbByte (X : XT) (J : MJ) (x0 : Nat) (x1 : Int32) (I : MI) (L : ML) (q : MI → ML → Prop) : Prop := (wp_X6_mixIn X J x0 (I x0 3) (x1 &&& 255) I L (fun I_1 L_2 => (∀ I_3, I_3 = ms I_1 x0 3 ((I_1 x0 3) + 1) → ((¬ ((I_3 x0 3) = (I_3 x0 1)) → q I_3 L_2) ∧ (((I_3 x0 3) = (I_3 x0 1)) → (wp_X6_doRounds X J x0 I_3 L_2 (fun I_4 L_5 => (∀ I_6, I_6 = ms I_4 x0 3 0 → q I_6 L_5))))))))
def wl_X6_absorb_3 (X : XT) (J : MJ) (q : MI → ML → Prop)  (x0 : Nat) (x1 : Nat) (x2 : Int32) (x3 : Int32) : Nat → Int32 → MI → ML → Prop
  | 0 => fun _ _ _ => False
  | fu + 1 => fun x4 I L => (((x3 ≤ x4) → q I L) ∧ (¬ (x3 ≤ x4) → (wp_X4_byteAt X J x1 (x2 + x4) I L (fun v_3 I_1 L_2 => (wp_X6_absorbByte X J x0 v_3 I_1 L_2 (fun I_4 L_5 => (∀ x4_6 : Int32, x4_6 = x4 + 1 → wl_X6_absorb_3 X J q  x0 x1 x2 x3 fu x4_6 I_4 L_5)))))))
def wp_X6_absorb (X : XT) (J : MJ) (x0 : Nat) (x1 : Nat) (x2 : Int32) (x3 : Int32) (I : MI) (L : ML) (q : MI → ML → Prop) : Prop := ∃ fu0 : Nat, wl_X6_absorb_3 X J q  x0 x1 x2 x3 fu0 0 I L
def wp_X6_finish (X : XT) (J : MJ) (x0 : Nat) (I : MI) (L : ML) (q : MI → ML → Prop) : Prop := (wp_X6_mixIn X J x0 (I x0 3) (I x0 2) I L (fun I_1 L_2 => (wp_X6_mixIn X J x0 ((I_1 x0 1) - 1) 128 I_1 L_2 (fun I_3 L_4 => (wp_X6_doRounds X J x0 I_3 L_4 (fun I_5 L_6 => (∀ I_7, I_7 = ms I_5 x0 3 0 → q I_7 L_6)))))))
def wj_X6_tellByte_20 (X : XT) (J : MJ) (q : Int32 → MI → ML → Prop)  (x0 : Nat)  (I : MI) (L : ML) : Prop := (∃ r_1 : Nat, J x0 0 = some r_1 ∧ (vp_in (jshr (I x0 3) 3) (sl X r_1) ∧ (∀ x1_3 : Int32, x1_3 = ((jlushr (L r_1 (jshr (I x0 3) 3).toNatClampNeg) (jshl ((I x0 3) &&& 7) 3)).toInt32) &&& 255 → (∀ I_4, I_4 = ms I x0 3 ((I x0 3) + 1) → q x1_3 I_4 L))))
def wp_X6_tellByte (X : XT) (J : MJ) (x0 : Nat) (I : MI) (L : ML) (q : Int32 → MI → ML → Prop) : Prop := ((¬ ((I x0 3) = (I x0 1)) → wj_X6_tellByte_20 X J q  x0  I L) ∧ (((I x0 3) = (I x0 1)) → (wp_X6_doRounds X J x0 I L (fun I_5 L_6 => (∀ I_7, I_7 = ms I_5 x0 3 0 → wj_X6_tellByte_20 X J q  x0  I_7 L_6)))))
def wl_X6_tellTo_2 (X : XT) (J : MJ) (q : MI → ML → Prop)  (x0 : Nat) (x1 : Nat) (x2 : Int32) : Nat → Int32 → MI → ML → Prop
  | 0 => fun _ _ _ => False
  | fu + 1 => fun x3 I L => (((x2 ≤ x3) → q I L) ∧ (¬ (x2 ≤ x3) → (wp_X6_tellByte X J x0 I L (fun v_3 I_1 L_2 => (wp_X4_append X J x1 v_3 I_1 L_2 (fun I_4 L_5 => (∀ x3_6 : Int32, x3_6 = x3 + 1 → wl_X6_tellTo_2 X J q  x0 x1 x2 fu x3_6 I_4 L_5)))))))
def wp_X6_tellTo (X : XT) (J : MJ) (x0 : Nat) (x1 : Nat) (x2 : Int32) (I : MI) (L : ML) (q : MI → ML → Prop) : Prop := ∃ fu0 : Nat, wl_X6_tellTo_2 X J q  x0 x1 x2 fu0 0 I L
set_option maxHeartbeats 4000000 in
set_option maxRecDepth 100000 in
theorem n_X6_begin_44 {p : Program} {l : Launch} {e : Env} {s : State} {m : MethodId} {below : List Frame} {meth : Method} {c : Code} {D : va_G} {X : XT} {ad : Nat → Nat} {n : Nat} {A : Nat → Prop} {J : MJ} {av : List Value} {R : Room} (hR : R = ({ frames := 1, cells := 0, slots := 0, locals := 24 } : Room)) (C0 : Cx p s m meth c cX6_begin none 2 yX6_begin av D X ad n A J) {q : MI → ML → Prop}  {x0 : Nat} {z0 : Nat} {z1 : Int32} {I : MI} {L : ML} {H : Heap} {locs : List Loc} {ls : Array Slot} (t0 : Ty X n x0 7) (u0 : Ty X n z0 7) (h : wj_X6_begin_44 X J q  x0 z0 z1 I L) (hV : Wd D X ad n A s.heap J I L H locs) (hl : lv_has ls 2 [(0, .ref (ad x0))]) : W p l e R s m av.toArray below meth c H locs 0 0 (MQ below (QV D X ad n A J q) av.toArray s 0 0 A) (F0 m 44 ls [.int z1, .ref (ad z0)]) := by
  obtain ⟨hx, hb, hr, hml, hown, hlk, hnm, hts, hK, hZ, hA, hWT⟩ := id C0
  subst hR
  unfold wj_X6_begin_44 at h
  refine m_puti (C := RX6) (T := TX6) (N := 4) (ci := 3) (ty := .int) hx hb hts iwX6 hown hK hV tyX6 tyX6_ok nmX6 u0 rfl 2 (by decide) rfl rfl (hts _ tw_1_53) (fun _ h9 => h9) rfl (by decide +kernel) rfl rfl dX6_begin_44 (fun H locs hV => ?_)
  obtain ⟨I_2, eI_2⟩ : ∃ y, y = ms I z0 2 z1 := ⟨_, rfl⟩
  replace hV : Wd D X ad n A s.heap J I_2 L H locs := by rw [eI_2]; exact hV
  replace h := h I_2 eI_2
  refine lv_aload_n hx hb dX6_begin_47 rfl (lv_at hl 0 rfl) ?_
  refine lv_iconst (v := 0) hx hb dX6_begin_48 (by decide) ?_
  refine m_puti (C := RX6) (T := TX6) (N := 4) (ci := 3) (ty := .int) hx hb hts iwX6 hown hK hV tyX6 tyX6_ok nmX6 t0 rfl 3 (by decide) rfl rfl (hts _ tw_1_54) (fun _ h9 => h9) rfl (by decide +kernel) rfl rfl dX6_begin_49 (fun H locs hV => ?_)
  obtain ⟨I_3, eI_3⟩ : ∃ y, y = ms I_2 x0 3 0 := ⟨_, rfl⟩
  replace hV : Wd D X ad n A s.heap J I_3 L H locs := by rw [eI_3]; exact hV
  replace h := h I_3 eI_3
  refine lv_aload_n hx hb dX6_begin_52 rfl (lv_at hl 0 rfl) ?_
  obtain ⟨r_4, hr_4, h⟩ := h
  have tr_4 : Ty X n r_4 2 := hWT.r (c := 3) (j := 0) t0 rfl hr_4
  refine m_getr (C := RX6) (T := TX6) (N := 4) (ci := 3) hx hb hts iwX6 hown hK hV t0 rfl 0 (by decide) rfl rfl hr_4 (hts _ tw_1_51) (fun _ h9 => h9) dX6_begin_53 ?_
  refine lv_lconst (v := 0) hx hb dX6_begin_56 (by decide) ?_
  refine k_callv (va_runS (As := [.ref (ad r_4), .long 0]) (rest := []) ⟨hx, hb, hml, hown, hts⟩ (s_J7_fill_d0a16 l D X ad n A J hWT r_4 tr_4 0 I_3 L _ h) (va_cwS 2 hts (gS tw_2_12 tw_2_13 tw_1_11 tw_2_14) rfl rfl rfl (by decide +kernel) (by decide)) (k_preS hK hV hA hZ _) rfl rfl hl.1 rfl (lv_room (Nat.le_of_ble_eq_true rfl)) dX6_begin_57 ⟨Nat.zero_le _, Nat.zero_le _⟩) hV (fun I_5 L_6 H locs h hV => ?_)
  exact m_vret hx hb hr hlk hK hZ hA hV h dX6_begin_60
set_option maxHeartbeats 4000000 in
set_option maxRecDepth 100000 in
theorem n_X6_begin_37 {p : Program} {l : Launch} {e : Env} {s : State} {m : MethodId} {below : List Frame} {meth : Method} {c : Code} {D : va_G} {X : XT} {ad : Nat → Nat} {n : Nat} {A : Nat → Prop} {J : MJ} {av : List Value} {R : Room} (hR : R = ({ frames := 1, cells := 0, slots := 0, locals := 24 } : Room)) (C0 : Cx p s m meth c cX6_begin none 2 yX6_begin av D X ad n A J) {q : MI → ML → Prop}  {x0 : Nat} {z0 : Nat} {I : MI} {L : ML} {H : Heap} {locs : List Loc} {ls : Array Slot} (t0 : Ty X n x0 7) (u0 : Ty X n z0 7) (h : wj_X6_begin_37 X J q  x0 z0 I L) (hV : Wd D X ad n A s.heap J I L H locs) (hl : lv_has ls 2 [(0, .ref (ad x0))]) : W p l e R s m av.toArray below meth c H locs 0 0 (MQ below (QV D X ad n A J q) av.toArray s 0 0 A) (F0 m 37 ls [.ref (ad z0)]) := by
  obtain ⟨hx, hb, hr, hml, hown, hlk, hnm, hts, hK, hZ, hA, hWT⟩ := id C0
  subst hR
  unfold wj_X6_begin_37 at h
  refine lv_bipush (v := 6) hx hb dX6_begin_37 (by decide) ?_
  refine lv_goto (tgt := 44) hx hb dX6_begin_39 (by decide) ?_
  exact n_X6_begin_44 rfl C0 t0 u0  h hV (lv_sub hl [0] rfl)
set_option maxHeartbeats 4000000 in
set_option maxRecDepth 100000 in
theorem n_X6_begin_24 {p : Program} {l : Launch} {e : Env} {s : State} {m : MethodId} {below : List Frame} {meth : Method} {c : Code} {D : va_G} {X : XT} {ad : Nat → Nat} {n : Nat} {A : Nat → Prop} {J : MJ} {av : List Value} {R : Room} (hR : R = ({ frames := 1, cells := 0, slots := 0, locals := 24 } : Room)) (C0 : Cx p s m meth c cX6_begin none 2 yX6_begin av D X ad n A J) {q : MI → ML → Prop}  {x0 : Nat} {x1 : Int32} {z0 : Nat} {z1 : Int32} {I : MI} {L : ML} {H : Heap} {locs : List Loc} {ls : Array Slot} (t0 : Ty X n x0 7) (u0 : Ty X n z0 7) (h : wj_X6_begin_24 X J q  x0 x1 z0 z1 I L) (hV : Wd D X ad n A s.heap J I L H locs) (hl : lv_has ls 2 [(0, .ref (ad x0)), (1, .int x1)]) : W p l e R s m av.toArray below meth c H locs 0 0 (MQ below (QV D X ad n A J q) av.toArray s 0 0 A) (F0 m 24 ls [.int z1, .ref (ad z0)]) := by
  obtain ⟨hx, hb, hr, hml, hown, hlk, hnm, hts, hK, hZ, hA, hWT⟩ := id C0
  subst hR
  unfold wj_X6_begin_24 at h
  refine m_puti (C := RX6) (T := TX6) (N := 4) (ci := 3) (ty := .int) hx hb hts iwX6 hown hK hV tyX6 tyX6_ok nmX6 u0 rfl 1 (by decide) rfl rfl (hts _ tw_1_52) (fun _ h9 => h9) rfl (by decide +kernel) rfl rfl dX6_begin_24 (fun H locs hV => ?_)
  obtain ⟨I_1, eI_1⟩ : ∃ y, y = ms I z0 1 z1 := ⟨_, rfl⟩
  replace hV : Wd D X ad n A s.heap J I_1 L H locs := by rw [eI_1]; exact hV
  replace h := h I_1 eI_1
  refine lv_aload_n hx hb dX6_begin_27 rfl (lv_at hl 0 rfl) ?_
  refine lv_iload_n hx hb dX6_begin_28 rfl (lv_at hl 1 rfl) ?_
  refine lv_if_eq (tgt := 37) hx hb dX6_begin_29 (by decide) (fun hc => ?_) (fun hc => ?_)
  · replace h := h.1 hc
    exact n_X6_begin_37 rfl C0 t0 t0  h hV (lv_sub hl [0] rfl)
  · replace h := h.2 hc
    refine lv_iload_n hx hb dX6_begin_32 rfl (lv_at hl 1 rfl) ?_
    refine lv_iconst (v := 1) hx hb dX6_begin_33 (by decide) ?_
    refine lv_icmp_ne (tgt := 42) hx hb dX6_begin_34 (by decide) (fun hc => ?_) (fun hc => ?_)
    · replace h := h.1 hc
      refine lv_bipush (v := 31) hx hb dX6_begin_42 (by decide) ?_
      exact n_X6_begin_44 rfl C0 t0 t0  h hV (lv_sub hl [0] rfl)
    · replace h := h.2 hc
      exact n_X6_begin_37 rfl C0 t0 t0  h hV (lv_sub hl [0] rfl)
set_option maxHeartbeats 4000000 in
set_option maxRecDepth 100000 in
theorem n_X6_begin_21 {p : Program} {l : Launch} {e : Env} {s : State} {m : MethodId} {below : List Frame} {meth : Method} {c : Code} {D : va_G} {X : XT} {ad : Nat → Nat} {n : Nat} {A : Nat → Prop} {J : MJ} {av : List Value} {R : Room} (hR : R = ({ frames := 1, cells := 0, slots := 0, locals := 24 } : Room)) (C0 : Cx p s m meth c cX6_begin none 2 yX6_begin av D X ad n A J) {q : MI → ML → Prop}  {x0 : Nat} {x1 : Int32} {z0 : Nat} {I : MI} {L : ML} {H : Heap} {locs : List Loc} {ls : Array Slot} (t0 : Ty X n x0 7) (u0 : Ty X n z0 7) (h : wj_X6_begin_21 X J q  x0 x1 z0 I L) (hV : Wd D X ad n A s.heap J I L H locs) (hl : lv_has ls 2 [(0, .ref (ad x0)), (1, .int x1)]) : W p l e R s m av.toArray below meth c H locs 0 0 (MQ below (QV D X ad n A J q) av.toArray s 0 0 A) (F0 m 21 ls [.ref (ad z0)]) := by
  obtain ⟨hx, hb, hr, hml, hown, hlk, hnm, hts, hK, hZ, hA, hWT⟩ := id C0
  subst hR
  unfold wj_X6_begin_21 at h
  refine lv_sipush (v := 136) hx hb dX6_begin_21 (by decide) ?_
  exact n_X6_begin_24 rfl C0 t0 u0  h hV (lv_sub hl [0, 1] rfl)
set_option maxHeartbeats 4000000 in
set_option maxRecDepth 100000 in
theorem s_X6_begin (l : Launch) (D : va_G) (X : XT) (ad : Nat → Nat) (n : Nat) (A : Nat → Prop) (J : MJ) (hWT : WT X n J) (x0 : Nat) (t0 : Ty X n x0 7) (x1 : Int32) (I : MI) (L : ML) (q : MI → ML → Prop) (h : wp_X6_begin X J x0 x1 I L q) : Met l yX6_begin (wz yX6_begin cX6_begin 2 none) ({ frames := 1, cells := 0, slots := 0, locals := 24 } : Room) (va_Pc [.ref (ad x0), .int x1] (Pr D X ad n A J I L)) (QV D X ad n A J q) 0 0 A := by
  refine Met_go (by decide +kernel) (Nat.le_of_ble_eq_true rfl) (fun p e s m below meth c hx hb hr hml hown hlk hnm hts hK hZ hA hV ls hl => ?_)
  have C0 : Cx p s m meth c cX6_begin none 2 yX6_begin [.ref (ad x0), .int x1] D X ad n A J := ⟨hx, hb, hr, hml, hown, hlk, hnm, hts, hK, hZ, hA, hWT⟩
  unfold wp_X6_begin at h
  have hl : lv_has ls 2 [(0, .ref (ad x0)), (1, .int x1)] := hl
  refine lv_aload_n hx hb dX6_begin_0 rfl (lv_at hl 0 rfl) ?_
  refine lv_iload_n hx hb dX6_begin_1 rfl (lv_at hl 1 rfl) ?_
  refine lv_if_lt (tgt := 21) hx hb dX6_begin_2 (by decide) (fun hc => ?_) (fun hc => ?_)
  · replace h := h.1 hc
    exact n_X6_begin_21 rfl C0 t0 t0  h hV (lv_sub hl [0, 1] rfl)
  · replace h := h.2 hc
    refine lv_iload_n hx hb dX6_begin_5 rfl (lv_at hl 1 rfl) ?_
    refine va_gets (v := .ref (X.2.2.2 0)) hx hb (hZ.2.1 0 (by decide)).1 hV.2.2 hown (hts _ tw_2_10) (fun _ h9 => h9) dX6_begin_6 ?_
    refine va_tlen hx hb (hZ.2.1 0 (by decide)).2 hV.2.2 rfl dX6_begin_9 ?_
    refine lv_icmp_ge (tgt := 21) hx hb dX6_begin_10 (by decide) (fun hc => ?_) (fun hc => ?_)
    · replace h := h.1 hc
      exact n_X6_begin_21 rfl C0 t0 t0  h hV (lv_sub hl [0, 1] rfl)
    · replace h := h.2 hc
      refine va_gets (v := .ref (X.2.2.2 0)) hx hb (hZ.2.1 0 (by decide)).1 hV.2.2 hown (hts _ tw_2_10) (fun _ h9 => h9) dX6_begin_13 ?_
      refine lv_iload_n hx hb dX6_begin_16 rfl (lv_at hl 1 rfl) ?_
      obtain ⟨hi_7, h⟩ := h
      refine va_ti hx hb (hZ.2.1 0 (by decide)).2 hV.2.2 hi_7 rfl dX6_begin_17 ?_
      refine lv_goto (tgt := 24) hx hb dX6_begin_18 (by decide) ?_
      exact n_X6_begin_24 rfl C0 t0 t0  h hV (lv_sub hl [0, 1] rfl)
set_option maxHeartbeats 4000000 in
set_option maxRecDepth 100000 in
theorem s_X6_mixIn (l : Launch) (D : va_G) (X : XT) (ad : Nat → Nat) (n : Nat) (A : Nat → Prop) (J : MJ) (hWT : WT X n J) (x0 : Nat) (t0 : Ty X n x0 7) (x1 : Int32) (x2 : Int32) (I : MI) (L : ML) (q : MI → ML → Prop) (h : wp_X6_mixIn X J x0 x1 x2 I L q) : Met l yX6_mixIn (wz yX6_mixIn cX6_mixIn 3 none) ({ frames := 0, cells := 0, slots := 0, locals := 0 } : Room) (va_Pc [.ref (ad x0), .int x1, .int x2] (Pr D X ad n A J I L)) (QV D X ad n A J q) 0 0 A := by
  refine Met_go (by decide +kernel) (Nat.le_of_ble_eq_true rfl) (fun p e s m below meth c hx hb hr hml hown hlk hnm hts hK hZ hA hV ls hl => ?_)
  have C0 : Cx p s m meth c cX6_mixIn none 3 yX6_mixIn [.ref (ad x0), .int x1, .int x2] D X ad n A J := ⟨hx, hb, hr, hml, hown, hlk, hnm, hts, hK, hZ, hA, hWT⟩
  unfold wp_X6_mixIn at h
  have hl : lv_has ls 3 [(0, .ref (ad x0)), (1, .int x1), (2, .int x2)] := hl
  refine lv_aload_n hx hb dX6_mixIn_0 rfl (lv_at hl 0 rfl) ?_
  obtain ⟨r_1, hr_1, h⟩ := h
  have tr_1 : Ty X n r_1 2 := hWT.r (c := 3) (j := 0) t0 rfl hr_1
  refine m_getr (C := RX6) (T := TX6) (N := 4) (ci := 3) hx hb hts iwX6 hown hK hV t0 rfl 0 (by decide) rfl rfl hr_1 (hts _ tw_1_51) (fun _ h9 => h9) dX6_mixIn_1 ?_
  refine lv_iload_n hx hb dX6_mixIn_4 rfl (lv_at hl 1 rfl) ?_
  refine lv_iconst (v := 3) hx hb dX6_mixIn_5 (by decide) ?_
  refine lv_ishr hx hb dX6_mixIn_6 ?_
  refine lv_dup2_11 hx hb dX6_mixIn_7 rfl rfl ?_
  obtain ⟨hi_2, h⟩ := h
  refine m_lald hx hb hK hV tr_1 hi_2 dX6_mixIn_8 ?_
  refine lv_iload_n hx hb dX6_mixIn_9 rfl (lv_at hl 2 rfl) ?_
  refine lv_i2l hx hb dX6_mixIn_10 rfl ?_
  refine lv_iload_n hx hb dX6_mixIn_11 rfl (lv_at hl 1 rfl) ?_
  refine lv_bipush (v := 7) hx hb dX6_mixIn_12 (by decide) ?_
  refine lv_iand hx hb dX6_mixIn_14 ?_
  refine lv_iconst (v := 3) hx hb dX6_mixIn_15 (by decide) ?_
  refine lv_ishl hx hb dX6_mixIn_16 ?_
  refine lv_lshl hx hb dX6_mixIn_17 rfl ?_
  refine lv_lxor hx hb dX6_mixIn_18 ?_
  obtain ⟨hi_3, h⟩ := h
  refine m_last hx hb hK hV tr_1 hi_3 dX6_mixIn_19 (fun H locs hV => ?_)
  obtain ⟨L_4, eL_4⟩ : ∃ y, y = ms L r_1 (jshr x1 3).toNatClampNeg ((L r_1 (jshr x1 3).toNatClampNeg) ^^^ (jlshl x2.toInt64 (jshl (x1 &&& 7) 3))) := ⟨_, rfl⟩
  replace hV : Wd D X ad n A s.heap J I L_4 H locs := by rw [eL_4]; exact hV
  replace h := h L_4 eL_4
  exact m_vret hx hb hr hlk hK hZ hA hV h dX6_mixIn_20
set_option maxHeartbeats 4000000 in
set_option maxRecDepth 100000 in
theorem n_X6_doRounds_345 {p : Program} {l : Launch} {e : Env} {s : State} {m : MethodId} {below : List Frame} {meth : Method} {c : Code} {D : va_G} {X : XT} {ad : Nat → Nat} {n : Nat} {A : Nat → Prop} {J : MJ} {av : List Value} {R : Room} (hR : R = ({ frames := 0, cells := 0, slots := 0, locals := 0 } : Room)) (C0 : Cx p s m meth c cX6_doRounds none 36 yX6_doRounds av D X ad n A J) {q : MI → ML → Prop} {k7 : Int32 → MI → ML → Prop} {x1 : Nat} {x2 : Int32} (t1 : Ty X n x1 2)
    (hk7 : ∀ (x2 : Int32) (I : MI) (L : ML) (H : Heap) (locs : List Loc) (ls : Array Slot), k7 x2 I L → Wd D X ad n A s.heap J I L H locs → lv_has ls 36 [(1, .ref (ad x1)), (2, .int x2)] → W p l e R s m av.toArray below meth c H locs 0 0 (MQ below (QV D X ad n A J q) av.toArray s 0 0 A) (F0 m 7 ls [])) : ∀ (fu : Nat) (x25 : Int32) (I : MI) (L : ML) (H : Heap) (locs : List Loc) (ls : Array Slot), wl_X6_doRounds_345 X J q k7 x1 x2 fu x25 I L → Wd D X ad n A s.heap J I L H locs → lv_has ls 36 [(1, .ref (ad x1)), (2, .int x2), (25, .int x25)] → W p l e R s m av.toArray below meth c H locs 0 0 (MQ below (QV D X ad n A J q) av.toArray s 0 0 A) (F0 m 345 ls []) := by
  obtain ⟨hx, hb, hr, hml, hown, hlk, hnm, hts, hK, hZ, hA, hWT⟩ := id C0
  subst hR
  intro fu
  induction fu with
  | zero => intro x25 I L H locs ls h; exact absurd h (fun h => h)
  | succ fu ih =>
    intro x25 I L H locs ls h hV hl
    refine lv_iload hx hb dX6_doRounds_345 (lv_at hl 2 rfl) ?_
    refine lv_bipush (v := 25) hx hb dX6_doRounds_347 (by decide) ?_
    refine lv_icmp_ge (tgt := 484) hx hb dX6_doRounds_349 (by decide) (fun hc => ?_) (fun hc => ?_)
    · replace h := h.1 hc
      refine lv_aload_n hx hb dX6_doRounds_484 rfl (lv_at hl 0 rfl) ?_
      refine lv_iconst (v := 0) hx hb dX6_doRounds_485 (by decide) ?_
      refine lv_dup2_11 hx hb dX6_doRounds_486 rfl rfl ?_
      obtain ⟨hi_39, h⟩ := h
      refine m_lald hx hb hK hV t1 hi_39 dX6_doRounds_487 ?_
      refine va_gets hx hb hZ.2.2.1 hV.2.2 hown (hts _ tw_2_37) (fun _ h9 => h9) dX6_doRounds_488 ?_
      refine lv_iload_n hx hb dX6_doRounds_491 rfl (lv_at hl 1 rfl) ?_
      obtain ⟨hi_40, h⟩ := h
      refine va_tl hx hb hZ.2.2.2 hV.2.2 hi_40 rfl dX6_doRounds_492 ?_
      refine lv_lxor hx hb dX6_doRounds_493 ?_
      obtain ⟨hi_41, h⟩ := h
      refine m_last hx hb hK hV t1 hi_41 dX6_doRounds_494 (fun H locs hV => ?_)
      obtain ⟨L_42, eL_42⟩ : ∃ y, y = ms L x1 (0 : Int32).toNatClampNeg ((L x1 (0 : Int32).toNatClampNeg) ^^^ (sJ x2.toNatClampNeg)) := ⟨_, rfl⟩
      replace hV : Wd D X ad n A s.heap J I L_42 H locs := by rw [eL_42]; exact hV
      replace h := h L_42 eL_42
      obtain ⟨x2_43, ex2_43⟩ : ∃ y : Int32, y = x2 + 1 := ⟨_, rfl⟩
      replace h := h x2_43 ex2_43
      refine lv_iinc (v := x2_43) (lv' := [(2, .int x2_43), (1, .ref (ad x1)), (25, .int x25)]) hx hb dX6_doRounds_495 hl (k := 1) rfl (by rw [ex2_43]; rfl) (by decide) rfl (fun ls hl => ?_)
      refine lv_goto (tgt := 7) hx hb dX6_doRounds_498 (by decide) ?_
      exact hk7 x2_43 _ _ _ _ _ h hV (lv_sub hl [1, 0] rfl)
    · replace h := h.2 hc
      refine lv_aload_n hx hb dX6_doRounds_352 rfl (lv_at hl 0 rfl) ?_
      refine lv_iload hx hb dX6_doRounds_353 (lv_at hl 2 rfl) ?_
      obtain ⟨hi_44, h⟩ := h
      refine m_lald hx hb hK hV t1 hi_44 dX6_doRounds_355 ?_
      refine lv_topl (fun x26_45 ex26_45 => ?_)
      replace h := h x26_45 ex26_45
      refine lv_lstore (lv' := [(26, .long x26_45), (1, .ref (ad x1)), (2, .int x2), (25, .int x25)]) hx hb dX6_doRounds_356 hl (by decide) rfl (fun ls hl => ?_)
      refine lv_aload_n hx hb dX6_doRounds_358 rfl (lv_at hl 1 rfl) ?_
      refine lv_iload hx hb dX6_doRounds_359 (lv_at hl 3 rfl) ?_
      refine lv_iconst (v := 1) hx hb dX6_doRounds_361 (by decide) ?_
      refine lv_iadd hx hb dX6_doRounds_362 ?_
      obtain ⟨hi_46, h⟩ := h
      refine m_lald hx hb hK hV t1 hi_46 dX6_doRounds_363 ?_
      refine lv_topl (fun x28_47 ex28_47 => ?_)
      replace h := h x28_47 ex28_47
      refine lv_lstore (lv' := [(28, .long x28_47), (26, .long x26_45), (1, .ref (ad x1)), (2, .int x2), (25, .int x25)]) hx hb dX6_doRounds_364 hl (by decide) rfl (fun ls hl => ?_)
      refine lv_aload_n hx hb dX6_doRounds_366 rfl (lv_at hl 2 rfl) ?_
      refine lv_iload hx hb dX6_doRounds_367 (lv_at hl 4 rfl) ?_
      refine lv_iconst (v := 2) hx hb dX6_doRounds_369 (by decide) ?_
      refine lv_iadd hx hb dX6_doRounds_370 ?_
      obtain ⟨hi_48, h⟩ := h
      refine m_lald hx hb hK hV t1 hi_48 dX6_doRounds_371 ?_
      refine lv_topl (fun x30_49 ex30_49 => ?_)
      replace h := h x30_49 ex30_49
      refine lv_lstore (lv' := [(30, .long x30_49), (28, .long x28_47), (26, .long x26_45), (1, .ref (ad x1)), (2, .int x2), (25, .int x25)]) hx hb dX6_doRounds_372 hl (by decide) rfl (fun ls hl => ?_)
      refine lv_aload_n hx hb dX6_doRounds_374 rfl (lv_at hl 3 rfl) ?_
      refine lv_iload hx hb dX6_doRounds_375 (lv_at hl 5 rfl) ?_
      refine lv_iconst (v := 3) hx hb dX6_doRounds_377 (by decide) ?_
      refine lv_iadd hx hb dX6_doRounds_378 ?_
      obtain ⟨hi_50, h⟩ := h
      refine m_lald hx hb hK hV t1 hi_50 dX6_doRounds_379 ?_
      refine lv_topl (fun x32_51 ex32_51 => ?_)
      replace h := h x32_51 ex32_51
      refine lv_lstore (lv' := [(32, .long x32_51), (30, .long x30_49), (28, .long x28_47), (26, .long x26_45), (1, .ref (ad x1)), (2, .int x2), (25, .int x25)]) hx hb dX6_doRounds_380 hl (by decide) rfl (fun ls hl => ?_)
      refine lv_aload_n hx hb dX6_doRounds_382 rfl (lv_at hl 4 rfl) ?_
      refine lv_iload hx hb dX6_doRounds_383 (lv_at hl 6 rfl) ?_
      refine lv_iconst (v := 4) hx hb dX6_doRounds_385 (by decide) ?_
      refine lv_iadd hx hb dX6_doRounds_386 ?_
      obtain ⟨hi_52, h⟩ := h
      refine m_lald hx hb hK hV t1 hi_52 dX6_doRounds_387 ?_
      refine lv_topl (fun x34_53 ex34_53 => ?_)
      replace h := h x34_53 ex34_53
      refine lv_lstore (lv' := [(34, .long x34_53), (32, .long x32_51), (30, .long x30_49), (28, .long x28_47), (26, .long x26_45), (1, .ref (ad x1)), (2, .int x2), (25, .int x25)]) hx hb dX6_doRounds_388 hl (by decide) rfl (fun ls hl => ?_)
      refine lv_aload_n hx hb dX6_doRounds_390 rfl (lv_at hl 5 rfl) ?_
      refine lv_iload hx hb dX6_doRounds_391 (lv_at hl 7 rfl) ?_
      refine lv_lload hx hb dX6_doRounds_393 (lv_at hl 4 rfl) ?_
      refine lv_lload hx hb dX6_doRounds_395 (lv_at hl 3 rfl) ?_
      refine lv_ldc2 (v := (-1)) hx hb hown (hts _ tw_2_36) dX6_doRounds_397 ?_
      refine lv_lxor hx hb dX6_doRounds_400 ?_
      refine lv_lload hx hb dX6_doRounds_401 (lv_at hl 2 rfl) ?_
      refine lv_land hx hb dX6_doRounds_403 ?_
      refine lv_lxor hx hb dX6_doRounds_404 ?_
      obtain ⟨hi_54, h⟩ := h
      refine m_last hx hb hK hV t1 hi_54 dX6_doRounds_405 (fun H locs hV => ?_)
      obtain ⟨L_55, eL_55⟩ : ∃ y, y = ms L x1 x25.toNatClampNeg (x26_45 ^^^ ((x28_47 ^^^ (-1)) &&& x30_49)) := ⟨_, rfl⟩
      replace hV : Wd D X ad n A s.heap J I L_55 H locs := by rw [eL_55]; exact hV
      replace h := h L_55 eL_55
      refine lv_aload_n hx hb dX6_doRounds_406 rfl (lv_at hl 5 rfl) ?_
      refine lv_iload hx hb dX6_doRounds_407 (lv_at hl 7 rfl) ?_
      refine lv_iconst (v := 1) hx hb dX6_doRounds_409 (by decide) ?_
      refine lv_iadd hx hb dX6_doRounds_410 ?_
      refine lv_lload hx hb dX6_doRounds_411 (lv_at hl 3 rfl) ?_
      refine lv_lload hx hb dX6_doRounds_413 (lv_at hl 2 rfl) ?_
      refine lv_ldc2 (v := (-1)) hx hb hown (hts _ tw_2_36) dX6_doRounds_415 ?_
      refine lv_lxor hx hb dX6_doRounds_418 ?_
      refine lv_lload hx hb dX6_doRounds_419 (lv_at hl 1 rfl) ?_
      refine lv_land hx hb dX6_doRounds_421 ?_
      refine lv_lxor hx hb dX6_doRounds_422 ?_
      obtain ⟨hi_56, h⟩ := h
      refine m_last hx hb hK hV t1 hi_56 dX6_doRounds_423 (fun H locs hV => ?_)
      obtain ⟨L_57, eL_57⟩ : ∃ y, y = ms L_55 x1 (x25 + 1).toNatClampNeg (x28_47 ^^^ ((x30_49 ^^^ (-1)) &&& x32_51)) := ⟨_, rfl⟩
      replace hV : Wd D X ad n A s.heap J I L_57 H locs := by rw [eL_57]; exact hV
      replace h := h L_57 eL_57
      refine lv_aload_n hx hb dX6_doRounds_424 rfl (lv_at hl 5 rfl) ?_
      refine lv_iload hx hb dX6_doRounds_425 (lv_at hl 7 rfl) ?_
      refine lv_iconst (v := 2) hx hb dX6_doRounds_427 (by decide) ?_
      refine lv_iadd hx hb dX6_doRounds_428 ?_
      refine lv_lload hx hb dX6_doRounds_429 (lv_at hl 2 rfl) ?_
      refine lv_lload hx hb dX6_doRounds_431 (lv_at hl 1 rfl) ?_
      refine lv_ldc2 (v := (-1)) hx hb hown (hts _ tw_2_36) dX6_doRounds_433 ?_
      refine lv_lxor hx hb dX6_doRounds_436 ?_
      refine lv_lload hx hb dX6_doRounds_437 (lv_at hl 0 rfl) ?_
      refine lv_land hx hb dX6_doRounds_439 ?_
      refine lv_lxor hx hb dX6_doRounds_440 ?_
      obtain ⟨hi_58, h⟩ := h
      refine m_last hx hb hK hV t1 hi_58 dX6_doRounds_441 (fun H locs hV => ?_)
      obtain ⟨L_59, eL_59⟩ : ∃ y, y = ms L_57 x1 (x25 + 2).toNatClampNeg (x30_49 ^^^ ((x32_51 ^^^ (-1)) &&& x34_53)) := ⟨_, rfl⟩
      replace hV : Wd D X ad n A s.heap J I L_59 H locs := by rw [eL_59]; exact hV
      replace h := h L_59 eL_59
      refine lv_aload_n hx hb dX6_doRounds_442 rfl (lv_at hl 5 rfl) ?_
      refine lv_iload hx hb dX6_doRounds_443 (lv_at hl 7 rfl) ?_
      refine lv_iconst (v := 3) hx hb dX6_doRounds_445 (by decide) ?_
      refine lv_iadd hx hb dX6_doRounds_446 ?_
      refine lv_lload hx hb dX6_doRounds_447 (lv_at hl 1 rfl) ?_
      refine lv_lload hx hb dX6_doRounds_449 (lv_at hl 0 rfl) ?_
      refine lv_ldc2 (v := (-1)) hx hb hown (hts _ tw_2_36) dX6_doRounds_451 ?_
      refine lv_lxor hx hb dX6_doRounds_454 ?_
      refine lv_lload hx hb dX6_doRounds_455 (lv_at hl 4 rfl) ?_
      refine lv_land hx hb dX6_doRounds_457 ?_
      refine lv_lxor hx hb dX6_doRounds_458 ?_
      obtain ⟨hi_60, h⟩ := h
      refine m_last hx hb hK hV t1 hi_60 dX6_doRounds_459 (fun H locs hV => ?_)
      obtain ⟨L_61, eL_61⟩ : ∃ y, y = ms L_59 x1 (x25 + 3).toNatClampNeg (x32_51 ^^^ ((x34_53 ^^^ (-1)) &&& x26_45)) := ⟨_, rfl⟩
      replace hV : Wd D X ad n A s.heap J I L_61 H locs := by rw [eL_61]; exact hV
      replace h := h L_61 eL_61
      refine lv_aload_n hx hb dX6_doRounds_460 rfl (lv_at hl 5 rfl) ?_
      refine lv_iload hx hb dX6_doRounds_461 (lv_at hl 7 rfl) ?_
      refine lv_iconst (v := 4) hx hb dX6_doRounds_463 (by decide) ?_
      refine lv_iadd hx hb dX6_doRounds_464 ?_
      refine lv_lload hx hb dX6_doRounds_465 (lv_at hl 0 rfl) ?_
      refine lv_lload hx hb dX6_doRounds_467 (lv_at hl 4 rfl) ?_
      refine lv_ldc2 (v := (-1)) hx hb hown (hts _ tw_2_36) dX6_doRounds_469 ?_
      refine lv_lxor hx hb dX6_doRounds_472 ?_
      refine lv_lload hx hb dX6_doRounds_473 (lv_at hl 3 rfl) ?_
      refine lv_land hx hb dX6_doRounds_475 ?_
      refine lv_lxor hx hb dX6_doRounds_476 ?_
      obtain ⟨hi_62, h⟩ := h
      refine m_last hx hb hK hV t1 hi_62 dX6_doRounds_477 (fun H locs hV => ?_)
      obtain ⟨L_63, eL_63⟩ : ∃ y, y = ms L_61 x1 (x25 + 4).toNatClampNeg (x34_53 ^^^ ((x26_45 ^^^ (-1)) &&& x28_47)) := ⟨_, rfl⟩
      replace hV : Wd D X ad n A s.heap J I L_63 H locs := by rw [eL_63]; exact hV
      replace h := h L_63 eL_63
      obtain ⟨x25_64, ex25_64⟩ : ∃ y : Int32, y = x25 + 5 := ⟨_, rfl⟩
      replace h := h x25_64 ex25_64
      refine lv_iinc (v := x25_64) (lv' := [(25, .int x25_64), (34, .long x34_53), (32, .long x32_51), (30, .long x30_49), (28, .long x28_47), (26, .long x26_45), (1, .ref (ad x1)), (2, .int x2)]) hx hb dX6_doRounds_478 hl (k := 7) rfl (by rw [ex25_64]; rfl) (by decide) rfl (fun ls hl => ?_)
      refine lv_goto (tgt := 345) hx hb dX6_doRounds_481 (by decide) ?_
      exact ih x25_64 _ _ _ _ _ h hV (lv_sub hl [6, 7, 0] rfl)
set_option maxHeartbeats 4000000 in
set_option maxRecDepth 100000 in
theorem n_X6_doRounds_285 {p : Program} {l : Launch} {e : Env} {s : State} {m : MethodId} {below : List Frame} {meth : Method} {c : Code} {D : va_G} {X : XT} {ad : Nat → Nat} {n : Nat} {A : Nat → Prop} {J : MJ} {av : List Value} {R : Room} (hR : R = ({ frames := 0, cells := 0, slots := 0, locals := 0 } : Room)) (C0 : Cx p s m meth c cX6_doRounds none 36 yX6_doRounds av D X ad n A J) {q : MI → ML → Prop} {k7 : Int32 → MI → ML → Prop} {x1 : Nat} {x2 : Int32} (t1 : Ty X n x1 2)
    (hk7 : ∀ (x2 : Int32) (I : MI) (L : ML) (H : Heap) (locs : List Loc) (ls : Array Slot), k7 x2 I L → Wd D X ad n A s.heap J I L H locs → lv_has ls 36 [(1, .ref (ad x1)), (2, .int x2)] → W p l e R s m av.toArray below meth c H locs 0 0 (MQ below (QV D X ad n A J q) av.toArray s 0 0 A) (F0 m 7 ls [])) : ∀ (fu : Nat) (x23 : Int64) (x25 : Int32) (I : MI) (L : ML) (H : Heap) (locs : List Loc) (ls : Array Slot), wl_X6_doRounds_285 X J q k7 x1 x2 fu x23 x25 I L → Wd D X ad n A s.heap J I L H locs → lv_has ls 36 [(1, .ref (ad x1)), (2, .int x2), (23, .long x23), (25, .int x25)] → W p l e R s m av.toArray below meth c H locs 0 0 (MQ below (QV D X ad n A J q) av.toArray s 0 0 A) (F0 m 285 ls []) := by
  obtain ⟨hx, hb, hr, hml, hown, hlk, hnm, hts, hK, hZ, hA, hWT⟩ := id C0
  subst hR
  intro fu
  induction fu with
  | zero => intro x23 x25 I L H locs ls h; exact absurd h (fun h => h)
  | succ fu ih =>
    intro x23 x25 I L H locs ls h hV hl
    refine lv_iload hx hb dX6_doRounds_285 (lv_at hl 3 rfl) ?_
    refine lv_bipush (v := 24) hx hb dX6_doRounds_287 (by decide) ?_
    refine lv_icmp_ge (tgt := 342) hx hb dX6_doRounds_289 (by decide) (fun hc => ?_) (fun hc => ?_)
    · replace h := h.1 hc
      refine lv_iconst (v := 0) hx hb dX6_doRounds_342 (by decide) ?_
      refine lv_istore (lv' := [(25, .int 0), (1, .ref (ad x1)), (2, .int x2), (23, .long x23)]) hx hb dX6_doRounds_343 hl (by decide) rfl (fun ls hl => ?_)
      obtain ⟨fu0, h⟩ := h
      exact n_X6_doRounds_345 rfl C0 t1  hk7 fu0 0 _ _ _ _ _ h hV (lv_sub hl [1, 2, 0] rfl)
    · replace h := h.2 hc
      refine va_gets (v := .ref (X.2.2.2 1)) hx hb (hZ.2.1 1 (by decide)).1 hV.2.2 hown (hts _ tw_2_32) (fun _ h9 => h9) dX6_doRounds_292 ?_
      refine lv_iload hx hb dX6_doRounds_295 (lv_at hl 3 rfl) ?_
      obtain ⟨hi_65, h⟩ := h
      refine va_ti hx hb (hZ.2.1 1 (by decide)).2 hV.2.2 hi_65 rfl dX6_doRounds_297 ?_
      refine lv_topi (fun x26_66 ex26_66 => ?_)
      replace h := h x26_66 ex26_66
      refine lv_istore (lv' := [(26, .int x26_66), (1, .ref (ad x1)), (2, .int x2), (23, .long x23), (25, .int x25)]) hx hb dX6_doRounds_298 hl (by decide) rfl (fun ls hl => ?_)
      refine va_gets (v := .ref (X.2.2.2 2)) hx hb (hZ.2.1 2 (by decide)).1 hV.2.2 hown (hts _ tw_2_34) (fun _ h9 => h9) dX6_doRounds_300 ?_
      refine lv_iload hx hb dX6_doRounds_303 (lv_at hl 4 rfl) ?_
      obtain ⟨hi_67, h⟩ := h
      refine va_ti hx hb (hZ.2.1 2 (by decide)).2 hV.2.2 hi_67 rfl dX6_doRounds_305 ?_
      refine lv_topi (fun x27_68 ex27_68 => ?_)
      replace h := h x27_68 ex27_68
      refine lv_istore (lv' := [(27, .int x27_68), (26, .int x26_66), (1, .ref (ad x1)), (2, .int x2), (23, .long x23), (25, .int x25)]) hx hb dX6_doRounds_306 hl (by decide) rfl (fun ls hl => ?_)
      refine lv_aload_n hx hb dX6_doRounds_308 rfl (lv_at hl 2 rfl) ?_
      refine lv_iload hx hb dX6_doRounds_309 (lv_at hl 1 rfl) ?_
      obtain ⟨hi_69, h⟩ := h
      refine m_lald hx hb hK hV t1 hi_69 dX6_doRounds_311 ?_
      refine lv_topl (fun x28_70 ex28_70 => ?_)
      replace h := h x28_70 ex28_70
      refine lv_lstore (lv' := [(28, .long x28_70), (27, .int x27_68), (26, .int x26_66), (1, .ref (ad x1)), (2, .int x2), (23, .long x23), (25, .int x25)]) hx hb dX6_doRounds_312 hl (by decide) rfl (fun ls hl => ?_)
      refine lv_aload_n hx hb dX6_doRounds_314 rfl (lv_at hl 3 rfl) ?_
      refine lv_iload hx hb dX6_doRounds_315 (lv_at hl 2 rfl) ?_
      refine lv_lload hx hb dX6_doRounds_317 (lv_at hl 5 rfl) ?_
      refine lv_iload hx hb dX6_doRounds_319 (lv_at hl 1 rfl) ?_
      refine lv_lshl hx hb dX6_doRounds_321 rfl ?_
      refine lv_lload hx hb dX6_doRounds_322 (lv_at hl 5 rfl) ?_
      refine lv_bipush (v := 64) hx hb dX6_doRounds_324 (by decide) ?_
      refine lv_iload hx hb dX6_doRounds_326 (lv_at hl 1 rfl) ?_
      refine lv_isub hx hb dX6_doRounds_328 ?_
      refine lv_lushr hx hb dX6_doRounds_329 rfl ?_
      refine lv_lor hx hb dX6_doRounds_330 ?_
      obtain ⟨hi_71, h⟩ := h
      refine m_last hx hb hK hV t1 hi_71 dX6_doRounds_331 (fun H locs hV => ?_)
      obtain ⟨L_72, eL_72⟩ : ∃ y, y = ms L x1 x26_66.toNatClampNeg ((jlshl x23 x27_68) ||| (jlushr x23 (64 - x27_68))) := ⟨_, rfl⟩
      replace hV : Wd D X ad n A s.heap J I L_72 H locs := by rw [eL_72]; exact hV
      replace h := h L_72 eL_72
      refine lv_lload hx hb dX6_doRounds_332 (lv_at hl 0 rfl) ?_
      refine lv_lstore (lv' := [(23, .long x28_70), (28, .long x28_70), (27, .int x27_68), (26, .int x26_66), (1, .ref (ad x1)), (2, .int x2), (25, .int x25)]) hx hb dX6_doRounds_334 hl (by decide) rfl (fun ls hl => ?_)
      obtain ⟨x25_73, ex25_73⟩ : ∃ y : Int32, y = x25 + 1 := ⟨_, rfl⟩
      replace h := h x25_73 ex25_73
      refine lv_iinc (v := x25_73) (lv' := [(25, .int x25_73), (23, .long x28_70), (28, .long x28_70), (27, .int x27_68), (26, .int x26_66), (1, .ref (ad x1)), (2, .int x2)]) hx hb dX6_doRounds_336 hl (k := 6) rfl (by rw [ex25_73]; rfl) (by decide) rfl (fun ls hl => ?_)
      refine lv_goto (tgt := 285) hx hb dX6_doRounds_339 (by decide) ?_
      exact ih x28_70 x25_73 _ _ _ _ _ h hV (lv_sub hl [5, 6, 1, 0] rfl)
set_option maxHeartbeats 4000000 in
set_option maxRecDepth 100000 in
theorem n_X6_doRounds_211 {p : Program} {l : Launch} {e : Env} {s : State} {m : MethodId} {below : List Frame} {meth : Method} {c : Code} {D : va_G} {X : XT} {ad : Nat → Nat} {n : Nat} {A : Nat → Prop} {J : MJ} {av : List Value} {R : Room} (hR : R = ({ frames := 0, cells := 0, slots := 0, locals := 0 } : Room)) (C0 : Cx p s m meth c cX6_doRounds none 36 yX6_doRounds av D X ad n A J) {q : MI → ML → Prop} {k7 : Int32 → MI → ML → Prop} {x1 : Nat} {x2 : Int32} {x13 : Int64} {x15 : Int64} {x17 : Int64} {x19 : Int64} {x21 : Int64} (t1 : Ty X n x1 2)
    (hk7 : ∀ (x2 : Int32) (I : MI) (L : ML) (H : Heap) (locs : List Loc) (ls : Array Slot), k7 x2 I L → Wd D X ad n A s.heap J I L H locs → lv_has ls 36 [(1, .ref (ad x1)), (2, .int x2)] → W p l e R s m av.toArray below meth c H locs 0 0 (MQ below (QV D X ad n A J q) av.toArray s 0 0 A) (F0 m 7 ls [])) : ∀ (fu : Nat) (x23 : Int32) (I : MI) (L : ML) (H : Heap) (locs : List Loc) (ls : Array Slot), wl_X6_doRounds_211 X J q k7 x1 x2 x13 x15 x17 x19 x21 fu x23 I L → Wd D X ad n A s.heap J I L H locs → lv_has ls 36 [(1, .ref (ad x1)), (2, .int x2), (13, .long x13), (15, .long x15), (17, .long x17), (19, .long x19), (21, .long x21), (23, .int x23)] → W p l e R s m av.toArray below meth c H locs 0 0 (MQ below (QV D X ad n A J q) av.toArray s 0 0 A) (F0 m 211 ls []) := by
  obtain ⟨hx, hb, hr, hml, hown, hlk, hnm, hts, hK, hZ, hA, hWT⟩ := id C0
  subst hR
  intro fu
  induction fu with
  | zero => intro x23 I L H locs ls h; exact absurd h (fun h => h)
  | succ fu ih =>
    intro x23 I L H locs ls h hV hl
    refine lv_iload hx hb dX6_doRounds_211 (lv_at hl 7 rfl) ?_
    refine lv_bipush (v := 25) hx hb dX6_doRounds_213 (by decide) ?_
    refine lv_icmp_ge (tgt := 277) hx hb dX6_doRounds_215 (by decide) (fun hc => ?_) (fun hc => ?_)
    · replace h := h.1 hc
      refine lv_aload_n hx hb dX6_doRounds_277 rfl (lv_at hl 0 rfl) ?_
      refine lv_iconst (v := 1) hx hb dX6_doRounds_278 (by decide) ?_
      obtain ⟨hi_37, h⟩ := h
      refine m_lald hx hb hK hV t1 hi_37 dX6_doRounds_279 ?_
      refine lv_topl (fun x23_38 ex23_38 => ?_)
      replace h := h x23_38 ex23_38
      refine lv_lstore (lv' := [(23, .long x23_38), (1, .ref (ad x1)), (2, .int x2), (13, .long x13), (15, .long x15), (17, .long x17), (19, .long x19), (21, .long x21)]) hx hb dX6_doRounds_280 hl (by decide) rfl (fun ls hl => ?_)
      refine lv_iconst (v := 0) hx hb dX6_doRounds_282 (by decide) ?_
      refine lv_istore (lv' := [(25, .int 0), (23, .long x23_38), (1, .ref (ad x1)), (2, .int x2), (13, .long x13), (15, .long x15), (17, .long x17), (19, .long x19), (21, .long x21)]) hx hb dX6_doRounds_283 hl (by decide) rfl (fun ls hl => ?_)
      obtain ⟨fu0, h⟩ := h
      exact n_X6_doRounds_285 rfl C0 t1  hk7 fu0 x23_38 0 _ _ _ _ _ h hV (lv_sub hl [2, 3, 1, 0] rfl)
    · replace h := h.2 hc
      refine lv_aload_n hx hb dX6_doRounds_218 rfl (lv_at hl 0 rfl) ?_
      refine lv_iload hx hb dX6_doRounds_219 (lv_at hl 7 rfl) ?_
      refine lv_dup2_11 hx hb dX6_doRounds_221 rfl rfl ?_
      obtain ⟨hi_74, h⟩ := h
      refine m_lald hx hb hK hV t1 hi_74 dX6_doRounds_222 ?_
      refine lv_lload hx hb dX6_doRounds_223 (lv_at hl 2 rfl) ?_
      refine lv_lxor hx hb dX6_doRounds_225 ?_
      obtain ⟨hi_75, h⟩ := h
      refine m_last hx hb hK hV t1 hi_75 dX6_doRounds_226 (fun H locs hV => ?_)
      obtain ⟨L_76, eL_76⟩ : ∃ y, y = ms L x1 x23.toNatClampNeg ((L x1 x23.toNatClampNeg) ^^^ x13) := ⟨_, rfl⟩
      replace hV : Wd D X ad n A s.heap J I L_76 H locs := by rw [eL_76]; exact hV
      replace h := h L_76 eL_76
      refine lv_aload_n hx hb dX6_doRounds_227 rfl (lv_at hl 0 rfl) ?_
      refine lv_iload hx hb dX6_doRounds_228 (lv_at hl 7 rfl) ?_
      refine lv_iconst (v := 1) hx hb dX6_doRounds_230 (by decide) ?_
      refine lv_iadd hx hb dX6_doRounds_231 ?_
      refine lv_dup2_11 hx hb dX6_doRounds_232 rfl rfl ?_
      obtain ⟨hi_77, h⟩ := h
      refine m_lald hx hb hK hV t1 hi_77 dX6_doRounds_233 ?_
      refine lv_lload hx hb dX6_doRounds_234 (lv_at hl 3 rfl) ?_
      refine lv_lxor hx hb dX6_doRounds_236 ?_
      obtain ⟨hi_78, h⟩ := h
      refine m_last hx hb hK hV t1 hi_78 dX6_doRounds_237 (fun H locs hV => ?_)
      obtain ⟨L_79, eL_79⟩ : ∃ y, y = ms L_76 x1 (x23 + 1).toNatClampNeg ((L_76 x1 (x23 + 1).toNatClampNeg) ^^^ x15) := ⟨_, rfl⟩
      replace hV : Wd D X ad n A s.heap J I L_79 H locs := by rw [eL_79]; exact hV
      replace h := h L_79 eL_79
      refine lv_aload_n hx hb dX6_doRounds_238 rfl (lv_at hl 0 rfl) ?_
      refine lv_iload hx hb dX6_doRounds_239 (lv_at hl 7 rfl) ?_
      refine lv_iconst (v := 2) hx hb dX6_doRounds_241 (by decide) ?_
      refine lv_iadd hx hb dX6_doRounds_242 ?_
      refine lv_dup2_11 hx hb dX6_doRounds_243 rfl rfl ?_
      obtain ⟨hi_80, h⟩ := h
      refine m_lald hx hb hK hV t1 hi_80 dX6_doRounds_244 ?_
      refine lv_lload hx hb dX6_doRounds_245 (lv_at hl 4 rfl) ?_
      refine lv_lxor hx hb dX6_doRounds_247 ?_
      obtain ⟨hi_81, h⟩ := h
      refine m_last hx hb hK hV t1 hi_81 dX6_doRounds_248 (fun H locs hV => ?_)
      obtain ⟨L_82, eL_82⟩ : ∃ y, y = ms L_79 x1 (x23 + 2).toNatClampNeg ((L_79 x1 (x23 + 2).toNatClampNeg) ^^^ x17) := ⟨_, rfl⟩
      replace hV : Wd D X ad n A s.heap J I L_82 H locs := by rw [eL_82]; exact hV
      replace h := h L_82 eL_82
      refine lv_aload_n hx hb dX6_doRounds_249 rfl (lv_at hl 0 rfl) ?_
      refine lv_iload hx hb dX6_doRounds_250 (lv_at hl 7 rfl) ?_
      refine lv_iconst (v := 3) hx hb dX6_doRounds_252 (by decide) ?_
      refine lv_iadd hx hb dX6_doRounds_253 ?_
      refine lv_dup2_11 hx hb dX6_doRounds_254 rfl rfl ?_
      obtain ⟨hi_83, h⟩ := h
      refine m_lald hx hb hK hV t1 hi_83 dX6_doRounds_255 ?_
      refine lv_lload hx hb dX6_doRounds_256 (lv_at hl 5 rfl) ?_
      refine lv_lxor hx hb dX6_doRounds_258 ?_
      obtain ⟨hi_84, h⟩ := h
      refine m_last hx hb hK hV t1 hi_84 dX6_doRounds_259 (fun H locs hV => ?_)
      obtain ⟨L_85, eL_85⟩ : ∃ y, y = ms L_82 x1 (x23 + 3).toNatClampNeg ((L_82 x1 (x23 + 3).toNatClampNeg) ^^^ x19) := ⟨_, rfl⟩
      replace hV : Wd D X ad n A s.heap J I L_85 H locs := by rw [eL_85]; exact hV
      replace h := h L_85 eL_85
      refine lv_aload_n hx hb dX6_doRounds_260 rfl (lv_at hl 0 rfl) ?_
      refine lv_iload hx hb dX6_doRounds_261 (lv_at hl 7 rfl) ?_
      refine lv_iconst (v := 4) hx hb dX6_doRounds_263 (by decide) ?_
      refine lv_iadd hx hb dX6_doRounds_264 ?_
      refine lv_dup2_11 hx hb dX6_doRounds_265 rfl rfl ?_
      obtain ⟨hi_86, h⟩ := h
      refine m_lald hx hb hK hV t1 hi_86 dX6_doRounds_266 ?_
      refine lv_lload hx hb dX6_doRounds_267 (lv_at hl 6 rfl) ?_
      refine lv_lxor hx hb dX6_doRounds_269 ?_
      obtain ⟨hi_87, h⟩ := h
      refine m_last hx hb hK hV t1 hi_87 dX6_doRounds_270 (fun H locs hV => ?_)
      obtain ⟨L_88, eL_88⟩ : ∃ y, y = ms L_85 x1 (x23 + 4).toNatClampNeg ((L_85 x1 (x23 + 4).toNatClampNeg) ^^^ x21) := ⟨_, rfl⟩
      replace hV : Wd D X ad n A s.heap J I L_88 H locs := by rw [eL_88]; exact hV
      replace h := h L_88 eL_88
      obtain ⟨x23_89, ex23_89⟩ : ∃ y : Int32, y = x23 + 5 := ⟨_, rfl⟩
      replace h := h x23_89 ex23_89
      refine lv_iinc (v := x23_89) (lv' := [(23, .int x23_89), (1, .ref (ad x1)), (2, .int x2), (13, .long x13), (15, .long x15), (17, .long x17), (19, .long x19), (21, .long x21)]) hx hb dX6_doRounds_271 hl (k := 7) rfl (by rw [ex23_89]; rfl) (by decide) rfl (fun ls hl => ?_)
      refine lv_goto (tgt := 211) hx hb dX6_doRounds_274 (by decide) ?_
      exact ih x23_89 _ _ _ _ _ h hV (lv_sub hl [1, 2, 3, 4, 5, 6, 7, 0] rfl)
set_option maxHeartbeats 4000000 in
set_option maxRecDepth 100000 in
theorem n_X6_doRounds_7 {p : Program} {l : Launch} {e : Env} {s : State} {m : MethodId} {below : List Frame} {meth : Method} {c : Code} {D : va_G} {X : XT} {ad : Nat → Nat} {n : Nat} {A : Nat → Prop} {J : MJ} {av : List Value} {R : Room} (hR : R = ({ frames := 0, cells := 0, slots := 0, locals := 0 } : Room)) (C0 : Cx p s m meth c cX6_doRounds none 36 yX6_doRounds av D X ad n A J) {q : MI → ML → Prop}  {x1 : Nat} (t1 : Ty X n x1 2) : ∀ (fu : Nat) (x2 : Int32) (I : MI) (L : ML) (H : Heap) (locs : List Loc) (ls : Array Slot), wl_X6_doRounds_7 X J q  x1 fu x2 I L → Wd D X ad n A s.heap J I L H locs → lv_has ls 36 [(1, .ref (ad x1)), (2, .int x2)] → W p l e R s m av.toArray below meth c H locs 0 0 (MQ below (QV D X ad n A J q) av.toArray s 0 0 A) (F0 m 7 ls []) := by
  obtain ⟨hx, hb, hr, hml, hown, hlk, hnm, hts, hK, hZ, hA, hWT⟩ := id C0
  subst hR
  intro fu
  induction fu with
  | zero => intro x2 I L H locs ls h; exact absurd h (fun h => h)
  | succ fu ih =>
    intro x2 I L H locs ls h hV hl
    refine lv_iload_n hx hb dX6_doRounds_7 rfl (lv_at hl 1 rfl) ?_
    refine lv_bipush (v := 24) hx hb dX6_doRounds_8 (by decide) ?_
    refine lv_icmp_ge (tgt := 501) hx hb dX6_doRounds_10 (by decide) (fun hc => ?_) (fun hc => ?_)
    · replace h := h.1 hc
      exact m_vret hx hb hr hlk hK hZ hA hV h dX6_doRounds_501
    · replace h := h.2 hc
      refine lv_aload_n hx hb dX6_doRounds_13 rfl (lv_at hl 0 rfl) ?_
      refine lv_iconst (v := 0) hx hb dX6_doRounds_14 (by decide) ?_
      obtain ⟨hi_2, h⟩ := h
      refine m_lald hx hb hK hV t1 hi_2 dX6_doRounds_15 ?_
      refine lv_aload_n hx hb dX6_doRounds_16 rfl (lv_at hl 0 rfl) ?_
      refine lv_iconst (v := 5) hx hb dX6_doRounds_17 (by decide) ?_
      obtain ⟨hi_3, h⟩ := h
      refine m_lald hx hb hK hV t1 hi_3 dX6_doRounds_18 ?_
      refine lv_lxor hx hb dX6_doRounds_19 ?_
      refine lv_aload_n hx hb dX6_doRounds_20 rfl (lv_at hl 0 rfl) ?_
      refine lv_bipush (v := 10) hx hb dX6_doRounds_21 (by decide) ?_
      obtain ⟨hi_4, h⟩ := h
      refine m_lald hx hb hK hV t1 hi_4 dX6_doRounds_23 ?_
      refine lv_lxor hx hb dX6_doRounds_24 ?_
      refine lv_aload_n hx hb dX6_doRounds_25 rfl (lv_at hl 0 rfl) ?_
      refine lv_bipush (v := 15) hx hb dX6_doRounds_26 (by decide) ?_
      obtain ⟨hi_5, h⟩ := h
      refine m_lald hx hb hK hV t1 hi_5 dX6_doRounds_28 ?_
      refine lv_lxor hx hb dX6_doRounds_29 ?_
      refine lv_aload_n hx hb dX6_doRounds_30 rfl (lv_at hl 0 rfl) ?_
      refine lv_bipush (v := 20) hx hb dX6_doRounds_31 (by decide) ?_
      obtain ⟨hi_6, h⟩ := h
      refine m_lald hx hb hK hV t1 hi_6 dX6_doRounds_33 ?_
      refine lv_lxor hx hb dX6_doRounds_34 ?_
      refine lv_topl (fun x3_7 ex3_7 => ?_)
      replace h := h x3_7 ex3_7
      refine lv_lstore_n (lv' := [(3, .long x3_7), (1, .ref (ad x1)), (2, .int x2)]) hx hb dX6_doRounds_35 rfl hl (by decide) rfl (fun ls hl => ?_)
      refine lv_aload_n hx hb dX6_doRounds_36 rfl (lv_at hl 1 rfl) ?_
      refine lv_iconst (v := 1) hx hb dX6_doRounds_37 (by decide) ?_
      obtain ⟨hi_8, h⟩ := h
      refine m_lald hx hb hK hV t1 hi_8 dX6_doRounds_38 ?_
      refine lv_aload_n hx hb dX6_doRounds_39 rfl (lv_at hl 1 rfl) ?_
      refine lv_bipush (v := 6) hx hb dX6_doRounds_40 (by decide) ?_
      obtain ⟨hi_9, h⟩ := h
      refine m_lald hx hb hK hV t1 hi_9 dX6_doRounds_42 ?_
      refine lv_lxor hx hb dX6_doRounds_43 ?_
      refine lv_aload_n hx hb dX6_doRounds_44 rfl (lv_at hl 1 rfl) ?_
      refine lv_bipush (v := 11) hx hb dX6_doRounds_45 (by decide) ?_
      obtain ⟨hi_10, h⟩ := h
      refine m_lald hx hb hK hV t1 hi_10 dX6_doRounds_47 ?_
      refine lv_lxor hx hb dX6_doRounds_48 ?_
      refine lv_aload_n hx hb dX6_doRounds_49 rfl (lv_at hl 1 rfl) ?_
      refine lv_bipush (v := 16) hx hb dX6_doRounds_50 (by decide) ?_
      obtain ⟨hi_11, h⟩ := h
      refine m_lald hx hb hK hV t1 hi_11 dX6_doRounds_52 ?_
      refine lv_lxor hx hb dX6_doRounds_53 ?_
      refine lv_aload_n hx hb dX6_doRounds_54 rfl (lv_at hl 1 rfl) ?_
      refine lv_bipush (v := 21) hx hb dX6_doRounds_55 (by decide) ?_
      obtain ⟨hi_12, h⟩ := h
      refine m_lald hx hb hK hV t1 hi_12 dX6_doRounds_57 ?_
      refine lv_lxor hx hb dX6_doRounds_58 ?_
      refine lv_topl (fun x5_13 ex5_13 => ?_)
      replace h := h x5_13 ex5_13
      refine lv_lstore (lv' := [(5, .long x5_13), (3, .long x3_7), (1, .ref (ad x1)), (2, .int x2)]) hx hb dX6_doRounds_59 hl (by decide) rfl (fun ls hl => ?_)
      refine lv_aload_n hx hb dX6_doRounds_61 rfl (lv_at hl 2 rfl) ?_
      refine lv_iconst (v := 2) hx hb dX6_doRounds_62 (by decide) ?_
      obtain ⟨hi_14, h⟩ := h
      refine m_lald hx hb hK hV t1 hi_14 dX6_doRounds_63 ?_
      refine lv_aload_n hx hb dX6_doRounds_64 rfl (lv_at hl 2 rfl) ?_
      refine lv_bipush (v := 7) hx hb dX6_doRounds_65 (by decide) ?_
      obtain ⟨hi_15, h⟩ := h
      refine m_lald hx hb hK hV t1 hi_15 dX6_doRounds_67 ?_
      refine lv_lxor hx hb dX6_doRounds_68 ?_
      refine lv_aload_n hx hb dX6_doRounds_69 rfl (lv_at hl 2 rfl) ?_
      refine lv_bipush (v := 12) hx hb dX6_doRounds_70 (by decide) ?_
      obtain ⟨hi_16, h⟩ := h
      refine m_lald hx hb hK hV t1 hi_16 dX6_doRounds_72 ?_
      refine lv_lxor hx hb dX6_doRounds_73 ?_
      refine lv_aload_n hx hb dX6_doRounds_74 rfl (lv_at hl 2 rfl) ?_
      refine lv_bipush (v := 17) hx hb dX6_doRounds_75 (by decide) ?_
      obtain ⟨hi_17, h⟩ := h
      refine m_lald hx hb hK hV t1 hi_17 dX6_doRounds_77 ?_
      refine lv_lxor hx hb dX6_doRounds_78 ?_
      refine lv_aload_n hx hb dX6_doRounds_79 rfl (lv_at hl 2 rfl) ?_
      refine lv_bipush (v := 22) hx hb dX6_doRounds_80 (by decide) ?_
      obtain ⟨hi_18, h⟩ := h
      refine m_lald hx hb hK hV t1 hi_18 dX6_doRounds_82 ?_
      refine lv_lxor hx hb dX6_doRounds_83 ?_
      refine lv_topl (fun x7_19 ex7_19 => ?_)
      replace h := h x7_19 ex7_19
      refine lv_lstore (lv' := [(7, .long x7_19), (5, .long x5_13), (3, .long x3_7), (1, .ref (ad x1)), (2, .int x2)]) hx hb dX6_doRounds_84 hl (by decide) rfl (fun ls hl => ?_)
      refine lv_aload_n hx hb dX6_doRounds_86 rfl (lv_at hl 3 rfl) ?_
      refine lv_iconst (v := 3) hx hb dX6_doRounds_87 (by decide) ?_
      obtain ⟨hi_20, h⟩ := h
      refine m_lald hx hb hK hV t1 hi_20 dX6_doRounds_88 ?_
      refine lv_aload_n hx hb dX6_doRounds_89 rfl (lv_at hl 3 rfl) ?_
      refine lv_bipush (v := 8) hx hb dX6_doRounds_90 (by decide) ?_
      obtain ⟨hi_21, h⟩ := h
      refine m_lald hx hb hK hV t1 hi_21 dX6_doRounds_92 ?_
      refine lv_lxor hx hb dX6_doRounds_93 ?_
      refine lv_aload_n hx hb dX6_doRounds_94 rfl (lv_at hl 3 rfl) ?_
      refine lv_bipush (v := 13) hx hb dX6_doRounds_95 (by decide) ?_
      obtain ⟨hi_22, h⟩ := h
      refine m_lald hx hb hK hV t1 hi_22 dX6_doRounds_97 ?_
      refine lv_lxor hx hb dX6_doRounds_98 ?_
      refine lv_aload_n hx hb dX6_doRounds_99 rfl (lv_at hl 3 rfl) ?_
      refine lv_bipush (v := 18) hx hb dX6_doRounds_100 (by decide) ?_
      obtain ⟨hi_23, h⟩ := h
      refine m_lald hx hb hK hV t1 hi_23 dX6_doRounds_102 ?_
      refine lv_lxor hx hb dX6_doRounds_103 ?_
      refine lv_aload_n hx hb dX6_doRounds_104 rfl (lv_at hl 3 rfl) ?_
      refine lv_bipush (v := 23) hx hb dX6_doRounds_105 (by decide) ?_
      obtain ⟨hi_24, h⟩ := h
      refine m_lald hx hb hK hV t1 hi_24 dX6_doRounds_107 ?_
      refine lv_lxor hx hb dX6_doRounds_108 ?_
      refine lv_topl (fun x9_25 ex9_25 => ?_)
      replace h := h x9_25 ex9_25
      refine lv_lstore (lv' := [(9, .long x9_25), (7, .long x7_19), (5, .long x5_13), (3, .long x3_7), (1, .ref (ad x1)), (2, .int x2)]) hx hb dX6_doRounds_109 hl (by decide) rfl (fun ls hl => ?_)
      refine lv_aload_n hx hb dX6_doRounds_111 rfl (lv_at hl 4 rfl) ?_
      refine lv_iconst (v := 4) hx hb dX6_doRounds_112 (by decide) ?_
      obtain ⟨hi_26, h⟩ := h
      refine m_lald hx hb hK hV t1 hi_26 dX6_doRounds_113 ?_
      refine lv_aload_n hx hb dX6_doRounds_114 rfl (lv_at hl 4 rfl) ?_
      refine lv_bipush (v := 9) hx hb dX6_doRounds_115 (by decide) ?_
      obtain ⟨hi_27, h⟩ := h
      refine m_lald hx hb hK hV t1 hi_27 dX6_doRounds_117 ?_
      refine lv_lxor hx hb dX6_doRounds_118 ?_
      refine lv_aload_n hx hb dX6_doRounds_119 rfl (lv_at hl 4 rfl) ?_
      refine lv_bipush (v := 14) hx hb dX6_doRounds_120 (by decide) ?_
      obtain ⟨hi_28, h⟩ := h
      refine m_lald hx hb hK hV t1 hi_28 dX6_doRounds_122 ?_
      refine lv_lxor hx hb dX6_doRounds_123 ?_
      refine lv_aload_n hx hb dX6_doRounds_124 rfl (lv_at hl 4 rfl) ?_
      refine lv_bipush (v := 19) hx hb dX6_doRounds_125 (by decide) ?_
      obtain ⟨hi_29, h⟩ := h
      refine m_lald hx hb hK hV t1 hi_29 dX6_doRounds_127 ?_
      refine lv_lxor hx hb dX6_doRounds_128 ?_
      refine lv_aload_n hx hb dX6_doRounds_129 rfl (lv_at hl 4 rfl) ?_
      refine lv_bipush (v := 24) hx hb dX6_doRounds_130 (by decide) ?_
      obtain ⟨hi_30, h⟩ := h
      refine m_lald hx hb hK hV t1 hi_30 dX6_doRounds_132 ?_
      refine lv_lxor hx hb dX6_doRounds_133 ?_
      refine lv_topl (fun x11_31 ex11_31 => ?_)
      replace h := h x11_31 ex11_31
      refine lv_lstore (lv' := [(11, .long x11_31), (9, .long x9_25), (7, .long x7_19), (5, .long x5_13), (3, .long x3_7), (1, .ref (ad x1)), (2, .int x2)]) hx hb dX6_doRounds_134 hl (by decide) rfl (fun ls hl => ?_)
      refine lv_lload hx hb dX6_doRounds_136 (lv_at hl 0 rfl) ?_
      refine lv_lload hx hb dX6_doRounds_138 (lv_at hl 3 rfl) ?_
      refine lv_iconst (v := 1) hx hb dX6_doRounds_140 (by decide) ?_
      refine lv_lshl hx hb dX6_doRounds_141 rfl ?_
      refine lv_lload hx hb dX6_doRounds_142 (lv_at hl 3 rfl) ?_
      refine lv_bipush (v := 63) hx hb dX6_doRounds_144 (by decide) ?_
      refine lv_lushr hx hb dX6_doRounds_146 rfl ?_
      refine lv_lor hx hb dX6_doRounds_147 ?_
      refine lv_lxor hx hb dX6_doRounds_148 ?_
      refine lv_topl (fun x13_32 ex13_32 => ?_)
      replace h := h x13_32 ex13_32
      refine lv_lstore (lv' := [(13, .long x13_32), (11, .long x11_31), (9, .long x9_25), (7, .long x7_19), (5, .long x5_13), (3, .long x3_7), (1, .ref (ad x1)), (2, .int x2)]) hx hb dX6_doRounds_149 hl (by decide) rfl (fun ls hl => ?_)
      refine lv_lload_n hx hb dX6_doRounds_151 rfl (lv_at hl 5 rfl) ?_
      refine lv_lload hx hb dX6_doRounds_152 (lv_at hl 3 rfl) ?_
      refine lv_iconst (v := 1) hx hb dX6_doRounds_154 (by decide) ?_
      refine lv_lshl hx hb dX6_doRounds_155 rfl ?_
      refine lv_lload hx hb dX6_doRounds_156 (lv_at hl 3 rfl) ?_
      refine lv_bipush (v := 63) hx hb dX6_doRounds_158 (by decide) ?_
      refine lv_lushr hx hb dX6_doRounds_160 rfl ?_
      refine lv_lor hx hb dX6_doRounds_161 ?_
      refine lv_lxor hx hb dX6_doRounds_162 ?_
      refine lv_topl (fun x15_33 ex15_33 => ?_)
      replace h := h x15_33 ex15_33
      refine lv_lstore (lv' := [(15, .long x15_33), (13, .long x13_32), (11, .long x11_31), (9, .long x9_25), (7, .long x7_19), (5, .long x5_13), (3, .long x3_7), (1, .ref (ad x1)), (2, .int x2)]) hx hb dX6_doRounds_163 hl (by decide) rfl (fun ls hl => ?_)
      refine lv_lload hx hb dX6_doRounds_165 (lv_at hl 5 rfl) ?_
      refine lv_lload hx hb dX6_doRounds_167 (lv_at hl 3 rfl) ?_
      refine lv_iconst (v := 1) hx hb dX6_doRounds_169 (by decide) ?_
      refine lv_lshl hx hb dX6_doRounds_170 rfl ?_
      refine lv_lload hx hb dX6_doRounds_171 (lv_at hl 3 rfl) ?_
      refine lv_bipush (v := 63) hx hb dX6_doRounds_173 (by decide) ?_
      refine lv_lushr hx hb dX6_doRounds_175 rfl ?_
      refine lv_lor hx hb dX6_doRounds_176 ?_
      refine lv_lxor hx hb dX6_doRounds_177 ?_
      refine lv_topl (fun x17_34 ex17_34 => ?_)
      replace h := h x17_34 ex17_34
      refine lv_lstore (lv' := [(17, .long x17_34), (15, .long x15_33), (13, .long x13_32), (11, .long x11_31), (9, .long x9_25), (7, .long x7_19), (5, .long x5_13), (3, .long x3_7), (1, .ref (ad x1)), (2, .int x2)]) hx hb dX6_doRounds_178 hl (by decide) rfl (fun ls hl => ?_)
      refine lv_lload hx hb dX6_doRounds_180 (lv_at hl 5 rfl) ?_
      refine lv_lload hx hb dX6_doRounds_182 (lv_at hl 3 rfl) ?_
      refine lv_iconst (v := 1) hx hb dX6_doRounds_184 (by decide) ?_
      refine lv_lshl hx hb dX6_doRounds_185 rfl ?_
      refine lv_lload hx hb dX6_doRounds_186 (lv_at hl 3 rfl) ?_
      refine lv_bipush (v := 63) hx hb dX6_doRounds_188 (by decide) ?_
      refine lv_lushr hx hb dX6_doRounds_190 rfl ?_
      refine lv_lor hx hb dX6_doRounds_191 ?_
      refine lv_lxor hx hb dX6_doRounds_192 ?_
      refine lv_topl (fun x19_35 ex19_35 => ?_)
      replace h := h x19_35 ex19_35
      refine lv_lstore (lv' := [(19, .long x19_35), (17, .long x17_34), (15, .long x15_33), (13, .long x13_32), (11, .long x11_31), (9, .long x9_25), (7, .long x7_19), (5, .long x5_13), (3, .long x3_7), (1, .ref (ad x1)), (2, .int x2)]) hx hb dX6_doRounds_193 hl (by decide) rfl (fun ls hl => ?_)
      refine lv_lload hx hb dX6_doRounds_195 (lv_at hl 5 rfl) ?_
      refine lv_lload_n hx hb dX6_doRounds_197 rfl (lv_at hl 8 rfl) ?_
      refine lv_iconst (v := 1) hx hb dX6_doRounds_198 (by decide) ?_
      refine lv_lshl hx hb dX6_doRounds_199 rfl ?_
      refine lv_lload_n hx hb dX6_doRounds_200 rfl (lv_at hl 8 rfl) ?_
      refine lv_bipush (v := 63) hx hb dX6_doRounds_201 (by decide) ?_
      refine lv_lushr hx hb dX6_doRounds_203 rfl ?_
      refine lv_lor hx hb dX6_doRounds_204 ?_
      refine lv_lxor hx hb dX6_doRounds_205 ?_
      refine lv_topl (fun x21_36 ex21_36 => ?_)
      replace h := h x21_36 ex21_36
      refine lv_lstore (lv' := [(21, .long x21_36), (19, .long x19_35), (17, .long x17_34), (15, .long x15_33), (13, .long x13_32), (11, .long x11_31), (9, .long x9_25), (7, .long x7_19), (5, .long x5_13), (3, .long x3_7), (1, .ref (ad x1)), (2, .int x2)]) hx hb dX6_doRounds_206 hl (by decide) rfl (fun ls hl => ?_)
      refine lv_iconst (v := 0) hx hb dX6_doRounds_208 (by decide) ?_
      refine lv_istore (lv' := [(23, .int 0), (21, .long x21_36), (19, .long x19_35), (17, .long x17_34), (15, .long x15_33), (13, .long x13_32), (11, .long x11_31), (9, .long x9_25), (7, .long x7_19), (5, .long x5_13), (3, .long x3_7), (1, .ref (ad x1)), (2, .int x2)]) hx hb dX6_doRounds_209 hl (by decide) rfl (fun ls hl => ?_)
      obtain ⟨fu0, h⟩ := h
      exact n_X6_doRounds_211 rfl C0 t1  (fun y2 I L H locs ls h hV hl => ih y2 I L H locs ls h hV (lv_sub hl [0, 1] rfl)) fu0 0 _ _ _ _ _ h hV (lv_sub hl [11, 12, 5, 4, 3, 2, 1, 0] rfl)
set_option maxHeartbeats 4000000 in
set_option maxRecDepth 100000 in
theorem s_X6_doRounds (l : Launch) (D : va_G) (X : XT) (ad : Nat → Nat) (n : Nat) (A : Nat → Prop) (J : MJ) (hWT : WT X n J) (x0 : Nat) (t0 : Ty X n x0 7) (I : MI) (L : ML) (q : MI → ML → Prop) (h : wp_X6_doRounds X J x0 I L q) : Met l yX6_doRounds (wz yX6_doRounds cX6_doRounds 36 none) ({ frames := 0, cells := 0, slots := 0, locals := 0 } : Room) (va_Pc [.ref (ad x0)] (Pr D X ad n A J I L)) (QV D X ad n A J q) 0 0 A := by
  refine Met_go (by decide +kernel) (Nat.le_of_ble_eq_true rfl) (fun p e s m below meth c hx hb hr hml hown hlk hnm hts hK hZ hA hV ls hl => ?_)
  have C0 : Cx p s m meth c cX6_doRounds none 36 yX6_doRounds [.ref (ad x0)] D X ad n A J := ⟨hx, hb, hr, hml, hown, hlk, hnm, hts, hK, hZ, hA, hWT⟩
  unfold wp_X6_doRounds at h
  have hl : lv_has ls 36 [(0, .ref (ad x0))] := hl
  refine lv_aload_n hx hb dX6_doRounds_0 rfl (lv_at hl 0 rfl) ?_
  obtain ⟨r_1, hr_1, h⟩ := h
  have tr_1 : Ty X n r_1 2 := hWT.r (c := 3) (j := 0) t0 rfl hr_1
  refine m_getr (C := RX6) (T := TX6) (N := 4) (ci := 3) hx hb hts iwX6 hown hK hV t0 rfl 0 (by decide) rfl rfl hr_1 (hts _ tw_1_51) (fun _ h9 => h9) dX6_doRounds_1 ?_
  refine lv_astore_n (lv' := [(1, .ref (ad r_1)), (0, .ref (ad x0))]) hx hb dX6_doRounds_4 rfl hl (by decide) rfl (fun ls hl => ?_)
  refine lv_iconst (v := 0) hx hb dX6_doRounds_5 (by decide) ?_
  refine lv_istore_n (lv' := [(2, .int 0), (1, .ref (ad r_1)), (0, .ref (ad x0))]) hx hb dX6_doRounds_6 rfl hl (by decide) rfl (fun ls hl => ?_)
  obtain ⟨fu0, h⟩ := h
  exact n_X6_doRounds_7 rfl C0 tr_1   fu0 0 _ _ _ _ _ h hV (lv_sub hl [1, 0] rfl)
set_option maxHeartbeats 4000000 in
set_option maxRecDepth 100000 in
theorem s_X6_absorbByte (l : Launch) (D : va_G) (X : XT) (ad : Nat → Nat) (n : Nat) (A : Nat → Prop) (J : MJ) (hWT : WT X n J) (x0 : Nat) (t0 : Ty X n x0 7) (x1 : Int32) (I : MI) (L : ML) (q : MI → ML → Prop) (h : wp_X6_absorbByte X J x0 x1 I L q) : Met l yX6_absorbByte (wz yX6_absorbByte cX6_absorbByte 2 none) ({ frames := 1, cells := 0, slots := 0, locals := 55 } : Room) (va_Pc [.ref (ad x0), .int x1] (Pr D X ad n A J I L)) (QV D X ad n A J q) 0 0 A := by
  refine Met_go (by decide +kernel) (Nat.le_of_ble_eq_true rfl) (fun p e s m below meth c hx hb hr hml hown hlk hnm hts hK hZ hA hV ls hl => ?_)
  have C0 : Cx p s m meth c cX6_absorbByte none 2 yX6_absorbByte [.ref (ad x0), .int x1] D X ad n A J := ⟨hx, hb, hr, hml, hown, hlk, hnm, hts, hK, hZ, hA, hWT⟩
  unfold wp_X6_absorbByte at h
  have hl : lv_has ls 2 [(0, .ref (ad x0)), (1, .int x1)] := hl
  refine lv_aload_n hx hb dX6_absorbByte_0 rfl (lv_at hl 0 rfl) ?_
  refine lv_aload_n hx hb dX6_absorbByte_1 rfl (lv_at hl 0 rfl) ?_
  refine m_geti (C := RX6) (T := TX6) (N := 4) (ci := 3) hx hb hts iwX6 hown hK hV t0 rfl 3 (by decide) rfl rfl (hts _ tw_1_54) (fun _ h9 => h9) dX6_absorbByte_2 ?_
  refine lv_iload_n hx hb dX6_absorbByte_5 rfl (lv_at hl 1 rfl) ?_
  refine lv_sipush (v := 255) hx hb dX6_absorbByte_6 (by decide) ?_
  refine lv_iand hx hb dX6_absorbByte_9 ?_
  refine k_callv (va_runV (As := [.int (I x0 3), .int (x1 &&& 255)]) (rest := []) ⟨hx, hb, hml, hown, hts⟩ (s_X6_mixIn l D X ad n A J hWT x0 t0 (I x0 3) (x1 &&& 255) I L _ h) (cwV 2 hts (gV tw_2_24 tw_2_26 tw_0_1 tw_1_4 tw_2_27) rfl rfl rfl (by decide +kernel) (by decide)) (k_preV (ci := 3) hK hV hA hZ t0 rfl _) rfl rfl hl.1 rfl (lv_room (Nat.le_of_ble_eq_true rfl)) dX6_absorbByte_10 ⟨Nat.zero_le _, Nat.zero_le _⟩) hV (fun I_1 L_2 H locs h hV => ?_)
  refine lv_aload_n hx hb dX6_absorbByte_13 rfl (lv_at hl 0 rfl) ?_
  refine lv_dup hx hb dX6_absorbByte_14 rfl ?_
  refine m_geti (C := RX6) (T := TX6) (N := 4) (ci := 3) hx hb hts iwX6 hown hK hV t0 rfl 3 (by decide) rfl rfl (hts _ tw_1_54) (fun _ h9 => h9) dX6_absorbByte_15 ?_
  refine lv_iconst (v := 1) hx hb dX6_absorbByte_18 (by decide) ?_
  refine lv_iadd hx hb dX6_absorbByte_19 ?_
  refine m_puti (C := RX6) (T := TX6) (N := 4) (ci := 3) (ty := .int) hx hb hts iwX6 hown hK hV tyX6 tyX6_ok nmX6 t0 rfl 3 (by decide) rfl rfl (hts _ tw_1_54) (fun _ h9 => h9) rfl (by decide +kernel) rfl rfl dX6_absorbByte_20 (fun H locs hV => ?_)
  obtain ⟨I_3, eI_3⟩ : ∃ y, y = ms I_1 x0 3 ((I_1 x0 3) + 1) := ⟨_, rfl⟩
  replace hV : Wd D X ad n A s.heap J I_3 L_2 H locs := by rw [eI_3]; exact hV
  replace h := h I_3 eI_3
  refine lv_aload_n hx hb dX6_absorbByte_23 rfl (lv_at hl 0 rfl) ?_
  refine m_geti (C := RX6) (T := TX6) (N := 4) (ci := 3) hx hb hts iwX6 hown hK hV t0 rfl 3 (by decide) rfl rfl (hts _ tw_1_54) (fun _ h9 => h9) dX6_absorbByte_24 ?_
  refine lv_aload_n hx hb dX6_absorbByte_27 rfl (lv_at hl 0 rfl) ?_
  refine m_geti (C := RX6) (T := TX6) (N := 4) (ci := 3) hx hb hts iwX6 hown hK hV t0 rfl 1 (by decide) rfl rfl (hts _ tw_1_52) (fun _ h9 => h9) dX6_absorbByte_28 ?_
  refine lv_icmp_ne (tgt := 43) hx hb dX6_absorbByte_31 (by decide) (fun hc => ?_) (fun hc => ?_)
  · replace h := h.1 hc
    exact m_vret hx hb hr hlk hK hZ hA hV h dX6_absorbByte_43
  · replace h := h.2 hc
    refine lv_aload_n hx hb dX6_absorbByte_34 rfl (lv_at hl 0 rfl) ?_
    refine k_callv (va_runV (As := []) (rest := []) ⟨hx, hb, hml, hown, hts⟩ (s_X6_doRounds l D X ad n A J hWT x0 t0 I_3 L_2 _ h) (cwV 0 hts (gV tw_2_28 tw_2_30 tw_0_2 tw_1_4 tw_2_31) rfl rfl rfl (by decide +kernel) (by decide)) (k_preV (ci := 3) hK hV hA hZ t0 rfl _) rfl rfl hl.1 rfl (lv_room (Nat.le_of_ble_eq_true rfl)) dX6_absorbByte_35 ⟨Nat.zero_le _, Nat.zero_le _⟩) hV (fun I_4 L_5 H locs h hV => ?_)
    refine lv_aload_n hx hb dX6_absorbByte_38 rfl (lv_at hl 0 rfl) ?_
    refine lv_iconst (v := 0) hx hb dX6_absorbByte_39 (by decide) ?_
    refine m_puti (C := RX6) (T := TX6) (N := 4) (ci := 3) (ty := .int) hx hb hts iwX6 hown hK hV tyX6 tyX6_ok nmX6 t0 rfl 3 (by decide) rfl rfl (hts _ tw_1_54) (fun _ h9 => h9) rfl (by decide +kernel) rfl rfl dX6_absorbByte_40 (fun H locs hV => ?_)
    obtain ⟨I_6, eI_6⟩ : ∃ y, y = ms I_4 x0 3 0 := ⟨_, rfl⟩
    replace hV : Wd D X ad n A s.heap J I_6 L_5 H locs := by rw [eI_6]; exact hV
    replace h := h I_6 eI_6
    exact m_vret hx hb hr hlk hK hZ hA hV h dX6_absorbByte_43
set_option maxHeartbeats 4000000 in
set_option maxRecDepth 100000 in
theorem n_X6_absorb_3 {p : Program} {l : Launch} {e : Env} {s : State} {m : MethodId} {below : List Frame} {meth : Method} {c : Code} {D : va_G} {X : XT} {ad : Nat → Nat} {n : Nat} {A : Nat → Prop} {J : MJ} {av : List Value} {R : Room} (hR : R = ({ frames := 2, cells := 0, slots := 0, locals := 76 } : Room)) (C0 : Cx p s m meth c cX6_absorb none 5 yX6_absorb av D X ad n A J) {q : MI → ML → Prop}  {x0 : Nat} {x1 : Nat} {x2 : Int32} {x3 : Int32} (t0 : Ty X n x0 7) (t1 : Ty X n x1 5) : ∀ (fu : Nat) (x4 : Int32) (I : MI) (L : ML) (H : Heap) (locs : List Loc) (ls : Array Slot), wl_X6_absorb_3 X J q  x0 x1 x2 x3 fu x4 I L → Wd D X ad n A s.heap J I L H locs → lv_has ls 5 [(0, .ref (ad x0)), (1, .ref (ad x1)), (2, .int x2), (3, .int x3), (4, .int x4)] → W p l e R s m av.toArray below meth c H locs 0 0 (MQ below (QV D X ad n A J q) av.toArray s 0 0 A) (F0 m 3 ls []) := by
  obtain ⟨hx, hb, hr, hml, hown, hlk, hnm, hts, hK, hZ, hA, hWT⟩ := id C0
  subst hR
  intro fu
  induction fu with
  | zero => intro x4 I L H locs ls h; exact absurd h (fun h => h)
  | succ fu ih =>
    intro x4 I L H locs ls h hV hl
    refine lv_iload hx hb dX6_absorb_3 (lv_at hl 4 rfl) ?_
    refine lv_iload_n hx hb dX6_absorb_5 rfl (lv_at hl 3 rfl) ?_
    refine lv_icmp_ge (tgt := 27) hx hb dX6_absorb_6 (by decide) (fun hc => ?_) (fun hc => ?_)
    · replace h := h.1 hc
      exact m_vret hx hb hr hlk hK hZ hA hV h dX6_absorb_27
    · replace h := h.2 hc
      refine lv_aload_n hx hb dX6_absorb_9 rfl (lv_at hl 0 rfl) ?_
      refine lv_aload_n hx hb dX6_absorb_10 rfl (lv_at hl 1 rfl) ?_
      refine lv_iload_n hx hb dX6_absorb_11 rfl (lv_at hl 2 rfl) ?_
      refine lv_iload hx hb dX6_absorb_12 (lv_at hl 4 rfl) ?_
      refine lv_iadd hx hb dX6_absorb_14 ?_
      refine k_calli (va_runV (As := [.int (x2 + x4)]) (rest := [.ref (ad x0)]) ⟨hx, hb, hml, hown, hts⟩ (s_X4_byteAt l D X ad n A J hWT x1 t1 (x2 + x4) I L _ h) (cwV 1 hts (gV tw_2_19 tw_1_235 tw_1_236 tw_1_2 tw_1_237) rfl rfl rfl (by decide +kernel) (by decide)) (k_preV (ci := 1) hK hV hA hZ t1 rfl _) rfl rfl hl.1 rfl (lv_room (Nat.le_of_ble_eq_true rfl)) dX6_absorb_15 ⟨Nat.zero_le _, Nat.zero_le _⟩) hV (fun v_3 I_1 L_2 H locs h hV => ?_)
      refine k_callv (va_runV (As := [.int v_3]) (rest := []) ⟨hx, hb, hml, hown, hts⟩ (s_X6_absorbByte l D X ad n A J hWT x0 t0 v_3 I_1 L_2 _ h) (cwV 1 hts (gV tw_2_20 tw_2_21 tw_2_22 tw_1_4 tw_2_23) rfl rfl rfl (by decide +kernel) (by decide)) (k_preV (ci := 3) hK hV hA hZ t0 rfl _) rfl rfl hl.1 rfl (lv_room (Nat.le_of_ble_eq_true rfl)) dX6_absorb_18 ⟨Nat.zero_le _, Nat.zero_le _⟩) hV (fun I_4 L_5 H locs h hV => ?_)
      obtain ⟨x4_6, ex4_6⟩ : ∃ y : Int32, y = x4 + 1 := ⟨_, rfl⟩
      replace h := h x4_6 ex4_6
      refine lv_iinc (v := x4_6) (lv' := [(4, .int x4_6), (0, .ref (ad x0)), (1, .ref (ad x1)), (2, .int x2), (3, .int x3)]) hx hb dX6_absorb_21 hl (k := 4) rfl (by rw [ex4_6]; rfl) (by decide) rfl (fun ls hl => ?_)
      refine lv_goto (tgt := 3) hx hb dX6_absorb_24 (by decide) ?_
      exact ih x4_6 _ _ _ _ _ h hV (lv_sub hl [1, 2, 3, 4, 0] rfl)
set_option maxHeartbeats 4000000 in
set_option maxRecDepth 100000 in
theorem s_X6_absorb (l : Launch) (D : va_G) (X : XT) (ad : Nat → Nat) (n : Nat) (A : Nat → Prop) (J : MJ) (hWT : WT X n J) (x0 : Nat) (t0 : Ty X n x0 7) (x1 : Nat) (t1 : Ty X n x1 5) (x2 : Int32) (x3 : Int32) (I : MI) (L : ML) (q : MI → ML → Prop) (h : wp_X6_absorb X J x0 x1 x2 x3 I L q) : Met l yX6_absorb (wz yX6_absorb cX6_absorb 5 none) ({ frames := 2, cells := 0, slots := 0, locals := 76 } : Room) (va_Pc [.ref (ad x0), .ref (ad x1), .int x2, .int x3] (Pr D X ad n A J I L)) (QV D X ad n A J q) 0 0 A := by
  refine Met_go (by decide +kernel) (Nat.le_of_ble_eq_true rfl) (fun p e s m below meth c hx hb hr hml hown hlk hnm hts hK hZ hA hV ls hl => ?_)
  have C0 : Cx p s m meth c cX6_absorb none 5 yX6_absorb [.ref (ad x0), .ref (ad x1), .int x2, .int x3] D X ad n A J := ⟨hx, hb, hr, hml, hown, hlk, hnm, hts, hK, hZ, hA, hWT⟩
  unfold wp_X6_absorb at h
  have hl : lv_has ls 5 [(0, .ref (ad x0)), (1, .ref (ad x1)), (2, .int x2), (3, .int x3)] := hl
  refine lv_iconst (v := 0) hx hb dX6_absorb_0 (by decide) ?_
  refine lv_istore (lv' := [(4, .int 0), (0, .ref (ad x0)), (1, .ref (ad x1)), (2, .int x2), (3, .int x3)]) hx hb dX6_absorb_1 hl (by decide) rfl (fun ls hl => ?_)
  obtain ⟨fu0, h⟩ := h
  exact n_X6_absorb_3 rfl C0 t0 t1   fu0 0 _ _ _ _ _ h hV (lv_sub hl [1, 2, 3, 4, 0] rfl)
set_option maxHeartbeats 4000000 in
set_option maxRecDepth 100000 in
theorem s_X6_finish (l : Launch) (D : va_G) (X : XT) (ad : Nat → Nat) (n : Nat) (A : Nat → Prop) (J : MJ) (hWT : WT X n J) (x0 : Nat) (t0 : Ty X n x0 7) (I : MI) (L : ML) (q : MI → ML → Prop) (h : wp_X6_finish X J x0 I L q) : Met l yX6_finish (wz yX6_finish cX6_finish 1 none) ({ frames := 1, cells := 0, slots := 0, locals := 55 } : Room) (va_Pc [.ref (ad x0)] (Pr D X ad n A J I L)) (QV D X ad n A J q) 0 0 A := by
  refine Met_go (by decide +kernel) (Nat.le_of_ble_eq_true rfl) (fun p e s m below meth c hx hb hr hml hown hlk hnm hts hK hZ hA hV ls hl => ?_)
  have C0 : Cx p s m meth c cX6_finish none 1 yX6_finish [.ref (ad x0)] D X ad n A J := ⟨hx, hb, hr, hml, hown, hlk, hnm, hts, hK, hZ, hA, hWT⟩
  unfold wp_X6_finish at h
  have hl : lv_has ls 1 [(0, .ref (ad x0))] := hl
  refine lv_aload_n hx hb dX6_finish_0 rfl (lv_at hl 0 rfl) ?_
  refine lv_aload_n hx hb dX6_finish_1 rfl (lv_at hl 0 rfl) ?_
  refine m_geti (C := RX6) (T := TX6) (N := 4) (ci := 3) hx hb hts iwX6 hown hK hV t0 rfl 3 (by decide) rfl rfl (hts _ tw_1_54) (fun _ h9 => h9) dX6_finish_2 ?_
  refine lv_aload_n hx hb dX6_finish_5 rfl (lv_at hl 0 rfl) ?_
  refine m_geti (C := RX6) (T := TX6) (N := 4) (ci := 3) hx hb hts iwX6 hown hK hV t0 rfl 2 (by decide) rfl rfl (hts _ tw_1_53) (fun _ h9 => h9) dX6_finish_6 ?_
  refine k_callv (va_runV (As := [.int (I x0 3), .int (I x0 2)]) (rest := []) ⟨hx, hb, hml, hown, hts⟩ (s_X6_mixIn l D X ad n A J hWT x0 t0 (I x0 3) (I x0 2) I L _ h) (cwV 2 hts (gV tw_2_24 tw_2_26 tw_0_1 tw_1_4 tw_2_27) rfl rfl rfl (by decide +kernel) (by decide)) (k_preV (ci := 3) hK hV hA hZ t0 rfl _) rfl rfl hl.1 rfl (lv_room (Nat.le_of_ble_eq_true rfl)) dX6_finish_9 ⟨Nat.zero_le _, Nat.zero_le _⟩) hV (fun I_1 L_2 H locs h hV => ?_)
  refine lv_aload_n hx hb dX6_finish_12 rfl (lv_at hl 0 rfl) ?_
  refine lv_aload_n hx hb dX6_finish_13 rfl (lv_at hl 0 rfl) ?_
  refine m_geti (C := RX6) (T := TX6) (N := 4) (ci := 3) hx hb hts iwX6 hown hK hV t0 rfl 1 (by decide) rfl rfl (hts _ tw_1_52) (fun _ h9 => h9) dX6_finish_14 ?_
  refine lv_iconst (v := 1) hx hb dX6_finish_17 (by decide) ?_
  refine lv_isub hx hb dX6_finish_18 ?_
  refine lv_sipush (v := 128) hx hb dX6_finish_19 (by decide) ?_
  refine k_callv (va_runV (As := [.int ((I_1 x0 1) - 1), .int 128]) (rest := []) ⟨hx, hb, hml, hown, hts⟩ (s_X6_mixIn l D X ad n A J hWT x0 t0 ((I_1 x0 1) - 1) 128 I_1 L_2 _ h) (cwV 2 hts (gV tw_2_24 tw_2_26 tw_0_1 tw_1_4 tw_2_27) rfl rfl rfl (by decide +kernel) (by decide)) (k_preV (ci := 3) hK hV hA hZ t0 rfl _) rfl rfl hl.1 rfl (lv_room (Nat.le_of_ble_eq_true rfl)) dX6_finish_22 ⟨Nat.zero_le _, Nat.zero_le _⟩) hV (fun I_3 L_4 H locs h hV => ?_)
  refine lv_aload_n hx hb dX6_finish_25 rfl (lv_at hl 0 rfl) ?_
  refine k_callv (va_runV (As := []) (rest := []) ⟨hx, hb, hml, hown, hts⟩ (s_X6_doRounds l D X ad n A J hWT x0 t0 I_3 L_4 _ h) (cwV 0 hts (gV tw_2_28 tw_2_30 tw_0_2 tw_1_4 tw_2_31) rfl rfl rfl (by decide +kernel) (by decide)) (k_preV (ci := 3) hK hV hA hZ t0 rfl _) rfl rfl hl.1 rfl (lv_room (Nat.le_of_ble_eq_true rfl)) dX6_finish_26 ⟨Nat.zero_le _, Nat.zero_le _⟩) hV (fun I_5 L_6 H locs h hV => ?_)
  refine lv_aload_n hx hb dX6_finish_29 rfl (lv_at hl 0 rfl) ?_
  refine lv_iconst (v := 0) hx hb dX6_finish_30 (by decide) ?_
  refine m_puti (C := RX6) (T := TX6) (N := 4) (ci := 3) (ty := .int) hx hb hts iwX6 hown hK hV tyX6 tyX6_ok nmX6 t0 rfl 3 (by decide) rfl rfl (hts _ tw_1_54) (fun _ h9 => h9) rfl (by decide +kernel) rfl rfl dX6_finish_31 (fun H locs hV => ?_)
  obtain ⟨I_7, eI_7⟩ : ∃ y, y = ms I_5 x0 3 0 := ⟨_, rfl⟩
  replace hV : Wd D X ad n A s.heap J I_7 L_6 H locs := by rw [eI_7]; exact hV
  replace h := h I_7 eI_7
  exact m_vret hx hb hr hlk hK hZ hA hV h dX6_finish_34
set_option maxHeartbeats 4000000 in
set_option maxRecDepth 100000 in
theorem n_X6_tellByte_20 {p : Program} {l : Launch} {e : Env} {s : State} {m : MethodId} {below : List Frame} {meth : Method} {c : Code} {D : va_G} {X : XT} {ad : Nat → Nat} {n : Nat} {A : Nat → Prop} {J : MJ} {av : List Value} {R : Room} (hR : R = ({ frames := 1, cells := 0, slots := 0, locals := 55 } : Room)) (C0 : Cx p s m meth c cX6_tellByte (some .int) 2 yX6_tellByte av D X ad n A J) {q : Int32 → MI → ML → Prop}  {x0 : Nat}  {I : MI} {L : ML} {H : Heap} {locs : List Loc} {ls : Array Slot} (t0 : Ty X n x0 7) (h : wj_X6_tellByte_20 X J q  x0  I L) (hV : Wd D X ad n A s.heap J I L H locs) (hl : lv_has ls 2 [(0, .ref (ad x0))]) : W p l e R s m av.toArray below meth c H locs 0 0 (MQ below (QI D X ad n A J q) av.toArray s 0 0 A) (F0 m 20 ls []) := by
  obtain ⟨hx, hb, hr, hml, hown, hlk, hnm, hts, hK, hZ, hA, hWT⟩ := id C0
  subst hR
  unfold wj_X6_tellByte_20 at h
  refine lv_aload_n hx hb dX6_tellByte_20 rfl (lv_at hl 0 rfl) ?_
  obtain ⟨r_1, hr_1, h⟩ := h
  have tr_1 : Ty X n r_1 2 := hWT.r (c := 3) (j := 0) t0 rfl hr_1
  refine m_getr (C := RX6) (T := TX6) (N := 4) (ci := 3) hx hb hts iwX6 hown hK hV t0 rfl 0 (by decide) rfl rfl hr_1 (hts _ tw_1_51) (fun _ h9 => h9) dX6_tellByte_21 ?_
  refine lv_aload_n hx hb dX6_tellByte_24 rfl (lv_at hl 0 rfl) ?_
  refine m_geti (C := RX6) (T := TX6) (N := 4) (ci := 3) hx hb hts iwX6 hown hK hV t0 rfl 3 (by decide) rfl rfl (hts _ tw_1_54) (fun _ h9 => h9) dX6_tellByte_25 ?_
  refine lv_iconst (v := 3) hx hb dX6_tellByte_28 (by decide) ?_
  refine lv_ishr hx hb dX6_tellByte_29 ?_
  obtain ⟨hi_2, h⟩ := h
  refine m_lald hx hb hK hV tr_1 hi_2 dX6_tellByte_30 ?_
  refine lv_aload_n hx hb dX6_tellByte_31 rfl (lv_at hl 0 rfl) ?_
  refine m_geti (C := RX6) (T := TX6) (N := 4) (ci := 3) hx hb hts iwX6 hown hK hV t0 rfl 3 (by decide) rfl rfl (hts _ tw_1_54) (fun _ h9 => h9) dX6_tellByte_32 ?_
  refine lv_bipush (v := 7) hx hb dX6_tellByte_35 (by decide) ?_
  refine lv_iand hx hb dX6_tellByte_37 ?_
  refine lv_iconst (v := 3) hx hb dX6_tellByte_38 (by decide) ?_
  refine lv_ishl hx hb dX6_tellByte_39 ?_
  refine lv_lushr hx hb dX6_tellByte_40 rfl ?_
  refine lv_l2i hx hb dX6_tellByte_41 rfl ?_
  refine lv_sipush (v := 255) hx hb dX6_tellByte_42 (by decide) ?_
  refine lv_iand hx hb dX6_tellByte_45 ?_
  refine lv_topi (fun x1_3 ex1_3 => ?_)
  replace h := h x1_3 ex1_3
  refine lv_istore_n (lv' := [(1, .int x1_3), (0, .ref (ad x0))]) hx hb dX6_tellByte_46 rfl hl (by decide) rfl (fun ls hl => ?_)
  refine lv_aload_n hx hb dX6_tellByte_47 rfl (lv_at hl 1 rfl) ?_
  refine lv_dup hx hb dX6_tellByte_48 rfl ?_
  refine m_geti (C := RX6) (T := TX6) (N := 4) (ci := 3) hx hb hts iwX6 hown hK hV t0 rfl 3 (by decide) rfl rfl (hts _ tw_1_54) (fun _ h9 => h9) dX6_tellByte_49 ?_
  refine lv_iconst (v := 1) hx hb dX6_tellByte_52 (by decide) ?_
  refine lv_iadd hx hb dX6_tellByte_53 ?_
  refine m_puti (C := RX6) (T := TX6) (N := 4) (ci := 3) (ty := .int) hx hb hts iwX6 hown hK hV tyX6 tyX6_ok nmX6 t0 rfl 3 (by decide) rfl rfl (hts _ tw_1_54) (fun _ h9 => h9) rfl (by decide +kernel) rfl rfl dX6_tellByte_54 (fun H locs hV => ?_)
  obtain ⟨I_4, eI_4⟩ : ∃ y, y = ms I x0 3 ((I x0 3) + 1) := ⟨_, rfl⟩
  replace hV : Wd D X ad n A s.heap J I_4 L H locs := by rw [eI_4]; exact hV
  replace h := h I_4 eI_4
  refine lv_iload_n hx hb dX6_tellByte_57 rfl (lv_at hl 0 rfl) ?_
  exact m_iret hx hb hr hlk hK hZ hA hV h dX6_tellByte_58
set_option maxHeartbeats 4000000 in
set_option maxRecDepth 100000 in
theorem s_X6_tellByte (l : Launch) (D : va_G) (X : XT) (ad : Nat → Nat) (n : Nat) (A : Nat → Prop) (J : MJ) (hWT : WT X n J) (x0 : Nat) (t0 : Ty X n x0 7) (I : MI) (L : ML) (q : Int32 → MI → ML → Prop) (h : wp_X6_tellByte X J x0 I L q) : Met l yX6_tellByte (wz yX6_tellByte cX6_tellByte 2 (some .int)) ({ frames := 1, cells := 0, slots := 0, locals := 55 } : Room) (va_Pc [.ref (ad x0)] (Pr D X ad n A J I L)) (QI D X ad n A J q) 0 0 A := by
  refine Met_go (by decide +kernel) (Nat.le_of_ble_eq_true rfl) (fun p e s m below meth c hx hb hr hml hown hlk hnm hts hK hZ hA hV ls hl => ?_)
  have C0 : Cx p s m meth c cX6_tellByte (some .int) 2 yX6_tellByte [.ref (ad x0)] D X ad n A J := ⟨hx, hb, hr, hml, hown, hlk, hnm, hts, hK, hZ, hA, hWT⟩
  unfold wp_X6_tellByte at h
  have hl : lv_has ls 2 [(0, .ref (ad x0))] := hl
  refine lv_aload_n hx hb dX6_tellByte_0 rfl (lv_at hl 0 rfl) ?_
  refine m_geti (C := RX6) (T := TX6) (N := 4) (ci := 3) hx hb hts iwX6 hown hK hV t0 rfl 3 (by decide) rfl rfl (hts _ tw_1_54) (fun _ h9 => h9) dX6_tellByte_1 ?_
  refine lv_aload_n hx hb dX6_tellByte_4 rfl (lv_at hl 0 rfl) ?_
  refine m_geti (C := RX6) (T := TX6) (N := 4) (ci := 3) hx hb hts iwX6 hown hK hV t0 rfl 1 (by decide) rfl rfl (hts _ tw_1_52) (fun _ h9 => h9) dX6_tellByte_5 ?_
  refine lv_icmp_ne (tgt := 20) hx hb dX6_tellByte_8 (by decide) (fun hc => ?_) (fun hc => ?_)
  · replace h := h.1 hc
    exact n_X6_tellByte_20 rfl C0 t0   h hV (lv_sub hl [0] rfl)
  · replace h := h.2 hc
    refine lv_aload_n hx hb dX6_tellByte_11 rfl (lv_at hl 0 rfl) ?_
    refine k_callv (va_runV (As := []) (rest := []) ⟨hx, hb, hml, hown, hts⟩ (s_X6_doRounds l D X ad n A J hWT x0 t0 I L _ h) (cwV 0 hts (gV tw_2_28 tw_2_30 tw_0_2 tw_1_4 tw_2_31) rfl rfl rfl (by decide +kernel) (by decide)) (k_preV (ci := 3) hK hV hA hZ t0 rfl _) rfl rfl hl.1 rfl (lv_room (Nat.le_of_ble_eq_true rfl)) dX6_tellByte_12 ⟨Nat.zero_le _, Nat.zero_le _⟩) hV (fun I_5 L_6 H locs h hV => ?_)
    refine lv_aload_n hx hb dX6_tellByte_15 rfl (lv_at hl 0 rfl) ?_
    refine lv_iconst (v := 0) hx hb dX6_tellByte_16 (by decide) ?_
    refine m_puti (C := RX6) (T := TX6) (N := 4) (ci := 3) (ty := .int) hx hb hts iwX6 hown hK hV tyX6 tyX6_ok nmX6 t0 rfl 3 (by decide) rfl rfl (hts _ tw_1_54) (fun _ h9 => h9) rfl (by decide +kernel) rfl rfl dX6_tellByte_17 (fun H locs hV => ?_)
    obtain ⟨I_7, eI_7⟩ : ∃ y, y = ms I_5 x0 3 0 := ⟨_, rfl⟩
    replace hV : Wd D X ad n A s.heap J I_7 L_6 H locs := by rw [eI_7]; exact hV
    replace h := h I_7 eI_7
    exact n_X6_tellByte_20 rfl C0 t0   h hV (lv_sub hl [0] rfl)
set_option maxHeartbeats 4000000 in
set_option maxRecDepth 100000 in
theorem n_X6_tellTo_2 {p : Program} {l : Launch} {e : Env} {s : State} {m : MethodId} {below : List Frame} {meth : Method} {c : Code} {D : va_G} {X : XT} {ad : Nat → Nat} {n : Nat} {A : Nat → Prop} {J : MJ} {av : List Value} {R : Room} (hR : R = ({ frames := 2, cells := 0, slots := 0, locals := 76 } : Room)) (C0 : Cx p s m meth c cX6_tellTo none 4 yX6_tellTo av D X ad n A J) {q : MI → ML → Prop}  {x0 : Nat} {x1 : Nat} {x2 : Int32} (t0 : Ty X n x0 7) (t1 : Ty X n x1 5) : ∀ (fu : Nat) (x3 : Int32) (I : MI) (L : ML) (H : Heap) (locs : List Loc) (ls : Array Slot), wl_X6_tellTo_2 X J q  x0 x1 x2 fu x3 I L → Wd D X ad n A s.heap J I L H locs → lv_has ls 4 [(0, .ref (ad x0)), (1, .ref (ad x1)), (2, .int x2), (3, .int x3)] → W p l e R s m av.toArray below meth c H locs 0 0 (MQ below (QV D X ad n A J q) av.toArray s 0 0 A) (F0 m 2 ls []) := by
  obtain ⟨hx, hb, hr, hml, hown, hlk, hnm, hts, hK, hZ, hA, hWT⟩ := id C0
  subst hR
  intro fu
  induction fu with
  | zero => intro x3 I L H locs ls h; exact absurd h (fun h => h)
  | succ fu ih =>
    intro x3 I L H locs ls h hV hl
    refine lv_iload_n hx hb dX6_tellTo_2 rfl (lv_at hl 3 rfl) ?_
    refine lv_iload_n hx hb dX6_tellTo_3 rfl (lv_at hl 2 rfl) ?_
    refine lv_icmp_ge (tgt := 21) hx hb dX6_tellTo_4 (by decide) (fun hc => ?_) (fun hc => ?_)
    · replace h := h.1 hc
      exact m_vret hx hb hr hlk hK hZ hA hV h dX6_tellTo_21
    · replace h := h.2 hc
      refine lv_aload_n hx hb dX6_tellTo_7 rfl (lv_at hl 1 rfl) ?_
      refine lv_aload_n hx hb dX6_tellTo_8 rfl (lv_at hl 0 rfl) ?_
      refine k_calli (va_runV (As := []) (rest := [.ref (ad x1)]) ⟨hx, hb, hml, hown, hts⟩ (s_X6_tellByte l D X ad n A J hWT x0 t0 I L _ h) (cwV 0 hts (gV tw_2_53 tw_2_54 tw_2_55 tw_1_4 tw_2_56) rfl rfl rfl (by decide +kernel) (by decide)) (k_preV (ci := 3) hK hV hA hZ t0 rfl _) rfl rfl hl.1 rfl (lv_room (Nat.le_of_ble_eq_true rfl)) dX6_tellTo_9 ⟨Nat.zero_le _, Nat.zero_le _⟩) hV (fun v_3 I_1 L_2 H locs h hV => ?_)
      refine k_callv (va_runV (As := [.int v_3]) (rest := []) ⟨hx, hb, hml, hown, hts⟩ (s_X4_append l D X ad n A J hWT x1 t1 v_3 I_1 L_2 _ h) (cwV 1 hts (gV tw_2_57 tw_1_167 tw_1_168 tw_1_2 tw_1_169) rfl rfl rfl (by decide +kernel) (by decide)) (k_preV (ci := 1) hK hV hA hZ t1 rfl _) rfl rfl hl.1 rfl (lv_room (Nat.le_of_ble_eq_true rfl)) dX6_tellTo_12 ⟨Nat.zero_le _, Nat.zero_le _⟩) hV (fun I_4 L_5 H locs h hV => ?_)
      obtain ⟨x3_6, ex3_6⟩ : ∃ y : Int32, y = x3 + 1 := ⟨_, rfl⟩
      replace h := h x3_6 ex3_6
      refine lv_iinc (v := x3_6) (lv' := [(3, .int x3_6), (0, .ref (ad x0)), (1, .ref (ad x1)), (2, .int x2)]) hx hb dX6_tellTo_15 hl (k := 3) rfl (by rw [ex3_6]; rfl) (by decide) rfl (fun ls hl => ?_)
      refine lv_goto (tgt := 2) hx hb dX6_tellTo_18 (by decide) ?_
      exact ih x3_6 _ _ _ _ _ h hV (lv_sub hl [1, 2, 3, 0] rfl)
set_option maxHeartbeats 4000000 in
set_option maxRecDepth 100000 in
theorem s_X6_tellTo (l : Launch) (D : va_G) (X : XT) (ad : Nat → Nat) (n : Nat) (A : Nat → Prop) (J : MJ) (hWT : WT X n J) (x0 : Nat) (t0 : Ty X n x0 7) (x1 : Nat) (t1 : Ty X n x1 5) (x2 : Int32) (I : MI) (L : ML) (q : MI → ML → Prop) (h : wp_X6_tellTo X J x0 x1 x2 I L q) : Met l yX6_tellTo (wz yX6_tellTo cX6_tellTo 4 none) ({ frames := 2, cells := 0, slots := 0, locals := 76 } : Room) (va_Pc [.ref (ad x0), .ref (ad x1), .int x2] (Pr D X ad n A J I L)) (QV D X ad n A J q) 0 0 A := by
  refine Met_go (by decide +kernel) (Nat.le_of_ble_eq_true rfl) (fun p e s m below meth c hx hb hr hml hown hlk hnm hts hK hZ hA hV ls hl => ?_)
  have C0 : Cx p s m meth c cX6_tellTo none 4 yX6_tellTo [.ref (ad x0), .ref (ad x1), .int x2] D X ad n A J := ⟨hx, hb, hr, hml, hown, hlk, hnm, hts, hK, hZ, hA, hWT⟩
  unfold wp_X6_tellTo at h
  have hl : lv_has ls 4 [(0, .ref (ad x0)), (1, .ref (ad x1)), (2, .int x2)] := hl
  refine lv_iconst (v := 0) hx hb dX6_tellTo_0 (by decide) ?_
  refine lv_istore_n (lv' := [(3, .int 0), (0, .ref (ad x0)), (1, .ref (ad x1)), (2, .int x2)]) hx hb dX6_tellTo_1 rfl hl (by decide) rfl (fun ls hl => ?_)
  obtain ⟨fu0, h⟩ := h
  exact n_X6_tellTo_2 rfl C0 t0 t1   fu0 0 _ _ _ _ _ h hV (lv_sub hl [1, 2, 3, 0] rfl)
