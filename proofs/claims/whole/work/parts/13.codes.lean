theorem tw_2_88 : Cond.methodLink RX0 9 yX4_append ∈ gt := g2 88 (by decide +kernel) (by decide +kernel)
theorem tw_2_146 : Cond.methodLink RX0 15 yX4_byteAt ∈ gt := g2 146 (by decide +kernel) (by decide +kernel)
theorem tw_2_147 : Cond.methodLink RX0 19 yX0_firstGroup ∈ gt := g2 147 (by decide +kernel) (by decide +kernel)
theorem tw_2_94 : Cond.static yX0_firstGroup ∈ gt := g2 94 (by decide +kernel) (by decide +kernel)
theorem tw_1_14 : Cond.initialized RX0 ∈ gt := g1 14 (by decide +kernel) (by decide +kernel)
theorem tw_2_95 : Cond.code yX0_firstGroup cX0_firstGroup 2 (some .int) ∈ gt := g2 95 rfl (by rfl)
theorem tw_2_148 : Cond.methodLink RX0 25 yX0_secondGroup ∈ gt := g2 148 (by decide +kernel) (by decide +kernel)
theorem tw_2_100 : Cond.static yX0_secondGroup ∈ gt := g2 100 (by decide +kernel) (by decide +kernel)
theorem tw_2_101 : Cond.code yX0_secondGroup cX0_secondGroup 2 (some .int) ∈ gt := g2 101 rfl (by rfl)
theorem tw_2_80 : Cond.fieldLink RX3 9 "LatticeVault$Ring" "ROOTS" "[I" ∈ gt := g2 80 (by decide +kernel) (by decide +kernel)
theorem tw_2_82 : Cond.methodLink RX3 15 yX3_splitBlock ∈ gt := g2 82 (by decide +kernel) (by decide +kernel)
theorem tw_2_83 : Cond.static yX3_splitBlock ∈ gt := g2 83 (by decide +kernel) (by decide +kernel)
theorem tw_1_13 : Cond.initialized RX3 ∈ gt := g1 13 (by decide +kernel) (by decide +kernel)
theorem tw_2_84 : Cond.code yX3_splitBlock cX3_splitBlock 7 none ∈ gt := g2 84 rfl (by rfl)
theorem tw_2_188 : Cond.methodLink RX3 19 yX3_joinBlock ∈ gt := g2 188 (by decide +kernel) (by decide +kernel)
theorem tw_2_189 : Cond.static yX3_joinBlock ∈ gt := g2 189 (by decide +kernel) (by decide +kernel)
theorem tw_2_190 : Cond.code yX3_joinBlock cX3_joinBlock 7 none ∈ gt := g2 190 rfl (by rfl)
theorem tw_2_109 : Cond.methodLink RX3 22 yX3_multiplyPair ∈ gt := g2 109 (by decide +kernel) (by decide +kernel)
theorem tw_2_110 : Cond.static yX3_multiplyPair ∈ gt := g2 110 (by decide +kernel) (by decide +kernel)
theorem tw_2_111 : Cond.code yX3_multiplyPair cX3_multiplyPair 7 none ∈ gt := g2 111 rfl (by rfl)
def wl_X0_compress_8 (X : XT) (J : MJ) (q : MI → ML → Prop)  (x0 : Nat) (x1 : Int32) (x2 : Int32) : Nat → Int32 → MI → ML → Prop
  | 0 => fun _ _ _ => False
  | fu + 1 => fun x3 I L => (((256 ≤ x3) → q I L) ∧ (¬ (256 ≤ x3) → (vp_in x3 (sl X x0) ∧ (vp_in x3 (sl X x0) ∧ ∀ I_4, I_4 = ms I x0 x3.toNatClampNeg ((((jshl (I x0 x3.toNatClampNeg) (x1 + 1)) + 3329) / 6658) &&& x2) → (∀ x3_5 : Int32, x3_5 = x3 + 1 → wl_X0_compress_8 X J q  x0 x1 x2 fu x3_5 I_4 L)))))
def wp_X0_compress (X : XT) (J : MJ) (x0 : Nat) (x1 : Int32) (I : MI) (L : ML) (q : MI → ML → Prop) : Prop := (∀ x2_1 : Int32, x2_1 = (jshl 1 x1) - 1 → ∃ fu0 : Nat, wl_X0_compress_8 X J q  x0 x1 x2_1 fu0 0 I L)
def wl_X0_decompress_15 (X : XT) (J : MJ) (q : MI → ML → Prop)  (x0 : Nat) (x1 : Int32) (x2 : Int32) (x3 : Int32) : Nat → Int32 → MI → ML → Prop
  | 0 => fun _ _ _ => False
  | fu + 1 => fun x4 I L => (((256 ≤ x4) → q I L) ∧ (¬ (256 ≤ x4) → (vp_in x4 (sl X x0) ∧ (vp_in x4 (sl X x0) ∧ ∀ I_5, I_5 = ms I x0 x4.toNatClampNeg (jshr ((((I x0 x4.toNatClampNeg) &&& x2) * 3329) + x3) x1) → (∀ x4_6 : Int32, x4_6 = x4 + 1 → wl_X0_decompress_15 X J q  x0 x1 x2 x3 fu x4_6 I_5 L)))))
def wp_X0_decompress (X : XT) (J : MJ) (x0 : Nat) (x1 : Int32) (I : MI) (L : ML) (q : MI → ML → Prop) : Prop := (∀ x2_1 : Int32, x2_1 = (jshl 1 x1) - 1 → (∀ x3_2 : Int32, x3_2 = jshl 1 (x1 - 1) → ∃ fu0 : Nat, wl_X0_decompress_15 X J q  x0 x1 x2_1 x3_2 fu0 0 I L))
def wl_X0_pack_43 (X : XT) (J : MJ) (q : MI → ML → Prop) (k15 : Int32 → Int32 → Int32 → MI → ML → Prop) (x0 : Nat) (x1 : Int32) (x2 : Nat) (x3 : Int32) (x6 : Int32) : Nat → Int32 → Int32 → MI → ML → Prop
  | 0 => fun _ _ _ _ => False
  | fu + 1 => fun x4 x5 I L => (((x5 < 8) → (∀ x6_5 : Int32, x6_5 = x6 + 1 → k15 x4 x5 x6_5 I L)) ∧ (¬ (x5 < 8) → (wp_X4_append X J x2 x4 I L (fun I_6 L_7 => (∀ x4_8 : Int32, x4_8 = jushr x4 8 → (∀ x5_9 : Int32, x5_9 = x5 + (-8) → wl_X0_pack_43 X J q k15 x0 x1 x2 x3 x6 fu x4_8 x5_9 I_6 L_7))))))
def wl_X0_pack_15 (X : XT) (J : MJ) (q : MI → ML → Prop)  (x0 : Nat) (x1 : Int32) (x2 : Nat) (x3 : Int32) : Nat → Int32 → Int32 → Int32 → MI → ML → Prop
  | 0 => fun _ _ _ _ _ => False
  | fu + 1 => fun x4 x5 x6 I L => (((256 ≤ x6) → q I L) ∧ (¬ (256 ≤ x6) → (vp_in x6 (sl X x0) ∧ (∀ x4_3 : Int32, x4_3 = x4 ||| (jshl ((I x0 x6.toNatClampNeg) &&& x3) x5) → (∀ x5_4 : Int32, x5_4 = x5 + x1 → ∃ fu0 : Nat, wl_X0_pack_43 X J q (wl_X0_pack_15 X J q  x0 x1 x2 x3 fu) x0 x1 x2 x3 x6 fu0 x4_3 x5_4 I L)))))
def wp_X0_pack (X : XT) (J : MJ) (x0 : Nat) (x1 : Int32) (x2 : Nat) (I : MI) (L : ML) (q : MI → ML → Prop) : Prop := (∀ x3_1 : Int32, x3_1 = (jshl 1 x1) - 1 → ∃ fu0 : Nat, wl_X0_pack_15 X J q  x0 x1 x2 x3_1 fu0 0 0 0 I L)
def wl_X0_unpack_27 (X : XT) (J : MJ) (q : MI → ML → Prop) (k19 : Int32 → Int32 → Int32 → Int32 → MI → ML → Prop) (x0 : Nat) (x1 : Int32) (x2 : Nat) (x4 : Int32) (x8 : Int32) : Nat → Int32 → Int32 → Int32 → MI → ML → Prop
  | 0 => fun _ _ _ _ _ => False
  | fu + 1 => fun x5 x6 x7 I L => (((x1 ≤ x6) → (vp_in x8 (sl X x0) ∧ ∀ I_3, I_3 = ms I x0 x8.toNatClampNeg (jrem (x5 &&& x4) 3329) → (∀ x5_4 : Int32, x5_4 = jushr x5 x1 → (∀ x6_5 : Int32, x6_5 = x6 - x1 → (∀ x8_6 : Int32, x8_6 = x8 + 1 → k19 x5_4 x6_5 x7 x8_6 I_3 L))))) ∧ (¬ (x1 ≤ x6) → (wp_X4_byteAt X J x2 x7 I L (fun v_9 I_7 L_8 => (∀ x5_10 : Int32, x5_10 = x5 ||| (jshl v_9 x6) → (∀ x7_11 : Int32, x7_11 = x7 + 1 → (∀ x6_12 : Int32, x6_12 = x6 + 8 → wl_X0_unpack_27 X J q k19 x0 x1 x2 x4 x8 fu x5_10 x6_12 x7_11 I_7 L_8)))))))
def wl_X0_unpack_19 (X : XT) (J : MJ) (q : MI → ML → Prop)  (x0 : Nat) (x1 : Int32) (x2 : Nat) (x4 : Int32) : Nat → Int32 → Int32 → Int32 → Int32 → MI → ML → Prop
  | 0 => fun _ _ _ _ _ _ => False
  | fu + 1 => fun x5 x6 x7 x8 I L => (((256 ≤ x8) → q I L) ∧ (¬ (256 ≤ x8) → ∃ fu0 : Nat, wl_X0_unpack_27 X J q (wl_X0_unpack_19 X J q  x0 x1 x2 x4 fu) x0 x1 x2 x4 x8 fu0 x5 x6 x7 I L))
def wp_X0_unpack (X : XT) (J : MJ) (x0 : Nat) (x1 : Int32) (x2 : Nat) (x3 : Int32) (I : MI) (L : ML) (q : MI → ML → Prop) : Prop := (∀ x4_1 : Int32, x4_1 = (jshl 1 x1) - 1 → ∃ fu0 : Nat, wl_X0_unpack_19 X J q  x0 x1 x2 x4_1 fu0 0 0 x3 0 I L)
def wp_X0_firstGroup (X : XT) (J : MJ) (x0 : Int32) (x1 : Int32) (I : MI) (L : ML) (q : Int32 → MI → ML → Prop) : Prop := q (x0 ||| (jshl (x1 &&& 15) 8)) I L
def wp_X0_secondGroup (X : XT) (J : MJ) (x0 : Int32) (x1 : Int32) (I : MI) (L : ML) (q : Int32 → MI → ML → Prop) : Prop := q ((jshr x0 4) ||| (jshl x1 4)) I L
def wl_X0_groupsAreSmall_2 (X : XT) (J : MJ) (q : Int32 → MI → ML → Prop)  (x0 : Nat) (x1 : Int32) : Nat → Int32 → MI → ML → Prop
  | 0 => fun _ _ _ => False
  | fu + 1 => fun x2 I L => (((x1 ≤ (x2 + 2)) → q 1 I L) ∧ (¬ (x1 ≤ (x2 + 2)) → (wp_X4_byteAt X J x0 (x2 + 1) I L (fun v_3 I_1 L_2 => (wp_X4_byteAt X J x0 x2 I_1 L_2 (fun v_6 I_4 L_5 => (wp_X0_firstGroup X J v_6 v_3 I_4 L_5 (fun v_9 I_7 L_8 => (((3329 ≤ v_9) → q 0 I_7 L_8) ∧ (¬ (3329 ≤ v_9) → (wp_X4_byteAt X J x0 (x2 + 2) I_7 L_8 (fun v_12 I_10 L_11 => (wp_X0_secondGroup X J v_3 v_12 I_10 L_11 (fun v_15 I_13 L_14 => (((v_15 < 3329) → (∀ x2_16 : Int32, x2_16 = x2 + 3 → wl_X0_groupsAreSmall_2 X J q  x0 x1 fu x2_16 I_13 L_14)) ∧ (¬ (v_15 < 3329) → q 0 I_13 L_14))))))))))))))))
def wp_X0_groupsAreSmall (X : XT) (J : MJ) (x0 : Nat) (x1 : Int32) (I : MI) (L : ML) (q : Int32 → MI → ML → Prop) : Prop := ∃ fu0 : Nat, wl_X0_groupsAreSmall_2 X J q  x0 x1 fu0 0 I L
def wl_X3_splitBlock_3 (X : XT) (J : MJ) (q : MI → ML → Prop)  (x0 : Nat) (x1 : Int32) (x2 : Int32) (x3 : Int32) : Nat → Int32 → MI → ML → Prop
  | 0 => fun _ _ _ => False
  | fu + 1 => fun x4 I L => ((((x1 + x2) ≤ x4) → q I L) ∧ (¬ ((x1 + x2) ≤ x4) → (vp_in x4 (sl X x0) ∧ (∀ x5_2 : Int32, x5_2 = I x0 x4.toNatClampNeg → (vp_in (x4 + x2) (sl X x0) ∧ (∀ x6_4 : Int32, x6_4 = jrem ((I x0 (x4 + x2).toNatClampNeg) * x3) 3329 → (vp_in x4 (sl X x0) ∧ ∀ I_6, I_6 = ms I x0 x4.toNatClampNeg (jrem (x5_2 + x6_4) 3329) → (vp_in (x4 + x2) (sl X x0) ∧ ∀ I_8, I_8 = ms I_6 x0 (x4 + x2).toNatClampNeg (jrem ((x5_2 - x6_4) + 3329) 3329) → (∀ x4_9 : Int32, x4_9 = x4 + 1 → wl_X3_splitBlock_3 X J q  x0 x1 x2 x3 fu x4_9 I_8 L)))))))))
def wp_X3_splitBlock (X : XT) (J : MJ) (x0 : Nat) (x1 : Int32) (x2 : Int32) (x3 : Int32) (I : MI) (L : ML) (q : MI → ML → Prop) : Prop := ∃ fu0 : Nat, wl_X3_splitBlock_3 X J q  x0 x1 x2 x3 fu0 x1 I L
def wl_X3_toPairs_13 (X : XT) (J : MJ) (q : MI → ML → Prop) (k6 : Int32 → Int32 → MI → ML → Prop) (x0 : Nat) (x2 : Int32) : Nat → Int32 → Int32 → MI → ML → Prop
  | 0 => fun _ _ _ _ => False
  | fu + 1 => fun x1 x3 I L => (((256 ≤ x3) → (∀ x2_1 : Int32, x2_1 = jshr x2 1 → k6 x1 x2_1 I L)) ∧ (¬ (256 ≤ x3) → (vp_in x1 (stL 3) ∧ (wp_X3_splitBlock X J x0 x3 x2 (sI 3 x1.toNatClampNeg) I L (fun I_3 L_4 => (∀ x1_5 : Int32, x1_5 = x1 + 1 → (∀ x3_6 : Int32, x3_6 = x3 + (2 * x2) → wl_X3_toPairs_13 X J q k6 x0 x2 fu x1_5 x3_6 I_3 L_4)))))))
def wl_X3_toPairs_6 (X : XT) (J : MJ) (q : MI → ML → Prop)  (x0 : Nat) : Nat → Int32 → Int32 → MI → ML → Prop
  | 0 => fun _ _ _ _ => False
  | fu + 1 => fun x1 x2 I L => (((x2 < 2) → q I L) ∧ (¬ (x2 < 2) → ∃ fu0 : Nat, wl_X3_toPairs_13 X J q (wl_X3_toPairs_6 X J q  x0 fu) x0 x2 fu0 x1 0 I L))
def wp_X3_toPairs (X : XT) (J : MJ) (x0 : Nat) (I : MI) (L : ML) (q : MI → ML → Prop) : Prop := ∃ fu0 : Nat, wl_X3_toPairs_6 X J q  x0 fu0 1 128 I L
def wl_X3_joinBlock_3 (X : XT) (J : MJ) (q : MI → ML → Prop)  (x0 : Nat) (x1 : Int32) (x2 : Int32) (x3 : Int32) : Nat → Int32 → MI → ML → Prop
  | 0 => fun _ _ _ => False
  | fu + 1 => fun x4 I L => ((((x1 + x2) ≤ x4) → q I L) ∧ (¬ ((x1 + x2) ≤ x4) → (vp_in x4 (sl X x0) ∧ (∀ x5_2 : Int32, x5_2 = I x0 x4.toNatClampNeg → (vp_in (x4 + x2) (sl X x0) ∧ (∀ x6_4 : Int32, x6_4 = I x0 (x4 + x2).toNatClampNeg → (vp_in x4 (sl X x0) ∧ ∀ I_6, I_6 = ms I x0 x4.toNatClampNeg (jrem (x5_2 + x6_4) 3329) → (vp_in (x4 + x2) (sl X x0) ∧ ∀ I_8, I_8 = ms I_6 x0 (x4 + x2).toNatClampNeg (jrem (((x6_4 - x5_2) + 3329) * x3) 3329) → (∀ x4_9 : Int32, x4_9 = x4 + 1 → wl_X3_joinBlock_3 X J q  x0 x1 x2 x3 fu x4_9 I_8 L)))))))))
def wp_X3_joinBlock (X : XT) (J : MJ) (x0 : Nat) (x1 : Int32) (x2 : Int32) (x3 : Int32) (I : MI) (L : ML) (q : MI → ML → Prop) : Prop := ∃ fu0 : Nat, wl_X3_joinBlock_3 X J q  x0 x1 x2 x3 fu0 x1 I L
def wl_X3_fromPairs_53 (X : XT) (J : MJ) (q : MI → ML → Prop)  (x0 : Nat) : Nat → Int32 → MI → ML → Prop
  | 0 => fun _ _ _ => False
  | fu + 1 => fun x2 I L => (((256 ≤ x2) → q I L) ∧ (¬ (256 ≤ x2) → (vp_in x2 (sl X x0) ∧ (vp_in x2 (sl X x0) ∧ ∀ I_3, I_3 = ms I x0 x2.toNatClampNeg (jrem ((I x0 x2.toNatClampNeg) * 3303) 3329) → (∀ x2_4 : Int32, x2_4 = x2 + 1 → wl_X3_fromPairs_53 X J q  x0 fu x2_4 I_3 L)))))
def wl_X3_fromPairs_14 (X : XT) (J : MJ) (q : MI → ML → Prop) (k5 : Int32 → Int32 → MI → ML → Prop) (x0 : Nat) (x2 : Int32) : Nat → Int32 → Int32 → MI → ML → Prop
  | 0 => fun _ _ _ _ => False
  | fu + 1 => fun x1 x3 I L => (((256 ≤ x3) → (∀ x2_5 : Int32, x2_5 = jshl x2 1 → k5 x1 x2_5 I L)) ∧ (¬ (256 ≤ x3) → (vp_in x1 (stL 3) ∧ (wp_X3_joinBlock X J x0 x3 x2 (sI 3 x1.toNatClampNeg) I L (fun I_7 L_8 => (∀ x1_9 : Int32, x1_9 = x1 + (-1) → (∀ x3_10 : Int32, x3_10 = x3 + (2 * x2) → wl_X3_fromPairs_14 X J q k5 x0 x2 fu x1_9 x3_10 I_7 L_8)))))))
def wl_X3_fromPairs_5 (X : XT) (J : MJ) (q : MI → ML → Prop)  (x0 : Nat) : Nat → Int32 → Int32 → MI → ML → Prop
  | 0 => fun _ _ _ _ => False
  | fu + 1 => fun x1 x2 I L => (((128 < x2) → ∃ fu0 : Nat, wl_X3_fromPairs_53 X J q  x0 fu0 0 I L) ∧ (¬ (128 < x2) → ∃ fu0 : Nat, wl_X3_fromPairs_14 X J q (wl_X3_fromPairs_5 X J q  x0 fu) x0 x2 fu0 x1 0 I L))
def wp_X3_fromPairs (X : XT) (J : MJ) (x0 : Nat) (I : MI) (L : ML) (q : MI → ML → Prop) : Prop := ∃ fu0 : Nat, wl_X3_fromPairs_5 X J q  x0 fu0 127 2 I L
def wp_X3_multiplyPair (X : XT) (J : MJ) (x0 : Nat) (x1 : Nat) (x2 : Nat) (x3 : Int32) (x4 : Int32) (I : MI) (L : ML) (q : MI → ML → Prop) : Prop := (vp_in x3 (sl X x0) ∧ (vp_in x3 (sl X x1) ∧ (vp_in (x3 + 1) (sl X x0) ∧ (vp_in (x3 + 1) (sl X x1) ∧ (∀ x5_5 : Int32, x5_5 = ((I x0 x3.toNatClampNeg) * (I x1 x3.toNatClampNeg)) + ((jrem ((I x0 (x3 + 1).toNatClampNeg) * (I x1 (x3 + 1).toNatClampNeg)) 3329) * x4) → (vp_in x3 (sl X x0) ∧ (vp_in (x3 + 1) (sl X x1) ∧ (vp_in (x3 + 1) (sl X x0) ∧ (vp_in x3 (sl X x1) ∧ (∀ x6_10 : Int32, x6_10 = ((I x0 x3.toNatClampNeg) * (I x1 (x3 + 1).toNatClampNeg)) + ((I x0 (x3 + 1).toNatClampNeg) * (I x1 x3.toNatClampNeg)) → (vp_in x3 (sl X x2) ∧ ∀ I_12, I_12 = ms I x2 x3.toNatClampNeg (jrem x5_5 3329) → (vp_in (x3 + 1) (sl X x2) ∧ ∀ I_14, I_14 = ms I_12 x2 (x3 + 1).toNatClampNeg (jrem x6_10 3329) → q I_14 L))))))))))))
def wl_X3_multiplyPairs_2 (X : XT) (J : MJ) (q : MI → ML → Prop)  (x0 : Nat) (x1 : Nat) (x2 : Nat) : Nat → Int32 → MI → ML → Prop
  | 0 => fun _ _ _ => False
  | fu + 1 => fun x3 I L => (((64 ≤ x3) → q I L) ∧ (¬ (64 ≤ x3) → (vp_in (64 + x3) (stL 3) ∧ (∀ x4_2 : Int32, x4_2 = sI 3 (64 + x3).toNatClampNeg → (wp_X3_multiplyPair X J x0 x1 x2 (4 * x3) x4_2 I L (fun I_3 L_4 => (wp_X3_multiplyPair X J x0 x1 x2 ((4 * x3) + 2) (3329 - x4_2) I_3 L_4 (fun I_5 L_6 => (∀ x3_7 : Int32, x3_7 = x3 + 1 → wl_X3_multiplyPairs_2 X J q  x0 x1 x2 fu x3_7 I_5 L_6)))))))))
def wp_X3_multiplyPairs (X : XT) (J : MJ) (x0 : Nat) (x1 : Nat) (x2 : Nat) (I : MI) (L : ML) (q : MI → ML → Prop) : Prop := ∃ fu0 : Nat, wl_X3_multiplyPairs_2 X J q  x0 x1 x2 fu0 0 I L
def wl_X3_addTimes_2 (X : XT) (J : MJ) (q : MI → ML → Prop)  (x0 : Nat) (x1 : Nat) (x2 : Int32) : Nat → Int32 → MI → ML → Prop
  | 0 => fun _ _ _ => False
  | fu + 1 => fun x3 I L => (((256 ≤ x3) → q I L) ∧ (¬ (256 ≤ x3) → (vp_in x3 (sl X x0) ∧ (vp_in x3 (sl X x1) ∧ (vp_in x3 (sl X x0) ∧ ∀ I_4, I_4 = ms I x0 x3.toNatClampNeg (jrem (((I x0 x3.toNatClampNeg) + (x2 * (I x1 x3.toNatClampNeg))) + 3329) 3329) → (∀ x3_5 : Int32, x3_5 = x3 + 1 → wl_X3_addTimes_2 X J q  x0 x1 x2 fu x3_5 I_4 L))))))
def wp_X3_addTimes (X : XT) (J : MJ) (x0 : Nat) (x1 : Nat) (x2 : Int32) (I : MI) (L : ML) (q : MI → ML → Prop) : Prop := ∃ fu0 : Nat, wl_X3_addTimes_2 X J q  x0 x1 x2 fu0 0 I L
set_option maxHeartbeats 4000000 in
set_option maxRecDepth 100000 in
theorem n_X0_compress_8 {p : Program} {l : Launch} {e : Env} {s : State} {m : MethodId} {below : List Frame} {meth : Method} {c : Code} {D : va_G} {X : XT} {ad : Nat → Nat} {n : Nat} {A : Nat → Prop} {J : MJ} {av : List Value} {R : Room} (hR : R = ({ frames := 0, cells := 0, slots := 0, locals := 0 } : Room)) (C0 : Cx p s m meth c cX0_compress none 4 yX0_compress av D X ad n A J) {q : MI → ML → Prop}  {x0 : Nat} {x1 : Int32} {x2 : Int32} (t0 : Ty X n x0 0) : ∀ (fu : Nat) (x3 : Int32) (I : MI) (L : ML) (H : Heap) (locs : List Loc) (ls : Array Slot), wl_X0_compress_8 X J q  x0 x1 x2 fu x3 I L → Wd D X ad n A s.heap J I L H locs → lv_has ls 4 [(0, .ref (ad x0)), (1, .int x1), (2, .int x2), (3, .int x3)] → W p l e R s m av.toArray below meth c H locs 0 0 (MQ below (QV D X ad n A J q) av.toArray s 0 0 A) (F0 m 8 ls []) := by
  obtain ⟨hx, hb, hr, hml, hown, hlk, hnm, hts, hK, hZ, hA, hWT⟩ := id C0
  subst hR
  intro fu
  induction fu with
  | zero => intro x3 I L H locs ls h; exact absurd h (fun h => h)
  | succ fu ih =>
    intro x3 I L H locs ls h hV hl
    refine lv_iload_n hx hb dX0_compress_8 rfl (lv_at hl 3 rfl) ?_
    refine lv_sipush (v := 256) hx hb dX0_compress_9 (by decide) ?_
    refine lv_icmp_ge (tgt := 41) hx hb dX0_compress_12 (by decide) (fun hc => ?_) (fun hc => ?_)
    · replace h := h.1 hc
      exact m_vret hx hb hr hlk hK hZ hA hV h dX0_compress_41
    · replace h := h.2 hc
      refine lv_aload_n hx hb dX0_compress_15 rfl (lv_at hl 0 rfl) ?_
      refine lv_iload_n hx hb dX0_compress_16 rfl (lv_at hl 3 rfl) ?_
      refine lv_aload_n hx hb dX0_compress_17 rfl (lv_at hl 0 rfl) ?_
      refine lv_iload_n hx hb dX0_compress_18 rfl (lv_at hl 3 rfl) ?_
      obtain ⟨hi_2, h⟩ := h
      refine m_iald hx hb hK hV t0 hi_2 dX0_compress_19 ?_
      refine lv_iload_n hx hb dX0_compress_20 rfl (lv_at hl 1 rfl) ?_
      refine lv_iconst (v := 1) hx hb dX0_compress_21 (by decide) ?_
      refine lv_iadd hx hb dX0_compress_22 ?_
      refine lv_ishl hx hb dX0_compress_23 ?_
      refine lv_sipush (v := 3329) hx hb dX0_compress_24 (by decide) ?_
      refine lv_iadd hx hb dX0_compress_27 ?_
      refine lv_sipush (v := 6658) hx hb dX0_compress_28 (by decide) ?_
      refine lv_idiv hx hb dX0_compress_31 (by decide) ?_
      refine lv_iload_n hx hb dX0_compress_32 rfl (lv_at hl 2 rfl) ?_
      refine lv_iand hx hb dX0_compress_33 ?_
      obtain ⟨hi_3, h⟩ := h
      refine m_iast hx hb hK hV t0 hi_3 dX0_compress_34 (fun H locs hV => ?_)
      obtain ⟨I_4, eI_4⟩ : ∃ y, y = ms I x0 x3.toNatClampNeg ((((jshl (I x0 x3.toNatClampNeg) (x1 + 1)) + 3329) / 6658) &&& x2) := ⟨_, rfl⟩
      replace hV : Wd D X ad n A s.heap J I_4 L H locs := by rw [eI_4]; exact hV
      replace h := h I_4 eI_4
      obtain ⟨x3_5, ex3_5⟩ : ∃ y : Int32, y = x3 + 1 := ⟨_, rfl⟩
      replace h := h x3_5 ex3_5
      refine lv_iinc (v := x3_5) (lv' := [(3, .int x3_5), (0, .ref (ad x0)), (1, .int x1), (2, .int x2)]) hx hb dX0_compress_35 hl (k := 3) rfl (by rw [ex3_5]; rfl) (by decide) rfl (fun ls hl => ?_)
      refine lv_goto (tgt := 8) hx hb dX0_compress_38 (by decide) ?_
      exact ih x3_5 _ _ _ _ _ h hV (lv_sub hl [1, 2, 3, 0] rfl)
set_option maxHeartbeats 4000000 in
set_option maxRecDepth 100000 in
theorem s_X0_compress (l : Launch) (D : va_G) (X : XT) (ad : Nat → Nat) (n : Nat) (A : Nat → Prop) (J : MJ) (hWT : WT X n J) (x0 : Nat) (t0 : Ty X n x0 0) (x1 : Int32) (I : MI) (L : ML) (q : MI → ML → Prop) (h : wp_X0_compress X J x0 x1 I L q) : Met l yX0_compress (wz yX0_compress cX0_compress 4 none) ({ frames := 0, cells := 0, slots := 0, locals := 0 } : Room) (va_Pc [.ref (ad x0), .int x1] (Pr D X ad n A J I L)) (QV D X ad n A J q) 0 0 A := by
  refine Met_go (by decide +kernel) (Nat.le_of_ble_eq_true rfl) (fun p e s m below meth c hx hb hr hml hown hlk hnm hts hK hZ hA hV ls hl => ?_)
  have C0 : Cx p s m meth c cX0_compress none 4 yX0_compress [.ref (ad x0), .int x1] D X ad n A J := ⟨hx, hb, hr, hml, hown, hlk, hnm, hts, hK, hZ, hA, hWT⟩
  unfold wp_X0_compress at h
  have hl : lv_has ls 4 [(0, .ref (ad x0)), (1, .int x1)] := hl
  refine lv_iconst (v := 1) hx hb dX0_compress_0 (by decide) ?_
  refine lv_iload_n hx hb dX0_compress_1 rfl (lv_at hl 1 rfl) ?_
  refine lv_ishl hx hb dX0_compress_2 ?_
  refine lv_iconst (v := 1) hx hb dX0_compress_3 (by decide) ?_
  refine lv_isub hx hb dX0_compress_4 ?_
  refine lv_topi (fun x2_1 ex2_1 => ?_)
  replace h := h x2_1 ex2_1
  refine lv_istore_n (lv' := [(2, .int x2_1), (0, .ref (ad x0)), (1, .int x1)]) hx hb dX0_compress_5 rfl hl (by decide) rfl (fun ls hl => ?_)
  refine lv_iconst (v := 0) hx hb dX0_compress_6 (by decide) ?_
  refine lv_istore_n (lv' := [(3, .int 0), (2, .int x2_1), (0, .ref (ad x0)), (1, .int x1)]) hx hb dX0_compress_7 rfl hl (by decide) rfl (fun ls hl => ?_)
  obtain ⟨fu0, h⟩ := h
  exact n_X0_compress_8 rfl C0 t0   fu0 0 _ _ _ _ _ h hV (lv_sub hl [2, 3, 1, 0] rfl)
set_option maxHeartbeats 4000000 in
set_option maxRecDepth 100000 in
theorem n_X0_decompress_15 {p : Program} {l : Launch} {e : Env} {s : State} {m : MethodId} {below : List Frame} {meth : Method} {c : Code} {D : va_G} {X : XT} {ad : Nat → Nat} {n : Nat} {A : Nat → Prop} {J : MJ} {av : List Value} {R : Room} (hR : R = ({ frames := 0, cells := 0, slots := 0, locals := 0 } : Room)) (C0 : Cx p s m meth c cX0_decompress none 5 yX0_decompress av D X ad n A J) {q : MI → ML → Prop}  {x0 : Nat} {x1 : Int32} {x2 : Int32} {x3 : Int32} (t0 : Ty X n x0 0) : ∀ (fu : Nat) (x4 : Int32) (I : MI) (L : ML) (H : Heap) (locs : List Loc) (ls : Array Slot), wl_X0_decompress_15 X J q  x0 x1 x2 x3 fu x4 I L → Wd D X ad n A s.heap J I L H locs → lv_has ls 5 [(0, .ref (ad x0)), (1, .int x1), (2, .int x2), (3, .int x3), (4, .int x4)] → W p l e R s m av.toArray below meth c H locs 0 0 (MQ below (QV D X ad n A J q) av.toArray s 0 0 A) (F0 m 15 ls []) := by
  obtain ⟨hx, hb, hr, hml, hown, hlk, hnm, hts, hK, hZ, hA, hWT⟩ := id C0
  subst hR
  intro fu
  induction fu with
  | zero => intro x4 I L H locs ls h; exact absurd h (fun h => h)
  | succ fu ih =>
    intro x4 I L H locs ls h hV hl
    refine lv_iload hx hb dX0_decompress_15 (lv_at hl 4 rfl) ?_
    refine lv_sipush (v := 256) hx hb dX0_decompress_17 (by decide) ?_
    refine lv_icmp_ge (tgt := 47) hx hb dX0_decompress_20 (by decide) (fun hc => ?_) (fun hc => ?_)
    · replace h := h.1 hc
      exact m_vret hx hb hr hlk hK hZ hA hV h dX0_decompress_47
    · replace h := h.2 hc
      refine lv_aload_n hx hb dX0_decompress_23 rfl (lv_at hl 0 rfl) ?_
      refine lv_iload hx hb dX0_decompress_24 (lv_at hl 4 rfl) ?_
      refine lv_aload_n hx hb dX0_decompress_26 rfl (lv_at hl 0 rfl) ?_
      refine lv_iload hx hb dX0_decompress_27 (lv_at hl 4 rfl) ?_
      obtain ⟨hi_3, h⟩ := h
      refine m_iald hx hb hK hV t0 hi_3 dX0_decompress_29 ?_
      refine lv_iload_n hx hb dX0_decompress_30 rfl (lv_at hl 2 rfl) ?_
      refine lv_iand hx hb dX0_decompress_31 ?_
      refine lv_sipush (v := 3329) hx hb dX0_decompress_32 (by decide) ?_
      refine lv_imul hx hb dX0_decompress_35 ?_
      refine lv_iload_n hx hb dX0_decompress_36 rfl (lv_at hl 3 rfl) ?_
      refine lv_iadd hx hb dX0_decompress_37 ?_
      refine lv_iload_n hx hb dX0_decompress_38 rfl (lv_at hl 1 rfl) ?_
      refine lv_ishr hx hb dX0_decompress_39 ?_
      obtain ⟨hi_4, h⟩ := h
      refine m_iast hx hb hK hV t0 hi_4 dX0_decompress_40 (fun H locs hV => ?_)
      obtain ⟨I_5, eI_5⟩ : ∃ y, y = ms I x0 x4.toNatClampNeg (jshr ((((I x0 x4.toNatClampNeg) &&& x2) * 3329) + x3) x1) := ⟨_, rfl⟩
      replace hV : Wd D X ad n A s.heap J I_5 L H locs := by rw [eI_5]; exact hV
      replace h := h I_5 eI_5
      obtain ⟨x4_6, ex4_6⟩ : ∃ y : Int32, y = x4 + 1 := ⟨_, rfl⟩
      replace h := h x4_6 ex4_6
      refine lv_iinc (v := x4_6) (lv' := [(4, .int x4_6), (0, .ref (ad x0)), (1, .int x1), (2, .int x2), (3, .int x3)]) hx hb dX0_decompress_41 hl (k := 4) rfl (by rw [ex4_6]; rfl) (by decide) rfl (fun ls hl => ?_)
      refine lv_goto (tgt := 15) hx hb dX0_decompress_44 (by decide) ?_
      exact ih x4_6 _ _ _ _ _ h hV (lv_sub hl [1, 2, 3, 4, 0] rfl)
set_option maxHeartbeats 4000000 in
set_option maxRecDepth 100000 in
theorem s_X0_decompress (l : Launch) (D : va_G) (X : XT) (ad : Nat → Nat) (n : Nat) (A : Nat → Prop) (J : MJ) (hWT : WT X n J) (x0 : Nat) (t0 : Ty X n x0 0) (x1 : Int32) (I : MI) (L : ML) (q : MI → ML → Prop) (h : wp_X0_decompress X J x0 x1 I L q) : Met l yX0_decompress (wz yX0_decompress cX0_decompress 5 none) ({ frames := 0, cells := 0, slots := 0, locals := 0 } : Room) (va_Pc [.ref (ad x0), .int x1] (Pr D X ad n A J I L)) (QV D X ad n A J q) 0 0 A := by
  refine Met_go (by decide +kernel) (Nat.le_of_ble_eq_true rfl) (fun p e s m below meth c hx hb hr hml hown hlk hnm hts hK hZ hA hV ls hl => ?_)
  have C0 : Cx p s m meth c cX0_decompress none 5 yX0_decompress [.ref (ad x0), .int x1] D X ad n A J := ⟨hx, hb, hr, hml, hown, hlk, hnm, hts, hK, hZ, hA, hWT⟩
  unfold wp_X0_decompress at h
  have hl : lv_has ls 5 [(0, .ref (ad x0)), (1, .int x1)] := hl
  refine lv_iconst (v := 1) hx hb dX0_decompress_0 (by decide) ?_
  refine lv_iload_n hx hb dX0_decompress_1 rfl (lv_at hl 1 rfl) ?_
  refine lv_ishl hx hb dX0_decompress_2 ?_
  refine lv_iconst (v := 1) hx hb dX0_decompress_3 (by decide) ?_
  refine lv_isub hx hb dX0_decompress_4 ?_
  refine lv_topi (fun x2_1 ex2_1 => ?_)
  replace h := h x2_1 ex2_1
  refine lv_istore_n (lv' := [(2, .int x2_1), (0, .ref (ad x0)), (1, .int x1)]) hx hb dX0_decompress_5 rfl hl (by decide) rfl (fun ls hl => ?_)
  refine lv_iconst (v := 1) hx hb dX0_decompress_6 (by decide) ?_
  refine lv_iload_n hx hb dX0_decompress_7 rfl (lv_at hl 2 rfl) ?_
  refine lv_iconst (v := 1) hx hb dX0_decompress_8 (by decide) ?_
  refine lv_isub hx hb dX0_decompress_9 ?_
  refine lv_ishl hx hb dX0_decompress_10 ?_
  refine lv_topi (fun x3_2 ex3_2 => ?_)
  replace h := h x3_2 ex3_2
  refine lv_istore_n (lv' := [(3, .int x3_2), (2, .int x2_1), (0, .ref (ad x0)), (1, .int x1)]) hx hb dX0_decompress_11 rfl hl (by decide) rfl (fun ls hl => ?_)
  refine lv_iconst (v := 0) hx hb dX0_decompress_12 (by decide) ?_
  refine lv_istore (lv' := [(4, .int 0), (3, .int x3_2), (2, .int x2_1), (0, .ref (ad x0)), (1, .int x1)]) hx hb dX0_decompress_13 hl (by decide) rfl (fun ls hl => ?_)
  obtain ⟨fu0, h⟩ := h
  exact n_X0_decompress_15 rfl C0 t0   fu0 0 _ _ _ _ _ h hV (lv_sub hl [3, 4, 2, 1, 0] rfl)
set_option maxHeartbeats 4000000 in
set_option maxRecDepth 100000 in
theorem n_X0_pack_43 {p : Program} {l : Launch} {e : Env} {s : State} {m : MethodId} {below : List Frame} {meth : Method} {c : Code} {D : va_G} {X : XT} {ad : Nat → Nat} {n : Nat} {A : Nat → Prop} {J : MJ} {av : List Value} {R : Room} (hR : R = ({ frames := 2, cells := 0, slots := 0, locals := 44 } : Room)) (C0 : Cx p s m meth c cX0_pack none 7 yX0_pack av D X ad n A J) {q : MI → ML → Prop} {k15 : Int32 → Int32 → Int32 → MI → ML → Prop} {x0 : Nat} {x1 : Int32} {x2 : Nat} {x3 : Int32} {x6 : Int32} (t0 : Ty X n x0 0) (t2 : Ty X n x2 5)
    (hk15 : ∀ (x4 : Int32) (x5 : Int32) (x6 : Int32) (I : MI) (L : ML) (H : Heap) (locs : List Loc) (ls : Array Slot), k15 x4 x5 x6 I L → Wd D X ad n A s.heap J I L H locs → lv_has ls 7 [(0, .ref (ad x0)), (1, .int x1), (2, .ref (ad x2)), (3, .int x3), (4, .int x4), (5, .int x5), (6, .int x6)] → W p l e R s m av.toArray below meth c H locs 0 0 (MQ below (QV D X ad n A J q) av.toArray s 0 0 A) (F0 m 15 ls [])) : ∀ (fu : Nat) (x4 : Int32) (x5 : Int32) (I : MI) (L : ML) (H : Heap) (locs : List Loc) (ls : Array Slot), wl_X0_pack_43 X J q k15 x0 x1 x2 x3 x6 fu x4 x5 I L → Wd D X ad n A s.heap J I L H locs → lv_has ls 7 [(0, .ref (ad x0)), (1, .int x1), (2, .ref (ad x2)), (3, .int x3), (4, .int x4), (5, .int x5), (6, .int x6)] → W p l e R s m av.toArray below meth c H locs 0 0 (MQ below (QV D X ad n A J q) av.toArray s 0 0 A) (F0 m 43 ls []) := by
  obtain ⟨hx, hb, hr, hml, hown, hlk, hnm, hts, hK, hZ, hA, hWT⟩ := id C0
  subst hR
  intro fu
  induction fu with
  | zero => intro x4 x5 I L H locs ls h; exact absurd h (fun h => h)
  | succ fu ih =>
    intro x4 x5 I L H locs ls h hV hl
    refine lv_iload hx hb dX0_pack_43 (lv_at hl 5 rfl) ?_
    refine lv_bipush (v := 8) hx hb dX0_pack_45 (by decide) ?_
    refine lv_icmp_lt (tgt := 69) hx hb dX0_pack_47 (by decide) (fun hc => ?_) (fun hc => ?_)
    · replace h := h.1 hc
      obtain ⟨x6_5, ex6_5⟩ : ∃ y : Int32, y = x6 + 1 := ⟨_, rfl⟩
      replace h := h x6_5 ex6_5
      refine lv_iinc (v := x6_5) (lv' := [(6, .int x6_5), (0, .ref (ad x0)), (1, .int x1), (2, .ref (ad x2)), (3, .int x3), (4, .int x4), (5, .int x5)]) hx hb dX0_pack_69 hl (k := 6) rfl (by rw [ex6_5]; rfl) (by decide) rfl (fun ls hl => ?_)
      refine lv_goto (tgt := 15) hx hb dX0_pack_72 (by decide) ?_
      exact hk15 x4 x5 x6_5 _ _ _ _ _ h hV (lv_sub hl [1, 2, 3, 4, 5, 6, 0] rfl)
    · replace h := h.2 hc
      refine lv_aload_n hx hb dX0_pack_50 rfl (lv_at hl 2 rfl) ?_
      refine lv_iload hx hb dX0_pack_51 (lv_at hl 4 rfl) ?_
      refine k_callv (va_runV (As := [.int x4]) (rest := []) ⟨hx, hb, hml, hown, hts⟩ (s_X4_append l D X ad n A J hWT x2 t2 x4 I L _ h) (cwV 1 hts (gV tw_2_88 tw_1_167 tw_1_168 tw_1_2 tw_1_169) rfl rfl rfl (by decide +kernel) (by decide)) (k_preV (ci := 1) hK hV hA hZ t2 rfl _) rfl rfl hl.1 rfl (lv_room (Nat.le_of_ble_eq_true rfl)) dX0_pack_53 ⟨Nat.zero_le _, Nat.zero_le _⟩) hV (fun I_6 L_7 H locs h hV => ?_)
      refine lv_iload hx hb dX0_pack_56 (lv_at hl 4 rfl) ?_
      refine lv_bipush (v := 8) hx hb dX0_pack_58 (by decide) ?_
      refine lv_iushr hx hb dX0_pack_60 rfl ?_
      refine lv_topi (fun x4_8 ex4_8 => ?_)
      replace h := h x4_8 ex4_8
      refine lv_istore (lv' := [(4, .int x4_8), (0, .ref (ad x0)), (1, .int x1), (2, .ref (ad x2)), (3, .int x3), (5, .int x5), (6, .int x6)]) hx hb dX0_pack_61 hl (by decide) rfl (fun ls hl => ?_)
      obtain ⟨x5_9, ex5_9⟩ : ∃ y : Int32, y = x5 + (-8) := ⟨_, rfl⟩
      replace h := h x5_9 ex5_9
      refine lv_iinc (v := x5_9) (lv' := [(5, .int x5_9), (4, .int x4_8), (0, .ref (ad x0)), (1, .int x1), (2, .ref (ad x2)), (3, .int x3), (6, .int x6)]) hx hb dX0_pack_63 hl (k := 5) rfl (by rw [ex5_9]; rfl) (by decide) rfl (fun ls hl => ?_)
      refine lv_goto (tgt := 43) hx hb dX0_pack_66 (by decide) ?_
      exact ih x4_8 x5_9 _ _ _ _ _ h hV (lv_sub hl [2, 3, 4, 5, 1, 0, 6] rfl)
set_option maxHeartbeats 4000000 in
set_option maxRecDepth 100000 in
theorem n_X0_pack_15 {p : Program} {l : Launch} {e : Env} {s : State} {m : MethodId} {below : List Frame} {meth : Method} {c : Code} {D : va_G} {X : XT} {ad : Nat → Nat} {n : Nat} {A : Nat → Prop} {J : MJ} {av : List Value} {R : Room} (hR : R = ({ frames := 2, cells := 0, slots := 0, locals := 44 } : Room)) (C0 : Cx p s m meth c cX0_pack none 7 yX0_pack av D X ad n A J) {q : MI → ML → Prop}  {x0 : Nat} {x1 : Int32} {x2 : Nat} {x3 : Int32} (t0 : Ty X n x0 0) (t2 : Ty X n x2 5) : ∀ (fu : Nat) (x4 : Int32) (x5 : Int32) (x6 : Int32) (I : MI) (L : ML) (H : Heap) (locs : List Loc) (ls : Array Slot), wl_X0_pack_15 X J q  x0 x1 x2 x3 fu x4 x5 x6 I L → Wd D X ad n A s.heap J I L H locs → lv_has ls 7 [(0, .ref (ad x0)), (1, .int x1), (2, .ref (ad x2)), (3, .int x3), (4, .int x4), (5, .int x5), (6, .int x6)] → W p l e R s m av.toArray below meth c H locs 0 0 (MQ below (QV D X ad n A J q) av.toArray s 0 0 A) (F0 m 15 ls []) := by
  obtain ⟨hx, hb, hr, hml, hown, hlk, hnm, hts, hK, hZ, hA, hWT⟩ := id C0
  subst hR
  intro fu
  induction fu with
  | zero => intro x4 x5 x6 I L H locs ls h; exact absurd h (fun h => h)
  | succ fu ih =>
    intro x4 x5 x6 I L H locs ls h hV hl
    refine lv_iload hx hb dX0_pack_15 (lv_at hl 6 rfl) ?_
    refine lv_sipush (v := 256) hx hb dX0_pack_17 (by decide) ?_
    refine lv_icmp_ge (tgt := 75) hx hb dX0_pack_20 (by decide) (fun hc => ?_) (fun hc => ?_)
    · replace h := h.1 hc
      exact m_vret hx hb hr hlk hK hZ hA hV h dX0_pack_75
    · replace h := h.2 hc
      refine lv_iload hx hb dX0_pack_23 (lv_at hl 4 rfl) ?_
      refine lv_aload_n hx hb dX0_pack_25 rfl (lv_at hl 0 rfl) ?_
      refine lv_iload hx hb dX0_pack_26 (lv_at hl 6 rfl) ?_
      obtain ⟨hi_2, h⟩ := h
      refine m_iald hx hb hK hV t0 hi_2 dX0_pack_28 ?_
      refine lv_iload_n hx hb dX0_pack_29 rfl (lv_at hl 3 rfl) ?_
      refine lv_iand hx hb dX0_pack_30 ?_
      refine lv_iload hx hb dX0_pack_31 (lv_at hl 5 rfl) ?_
      refine lv_ishl hx hb dX0_pack_33 ?_
      refine lv_ior hx hb dX0_pack_34 ?_
      refine lv_topi (fun x4_3 ex4_3 => ?_)
      replace h := h x4_3 ex4_3
      refine lv_istore (lv' := [(4, .int x4_3), (0, .ref (ad x0)), (1, .int x1), (2, .ref (ad x2)), (3, .int x3), (5, .int x5), (6, .int x6)]) hx hb dX0_pack_35 hl (by decide) rfl (fun ls hl => ?_)
      refine lv_iload hx hb dX0_pack_37 (lv_at hl 5 rfl) ?_
      refine lv_iload_n hx hb dX0_pack_39 rfl (lv_at hl 2 rfl) ?_
      refine lv_iadd hx hb dX0_pack_40 ?_
      refine lv_topi (fun x5_4 ex5_4 => ?_)
      replace h := h x5_4 ex5_4
      refine lv_istore (lv' := [(5, .int x5_4), (4, .int x4_3), (0, .ref (ad x0)), (1, .int x1), (2, .ref (ad x2)), (3, .int x3), (6, .int x6)]) hx hb dX0_pack_41 hl (by decide) rfl (fun ls hl => ?_)
      obtain ⟨fu0, h⟩ := h
      exact n_X0_pack_43 rfl C0 t0 t2  (fun y4 y5 y6 I L H locs ls h hV hl => ih y4 y5 y6 I L H locs ls h hV (lv_sub hl [0, 1, 2, 3, 4, 5, 6] rfl)) fu0 x4_3 x5_4 _ _ _ _ _ h hV (lv_sub hl [2, 3, 4, 5, 1, 0, 6] rfl)
set_option maxHeartbeats 4000000 in
set_option maxRecDepth 100000 in
theorem s_X0_pack (l : Launch) (D : va_G) (X : XT) (ad : Nat → Nat) (n : Nat) (A : Nat → Prop) (J : MJ) (hWT : WT X n J) (x0 : Nat) (t0 : Ty X n x0 0) (x1 : Int32) (x2 : Nat) (t2 : Ty X n x2 5) (I : MI) (L : ML) (q : MI → ML → Prop) (h : wp_X0_pack X J x0 x1 x2 I L q) : Met l yX0_pack (wz yX0_pack cX0_pack 7 none) ({ frames := 2, cells := 0, slots := 0, locals := 44 } : Room) (va_Pc [.ref (ad x0), .int x1, .ref (ad x2)] (Pr D X ad n A J I L)) (QV D X ad n A J q) 0 0 A := by
  refine Met_go (by decide +kernel) (Nat.le_of_ble_eq_true rfl) (fun p e s m below meth c hx hb hr hml hown hlk hnm hts hK hZ hA hV ls hl => ?_)
  have C0 : Cx p s m meth c cX0_pack none 7 yX0_pack [.ref (ad x0), .int x1, .ref (ad x2)] D X ad n A J := ⟨hx, hb, hr, hml, hown, hlk, hnm, hts, hK, hZ, hA, hWT⟩
  unfold wp_X0_pack at h
  have hl : lv_has ls 7 [(0, .ref (ad x0)), (1, .int x1), (2, .ref (ad x2))] := hl
  refine lv_iconst (v := 1) hx hb dX0_pack_0 (by decide) ?_
  refine lv_iload_n hx hb dX0_pack_1 rfl (lv_at hl 1 rfl) ?_
  refine lv_ishl hx hb dX0_pack_2 ?_
  refine lv_iconst (v := 1) hx hb dX0_pack_3 (by decide) ?_
  refine lv_isub hx hb dX0_pack_4 ?_
  refine lv_topi (fun x3_1 ex3_1 => ?_)
  replace h := h x3_1 ex3_1
  refine lv_istore_n (lv' := [(3, .int x3_1), (0, .ref (ad x0)), (1, .int x1), (2, .ref (ad x2))]) hx hb dX0_pack_5 rfl hl (by decide) rfl (fun ls hl => ?_)
  refine lv_iconst (v := 0) hx hb dX0_pack_6 (by decide) ?_
  refine lv_istore (lv' := [(4, .int 0), (3, .int x3_1), (0, .ref (ad x0)), (1, .int x1), (2, .ref (ad x2))]) hx hb dX0_pack_7 hl (by decide) rfl (fun ls hl => ?_)
  refine lv_iconst (v := 0) hx hb dX0_pack_9 (by decide) ?_
  refine lv_istore (lv' := [(5, .int 0), (4, .int 0), (3, .int x3_1), (0, .ref (ad x0)), (1, .int x1), (2, .ref (ad x2))]) hx hb dX0_pack_10 hl (by decide) rfl (fun ls hl => ?_)
  refine lv_iconst (v := 0) hx hb dX0_pack_12 (by decide) ?_
  refine lv_istore (lv' := [(6, .int 0), (5, .int 0), (4, .int 0), (3, .int x3_1), (0, .ref (ad x0)), (1, .int x1), (2, .ref (ad x2))]) hx hb dX0_pack_13 hl (by decide) rfl (fun ls hl => ?_)
  obtain ⟨fu0, h⟩ := h
  exact n_X0_pack_15 rfl C0 t0 t2   fu0 0 0 0 _ _ _ _ _ h hV (lv_sub hl [4, 5, 6, 3, 2, 1, 0] rfl)
set_option maxHeartbeats 4000000 in
set_option maxRecDepth 100000 in
theorem n_X0_unpack_27 {p : Program} {l : Launch} {e : Env} {s : State} {m : MethodId} {below : List Frame} {meth : Method} {c : Code} {D : va_G} {X : XT} {ad : Nat → Nat} {n : Nat} {A : Nat → Prop} {J : MJ} {av : List Value} {R : Room} (hR : R = ({ frames := 1, cells := 0, slots := 0, locals := 21 } : Room)) (C0 : Cx p s m meth c cX0_unpack none 9 yX0_unpack av D X ad n A J) {q : MI → ML → Prop} {k19 : Int32 → Int32 → Int32 → Int32 → MI → ML → Prop} {x0 : Nat} {x1 : Int32} {x2 : Nat} {x4 : Int32} {x8 : Int32} (t0 : Ty X n x0 0) (t2 : Ty X n x2 5)
    (hk19 : ∀ (x5 : Int32) (x6 : Int32) (x7 : Int32) (x8 : Int32) (I : MI) (L : ML) (H : Heap) (locs : List Loc) (ls : Array Slot), k19 x5 x6 x7 x8 I L → Wd D X ad n A s.heap J I L H locs → lv_has ls 9 [(0, .ref (ad x0)), (1, .int x1), (2, .ref (ad x2)), (4, .int x4), (5, .int x5), (6, .int x6), (7, .int x7), (8, .int x8)] → W p l e R s m av.toArray below meth c H locs 0 0 (MQ below (QV D X ad n A J q) av.toArray s 0 0 A) (F0 m 19 ls [])) : ∀ (fu : Nat) (x5 : Int32) (x6 : Int32) (x7 : Int32) (I : MI) (L : ML) (H : Heap) (locs : List Loc) (ls : Array Slot), wl_X0_unpack_27 X J q k19 x0 x1 x2 x4 x8 fu x5 x6 x7 I L → Wd D X ad n A s.heap J I L H locs → lv_has ls 9 [(0, .ref (ad x0)), (1, .int x1), (2, .ref (ad x2)), (4, .int x4), (5, .int x5), (6, .int x6), (7, .int x7), (8, .int x8)] → W p l e R s m av.toArray below meth c H locs 0 0 (MQ below (QV D X ad n A J q) av.toArray s 0 0 A) (F0 m 27 ls []) := by
  obtain ⟨hx, hb, hr, hml, hown, hlk, hnm, hts, hK, hZ, hA, hWT⟩ := id C0
  subst hR
  intro fu
  induction fu with
  | zero => intro x5 x6 x7 I L H locs ls h; exact absurd h (fun h => h)
  | succ fu ih =>
    intro x5 x6 x7 I L H locs ls h hV hl
    refine lv_iload hx hb dX0_unpack_27 (lv_at hl 5 rfl) ?_
    refine lv_iload_n hx hb dX0_unpack_29 rfl (lv_at hl 1 rfl) ?_
    refine lv_icmp_ge (tgt := 56) hx hb dX0_unpack_30 (by decide) (fun hc => ?_) (fun hc => ?_)
    · replace h := h.1 hc
      refine lv_aload_n hx hb dX0_unpack_56 rfl (lv_at hl 0 rfl) ?_
      refine lv_iload hx hb dX0_unpack_57 (lv_at hl 7 rfl) ?_
      refine lv_iload hx hb dX0_unpack_59 (lv_at hl 4 rfl) ?_
      refine lv_iload hx hb dX0_unpack_61 (lv_at hl 3 rfl) ?_
      refine lv_iand hx hb dX0_unpack_63 ?_
      refine lv_sipush (v := 3329) hx hb dX0_unpack_64 (by decide) ?_
      refine lv_irem hx hb dX0_unpack_67 (by decide) ?_
      obtain ⟨hi_2, h⟩ := h
      refine m_iast hx hb hK hV t0 hi_2 dX0_unpack_68 (fun H locs hV => ?_)
      obtain ⟨I_3, eI_3⟩ : ∃ y, y = ms I x0 x8.toNatClampNeg (jrem (x5 &&& x4) 3329) := ⟨_, rfl⟩
      replace hV : Wd D X ad n A s.heap J I_3 L H locs := by rw [eI_3]; exact hV
      replace h := h I_3 eI_3
      refine lv_iload hx hb dX0_unpack_69 (lv_at hl 4 rfl) ?_
      refine lv_iload_n hx hb dX0_unpack_71 rfl (lv_at hl 1 rfl) ?_
      refine lv_iushr hx hb dX0_unpack_72 rfl ?_
      refine lv_topi (fun x5_4 ex5_4 => ?_)
      replace h := h x5_4 ex5_4
      refine lv_istore (lv' := [(5, .int x5_4), (0, .ref (ad x0)), (1, .int x1), (2, .ref (ad x2)), (4, .int x4), (6, .int x6), (7, .int x7), (8, .int x8)]) hx hb dX0_unpack_73 hl (by decide) rfl (fun ls hl => ?_)
      refine lv_iload hx hb dX0_unpack_75 (lv_at hl 5 rfl) ?_
      refine lv_iload_n hx hb dX0_unpack_77 rfl (lv_at hl 2 rfl) ?_
      refine lv_isub hx hb dX0_unpack_78 ?_
      refine lv_topi (fun x6_5 ex6_5 => ?_)
      replace h := h x6_5 ex6_5
      refine lv_istore (lv' := [(6, .int x6_5), (5, .int x5_4), (0, .ref (ad x0)), (1, .int x1), (2, .ref (ad x2)), (4, .int x4), (7, .int x7), (8, .int x8)]) hx hb dX0_unpack_79 hl (by decide) rfl (fun ls hl => ?_)
      obtain ⟨x8_6, ex8_6⟩ : ∃ y : Int32, y = x8 + 1 := ⟨_, rfl⟩
      replace h := h x8_6 ex8_6
      refine lv_iinc (v := x8_6) (lv' := [(8, .int x8_6), (6, .int x6_5), (5, .int x5_4), (0, .ref (ad x0)), (1, .int x1), (2, .ref (ad x2)), (4, .int x4), (7, .int x7)]) hx hb dX0_unpack_81 hl (k := 7) rfl (by rw [ex8_6]; rfl) (by decide) rfl (fun ls hl => ?_)
      refine lv_goto (tgt := 19) hx hb dX0_unpack_84 (by decide) ?_
      exact hk19 x5_4 x6_5 x7 x8_6 _ _ _ _ _ h hV (lv_sub hl [3, 4, 5, 6, 2, 1, 7, 0] rfl)
    · replace h := h.2 hc
      refine lv_iload hx hb dX0_unpack_33 (lv_at hl 4 rfl) ?_
      refine lv_aload_n hx hb dX0_unpack_35 rfl (lv_at hl 2 rfl) ?_
      refine lv_iload hx hb dX0_unpack_36 (lv_at hl 6 rfl) ?_
      refine k_calli (va_runV (As := [.int x7]) (rest := [.int x5]) ⟨hx, hb, hml, hown, hts⟩ (s_X4_byteAt l D X ad n A J hWT x2 t2 x7 I L _ h) (cwV 1 hts (gV tw_2_146 tw_1_235 tw_1_236 tw_1_2 tw_1_237) rfl rfl rfl (by decide +kernel) (by decide)) (k_preV (ci := 1) hK hV hA hZ t2 rfl _) rfl rfl hl.1 rfl (lv_room (Nat.le_of_ble_eq_true rfl)) dX0_unpack_38 ⟨Nat.zero_le _, Nat.zero_le _⟩) hV (fun v_9 I_7 L_8 H locs h hV => ?_)
      refine lv_iload hx hb dX0_unpack_41 (lv_at hl 5 rfl) ?_
      refine lv_ishl hx hb dX0_unpack_43 ?_
      refine lv_ior hx hb dX0_unpack_44 ?_
      refine lv_topi (fun x5_10 ex5_10 => ?_)
      replace h := h x5_10 ex5_10
      refine lv_istore (lv' := [(5, .int x5_10), (0, .ref (ad x0)), (1, .int x1), (2, .ref (ad x2)), (4, .int x4), (6, .int x6), (7, .int x7), (8, .int x8)]) hx hb dX0_unpack_45 hl (by decide) rfl (fun ls hl => ?_)
      obtain ⟨x7_11, ex7_11⟩ : ∃ y : Int32, y = x7 + 1 := ⟨_, rfl⟩
      replace h := h x7_11 ex7_11
      refine lv_iinc (v := x7_11) (lv' := [(7, .int x7_11), (5, .int x5_10), (0, .ref (ad x0)), (1, .int x1), (2, .ref (ad x2)), (4, .int x4), (6, .int x6), (8, .int x8)]) hx hb dX0_unpack_47 hl (k := 6) rfl (by rw [ex7_11]; rfl) (by decide) rfl (fun ls hl => ?_)
      obtain ⟨x6_12, ex6_12⟩ : ∃ y : Int32, y = x6 + 8 := ⟨_, rfl⟩
      replace h := h x6_12 ex6_12
      refine lv_iinc (v := x6_12) (lv' := [(6, .int x6_12), (7, .int x7_11), (5, .int x5_10), (0, .ref (ad x0)), (1, .int x1), (2, .ref (ad x2)), (4, .int x4), (8, .int x8)]) hx hb dX0_unpack_50 hl (k := 6) rfl (by rw [ex6_12]; rfl) (by decide) rfl (fun ls hl => ?_)
      refine lv_goto (tgt := 27) hx hb dX0_unpack_53 (by decide) ?_
      exact ih x5_10 x6_12 x7_11 _ _ _ _ _ h hV (lv_sub hl [3, 4, 5, 6, 2, 0, 1, 7] rfl)
set_option maxHeartbeats 4000000 in
set_option maxRecDepth 100000 in
theorem n_X0_unpack_19 {p : Program} {l : Launch} {e : Env} {s : State} {m : MethodId} {below : List Frame} {meth : Method} {c : Code} {D : va_G} {X : XT} {ad : Nat → Nat} {n : Nat} {A : Nat → Prop} {J : MJ} {av : List Value} {R : Room} (hR : R = ({ frames := 1, cells := 0, slots := 0, locals := 21 } : Room)) (C0 : Cx p s m meth c cX0_unpack none 9 yX0_unpack av D X ad n A J) {q : MI → ML → Prop}  {x0 : Nat} {x1 : Int32} {x2 : Nat} {x4 : Int32} (t0 : Ty X n x0 0) (t2 : Ty X n x2 5) : ∀ (fu : Nat) (x5 : Int32) (x6 : Int32) (x7 : Int32) (x8 : Int32) (I : MI) (L : ML) (H : Heap) (locs : List Loc) (ls : Array Slot), wl_X0_unpack_19 X J q  x0 x1 x2 x4 fu x5 x6 x7 x8 I L → Wd D X ad n A s.heap J I L H locs → lv_has ls 9 [(0, .ref (ad x0)), (1, .int x1), (2, .ref (ad x2)), (4, .int x4), (5, .int x5), (6, .int x6), (7, .int x7), (8, .int x8)] → W p l e R s m av.toArray below meth c H locs 0 0 (MQ below (QV D X ad n A J q) av.toArray s 0 0 A) (F0 m 19 ls []) := by
  obtain ⟨hx, hb, hr, hml, hown, hlk, hnm, hts, hK, hZ, hA, hWT⟩ := id C0
  subst hR
  intro fu
  induction fu with
  | zero => intro x5 x6 x7 x8 I L H locs ls h; exact absurd h (fun h => h)
  | succ fu ih =>
    intro x5 x6 x7 x8 I L H locs ls h hV hl
    refine lv_iload hx hb dX0_unpack_19 (lv_at hl 7 rfl) ?_
    refine lv_sipush (v := 256) hx hb dX0_unpack_21 (by decide) ?_
    refine lv_icmp_ge (tgt := 87) hx hb dX0_unpack_24 (by decide) (fun hc => ?_) (fun hc => ?_)
    · replace h := h.1 hc
      exact m_vret hx hb hr hlk hK hZ hA hV h dX0_unpack_87
    · replace h := h.2 hc
      obtain ⟨fu0, h⟩ := h
      exact n_X0_unpack_27 rfl C0 t0 t2  (fun y5 y6 y7 y8 I L H locs ls h hV hl => ih y5 y6 y7 y8 I L H locs ls h hV (lv_sub hl [0, 1, 2, 3, 4, 5, 6, 7] rfl)) fu0 x5 x6 x7 _ _ _ _ _ h hV (lv_sub hl [0, 1, 2, 3, 4, 5, 6, 7] rfl)
set_option maxHeartbeats 4000000 in
set_option maxRecDepth 100000 in
theorem s_X0_unpack (l : Launch) (D : va_G) (X : XT) (ad : Nat → Nat) (n : Nat) (A : Nat → Prop) (J : MJ) (hWT : WT X n J) (x0 : Nat) (t0 : Ty X n x0 0) (x1 : Int32) (x2 : Nat) (t2 : Ty X n x2 5) (x3 : Int32) (I : MI) (L : ML) (q : MI → ML → Prop) (h : wp_X0_unpack X J x0 x1 x2 x3 I L q) : Met l yX0_unpack (wz yX0_unpack cX0_unpack 9 none) ({ frames := 1, cells := 0, slots := 0, locals := 21 } : Room) (va_Pc [.ref (ad x0), .int x1, .ref (ad x2), .int x3] (Pr D X ad n A J I L)) (QV D X ad n A J q) 0 0 A := by
  refine Met_go (by decide +kernel) (Nat.le_of_ble_eq_true rfl) (fun p e s m below meth c hx hb hr hml hown hlk hnm hts hK hZ hA hV ls hl => ?_)
  have C0 : Cx p s m meth c cX0_unpack none 9 yX0_unpack [.ref (ad x0), .int x1, .ref (ad x2), .int x3] D X ad n A J := ⟨hx, hb, hr, hml, hown, hlk, hnm, hts, hK, hZ, hA, hWT⟩
  unfold wp_X0_unpack at h
  have hl : lv_has ls 9 [(0, .ref (ad x0)), (1, .int x1), (2, .ref (ad x2)), (3, .int x3)] := hl
  refine lv_iconst (v := 1) hx hb dX0_unpack_0 (by decide) ?_
  refine lv_iload_n hx hb dX0_unpack_1 rfl (lv_at hl 1 rfl) ?_
  refine lv_ishl hx hb dX0_unpack_2 ?_
  refine lv_iconst (v := 1) hx hb dX0_unpack_3 (by decide) ?_
  refine lv_isub hx hb dX0_unpack_4 ?_
  refine lv_topi (fun x4_1 ex4_1 => ?_)
  replace h := h x4_1 ex4_1
  refine lv_istore (lv' := [(4, .int x4_1), (0, .ref (ad x0)), (1, .int x1), (2, .ref (ad x2)), (3, .int x3)]) hx hb dX0_unpack_5 hl (by decide) rfl (fun ls hl => ?_)
  refine lv_iconst (v := 0) hx hb dX0_unpack_7 (by decide) ?_
  refine lv_istore (lv' := [(5, .int 0), (4, .int x4_1), (0, .ref (ad x0)), (1, .int x1), (2, .ref (ad x2)), (3, .int x3)]) hx hb dX0_unpack_8 hl (by decide) rfl (fun ls hl => ?_)
  refine lv_iconst (v := 0) hx hb dX0_unpack_10 (by decide) ?_
  refine lv_istore (lv' := [(6, .int 0), (5, .int 0), (4, .int x4_1), (0, .ref (ad x0)), (1, .int x1), (2, .ref (ad x2)), (3, .int x3)]) hx hb dX0_unpack_11 hl (by decide) rfl (fun ls hl => ?_)
  refine lv_iload_n hx hb dX0_unpack_13 rfl (lv_at hl 6 rfl) ?_
  refine lv_istore (lv' := [(7, .int x3), (6, .int 0), (5, .int 0), (4, .int x4_1), (0, .ref (ad x0)), (1, .int x1), (2, .ref (ad x2)), (3, .int x3)]) hx hb dX0_unpack_14 hl (by decide) rfl (fun ls hl => ?_)
  refine lv_iconst (v := 0) hx hb dX0_unpack_16 (by decide) ?_
  refine lv_istore (lv' := [(8, .int 0), (7, .int x3), (6, .int 0), (5, .int 0), (4, .int x4_1), (0, .ref (ad x0)), (1, .int x1), (2, .ref (ad x2)), (3, .int x3)]) hx hb dX0_unpack_17 hl (by decide) rfl (fun ls hl => ?_)
  obtain ⟨fu0, h⟩ := h
  exact n_X0_unpack_19 rfl C0 t0 t2   fu0 0 0 x3 0 _ _ _ _ _ h hV (lv_sub hl [5, 6, 7, 4, 3, 2, 1, 0] rfl)
set_option maxHeartbeats 4000000 in
set_option maxRecDepth 100000 in
theorem s_X0_firstGroup (l : Launch) (D : va_G) (X : XT) (ad : Nat → Nat) (n : Nat) (A : Nat → Prop) (J : MJ) (hWT : WT X n J) (x0 : Int32) (x1 : Int32) (I : MI) (L : ML) (q : Int32 → MI → ML → Prop) (h : wp_X0_firstGroup X J x0 x1 I L q) : Met l yX0_firstGroup (wz yX0_firstGroup cX0_firstGroup 2 (some .int)) ({ frames := 0, cells := 0, slots := 0, locals := 0 } : Room) (va_Pc [.int x0, .int x1] (Pr D X ad n A J I L)) (QI D X ad n A J q) 0 0 A := by
  refine Met_go (by decide +kernel) (Nat.le_of_ble_eq_true rfl) (fun p e s m below meth c hx hb hr hml hown hlk hnm hts hK hZ hA hV ls hl => ?_)
  have C0 : Cx p s m meth c cX0_firstGroup (some .int) 2 yX0_firstGroup [.int x0, .int x1] D X ad n A J := ⟨hx, hb, hr, hml, hown, hlk, hnm, hts, hK, hZ, hA, hWT⟩
  unfold wp_X0_firstGroup at h
  have hl : lv_has ls 2 [(0, .int x0), (1, .int x1)] := hl
  refine lv_iload_n hx hb dX0_firstGroup_0 rfl (lv_at hl 0 rfl) ?_
  refine lv_iload_n hx hb dX0_firstGroup_1 rfl (lv_at hl 1 rfl) ?_
  refine lv_bipush (v := 15) hx hb dX0_firstGroup_2 (by decide) ?_
  refine lv_iand hx hb dX0_firstGroup_4 ?_
  refine lv_bipush (v := 8) hx hb dX0_firstGroup_5 (by decide) ?_
  refine lv_ishl hx hb dX0_firstGroup_7 ?_
  refine lv_ior hx hb dX0_firstGroup_8 ?_
  exact m_iret hx hb hr hlk hK hZ hA hV h dX0_firstGroup_9
set_option maxHeartbeats 4000000 in
set_option maxRecDepth 100000 in
theorem s_X0_secondGroup (l : Launch) (D : va_G) (X : XT) (ad : Nat → Nat) (n : Nat) (A : Nat → Prop) (J : MJ) (hWT : WT X n J) (x0 : Int32) (x1 : Int32) (I : MI) (L : ML) (q : Int32 → MI → ML → Prop) (h : wp_X0_secondGroup X J x0 x1 I L q) : Met l yX0_secondGroup (wz yX0_secondGroup cX0_secondGroup 2 (some .int)) ({ frames := 0, cells := 0, slots := 0, locals := 0 } : Room) (va_Pc [.int x0, .int x1] (Pr D X ad n A J I L)) (QI D X ad n A J q) 0 0 A := by
  refine Met_go (by decide +kernel) (Nat.le_of_ble_eq_true rfl) (fun p e s m below meth c hx hb hr hml hown hlk hnm hts hK hZ hA hV ls hl => ?_)
  have C0 : Cx p s m meth c cX0_secondGroup (some .int) 2 yX0_secondGroup [.int x0, .int x1] D X ad n A J := ⟨hx, hb, hr, hml, hown, hlk, hnm, hts, hK, hZ, hA, hWT⟩
  unfold wp_X0_secondGroup at h
  have hl : lv_has ls 2 [(0, .int x0), (1, .int x1)] := hl
  refine lv_iload_n hx hb dX0_secondGroup_0 rfl (lv_at hl 0 rfl) ?_
  refine lv_iconst (v := 4) hx hb dX0_secondGroup_1 (by decide) ?_
  refine lv_ishr hx hb dX0_secondGroup_2 ?_
  refine lv_iload_n hx hb dX0_secondGroup_3 rfl (lv_at hl 1 rfl) ?_
  refine lv_iconst (v := 4) hx hb dX0_secondGroup_4 (by decide) ?_
  refine lv_ishl hx hb dX0_secondGroup_5 ?_
  refine lv_ior hx hb dX0_secondGroup_6 ?_
  exact m_iret hx hb hr hlk hK hZ hA hV h dX0_secondGroup_7
set_option maxHeartbeats 4000000 in
set_option maxRecDepth 100000 in
theorem n_X0_groupsAreSmall_2 {p : Program} {l : Launch} {e : Env} {s : State} {m : MethodId} {below : List Frame} {meth : Method} {c : Code} {D : va_G} {X : XT} {ad : Nat → Nat} {n : Nat} {A : Nat → Prop} {J : MJ} {av : List Value} {R : Room} (hR : R = ({ frames := 1, cells := 0, slots := 0, locals := 21 } : Room)) (C0 : Cx p s m meth c cX0_groupsAreSmall (some .boolean) 4 yX0_groupsAreSmall av D X ad n A J) {q : Int32 → MI → ML → Prop}  {x0 : Nat} {x1 : Int32} (t0 : Ty X n x0 5) : ∀ (fu : Nat) (x2 : Int32) (I : MI) (L : ML) (H : Heap) (locs : List Loc) (ls : Array Slot), wl_X0_groupsAreSmall_2 X J q  x0 x1 fu x2 I L → Wd D X ad n A s.heap J I L H locs → lv_has ls 4 [(0, .ref (ad x0)), (1, .int x1), (2, .int x2)] → W p l e R s m av.toArray below meth c H locs 0 0 (MQ below (QI D X ad n A J q) av.toArray s 0 0 A) (F0 m 2 ls []) := by
  obtain ⟨hx, hb, hr, hml, hown, hlk, hnm, hts, hK, hZ, hA, hWT⟩ := id C0
  subst hR
  intro fu
  induction fu with
  | zero => intro x2 I L H locs ls h; exact absurd h (fun h => h)
  | succ fu ih =>
    intro x2 I L H locs ls h hV hl
    refine lv_iload_n hx hb dX0_groupsAreSmall_2 rfl (lv_at hl 2 rfl) ?_
    refine lv_iconst (v := 2) hx hb dX0_groupsAreSmall_3 (by decide) ?_
    refine lv_iadd hx hb dX0_groupsAreSmall_4 ?_
    refine lv_iload_n hx hb dX0_groupsAreSmall_5 rfl (lv_at hl 1 rfl) ?_
    refine lv_icmp_ge (tgt := 57) hx hb dX0_groupsAreSmall_6 (by decide) (fun hc => ?_) (fun hc => ?_)
    · replace h := h.1 hc
      refine lv_iconst (v := 1) hx hb dX0_groupsAreSmall_57 (by decide) ?_
      exact m_zret hx hb hr hlk hK hZ hA hV (by decide) h dX0_groupsAreSmall_58
    · replace h := h.2 hc
      refine lv_aload_n hx hb dX0_groupsAreSmall_9 rfl (lv_at hl 0 rfl) ?_
      refine lv_iload_n hx hb dX0_groupsAreSmall_10 rfl (lv_at hl 2 rfl) ?_
      refine lv_iconst (v := 1) hx hb dX0_groupsAreSmall_11 (by decide) ?_
      refine lv_iadd hx hb dX0_groupsAreSmall_12 ?_
      refine k_calli (va_runV (As := [.int (x2 + 1)]) (rest := []) ⟨hx, hb, hml, hown, hts⟩ (s_X4_byteAt l D X ad n A J hWT x0 t0 (x2 + 1) I L _ h) (cwV 1 hts (gV tw_2_146 tw_1_235 tw_1_236 tw_1_2 tw_1_237) rfl rfl rfl (by decide +kernel) (by decide)) (k_preV (ci := 1) hK hV hA hZ t0 rfl _) rfl rfl hl.1 rfl (lv_room (Nat.le_of_ble_eq_true rfl)) dX0_groupsAreSmall_13 ⟨Nat.zero_le _, Nat.zero_le _⟩) hV (fun v_3 I_1 L_2 H locs h hV => ?_)
      refine lv_istore_n (lv' := [(3, .int v_3), (0, .ref (ad x0)), (1, .int x1), (2, .int x2)]) hx hb dX0_groupsAreSmall_16 rfl hl (by decide) rfl (fun ls hl => ?_)
      refine lv_aload_n hx hb dX0_groupsAreSmall_17 rfl (lv_at hl 1 rfl) ?_
      refine lv_iload_n hx hb dX0_groupsAreSmall_18 rfl (lv_at hl 3 rfl) ?_
      refine k_calli (va_runV (As := [.int x2]) (rest := []) ⟨hx, hb, hml, hown, hts⟩ (s_X4_byteAt l D X ad n A J hWT x0 t0 x2 I_1 L_2 _ h) (cwV 1 hts (gV tw_2_146 tw_1_235 tw_1_236 tw_1_2 tw_1_237) rfl rfl rfl (by decide +kernel) (by decide)) (k_preV (ci := 1) hK hV hA hZ t0 rfl _) rfl rfl hl.1 rfl (lv_room (Nat.le_of_ble_eq_true rfl)) dX0_groupsAreSmall_19 ⟨Nat.zero_le _, Nat.zero_le _⟩) hV (fun v_6 I_4 L_5 H locs h hV => ?_)
      refine lv_iload_n hx hb dX0_groupsAreSmall_22 rfl (lv_at hl 0 rfl) ?_
      refine k_calli (va_runS (As := [.int v_6, .int v_3]) (rest := []) ⟨hx, hb, hml, hown, hts⟩ (s_X0_firstGroup l D X ad n A J hWT v_6 v_3 I_4 L_5 _ h) (va_cwS 2 hts (gS tw_2_147 tw_2_94 tw_1_14 tw_2_95) rfl rfl rfl (by decide +kernel) (by decide)) (k_preS hK hV hA hZ _) rfl rfl hl.1 rfl (lv_room (Nat.le_of_ble_eq_true rfl)) dX0_groupsAreSmall_23 ⟨Nat.zero_le _, Nat.zero_le _⟩) hV (fun v_9 I_7 L_8 H locs h hV => ?_)
      refine lv_sipush (v := 3329) hx hb dX0_groupsAreSmall_26 (by decide) ?_
      refine lv_icmp_ge (tgt := 49) hx hb dX0_groupsAreSmall_29 (by decide) (fun hc => ?_) (fun hc => ?_)
      · replace h := h.1 hc
        refine lv_iconst (v := 0) hx hb dX0_groupsAreSmall_49 (by decide) ?_
        exact m_zret hx hb hr hlk hK hZ hA hV (by decide) h dX0_groupsAreSmall_50
      · replace h := h.2 hc
        refine lv_iload_n hx hb dX0_groupsAreSmall_32 rfl (lv_at hl 0 rfl) ?_
        refine lv_aload_n hx hb dX0_groupsAreSmall_33 rfl (lv_at hl 1 rfl) ?_
        refine lv_iload_n hx hb dX0_groupsAreSmall_34 rfl (lv_at hl 3 rfl) ?_
        refine lv_iconst (v := 2) hx hb dX0_groupsAreSmall_35 (by decide) ?_
        refine lv_iadd hx hb dX0_groupsAreSmall_36 ?_
        refine k_calli (va_runV (As := [.int (x2 + 2)]) (rest := [.int v_3]) ⟨hx, hb, hml, hown, hts⟩ (s_X4_byteAt l D X ad n A J hWT x0 t0 (x2 + 2) I_7 L_8 _ h) (cwV 1 hts (gV tw_2_146 tw_1_235 tw_1_236 tw_1_2 tw_1_237) rfl rfl rfl (by decide +kernel) (by decide)) (k_preV (ci := 1) hK hV hA hZ t0 rfl _) rfl rfl hl.1 rfl (lv_room (Nat.le_of_ble_eq_true rfl)) dX0_groupsAreSmall_37 ⟨Nat.zero_le _, Nat.zero_le _⟩) hV (fun v_12 I_10 L_11 H locs h hV => ?_)
        refine k_calli (va_runS (As := [.int v_3, .int v_12]) (rest := []) ⟨hx, hb, hml, hown, hts⟩ (s_X0_secondGroup l D X ad n A J hWT v_3 v_12 I_10 L_11 _ h) (va_cwS 2 hts (gS tw_2_148 tw_2_100 tw_1_14 tw_2_101) rfl rfl rfl (by decide +kernel) (by decide)) (k_preS hK hV hA hZ _) rfl rfl hl.1 rfl (lv_room (Nat.le_of_ble_eq_true rfl)) dX0_groupsAreSmall_40 ⟨Nat.zero_le _, Nat.zero_le _⟩) hV (fun v_15 I_13 L_14 H locs h hV => ?_)
        refine lv_sipush (v := 3329) hx hb dX0_groupsAreSmall_43 (by decide) ?_
        refine lv_icmp_lt (tgt := 51) hx hb dX0_groupsAreSmall_46 (by decide) (fun hc => ?_) (fun hc => ?_)
        · replace h := h.1 hc
          obtain ⟨x2_16, ex2_16⟩ : ∃ y : Int32, y = x2 + 3 := ⟨_, rfl⟩
          replace h := h x2_16 ex2_16
          refine lv_iinc (v := x2_16) (lv' := [(2, .int x2_16), (3, .int v_3), (0, .ref (ad x0)), (1, .int x1)]) hx hb dX0_groupsAreSmall_51 hl (k := 3) rfl (by rw [ex2_16]; rfl) (by decide) rfl (fun ls hl => ?_)
          refine lv_goto (tgt := 2) hx hb dX0_groupsAreSmall_54 (by decide) ?_
          exact ih x2_16 _ _ _ _ _ h hV (lv_sub hl [2, 3, 0] rfl)
        · replace h := h.2 hc
          refine lv_iconst (v := 0) hx hb dX0_groupsAreSmall_49 (by decide) ?_
          exact m_zret hx hb hr hlk hK hZ hA hV (by decide) h dX0_groupsAreSmall_50
set_option maxHeartbeats 4000000 in
set_option maxRecDepth 100000 in
theorem s_X0_groupsAreSmall (l : Launch) (D : va_G) (X : XT) (ad : Nat → Nat) (n : Nat) (A : Nat → Prop) (J : MJ) (hWT : WT X n J) (x0 : Nat) (t0 : Ty X n x0 5) (x1 : Int32) (I : MI) (L : ML) (q : Int32 → MI → ML → Prop) (h : wp_X0_groupsAreSmall X J x0 x1 I L q) : Met l yX0_groupsAreSmall (wz yX0_groupsAreSmall cX0_groupsAreSmall 4 (some .boolean)) ({ frames := 1, cells := 0, slots := 0, locals := 21 } : Room) (va_Pc [.ref (ad x0), .int x1] (Pr D X ad n A J I L)) (QI D X ad n A J q) 0 0 A := by
  refine Met_go (by decide +kernel) (Nat.le_of_ble_eq_true rfl) (fun p e s m below meth c hx hb hr hml hown hlk hnm hts hK hZ hA hV ls hl => ?_)
  have C0 : Cx p s m meth c cX0_groupsAreSmall (some .boolean) 4 yX0_groupsAreSmall [.ref (ad x0), .int x1] D X ad n A J := ⟨hx, hb, hr, hml, hown, hlk, hnm, hts, hK, hZ, hA, hWT⟩
  unfold wp_X0_groupsAreSmall at h
  have hl : lv_has ls 4 [(0, .ref (ad x0)), (1, .int x1)] := hl
  refine lv_iconst (v := 0) hx hb dX0_groupsAreSmall_0 (by decide) ?_
  refine lv_istore_n (lv' := [(2, .int 0), (0, .ref (ad x0)), (1, .int x1)]) hx hb dX0_groupsAreSmall_1 rfl hl (by decide) rfl (fun ls hl => ?_)
  obtain ⟨fu0, h⟩ := h
  exact n_X0_groupsAreSmall_2 rfl C0 t0   fu0 0 _ _ _ _ _ h hV (lv_sub hl [1, 2, 0] rfl)
set_option maxHeartbeats 4000000 in
set_option maxRecDepth 100000 in
theorem n_X3_splitBlock_3 {p : Program} {l : Launch} {e : Env} {s : State} {m : MethodId} {below : List Frame} {meth : Method} {c : Code} {D : va_G} {X : XT} {ad : Nat → Nat} {n : Nat} {A : Nat → Prop} {J : MJ} {av : List Value} {R : Room} (hR : R = ({ frames := 0, cells := 0, slots := 0, locals := 0 } : Room)) (C0 : Cx p s m meth c cX3_splitBlock none 7 yX3_splitBlock av D X ad n A J) {q : MI → ML → Prop}  {x0 : Nat} {x1 : Int32} {x2 : Int32} {x3 : Int32} (t0 : Ty X n x0 0) : ∀ (fu : Nat) (x4 : Int32) (I : MI) (L : ML) (H : Heap) (locs : List Loc) (ls : Array Slot), wl_X3_splitBlock_3 X J q  x0 x1 x2 x3 fu x4 I L → Wd D X ad n A s.heap J I L H locs → lv_has ls 7 [(0, .ref (ad x0)), (1, .int x1), (2, .int x2), (3, .int x3), (4, .int x4)] → W p l e R s m av.toArray below meth c H locs 0 0 (MQ below (QV D X ad n A J q) av.toArray s 0 0 A) (F0 m 3 ls []) := by
  obtain ⟨hx, hb, hr, hml, hown, hlk, hnm, hts, hK, hZ, hA, hWT⟩ := id C0
  subst hR
  intro fu
  induction fu with
  | zero => intro x4 I L H locs ls h; exact absurd h (fun h => h)
  | succ fu ih =>
    intro x4 I L H locs ls h hV hl
    refine lv_iload hx hb dX3_splitBlock_3 (lv_at hl 4 rfl) ?_
    refine lv_iload_n hx hb dX3_splitBlock_5 rfl (lv_at hl 1 rfl) ?_
    refine lv_iload_n hx hb dX3_splitBlock_6 rfl (lv_at hl 2 rfl) ?_
    refine lv_iadd hx hb dX3_splitBlock_7 ?_
    refine lv_icmp_ge (tgt := 69) hx hb dX3_splitBlock_8 (by decide) (fun hc => ?_) (fun hc => ?_)
    · replace h := h.1 hc
      exact m_vret hx hb hr hlk hK hZ hA hV h dX3_splitBlock_69
    · replace h := h.2 hc
      refine lv_aload_n hx hb dX3_splitBlock_11 rfl (lv_at hl 0 rfl) ?_
      refine lv_iload hx hb dX3_splitBlock_12 (lv_at hl 4 rfl) ?_
      obtain ⟨hi_1, h⟩ := h
      refine m_iald hx hb hK hV t0 hi_1 dX3_splitBlock_14 ?_
      refine lv_topi (fun x5_2 ex5_2 => ?_)
      replace h := h x5_2 ex5_2
      refine lv_istore (lv' := [(5, .int x5_2), (0, .ref (ad x0)), (1, .int x1), (2, .int x2), (3, .int x3), (4, .int x4)]) hx hb dX3_splitBlock_15 hl (by decide) rfl (fun ls hl => ?_)
      refine lv_aload_n hx hb dX3_splitBlock_17 rfl (lv_at hl 1 rfl) ?_
      refine lv_iload hx hb dX3_splitBlock_18 (lv_at hl 5 rfl) ?_
      refine lv_iload_n hx hb dX3_splitBlock_20 rfl (lv_at hl 3 rfl) ?_
      refine lv_iadd hx hb dX3_splitBlock_21 ?_
      obtain ⟨hi_3, h⟩ := h
      refine m_iald hx hb hK hV t0 hi_3 dX3_splitBlock_22 ?_
      refine lv_iload_n hx hb dX3_splitBlock_23 rfl (lv_at hl 4 rfl) ?_
      refine lv_imul hx hb dX3_splitBlock_24 ?_
      refine lv_sipush (v := 3329) hx hb dX3_splitBlock_25 (by decide) ?_
      refine lv_irem hx hb dX3_splitBlock_28 (by decide) ?_
      refine lv_topi (fun x6_4 ex6_4 => ?_)
      replace h := h x6_4 ex6_4
      refine lv_istore (lv' := [(6, .int x6_4), (5, .int x5_2), (0, .ref (ad x0)), (1, .int x1), (2, .int x2), (3, .int x3), (4, .int x4)]) hx hb dX3_splitBlock_29 hl (by decide) rfl (fun ls hl => ?_)
      refine lv_aload_n hx hb dX3_splitBlock_31 rfl (lv_at hl 2 rfl) ?_
      refine lv_iload hx hb dX3_splitBlock_32 (lv_at hl 6 rfl) ?_
      refine lv_iload hx hb dX3_splitBlock_34 (lv_at hl 1 rfl) ?_
      refine lv_iload hx hb dX3_splitBlock_36 (lv_at hl 0 rfl) ?_
      refine lv_iadd hx hb dX3_splitBlock_38 ?_
      refine lv_sipush (v := 3329) hx hb dX3_splitBlock_39 (by decide) ?_
      refine lv_irem hx hb dX3_splitBlock_42 (by decide) ?_
      obtain ⟨hi_5, h⟩ := h
      refine m_iast hx hb hK hV t0 hi_5 dX3_splitBlock_43 (fun H locs hV => ?_)
      obtain ⟨I_6, eI_6⟩ : ∃ y, y = ms I x0 x4.toNatClampNeg (jrem (x5_2 + x6_4) 3329) := ⟨_, rfl⟩
      replace hV : Wd D X ad n A s.heap J I_6 L H locs := by rw [eI_6]; exact hV
      replace h := h I_6 eI_6
      refine lv_aload_n hx hb dX3_splitBlock_44 rfl (lv_at hl 2 rfl) ?_
      refine lv_iload hx hb dX3_splitBlock_45 (lv_at hl 6 rfl) ?_
      refine lv_iload_n hx hb dX3_splitBlock_47 rfl (lv_at hl 4 rfl) ?_
      refine lv_iadd hx hb dX3_splitBlock_48 ?_
      refine lv_iload hx hb dX3_splitBlock_49 (lv_at hl 1 rfl) ?_
      refine lv_iload hx hb dX3_splitBlock_51 (lv_at hl 0 rfl) ?_
      refine lv_isub hx hb dX3_splitBlock_53 ?_
      refine lv_sipush (v := 3329) hx hb dX3_splitBlock_54 (by decide) ?_
      refine lv_iadd hx hb dX3_splitBlock_57 ?_
      refine lv_sipush (v := 3329) hx hb dX3_splitBlock_58 (by decide) ?_
      refine lv_irem hx hb dX3_splitBlock_61 (by decide) ?_
      obtain ⟨hi_7, h⟩ := h
      refine m_iast hx hb hK hV t0 hi_7 dX3_splitBlock_62 (fun H locs hV => ?_)
      obtain ⟨I_8, eI_8⟩ : ∃ y, y = ms I_6 x0 (x4 + x2).toNatClampNeg (jrem ((x5_2 - x6_4) + 3329) 3329) := ⟨_, rfl⟩
      replace hV : Wd D X ad n A s.heap J I_8 L H locs := by rw [eI_8]; exact hV
      replace h := h I_8 eI_8
      obtain ⟨x4_9, ex4_9⟩ : ∃ y : Int32, y = x4 + 1 := ⟨_, rfl⟩
      replace h := h x4_9 ex4_9
      refine lv_iinc (v := x4_9) (lv' := [(4, .int x4_9), (6, .int x6_4), (5, .int x5_2), (0, .ref (ad x0)), (1, .int x1), (2, .int x2), (3, .int x3)]) hx hb dX3_splitBlock_63 hl (k := 6) rfl (by rw [ex4_9]; rfl) (by decide) rfl (fun ls hl => ?_)
      refine lv_goto (tgt := 3) hx hb dX3_splitBlock_66 (by decide) ?_
      exact ih x4_9 _ _ _ _ _ h hV (lv_sub hl [3, 4, 5, 6, 0] rfl)
set_option maxHeartbeats 4000000 in
set_option maxRecDepth 100000 in
theorem s_X3_splitBlock (l : Launch) (D : va_G) (X : XT) (ad : Nat → Nat) (n : Nat) (A : Nat → Prop) (J : MJ) (hWT : WT X n J) (x0 : Nat) (t0 : Ty X n x0 0) (x1 : Int32) (x2 : Int32) (x3 : Int32) (I : MI) (L : ML) (q : MI → ML → Prop) (h : wp_X3_splitBlock X J x0 x1 x2 x3 I L q) : Met l yX3_splitBlock (wz yX3_splitBlock cX3_splitBlock 7 none) ({ frames := 0, cells := 0, slots := 0, locals := 0 } : Room) (va_Pc [.ref (ad x0), .int x1, .int x2, .int x3] (Pr D X ad n A J I L)) (QV D X ad n A J q) 0 0 A := by
  refine Met_go (by decide +kernel) (Nat.le_of_ble_eq_true rfl) (fun p e s m below meth c hx hb hr hml hown hlk hnm hts hK hZ hA hV ls hl => ?_)
  have C0 : Cx p s m meth c cX3_splitBlock none 7 yX3_splitBlock [.ref (ad x0), .int x1, .int x2, .int x3] D X ad n A J := ⟨hx, hb, hr, hml, hown, hlk, hnm, hts, hK, hZ, hA, hWT⟩
  unfold wp_X3_splitBlock at h
  have hl : lv_has ls 7 [(0, .ref (ad x0)), (1, .int x1), (2, .int x2), (3, .int x3)] := hl
  refine lv_iload_n hx hb dX3_splitBlock_0 rfl (lv_at hl 1 rfl) ?_
  refine lv_istore (lv' := [(4, .int x1), (0, .ref (ad x0)), (1, .int x1), (2, .int x2), (3, .int x3)]) hx hb dX3_splitBlock_1 hl (by decide) rfl (fun ls hl => ?_)
  obtain ⟨fu0, h⟩ := h
  exact n_X3_splitBlock_3 rfl C0 t0   fu0 x1 _ _ _ _ _ h hV (lv_sub hl [1, 2, 3, 4, 0] rfl)
set_option maxHeartbeats 4000000 in
set_option maxRecDepth 100000 in
theorem n_X3_toPairs_13 {p : Program} {l : Launch} {e : Env} {s : State} {m : MethodId} {below : List Frame} {meth : Method} {c : Code} {D : va_G} {X : XT} {ad : Nat → Nat} {n : Nat} {A : Nat → Prop} {J : MJ} {av : List Value} {R : Room} (hR : R = ({ frames := 1, cells := 0, slots := 0, locals := 26 } : Room)) (C0 : Cx p s m meth c cX3_toPairs none 4 yX3_toPairs av D X ad n A J) {q : MI → ML → Prop} {k6 : Int32 → Int32 → MI → ML → Prop} {x0 : Nat} {x2 : Int32} (t0 : Ty X n x0 0)
    (hk6 : ∀ (x1 : Int32) (x2 : Int32) (I : MI) (L : ML) (H : Heap) (locs : List Loc) (ls : Array Slot), k6 x1 x2 I L → Wd D X ad n A s.heap J I L H locs → lv_has ls 4 [(0, .ref (ad x0)), (1, .int x1), (2, .int x2)] → W p l e R s m av.toArray below meth c H locs 0 0 (MQ below (QV D X ad n A J q) av.toArray s 0 0 A) (F0 m 6 ls [])) : ∀ (fu : Nat) (x1 : Int32) (x3 : Int32) (I : MI) (L : ML) (H : Heap) (locs : List Loc) (ls : Array Slot), wl_X3_toPairs_13 X J q k6 x0 x2 fu x1 x3 I L → Wd D X ad n A s.heap J I L H locs → lv_has ls 4 [(0, .ref (ad x0)), (1, .int x1), (2, .int x2), (3, .int x3)] → W p l e R s m av.toArray below meth c H locs 0 0 (MQ below (QV D X ad n A J q) av.toArray s 0 0 A) (F0 m 13 ls []) := by
  obtain ⟨hx, hb, hr, hml, hown, hlk, hnm, hts, hK, hZ, hA, hWT⟩ := id C0
  subst hR
  intro fu
  induction fu with
  | zero => intro x1 x3 I L H locs ls h; exact absurd h (fun h => h)
  | succ fu ih =>
    intro x1 x3 I L H locs ls h hV hl
    refine lv_iload_n hx hb dX3_toPairs_13 rfl (lv_at hl 3 rfl) ?_
    refine lv_sipush (v := 256) hx hb dX3_toPairs_14 (by decide) ?_
    refine lv_icmp_ge (tgt := 43) hx hb dX3_toPairs_17 (by decide) (fun hc => ?_) (fun hc => ?_)
    · replace h := h.1 hc
      refine lv_iload_n hx hb dX3_toPairs_43 rfl (lv_at hl 2 rfl) ?_
      refine lv_iconst (v := 1) hx hb dX3_toPairs_44 (by decide) ?_
      refine lv_ishr hx hb dX3_toPairs_45 ?_
      refine lv_topi (fun x2_1 ex2_1 => ?_)
      replace h := h x2_1 ex2_1
      refine lv_istore_n (lv' := [(2, .int x2_1), (0, .ref (ad x0)), (1, .int x1), (3, .int x3)]) hx hb dX3_toPairs_46 rfl hl (by decide) rfl (fun ls hl => ?_)
      refine lv_goto (tgt := 6) hx hb dX3_toPairs_47 (by decide) ?_
      exact hk6 x1 x2_1 _ _ _ _ _ h hV (lv_sub hl [1, 2, 0] rfl)
    · replace h := h.2 hc
      refine lv_aload_n hx hb dX3_toPairs_20 rfl (lv_at hl 0 rfl) ?_
      refine lv_iload_n hx hb dX3_toPairs_21 rfl (lv_at hl 3 rfl) ?_
      refine lv_iload_n hx hb dX3_toPairs_22 rfl (lv_at hl 2 rfl) ?_
      refine va_gets (v := .ref (X.2.2.2 3)) hx hb (hZ.2.1 3 (by decide)).1 hV.2.2 hown (hts _ tw_2_80) (fun _ h9 => h9) dX3_toPairs_23 ?_
      refine lv_iload_n hx hb dX3_toPairs_26 rfl (lv_at hl 1 rfl) ?_
      obtain ⟨hi_2, h⟩ := h
      refine va_ti hx hb (hZ.2.1 3 (by decide)).2 hV.2.2 hi_2 rfl dX3_toPairs_27 ?_
      refine k_callv (va_runS (As := [.ref (ad x0), .int x3, .int x2, .int (sI 3 x1.toNatClampNeg)]) (rest := []) ⟨hx, hb, hml, hown, hts⟩ (s_X3_splitBlock l D X ad n A J hWT x0 t0 x3 x2 (sI 3 x1.toNatClampNeg) I L _ h) (va_cwS 4 hts (gS tw_2_82 tw_2_83 tw_1_13 tw_2_84) rfl rfl rfl (by decide +kernel) (by decide)) (k_preS hK hV hA hZ _) rfl rfl hl.1 rfl (lv_room (Nat.le_of_ble_eq_true rfl)) dX3_toPairs_28 ⟨Nat.zero_le _, Nat.zero_le _⟩) hV (fun I_3 L_4 H locs h hV => ?_)
      obtain ⟨x1_5, ex1_5⟩ : ∃ y : Int32, y = x1 + 1 := ⟨_, rfl⟩
      replace h := h x1_5 ex1_5
      refine lv_iinc (v := x1_5) (lv' := [(1, .int x1_5), (0, .ref (ad x0)), (2, .int x2), (3, .int x3)]) hx hb dX3_toPairs_31 hl (k := 1) rfl (by rw [ex1_5]; rfl) (by decide) rfl (fun ls hl => ?_)
      refine lv_iload_n hx hb dX3_toPairs_34 rfl (lv_at hl 3 rfl) ?_
      refine lv_iconst (v := 2) hx hb dX3_toPairs_35 (by decide) ?_
      refine lv_iload_n hx hb dX3_toPairs_36 rfl (lv_at hl 2 rfl) ?_
      refine lv_imul hx hb dX3_toPairs_37 ?_
      refine lv_iadd hx hb dX3_toPairs_38 ?_
      refine lv_topi (fun x3_6 ex3_6 => ?_)
      replace h := h x3_6 ex3_6
      refine lv_istore_n (lv' := [(3, .int x3_6), (1, .int x1_5), (0, .ref (ad x0)), (2, .int x2)]) hx hb dX3_toPairs_39 rfl hl (by decide) rfl (fun ls hl => ?_)
      refine lv_goto (tgt := 13) hx hb dX3_toPairs_40 (by decide) ?_
      exact ih x1_5 x3_6 _ _ _ _ _ h hV (lv_sub hl [2, 1, 3, 0] rfl)
set_option maxHeartbeats 4000000 in
set_option maxRecDepth 100000 in
theorem n_X3_toPairs_6 {p : Program} {l : Launch} {e : Env} {s : State} {m : MethodId} {below : List Frame} {meth : Method} {c : Code} {D : va_G} {X : XT} {ad : Nat → Nat} {n : Nat} {A : Nat → Prop} {J : MJ} {av : List Value} {R : Room} (hR : R = ({ frames := 1, cells := 0, slots := 0, locals := 26 } : Room)) (C0 : Cx p s m meth c cX3_toPairs none 4 yX3_toPairs av D X ad n A J) {q : MI → ML → Prop}  {x0 : Nat} (t0 : Ty X n x0 0) : ∀ (fu : Nat) (x1 : Int32) (x2 : Int32) (I : MI) (L : ML) (H : Heap) (locs : List Loc) (ls : Array Slot), wl_X3_toPairs_6 X J q  x0 fu x1 x2 I L → Wd D X ad n A s.heap J I L H locs → lv_has ls 4 [(0, .ref (ad x0)), (1, .int x1), (2, .int x2)] → W p l e R s m av.toArray below meth c H locs 0 0 (MQ below (QV D X ad n A J q) av.toArray s 0 0 A) (F0 m 6 ls []) := by
  obtain ⟨hx, hb, hr, hml, hown, hlk, hnm, hts, hK, hZ, hA, hWT⟩ := id C0
  subst hR
  intro fu
  induction fu with
  | zero => intro x1 x2 I L H locs ls h; exact absurd h (fun h => h)
  | succ fu ih =>
    intro x1 x2 I L H locs ls h hV hl
    refine lv_iload_n hx hb dX3_toPairs_6 rfl (lv_at hl 2 rfl) ?_
    refine lv_iconst (v := 2) hx hb dX3_toPairs_7 (by decide) ?_
    refine lv_icmp_lt (tgt := 50) hx hb dX3_toPairs_8 (by decide) (fun hc => ?_) (fun hc => ?_)
    · replace h := h.1 hc
      exact m_vret hx hb hr hlk hK hZ hA hV h dX3_toPairs_50
    · replace h := h.2 hc
      refine lv_iconst (v := 0) hx hb dX3_toPairs_11 (by decide) ?_
      refine lv_istore_n (lv' := [(3, .int 0), (0, .ref (ad x0)), (1, .int x1), (2, .int x2)]) hx hb dX3_toPairs_12 rfl hl (by decide) rfl (fun ls hl => ?_)
      obtain ⟨fu0, h⟩ := h
      exact n_X3_toPairs_13 rfl C0 t0  (fun y1 y2 I L H locs ls h hV hl => ih y1 y2 I L H locs ls h hV (lv_sub hl [0, 1, 2] rfl)) fu0 x1 0 _ _ _ _ _ h hV (lv_sub hl [1, 2, 3, 0] rfl)
set_option maxHeartbeats 4000000 in
set_option maxRecDepth 100000 in
theorem s_X3_toPairs (l : Launch) (D : va_G) (X : XT) (ad : Nat → Nat) (n : Nat) (A : Nat → Prop) (J : MJ) (hWT : WT X n J) (x0 : Nat) (t0 : Ty X n x0 0) (I : MI) (L : ML) (q : MI → ML → Prop) (h : wp_X3_toPairs X J x0 I L q) : Met l yX3_toPairs (wz yX3_toPairs cX3_toPairs 4 none) ({ frames := 1, cells := 0, slots := 0, locals := 26 } : Room) (va_Pc [.ref (ad x0)] (Pr D X ad n A J I L)) (QV D X ad n A J q) 0 0 A := by
  refine Met_go (by decide +kernel) (Nat.le_of_ble_eq_true rfl) (fun p e s m below meth c hx hb hr hml hown hlk hnm hts hK hZ hA hV ls hl => ?_)
  have C0 : Cx p s m meth c cX3_toPairs none 4 yX3_toPairs [.ref (ad x0)] D X ad n A J := ⟨hx, hb, hr, hml, hown, hlk, hnm, hts, hK, hZ, hA, hWT⟩
  unfold wp_X3_toPairs at h
  have hl : lv_has ls 4 [(0, .ref (ad x0))] := hl
  refine lv_iconst (v := 1) hx hb dX3_toPairs_0 (by decide) ?_
  refine lv_istore_n (lv' := [(1, .int 1), (0, .ref (ad x0))]) hx hb dX3_toPairs_1 rfl hl (by decide) rfl (fun ls hl => ?_)
  refine lv_sipush (v := 128) hx hb dX3_toPairs_2 (by decide) ?_
  refine lv_istore_n (lv' := [(2, .int 128), (1, .int 1), (0, .ref (ad x0))]) hx hb dX3_toPairs_5 rfl hl (by decide) rfl (fun ls hl => ?_)
  obtain ⟨fu0, h⟩ := h
  exact n_X3_toPairs_6 rfl C0 t0   fu0 1 128 _ _ _ _ _ h hV (lv_sub hl [2, 1, 0] rfl)
set_option maxHeartbeats 4000000 in
set_option maxRecDepth 100000 in
theorem n_X3_joinBlock_3 {p : Program} {l : Launch} {e : Env} {s : State} {m : MethodId} {below : List Frame} {meth : Method} {c : Code} {D : va_G} {X : XT} {ad : Nat → Nat} {n : Nat} {A : Nat → Prop} {J : MJ} {av : List Value} {R : Room} (hR : R = ({ frames := 0, cells := 0, slots := 0, locals := 0 } : Room)) (C0 : Cx p s m meth c cX3_joinBlock none 7 yX3_joinBlock av D X ad n A J) {q : MI → ML → Prop}  {x0 : Nat} {x1 : Int32} {x2 : Int32} {x3 : Int32} (t0 : Ty X n x0 0) : ∀ (fu : Nat) (x4 : Int32) (I : MI) (L : ML) (H : Heap) (locs : List Loc) (ls : Array Slot), wl_X3_joinBlock_3 X J q  x0 x1 x2 x3 fu x4 I L → Wd D X ad n A s.heap J I L H locs → lv_has ls 7 [(0, .ref (ad x0)), (1, .int x1), (2, .int x2), (3, .int x3), (4, .int x4)] → W p l e R s m av.toArray below meth c H locs 0 0 (MQ below (QV D X ad n A J q) av.toArray s 0 0 A) (F0 m 3 ls []) := by
  obtain ⟨hx, hb, hr, hml, hown, hlk, hnm, hts, hK, hZ, hA, hWT⟩ := id C0
  subst hR
  intro fu
  induction fu with
  | zero => intro x4 I L H locs ls h; exact absurd h (fun h => h)
  | succ fu ih =>
    intro x4 I L H locs ls h hV hl
    refine lv_iload hx hb dX3_joinBlock_3 (lv_at hl 4 rfl) ?_
    refine lv_iload_n hx hb dX3_joinBlock_5 rfl (lv_at hl 1 rfl) ?_
    refine lv_iload_n hx hb dX3_joinBlock_6 rfl (lv_at hl 2 rfl) ?_
    refine lv_iadd hx hb dX3_joinBlock_7 ?_
    refine lv_icmp_ge (tgt := 65) hx hb dX3_joinBlock_8 (by decide) (fun hc => ?_) (fun hc => ?_)
    · replace h := h.1 hc
      exact m_vret hx hb hr hlk hK hZ hA hV h dX3_joinBlock_65
    · replace h := h.2 hc
      refine lv_aload_n hx hb dX3_joinBlock_11 rfl (lv_at hl 0 rfl) ?_
      refine lv_iload hx hb dX3_joinBlock_12 (lv_at hl 4 rfl) ?_
      obtain ⟨hi_1, h⟩ := h
      refine m_iald hx hb hK hV t0 hi_1 dX3_joinBlock_14 ?_
      refine lv_topi (fun x5_2 ex5_2 => ?_)
      replace h := h x5_2 ex5_2
      refine lv_istore (lv' := [(5, .int x5_2), (0, .ref (ad x0)), (1, .int x1), (2, .int x2), (3, .int x3), (4, .int x4)]) hx hb dX3_joinBlock_15 hl (by decide) rfl (fun ls hl => ?_)
      refine lv_aload_n hx hb dX3_joinBlock_17 rfl (lv_at hl 1 rfl) ?_
      refine lv_iload hx hb dX3_joinBlock_18 (lv_at hl 5 rfl) ?_
      refine lv_iload_n hx hb dX3_joinBlock_20 rfl (lv_at hl 3 rfl) ?_
      refine lv_iadd hx hb dX3_joinBlock_21 ?_
      obtain ⟨hi_3, h⟩ := h
      refine m_iald hx hb hK hV t0 hi_3 dX3_joinBlock_22 ?_
      refine lv_topi (fun x6_4 ex6_4 => ?_)
      replace h := h x6_4 ex6_4
      refine lv_istore (lv' := [(6, .int x6_4), (5, .int x5_2), (0, .ref (ad x0)), (1, .int x1), (2, .int x2), (3, .int x3), (4, .int x4)]) hx hb dX3_joinBlock_23 hl (by decide) rfl (fun ls hl => ?_)
      refine lv_aload_n hx hb dX3_joinBlock_25 rfl (lv_at hl 2 rfl) ?_
      refine lv_iload hx hb dX3_joinBlock_26 (lv_at hl 6 rfl) ?_
      refine lv_iload hx hb dX3_joinBlock_28 (lv_at hl 1 rfl) ?_
      refine lv_iload hx hb dX3_joinBlock_30 (lv_at hl 0 rfl) ?_
      refine lv_iadd hx hb dX3_joinBlock_32 ?_
      refine lv_sipush (v := 3329) hx hb dX3_joinBlock_33 (by decide) ?_
      refine lv_irem hx hb dX3_joinBlock_36 (by decide) ?_
      obtain ⟨hi_5, h⟩ := h
      refine m_iast hx hb hK hV t0 hi_5 dX3_joinBlock_37 (fun H locs hV => ?_)
      obtain ⟨I_6, eI_6⟩ : ∃ y, y = ms I x0 x4.toNatClampNeg (jrem (x5_2 + x6_4) 3329) := ⟨_, rfl⟩
      replace hV : Wd D X ad n A s.heap J I_6 L H locs := by rw [eI_6]; exact hV
      replace h := h I_6 eI_6
      refine lv_aload_n hx hb dX3_joinBlock_38 rfl (lv_at hl 2 rfl) ?_
      refine lv_iload hx hb dX3_joinBlock_39 (lv_at hl 6 rfl) ?_
      refine lv_iload_n hx hb dX3_joinBlock_41 rfl (lv_at hl 4 rfl) ?_
      refine lv_iadd hx hb dX3_joinBlock_42 ?_
      refine lv_iload hx hb dX3_joinBlock_43 (lv_at hl 0 rfl) ?_
      refine lv_iload hx hb dX3_joinBlock_45 (lv_at hl 1 rfl) ?_
      refine lv_isub hx hb dX3_joinBlock_47 ?_
      refine lv_sipush (v := 3329) hx hb dX3_joinBlock_48 (by decide) ?_
      refine lv_iadd hx hb dX3_joinBlock_51 ?_
      refine lv_iload_n hx hb dX3_joinBlock_52 rfl (lv_at hl 5 rfl) ?_
      refine lv_imul hx hb dX3_joinBlock_53 ?_
      refine lv_sipush (v := 3329) hx hb dX3_joinBlock_54 (by decide) ?_
      refine lv_irem hx hb dX3_joinBlock_57 (by decide) ?_
      obtain ⟨hi_7, h⟩ := h
      refine m_iast hx hb hK hV t0 hi_7 dX3_joinBlock_58 (fun H locs hV => ?_)
      obtain ⟨I_8, eI_8⟩ : ∃ y, y = ms I_6 x0 (x4 + x2).toNatClampNeg (jrem (((x6_4 - x5_2) + 3329) * x3) 3329) := ⟨_, rfl⟩
      replace hV : Wd D X ad n A s.heap J I_8 L H locs := by rw [eI_8]; exact hV
      replace h := h I_8 eI_8
      obtain ⟨x4_9, ex4_9⟩ : ∃ y : Int32, y = x4 + 1 := ⟨_, rfl⟩
      replace h := h x4_9 ex4_9
      refine lv_iinc (v := x4_9) (lv' := [(4, .int x4_9), (6, .int x6_4), (5, .int x5_2), (0, .ref (ad x0)), (1, .int x1), (2, .int x2), (3, .int x3)]) hx hb dX3_joinBlock_59 hl (k := 6) rfl (by rw [ex4_9]; rfl) (by decide) rfl (fun ls hl => ?_)
      refine lv_goto (tgt := 3) hx hb dX3_joinBlock_62 (by decide) ?_
      exact ih x4_9 _ _ _ _ _ h hV (lv_sub hl [3, 4, 5, 6, 0] rfl)
set_option maxHeartbeats 4000000 in
set_option maxRecDepth 100000 in
theorem s_X3_joinBlock (l : Launch) (D : va_G) (X : XT) (ad : Nat → Nat) (n : Nat) (A : Nat → Prop) (J : MJ) (hWT : WT X n J) (x0 : Nat) (t0 : Ty X n x0 0) (x1 : Int32) (x2 : Int32) (x3 : Int32) (I : MI) (L : ML) (q : MI → ML → Prop) (h : wp_X3_joinBlock X J x0 x1 x2 x3 I L q) : Met l yX3_joinBlock (wz yX3_joinBlock cX3_joinBlock 7 none) ({ frames := 0, cells := 0, slots := 0, locals := 0 } : Room) (va_Pc [.ref (ad x0), .int x1, .int x2, .int x3] (Pr D X ad n A J I L)) (QV D X ad n A J q) 0 0 A := by
  refine Met_go (by decide +kernel) (Nat.le_of_ble_eq_true rfl) (fun p e s m below meth c hx hb hr hml hown hlk hnm hts hK hZ hA hV ls hl => ?_)
  have C0 : Cx p s m meth c cX3_joinBlock none 7 yX3_joinBlock [.ref (ad x0), .int x1, .int x2, .int x3] D X ad n A J := ⟨hx, hb, hr, hml, hown, hlk, hnm, hts, hK, hZ, hA, hWT⟩
  unfold wp_X3_joinBlock at h
  have hl : lv_has ls 7 [(0, .ref (ad x0)), (1, .int x1), (2, .int x2), (3, .int x3)] := hl
  refine lv_iload_n hx hb dX3_joinBlock_0 rfl (lv_at hl 1 rfl) ?_
  refine lv_istore (lv' := [(4, .int x1), (0, .ref (ad x0)), (1, .int x1), (2, .int x2), (3, .int x3)]) hx hb dX3_joinBlock_1 hl (by decide) rfl (fun ls hl => ?_)
  obtain ⟨fu0, h⟩ := h
  exact n_X3_joinBlock_3 rfl C0 t0   fu0 x1 _ _ _ _ _ h hV (lv_sub hl [1, 2, 3, 4, 0] rfl)
set_option maxHeartbeats 4000000 in
set_option maxRecDepth 100000 in
theorem n_X3_fromPairs_53 {p : Program} {l : Launch} {e : Env} {s : State} {m : MethodId} {below : List Frame} {meth : Method} {c : Code} {D : va_G} {X : XT} {ad : Nat → Nat} {n : Nat} {A : Nat → Prop} {J : MJ} {av : List Value} {R : Room} (hR : R = ({ frames := 1, cells := 0, slots := 0, locals := 26 } : Room)) (C0 : Cx p s m meth c cX3_fromPairs none 4 yX3_fromPairs av D X ad n A J) {q : MI → ML → Prop}  {x0 : Nat} (t0 : Ty X n x0 0) : ∀ (fu : Nat) (x2 : Int32) (I : MI) (L : ML) (H : Heap) (locs : List Loc) (ls : Array Slot), wl_X3_fromPairs_53 X J q  x0 fu x2 I L → Wd D X ad n A s.heap J I L H locs → lv_has ls 4 [(0, .ref (ad x0)), (2, .int x2)] → W p l e R s m av.toArray below meth c H locs 0 0 (MQ below (QV D X ad n A J q) av.toArray s 0 0 A) (F0 m 53 ls []) := by
  obtain ⟨hx, hb, hr, hml, hown, hlk, hnm, hts, hK, hZ, hA, hWT⟩ := id C0
  subst hR
  intro fu
  induction fu with
  | zero => intro x2 I L H locs ls h; exact absurd h (fun h => h)
  | succ fu ih =>
    intro x2 I L H locs ls h hV hl
    refine lv_iload_n hx hb dX3_fromPairs_53 rfl (lv_at hl 1 rfl) ?_
    refine lv_sipush (v := 256) hx hb dX3_fromPairs_54 (by decide) ?_
    refine lv_icmp_ge (tgt := 80) hx hb dX3_fromPairs_57 (by decide) (fun hc => ?_) (fun hc => ?_)
    · replace h := h.1 hc
      exact m_vret hx hb hr hlk hK hZ hA hV h dX3_fromPairs_80
    · replace h := h.2 hc
      refine lv_aload_n hx hb dX3_fromPairs_60 rfl (lv_at hl 0 rfl) ?_
      refine lv_iload_n hx hb dX3_fromPairs_61 rfl (lv_at hl 1 rfl) ?_
      refine lv_aload_n hx hb dX3_fromPairs_62 rfl (lv_at hl 0 rfl) ?_
      refine lv_iload_n hx hb dX3_fromPairs_63 rfl (lv_at hl 1 rfl) ?_
      obtain ⟨hi_1, h⟩ := h
      refine m_iald hx hb hK hV t0 hi_1 dX3_fromPairs_64 ?_
      refine lv_sipush (v := 3303) hx hb dX3_fromPairs_65 (by decide) ?_
      refine lv_imul hx hb dX3_fromPairs_68 ?_
      refine lv_sipush (v := 3329) hx hb dX3_fromPairs_69 (by decide) ?_
      refine lv_irem hx hb dX3_fromPairs_72 (by decide) ?_
      obtain ⟨hi_2, h⟩ := h
      refine m_iast hx hb hK hV t0 hi_2 dX3_fromPairs_73 (fun H locs hV => ?_)
      obtain ⟨I_3, eI_3⟩ : ∃ y, y = ms I x0 x2.toNatClampNeg (jrem ((I x0 x2.toNatClampNeg) * 3303) 3329) := ⟨_, rfl⟩
      replace hV : Wd D X ad n A s.heap J I_3 L H locs := by rw [eI_3]; exact hV
      replace h := h I_3 eI_3
      obtain ⟨x2_4, ex2_4⟩ : ∃ y : Int32, y = x2 + 1 := ⟨_, rfl⟩
      replace h := h x2_4 ex2_4
      refine lv_iinc (v := x2_4) (lv' := [(2, .int x2_4), (0, .ref (ad x0))]) hx hb dX3_fromPairs_74 hl (k := 1) rfl (by rw [ex2_4]; rfl) (by decide) rfl (fun ls hl => ?_)
      refine lv_goto (tgt := 53) hx hb dX3_fromPairs_77 (by decide) ?_
      exact ih x2_4 _ _ _ _ _ h hV (lv_sub hl [1, 0] rfl)
set_option maxHeartbeats 4000000 in
set_option maxRecDepth 100000 in
theorem n_X3_fromPairs_14 {p : Program} {l : Launch} {e : Env} {s : State} {m : MethodId} {below : List Frame} {meth : Method} {c : Code} {D : va_G} {X : XT} {ad : Nat → Nat} {n : Nat} {A : Nat → Prop} {J : MJ} {av : List Value} {R : Room} (hR : R = ({ frames := 1, cells := 0, slots := 0, locals := 26 } : Room)) (C0 : Cx p s m meth c cX3_fromPairs none 4 yX3_fromPairs av D X ad n A J) {q : MI → ML → Prop} {k5 : Int32 → Int32 → MI → ML → Prop} {x0 : Nat} {x2 : Int32} (t0 : Ty X n x0 0)
    (hk5 : ∀ (x1 : Int32) (x2 : Int32) (I : MI) (L : ML) (H : Heap) (locs : List Loc) (ls : Array Slot), k5 x1 x2 I L → Wd D X ad n A s.heap J I L H locs → lv_has ls 4 [(0, .ref (ad x0)), (1, .int x1), (2, .int x2)] → W p l e R s m av.toArray below meth c H locs 0 0 (MQ below (QV D X ad n A J q) av.toArray s 0 0 A) (F0 m 5 ls [])) : ∀ (fu : Nat) (x1 : Int32) (x3 : Int32) (I : MI) (L : ML) (H : Heap) (locs : List Loc) (ls : Array Slot), wl_X3_fromPairs_14 X J q k5 x0 x2 fu x1 x3 I L → Wd D X ad n A s.heap J I L H locs → lv_has ls 4 [(0, .ref (ad x0)), (1, .int x1), (2, .int x2), (3, .int x3)] → W p l e R s m av.toArray below meth c H locs 0 0 (MQ below (QV D X ad n A J q) av.toArray s 0 0 A) (F0 m 14 ls []) := by
  obtain ⟨hx, hb, hr, hml, hown, hlk, hnm, hts, hK, hZ, hA, hWT⟩ := id C0
  subst hR
  intro fu
  induction fu with
  | zero => intro x1 x3 I L H locs ls h; exact absurd h (fun h => h)
  | succ fu ih =>
    intro x1 x3 I L H locs ls h hV hl
    refine lv_iload_n hx hb dX3_fromPairs_14 rfl (lv_at hl 3 rfl) ?_
    refine lv_sipush (v := 256) hx hb dX3_fromPairs_15 (by decide) ?_
    refine lv_icmp_ge (tgt := 44) hx hb dX3_fromPairs_18 (by decide) (fun hc => ?_) (fun hc => ?_)
    · replace h := h.1 hc
      refine lv_iload_n hx hb dX3_fromPairs_44 rfl (lv_at hl 2 rfl) ?_
      refine lv_iconst (v := 1) hx hb dX3_fromPairs_45 (by decide) ?_
      refine lv_ishl hx hb dX3_fromPairs_46 ?_
      refine lv_topi (fun x2_5 ex2_5 => ?_)
      replace h := h x2_5 ex2_5
      refine lv_istore_n (lv' := [(2, .int x2_5), (0, .ref (ad x0)), (1, .int x1), (3, .int x3)]) hx hb dX3_fromPairs_47 rfl hl (by decide) rfl (fun ls hl => ?_)
      refine lv_goto (tgt := 5) hx hb dX3_fromPairs_48 (by decide) ?_
      exact hk5 x1 x2_5 _ _ _ _ _ h hV (lv_sub hl [1, 2, 0] rfl)
    · replace h := h.2 hc
      refine lv_aload_n hx hb dX3_fromPairs_21 rfl (lv_at hl 0 rfl) ?_
      refine lv_iload_n hx hb dX3_fromPairs_22 rfl (lv_at hl 3 rfl) ?_
      refine lv_iload_n hx hb dX3_fromPairs_23 rfl (lv_at hl 2 rfl) ?_
      refine va_gets (v := .ref (X.2.2.2 3)) hx hb (hZ.2.1 3 (by decide)).1 hV.2.2 hown (hts _ tw_2_80) (fun _ h9 => h9) dX3_fromPairs_24 ?_
      refine lv_iload_n hx hb dX3_fromPairs_27 rfl (lv_at hl 1 rfl) ?_
      obtain ⟨hi_6, h⟩ := h
      refine va_ti hx hb (hZ.2.1 3 (by decide)).2 hV.2.2 hi_6 rfl dX3_fromPairs_28 ?_
      refine k_callv (va_runS (As := [.ref (ad x0), .int x3, .int x2, .int (sI 3 x1.toNatClampNeg)]) (rest := []) ⟨hx, hb, hml, hown, hts⟩ (s_X3_joinBlock l D X ad n A J hWT x0 t0 x3 x2 (sI 3 x1.toNatClampNeg) I L _ h) (va_cwS 4 hts (gS tw_2_188 tw_2_189 tw_1_13 tw_2_190) rfl rfl rfl (by decide +kernel) (by decide)) (k_preS hK hV hA hZ _) rfl rfl hl.1 rfl (lv_room (Nat.le_of_ble_eq_true rfl)) dX3_fromPairs_29 ⟨Nat.zero_le _, Nat.zero_le _⟩) hV (fun I_7 L_8 H locs h hV => ?_)
      obtain ⟨x1_9, ex1_9⟩ : ∃ y : Int32, y = x1 + (-1) := ⟨_, rfl⟩
      replace h := h x1_9 ex1_9
      refine lv_iinc (v := x1_9) (lv' := [(1, .int x1_9), (0, .ref (ad x0)), (2, .int x2), (3, .int x3)]) hx hb dX3_fromPairs_32 hl (k := 1) rfl (by rw [ex1_9]; rfl) (by decide) rfl (fun ls hl => ?_)
      refine lv_iload_n hx hb dX3_fromPairs_35 rfl (lv_at hl 3 rfl) ?_
      refine lv_iconst (v := 2) hx hb dX3_fromPairs_36 (by decide) ?_
      refine lv_iload_n hx hb dX3_fromPairs_37 rfl (lv_at hl 2 rfl) ?_
      refine lv_imul hx hb dX3_fromPairs_38 ?_
      refine lv_iadd hx hb dX3_fromPairs_39 ?_
      refine lv_topi (fun x3_10 ex3_10 => ?_)
      replace h := h x3_10 ex3_10
      refine lv_istore_n (lv' := [(3, .int x3_10), (1, .int x1_9), (0, .ref (ad x0)), (2, .int x2)]) hx hb dX3_fromPairs_40 rfl hl (by decide) rfl (fun ls hl => ?_)
      refine lv_goto (tgt := 14) hx hb dX3_fromPairs_41 (by decide) ?_
      exact ih x1_9 x3_10 _ _ _ _ _ h hV (lv_sub hl [2, 1, 3, 0] rfl)
set_option maxHeartbeats 4000000 in
set_option maxRecDepth 100000 in
theorem n_X3_fromPairs_5 {p : Program} {l : Launch} {e : Env} {s : State} {m : MethodId} {below : List Frame} {meth : Method} {c : Code} {D : va_G} {X : XT} {ad : Nat → Nat} {n : Nat} {A : Nat → Prop} {J : MJ} {av : List Value} {R : Room} (hR : R = ({ frames := 1, cells := 0, slots := 0, locals := 26 } : Room)) (C0 : Cx p s m meth c cX3_fromPairs none 4 yX3_fromPairs av D X ad n A J) {q : MI → ML → Prop}  {x0 : Nat} (t0 : Ty X n x0 0) : ∀ (fu : Nat) (x1 : Int32) (x2 : Int32) (I : MI) (L : ML) (H : Heap) (locs : List Loc) (ls : Array Slot), wl_X3_fromPairs_5 X J q  x0 fu x1 x2 I L → Wd D X ad n A s.heap J I L H locs → lv_has ls 4 [(0, .ref (ad x0)), (1, .int x1), (2, .int x2)] → W p l e R s m av.toArray below meth c H locs 0 0 (MQ below (QV D X ad n A J q) av.toArray s 0 0 A) (F0 m 5 ls []) := by
  obtain ⟨hx, hb, hr, hml, hown, hlk, hnm, hts, hK, hZ, hA, hWT⟩ := id C0
  subst hR
  intro fu
  induction fu with
  | zero => intro x1 x2 I L H locs ls h; exact absurd h (fun h => h)
  | succ fu ih =>
    intro x1 x2 I L H locs ls h hV hl
    refine lv_iload_n hx hb dX3_fromPairs_5 rfl (lv_at hl 2 rfl) ?_
    refine lv_sipush (v := 128) hx hb dX3_fromPairs_6 (by decide) ?_
    refine lv_icmp_gt (tgt := 51) hx hb dX3_fromPairs_9 (by decide) (fun hc => ?_) (fun hc => ?_)
    · replace h := h.1 hc
      refine lv_iconst (v := 0) hx hb dX3_fromPairs_51 (by decide) ?_
      refine lv_istore_n (lv' := [(2, .int 0), (0, .ref (ad x0)), (1, .int x1)]) hx hb dX3_fromPairs_52 rfl hl (by decide) rfl (fun ls hl => ?_)
      obtain ⟨fu0, h⟩ := h
      exact n_X3_fromPairs_53 rfl C0 t0   fu0 0 _ _ _ _ _ h hV (lv_sub hl [1, 0] rfl)
    · replace h := h.2 hc
      refine lv_iconst (v := 0) hx hb dX3_fromPairs_12 (by decide) ?_
      refine lv_istore_n (lv' := [(3, .int 0), (0, .ref (ad x0)), (1, .int x1), (2, .int x2)]) hx hb dX3_fromPairs_13 rfl hl (by decide) rfl (fun ls hl => ?_)
      obtain ⟨fu0, h⟩ := h
      exact n_X3_fromPairs_14 rfl C0 t0  (fun y1 y2 I L H locs ls h hV hl => ih y1 y2 I L H locs ls h hV (lv_sub hl [0, 1, 2] rfl)) fu0 x1 0 _ _ _ _ _ h hV (lv_sub hl [1, 2, 3, 0] rfl)
set_option maxHeartbeats 4000000 in
set_option maxRecDepth 100000 in
theorem s_X3_fromPairs (l : Launch) (D : va_G) (X : XT) (ad : Nat → Nat) (n : Nat) (A : Nat → Prop) (J : MJ) (hWT : WT X n J) (x0 : Nat) (t0 : Ty X n x0 0) (I : MI) (L : ML) (q : MI → ML → Prop) (h : wp_X3_fromPairs X J x0 I L q) : Met l yX3_fromPairs (wz yX3_fromPairs cX3_fromPairs 4 none) ({ frames := 1, cells := 0, slots := 0, locals := 26 } : Room) (va_Pc [.ref (ad x0)] (Pr D X ad n A J I L)) (QV D X ad n A J q) 0 0 A := by
  refine Met_go (by decide +kernel) (Nat.le_of_ble_eq_true rfl) (fun p e s m below meth c hx hb hr hml hown hlk hnm hts hK hZ hA hV ls hl => ?_)
  have C0 : Cx p s m meth c cX3_fromPairs none 4 yX3_fromPairs [.ref (ad x0)] D X ad n A J := ⟨hx, hb, hr, hml, hown, hlk, hnm, hts, hK, hZ, hA, hWT⟩
  unfold wp_X3_fromPairs at h
  have hl : lv_has ls 4 [(0, .ref (ad x0))] := hl
  refine lv_bipush (v := 127) hx hb dX3_fromPairs_0 (by decide) ?_
  refine lv_istore_n (lv' := [(1, .int 127), (0, .ref (ad x0))]) hx hb dX3_fromPairs_2 rfl hl (by decide) rfl (fun ls hl => ?_)
  refine lv_iconst (v := 2) hx hb dX3_fromPairs_3 (by decide) ?_
  refine lv_istore_n (lv' := [(2, .int 2), (1, .int 127), (0, .ref (ad x0))]) hx hb dX3_fromPairs_4 rfl hl (by decide) rfl (fun ls hl => ?_)
  obtain ⟨fu0, h⟩ := h
  exact n_X3_fromPairs_5 rfl C0 t0   fu0 127 2 _ _ _ _ _ h hV (lv_sub hl [2, 1, 0] rfl)
set_option maxHeartbeats 4000000 in
set_option maxRecDepth 100000 in
theorem s_X3_multiplyPair (l : Launch) (D : va_G) (X : XT) (ad : Nat → Nat) (n : Nat) (A : Nat → Prop) (J : MJ) (hWT : WT X n J) (x0 : Nat) (t0 : Ty X n x0 0) (x1 : Nat) (t1 : Ty X n x1 0) (x2 : Nat) (t2 : Ty X n x2 0) (x3 : Int32) (x4 : Int32) (I : MI) (L : ML) (q : MI → ML → Prop) (h : wp_X3_multiplyPair X J x0 x1 x2 x3 x4 I L q) : Met l yX3_multiplyPair (wz yX3_multiplyPair cX3_multiplyPair 7 none) ({ frames := 0, cells := 0, slots := 0, locals := 0 } : Room) (va_Pc [.ref (ad x0), .ref (ad x1), .ref (ad x2), .int x3, .int x4] (Pr D X ad n A J I L)) (QV D X ad n A J q) 0 0 A := by
  refine Met_go (by decide +kernel) (Nat.le_of_ble_eq_true rfl) (fun p e s m below meth c hx hb hr hml hown hlk hnm hts hK hZ hA hV ls hl => ?_)
  have C0 : Cx p s m meth c cX3_multiplyPair none 7 yX3_multiplyPair [.ref (ad x0), .ref (ad x1), .ref (ad x2), .int x3, .int x4] D X ad n A J := ⟨hx, hb, hr, hml, hown, hlk, hnm, hts, hK, hZ, hA, hWT⟩
  unfold wp_X3_multiplyPair at h
  have hl : lv_has ls 7 [(0, .ref (ad x0)), (1, .ref (ad x1)), (2, .ref (ad x2)), (3, .int x3), (4, .int x4)] := hl
  refine lv_aload_n hx hb dX3_multiplyPair_0 rfl (lv_at hl 0 rfl) ?_
  refine lv_iload_n hx hb dX3_multiplyPair_1 rfl (lv_at hl 3 rfl) ?_
  obtain ⟨hi_1, h⟩ := h
  refine m_iald hx hb hK hV t0 hi_1 dX3_multiplyPair_2 ?_
  refine lv_aload_n hx hb dX3_multiplyPair_3 rfl (lv_at hl 1 rfl) ?_
  refine lv_iload_n hx hb dX3_multiplyPair_4 rfl (lv_at hl 3 rfl) ?_
  obtain ⟨hi_2, h⟩ := h
  refine m_iald hx hb hK hV t1 hi_2 dX3_multiplyPair_5 ?_
  refine lv_imul hx hb dX3_multiplyPair_6 ?_
  refine lv_aload_n hx hb dX3_multiplyPair_7 rfl (lv_at hl 0 rfl) ?_
  refine lv_iload_n hx hb dX3_multiplyPair_8 rfl (lv_at hl 3 rfl) ?_
  refine lv_iconst (v := 1) hx hb dX3_multiplyPair_9 (by decide) ?_
  refine lv_iadd hx hb dX3_multiplyPair_10 ?_
  obtain ⟨hi_3, h⟩ := h
  refine m_iald hx hb hK hV t0 hi_3 dX3_multiplyPair_11 ?_
  refine lv_aload_n hx hb dX3_multiplyPair_12 rfl (lv_at hl 1 rfl) ?_
  refine lv_iload_n hx hb dX3_multiplyPair_13 rfl (lv_at hl 3 rfl) ?_
  refine lv_iconst (v := 1) hx hb dX3_multiplyPair_14 (by decide) ?_
  refine lv_iadd hx hb dX3_multiplyPair_15 ?_
  obtain ⟨hi_4, h⟩ := h
  refine m_iald hx hb hK hV t1 hi_4 dX3_multiplyPair_16 ?_
  refine lv_imul hx hb dX3_multiplyPair_17 ?_
  refine lv_sipush (v := 3329) hx hb dX3_multiplyPair_18 (by decide) ?_
  refine lv_irem hx hb dX3_multiplyPair_21 (by decide) ?_
  refine lv_iload hx hb dX3_multiplyPair_22 (lv_at hl 4 rfl) ?_
  refine lv_imul hx hb dX3_multiplyPair_24 ?_
  refine lv_iadd hx hb dX3_multiplyPair_25 ?_
  refine lv_topi (fun x5_5 ex5_5 => ?_)
  replace h := h x5_5 ex5_5
  refine lv_istore (lv' := [(5, .int x5_5), (0, .ref (ad x0)), (1, .ref (ad x1)), (2, .ref (ad x2)), (3, .int x3), (4, .int x4)]) hx hb dX3_multiplyPair_26 hl (by decide) rfl (fun ls hl => ?_)
  refine lv_aload_n hx hb dX3_multiplyPair_28 rfl (lv_at hl 1 rfl) ?_
  refine lv_iload_n hx hb dX3_multiplyPair_29 rfl (lv_at hl 4 rfl) ?_
  obtain ⟨hi_6, h⟩ := h
  refine m_iald hx hb hK hV t0 hi_6 dX3_multiplyPair_30 ?_
  refine lv_aload_n hx hb dX3_multiplyPair_31 rfl (lv_at hl 2 rfl) ?_
  refine lv_iload_n hx hb dX3_multiplyPair_32 rfl (lv_at hl 4 rfl) ?_
  refine lv_iconst (v := 1) hx hb dX3_multiplyPair_33 (by decide) ?_
  refine lv_iadd hx hb dX3_multiplyPair_34 ?_
  obtain ⟨hi_7, h⟩ := h
  refine m_iald hx hb hK hV t1 hi_7 dX3_multiplyPair_35 ?_
  refine lv_imul hx hb dX3_multiplyPair_36 ?_
  refine lv_aload_n hx hb dX3_multiplyPair_37 rfl (lv_at hl 1 rfl) ?_
  refine lv_iload_n hx hb dX3_multiplyPair_38 rfl (lv_at hl 4 rfl) ?_
  refine lv_iconst (v := 1) hx hb dX3_multiplyPair_39 (by decide) ?_
  refine lv_iadd hx hb dX3_multiplyPair_40 ?_
  obtain ⟨hi_8, h⟩ := h
  refine m_iald hx hb hK hV t0 hi_8 dX3_multiplyPair_41 ?_
  refine lv_aload_n hx hb dX3_multiplyPair_42 rfl (lv_at hl 2 rfl) ?_
  refine lv_iload_n hx hb dX3_multiplyPair_43 rfl (lv_at hl 4 rfl) ?_
  obtain ⟨hi_9, h⟩ := h
  refine m_iald hx hb hK hV t1 hi_9 dX3_multiplyPair_44 ?_
  refine lv_imul hx hb dX3_multiplyPair_45 ?_
  refine lv_iadd hx hb dX3_multiplyPair_46 ?_
  refine lv_topi (fun x6_10 ex6_10 => ?_)
  replace h := h x6_10 ex6_10
  refine lv_istore (lv' := [(6, .int x6_10), (5, .int x5_5), (0, .ref (ad x0)), (1, .ref (ad x1)), (2, .ref (ad x2)), (3, .int x3), (4, .int x4)]) hx hb dX3_multiplyPair_47 hl (by decide) rfl (fun ls hl => ?_)
  refine lv_aload_n hx hb dX3_multiplyPair_49 rfl (lv_at hl 4 rfl) ?_
  refine lv_iload_n hx hb dX3_multiplyPair_50 rfl (lv_at hl 5 rfl) ?_
  refine lv_iload hx hb dX3_multiplyPair_51 (lv_at hl 1 rfl) ?_
  refine lv_sipush (v := 3329) hx hb dX3_multiplyPair_53 (by decide) ?_
  refine lv_irem hx hb dX3_multiplyPair_56 (by decide) ?_
  obtain ⟨hi_11, h⟩ := h
  refine m_iast hx hb hK hV t2 hi_11 dX3_multiplyPair_57 (fun H locs hV => ?_)
  obtain ⟨I_12, eI_12⟩ : ∃ y, y = ms I x2 x3.toNatClampNeg (jrem x5_5 3329) := ⟨_, rfl⟩
  replace hV : Wd D X ad n A s.heap J I_12 L H locs := by rw [eI_12]; exact hV
  replace h := h I_12 eI_12
  refine lv_aload_n hx hb dX3_multiplyPair_58 rfl (lv_at hl 4 rfl) ?_
  refine lv_iload_n hx hb dX3_multiplyPair_59 rfl (lv_at hl 5 rfl) ?_
  refine lv_iconst (v := 1) hx hb dX3_multiplyPair_60 (by decide) ?_
  refine lv_iadd hx hb dX3_multiplyPair_61 ?_
  refine lv_iload hx hb dX3_multiplyPair_62 (lv_at hl 0 rfl) ?_
  refine lv_sipush (v := 3329) hx hb dX3_multiplyPair_64 (by decide) ?_
  refine lv_irem hx hb dX3_multiplyPair_67 (by decide) ?_
  obtain ⟨hi_13, h⟩ := h
  refine m_iast hx hb hK hV t2 hi_13 dX3_multiplyPair_68 (fun H locs hV => ?_)
  obtain ⟨I_14, eI_14⟩ : ∃ y, y = ms I_12 x2 (x3 + 1).toNatClampNeg (jrem x6_10 3329) := ⟨_, rfl⟩
  replace hV : Wd D X ad n A s.heap J I_14 L H locs := by rw [eI_14]; exact hV
  replace h := h I_14 eI_14
  exact m_vret hx hb hr hlk hK hZ hA hV h dX3_multiplyPair_69
set_option maxHeartbeats 4000000 in
set_option maxRecDepth 100000 in
theorem n_X3_multiplyPairs_2 {p : Program} {l : Launch} {e : Env} {s : State} {m : MethodId} {below : List Frame} {meth : Method} {c : Code} {D : va_G} {X : XT} {ad : Nat → Nat} {n : Nat} {A : Nat → Prop} {J : MJ} {av : List Value} {R : Room} (hR : R = ({ frames := 1, cells := 0, slots := 0, locals := 26 } : Room)) (C0 : Cx p s m meth c cX3_multiplyPairs none 5 yX3_multiplyPairs av D X ad n A J) {q : MI → ML → Prop}  {x0 : Nat} {x1 : Nat} {x2 : Nat} (t0 : Ty X n x0 0) (t1 : Ty X n x1 0) (t2 : Ty X n x2 0) : ∀ (fu : Nat) (x3 : Int32) (I : MI) (L : ML) (H : Heap) (locs : List Loc) (ls : Array Slot), wl_X3_multiplyPairs_2 X J q  x0 x1 x2 fu x3 I L → Wd D X ad n A s.heap J I L H locs → lv_has ls 5 [(0, .ref (ad x0)), (1, .ref (ad x1)), (2, .ref (ad x2)), (3, .int x3)] → W p l e R s m av.toArray below meth c H locs 0 0 (MQ below (QV D X ad n A J q) av.toArray s 0 0 A) (F0 m 2 ls []) := by
  obtain ⟨hx, hb, hr, hml, hown, hlk, hnm, hts, hK, hZ, hA, hWT⟩ := id C0
  subst hR
  intro fu
  induction fu with
  | zero => intro x3 I L H locs ls h; exact absurd h (fun h => h)
  | succ fu ih =>
    intro x3 I L H locs ls h hV hl
    refine lv_iload_n hx hb dX3_multiplyPairs_2 rfl (lv_at hl 3 rfl) ?_
    refine lv_bipush (v := 64) hx hb dX3_multiplyPairs_3 (by decide) ?_
    refine lv_icmp_ge (tgt := 52) hx hb dX3_multiplyPairs_5 (by decide) (fun hc => ?_) (fun hc => ?_)
    · replace h := h.1 hc
      exact m_vret hx hb hr hlk hK hZ hA hV h dX3_multiplyPairs_52
    · replace h := h.2 hc
      refine va_gets (v := .ref (X.2.2.2 3)) hx hb (hZ.2.1 3 (by decide)).1 hV.2.2 hown (hts _ tw_2_80) (fun _ h9 => h9) dX3_multiplyPairs_8 ?_
      refine lv_bipush (v := 64) hx hb dX3_multiplyPairs_11 (by decide) ?_
      refine lv_iload_n hx hb dX3_multiplyPairs_13 rfl (lv_at hl 3 rfl) ?_
      refine lv_iadd hx hb dX3_multiplyPairs_14 ?_
      obtain ⟨hi_1, h⟩ := h
      refine va_ti hx hb (hZ.2.1 3 (by decide)).2 hV.2.2 hi_1 rfl dX3_multiplyPairs_15 ?_
      refine lv_topi (fun x4_2 ex4_2 => ?_)
      replace h := h x4_2 ex4_2
      refine lv_istore (lv' := [(4, .int x4_2), (0, .ref (ad x0)), (1, .ref (ad x1)), (2, .ref (ad x2)), (3, .int x3)]) hx hb dX3_multiplyPairs_16 hl (by decide) rfl (fun ls hl => ?_)
      refine lv_aload_n hx hb dX3_multiplyPairs_18 rfl (lv_at hl 1 rfl) ?_
      refine lv_aload_n hx hb dX3_multiplyPairs_19 rfl (lv_at hl 2 rfl) ?_
      refine lv_aload_n hx hb dX3_multiplyPairs_20 rfl (lv_at hl 3 rfl) ?_
      refine lv_iconst (v := 4) hx hb dX3_multiplyPairs_21 (by decide) ?_
      refine lv_iload_n hx hb dX3_multiplyPairs_22 rfl (lv_at hl 4 rfl) ?_
      refine lv_imul hx hb dX3_multiplyPairs_23 ?_
      refine lv_iload hx hb dX3_multiplyPairs_24 (lv_at hl 0 rfl) ?_
      refine k_callv (va_runS (As := [.ref (ad x0), .ref (ad x1), .ref (ad x2), .int (4 * x3), .int x4_2]) (rest := []) ⟨hx, hb, hml, hown, hts⟩ (s_X3_multiplyPair l D X ad n A J hWT x0 t0 x1 t1 x2 t2 (4 * x3) x4_2 I L _ h) (va_cwS 5 hts (gS tw_2_109 tw_2_110 tw_1_13 tw_2_111) rfl rfl rfl (by decide +kernel) (by decide)) (k_preS hK hV hA hZ _) rfl rfl hl.1 rfl (lv_room (Nat.le_of_ble_eq_true rfl)) dX3_multiplyPairs_26 ⟨Nat.zero_le _, Nat.zero_le _⟩) hV (fun I_3 L_4 H locs h hV => ?_)
      refine lv_aload_n hx hb dX3_multiplyPairs_29 rfl (lv_at hl 1 rfl) ?_
      refine lv_aload_n hx hb dX3_multiplyPairs_30 rfl (lv_at hl 2 rfl) ?_
      refine lv_aload_n hx hb dX3_multiplyPairs_31 rfl (lv_at hl 3 rfl) ?_
      refine lv_iconst (v := 4) hx hb dX3_multiplyPairs_32 (by decide) ?_
      refine lv_iload_n hx hb dX3_multiplyPairs_33 rfl (lv_at hl 4 rfl) ?_
      refine lv_imul hx hb dX3_multiplyPairs_34 ?_
      refine lv_iconst (v := 2) hx hb dX3_multiplyPairs_35 (by decide) ?_
      refine lv_iadd hx hb dX3_multiplyPairs_36 ?_
      refine lv_sipush (v := 3329) hx hb dX3_multiplyPairs_37 (by decide) ?_
      refine lv_iload hx hb dX3_multiplyPairs_40 (lv_at hl 0 rfl) ?_
      refine lv_isub hx hb dX3_multiplyPairs_42 ?_
      refine k_callv (va_runS (As := [.ref (ad x0), .ref (ad x1), .ref (ad x2), .int ((4 * x3) + 2), .int (3329 - x4_2)]) (rest := []) ⟨hx, hb, hml, hown, hts⟩ (s_X3_multiplyPair l D X ad n A J hWT x0 t0 x1 t1 x2 t2 ((4 * x3) + 2) (3329 - x4_2) I_3 L_4 _ h) (va_cwS 5 hts (gS tw_2_109 tw_2_110 tw_1_13 tw_2_111) rfl rfl rfl (by decide +kernel) (by decide)) (k_preS hK hV hA hZ _) rfl rfl hl.1 rfl (lv_room (Nat.le_of_ble_eq_true rfl)) dX3_multiplyPairs_43 ⟨Nat.zero_le _, Nat.zero_le _⟩) hV (fun I_5 L_6 H locs h hV => ?_)
      obtain ⟨x3_7, ex3_7⟩ : ∃ y : Int32, y = x3 + 1 := ⟨_, rfl⟩
      replace h := h x3_7 ex3_7
      refine lv_iinc (v := x3_7) (lv' := [(3, .int x3_7), (4, .int x4_2), (0, .ref (ad x0)), (1, .ref (ad x1)), (2, .ref (ad x2))]) hx hb dX3_multiplyPairs_46 hl (k := 4) rfl (by rw [ex3_7]; rfl) (by decide) rfl (fun ls hl => ?_)
      refine lv_goto (tgt := 2) hx hb dX3_multiplyPairs_49 (by decide) ?_
      exact ih x3_7 _ _ _ _ _ h hV (lv_sub hl [2, 3, 4, 0] rfl)
set_option maxHeartbeats 4000000 in
set_option maxRecDepth 100000 in
theorem s_X3_multiplyPairs (l : Launch) (D : va_G) (X : XT) (ad : Nat → Nat) (n : Nat) (A : Nat → Prop) (J : MJ) (hWT : WT X n J) (x0 : Nat) (t0 : Ty X n x0 0) (x1 : Nat) (t1 : Ty X n x1 0) (x2 : Nat) (t2 : Ty X n x2 0) (I : MI) (L : ML) (q : MI → ML → Prop) (h : wp_X3_multiplyPairs X J x0 x1 x2 I L q) : Met l yX3_multiplyPairs (wz yX3_multiplyPairs cX3_multiplyPairs 5 none) ({ frames := 1, cells := 0, slots := 0, locals := 26 } : Room) (va_Pc [.ref (ad x0), .ref (ad x1), .ref (ad x2)] (Pr D X ad n A J I L)) (QV D X ad n A J q) 0 0 A := by
  refine Met_go (by decide +kernel) (Nat.le_of_ble_eq_true rfl) (fun p e s m below meth c hx hb hr hml hown hlk hnm hts hK hZ hA hV ls hl => ?_)
  have C0 : Cx p s m meth c cX3_multiplyPairs none 5 yX3_multiplyPairs [.ref (ad x0), .ref (ad x1), .ref (ad x2)] D X ad n A J := ⟨hx, hb, hr, hml, hown, hlk, hnm, hts, hK, hZ, hA, hWT⟩
  unfold wp_X3_multiplyPairs at h
  have hl : lv_has ls 5 [(0, .ref (ad x0)), (1, .ref (ad x1)), (2, .ref (ad x2))] := hl
  refine lv_iconst (v := 0) hx hb dX3_multiplyPairs_0 (by decide) ?_
  refine lv_istore_n (lv' := [(3, .int 0), (0, .ref (ad x0)), (1, .ref (ad x1)), (2, .ref (ad x2))]) hx hb dX3_multiplyPairs_1 rfl hl (by decide) rfl (fun ls hl => ?_)
  obtain ⟨fu0, h⟩ := h
  exact n_X3_multiplyPairs_2 rfl C0 t0 t1 t2   fu0 0 _ _ _ _ _ h hV (lv_sub hl [1, 2, 3, 0] rfl)
set_option maxHeartbeats 4000000 in
set_option maxRecDepth 100000 in
theorem n_X3_addTimes_2 {p : Program} {l : Launch} {e : Env} {s : State} {m : MethodId} {below : List Frame} {meth : Method} {c : Code} {D : va_G} {X : XT} {ad : Nat → Nat} {n : Nat} {A : Nat → Prop} {J : MJ} {av : List Value} {R : Room} (hR : R = ({ frames := 0, cells := 0, slots := 0, locals := 0 } : Room)) (C0 : Cx p s m meth c cX3_addTimes none 4 yX3_addTimes av D X ad n A J) {q : MI → ML → Prop}  {x0 : Nat} {x1 : Nat} {x2 : Int32} (t0 : Ty X n x0 0) (t1 : Ty X n x1 0) : ∀ (fu : Nat) (x3 : Int32) (I : MI) (L : ML) (H : Heap) (locs : List Loc) (ls : Array Slot), wl_X3_addTimes_2 X J q  x0 x1 x2 fu x3 I L → Wd D X ad n A s.heap J I L H locs → lv_has ls 4 [(0, .ref (ad x0)), (1, .ref (ad x1)), (2, .int x2), (3, .int x3)] → W p l e R s m av.toArray below meth c H locs 0 0 (MQ below (QV D X ad n A J q) av.toArray s 0 0 A) (F0 m 2 ls []) := by
  obtain ⟨hx, hb, hr, hml, hown, hlk, hnm, hts, hK, hZ, hA, hWT⟩ := id C0
  subst hR
  intro fu
  induction fu with
  | zero => intro x3 I L H locs ls h; exact absurd h (fun h => h)
  | succ fu ih =>
    intro x3 I L H locs ls h hV hl
    refine lv_iload_n hx hb dX3_addTimes_2 rfl (lv_at hl 3 rfl) ?_
    refine lv_sipush (v := 256) hx hb dX3_addTimes_3 (by decide) ?_
    refine lv_icmp_ge (tgt := 35) hx hb dX3_addTimes_6 (by decide) (fun hc => ?_) (fun hc => ?_)
    · replace h := h.1 hc
      exact m_vret hx hb hr hlk hK hZ hA hV h dX3_addTimes_35
    · replace h := h.2 hc
      refine lv_aload_n hx hb dX3_addTimes_9 rfl (lv_at hl 0 rfl) ?_
      refine lv_iload_n hx hb dX3_addTimes_10 rfl (lv_at hl 3 rfl) ?_
      refine lv_aload_n hx hb dX3_addTimes_11 rfl (lv_at hl 0 rfl) ?_
      refine lv_iload_n hx hb dX3_addTimes_12 rfl (lv_at hl 3 rfl) ?_
      obtain ⟨hi_1, h⟩ := h
      refine m_iald hx hb hK hV t0 hi_1 dX3_addTimes_13 ?_
      refine lv_iload_n hx hb dX3_addTimes_14 rfl (lv_at hl 2 rfl) ?_
      refine lv_aload_n hx hb dX3_addTimes_15 rfl (lv_at hl 1 rfl) ?_
      refine lv_iload_n hx hb dX3_addTimes_16 rfl (lv_at hl 3 rfl) ?_
      obtain ⟨hi_2, h⟩ := h
      refine m_iald hx hb hK hV t1 hi_2 dX3_addTimes_17 ?_
      refine lv_imul hx hb dX3_addTimes_18 ?_
      refine lv_iadd hx hb dX3_addTimes_19 ?_
      refine lv_sipush (v := 3329) hx hb dX3_addTimes_20 (by decide) ?_
      refine lv_iadd hx hb dX3_addTimes_23 ?_
      refine lv_sipush (v := 3329) hx hb dX3_addTimes_24 (by decide) ?_
      refine lv_irem hx hb dX3_addTimes_27 (by decide) ?_
      obtain ⟨hi_3, h⟩ := h
      refine m_iast hx hb hK hV t0 hi_3 dX3_addTimes_28 (fun H locs hV => ?_)
      obtain ⟨I_4, eI_4⟩ : ∃ y, y = ms I x0 x3.toNatClampNeg (jrem (((I x0 x3.toNatClampNeg) + (x2 * (I x1 x3.toNatClampNeg))) + 3329) 3329) := ⟨_, rfl⟩
      replace hV : Wd D X ad n A s.heap J I_4 L H locs := by rw [eI_4]; exact hV
      replace h := h I_4 eI_4
      obtain ⟨x3_5, ex3_5⟩ : ∃ y : Int32, y = x3 + 1 := ⟨_, rfl⟩
      replace h := h x3_5 ex3_5
      refine lv_iinc (v := x3_5) (lv' := [(3, .int x3_5), (0, .ref (ad x0)), (1, .ref (ad x1)), (2, .int x2)]) hx hb dX3_addTimes_29 hl (k := 3) rfl (by rw [ex3_5]; rfl) (by decide) rfl (fun ls hl => ?_)
      refine lv_goto (tgt := 2) hx hb dX3_addTimes_32 (by decide) ?_
      exact ih x3_5 _ _ _ _ _ h hV (lv_sub hl [1, 2, 3, 0] rfl)
set_option maxHeartbeats 4000000 in
set_option maxRecDepth 100000 in
theorem s_X3_addTimes (l : Launch) (D : va_G) (X : XT) (ad : Nat → Nat) (n : Nat) (A : Nat → Prop) (J : MJ) (hWT : WT X n J) (x0 : Nat) (t0 : Ty X n x0 0) (x1 : Nat) (t1 : Ty X n x1 0) (x2 : Int32) (I : MI) (L : ML) (q : MI → ML → Prop) (h : wp_X3_addTimes X J x0 x1 x2 I L q) : Met l yX3_addTimes (wz yX3_addTimes cX3_addTimes 4 none) ({ frames := 0, cells := 0, slots := 0, locals := 0 } : Room) (va_Pc [.ref (ad x0), .ref (ad x1), .int x2] (Pr D X ad n A J I L)) (QV D X ad n A J q) 0 0 A := by
  refine Met_go (by decide +kernel) (Nat.le_of_ble_eq_true rfl) (fun p e s m below meth c hx hb hr hml hown hlk hnm hts hK hZ hA hV ls hl => ?_)
  have C0 : Cx p s m meth c cX3_addTimes none 4 yX3_addTimes [.ref (ad x0), .ref (ad x1), .int x2] D X ad n A J := ⟨hx, hb, hr, hml, hown, hlk, hnm, hts, hK, hZ, hA, hWT⟩
  unfold wp_X3_addTimes at h
  have hl : lv_has ls 4 [(0, .ref (ad x0)), (1, .ref (ad x1)), (2, .int x2)] := hl
  refine lv_iconst (v := 0) hx hb dX3_addTimes_0 (by decide) ?_
  refine lv_istore_n (lv' := [(3, .int 0), (0, .ref (ad x0)), (1, .ref (ad x1)), (2, .int x2)]) hx hb dX3_addTimes_1 rfl hl (by decide) rfl (fun ls hl => ?_)
  obtain ⟨fu0, h⟩ := h
  exact n_X3_addTimes_2 rfl C0 t0 t1   fu0 0 _ _ _ _ _ h hV (lv_sub hl [1, 2, 3, 0] rfl)
