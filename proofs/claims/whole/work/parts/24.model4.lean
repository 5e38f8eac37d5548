theorem tw_3_92 : Cond.fieldLink RX8 165 "LatticeVaultModel" "taped" "I" ∈ gt := g3 92 (by decide +kernel) (by decide +kernel)
theorem tw_3_93 : Cond.fieldLink RX8 171 "LatticeVaultModel" "ekSize" "I" ∈ gt := g3 93 (by decide +kernel) (by decide +kernel)
theorem tw_3_94 : Cond.fieldLink RX8 174 "LatticeVaultModel" "dkSize" "I" ∈ gt := g3 94 (by decide +kernel) (by decide +kernel)
theorem tw_3_95 : Cond.fieldLink RX8 177 "LatticeVaultModel" "textSize" "I" ∈ gt := g3 95 (by decide +kernel) (by decide +kernel)
theorem tw_3_96 : Cond.fieldLink RX8 180 "LatticeVaultModel" "secretSize" "I" ∈ gt := g3 96 (by decide +kernel) (by decide +kernel)
theorem tw_3_97 : Cond.fieldLink RX8 186 "LatticeVaultModel" "outSize" "I" ∈ gt := g3 97 (by decide +kernel) (by decide +kernel)
theorem tw_3_162 : Cond.methodLink RX8 168 yX8_length ∈ gt := g3 162 (by decide +kernel) (by decide +kernel)
theorem tw_3_163 : Cond.instanceMethod yX8_length ∈ gt := g3 163 (by decide +kernel) (by decide +kernel)
theorem tw_3_164 : Cond.selects RX8 yX8_length yX8_length ∈ gt := g3 164 (by decide +kernel) (by decide +kernel)
theorem tw_3_165 : Cond.code yX8_length cX8_length 2 (some .int) ∈ gt := g3 165 rfl (by rfl)
theorem tw_3_178 : Cond.methodLink RX8 183 yX8_ekBytes ∈ gt := g3 178 (by decide +kernel) (by decide +kernel)
theorem tw_3_180 : Cond.instanceMethod yX8_ekBytes ∈ gt := g3 180 (by decide +kernel) (by decide +kernel)
theorem tw_0_15 : Cond.selects RX8 yX8_ekBytes yX8_ekBytes ∈ gt := g0 15 (by decide +kernel) (by decide +kernel)
theorem tw_3_181 : Cond.code yX8_ekBytes cX8_ekBytes 1 (some .int) ∈ gt := g3 181 rfl (by rfl)
theorem tw_3_199 : Cond.methodLink RX8 189 yX8_used ∈ gt := g3 199 (by decide +kernel) (by decide +kernel)
theorem tw_3_201 : Cond.instanceMethod yX8_used ∈ gt := g3 201 (by decide +kernel) (by decide +kernel)
theorem tw_0_17 : Cond.selects RX8 yX8_used yX8_used ∈ gt := g0 17 (by decide +kernel) (by decide +kernel)
theorem tw_3_202 : Cond.code yX8_used cX8_used 2 (some .int) ∈ gt := g3 202 rfl (by rfl)
theorem tw_3_203 : Cond.methodLink RX8 192 yX8_made ∈ gt := g3 203 (by decide +kernel) (by decide +kernel)
theorem tw_3_205 : Cond.instanceMethod yX8_made ∈ gt := g3 205 (by decide +kernel) (by decide +kernel)
theorem tw_0_18 : Cond.selects RX8 yX8_made yX8_made ∈ gt := g0 18 (by decide +kernel) (by decide +kernel)
theorem tw_3_206 : Cond.code yX8_made cX8_made 3 (some .boolean) ∈ gt := g3 206 rfl (by rfl)
theorem tw_4_35 : Cond.methodLink RX8 196 yX8_h ∈ gt := g4 35 (by decide +kernel) (by decide +kernel)
theorem tw_4_37 : Cond.instanceMethod yX8_h ∈ gt := g4 37 (by decide +kernel) (by decide +kernel)
theorem tw_0_35 : Cond.selects RX8 yX8_h yX8_h ∈ gt := g0 35 (by decide +kernel) (by decide +kernel)
theorem tw_4_38 : Cond.code yX8_h cX8_h 4 none ∈ gt := g4 38 rfl (by rfl)
theorem tw_4_43 : Cond.methodLink RX8 199 yX8_textBytes ∈ gt := g4 43 (by decide +kernel) (by decide +kernel)
theorem tw_4_45 : Cond.instanceMethod yX8_textBytes ∈ gt := g4 45 (by decide +kernel) (by decide +kernel)
theorem tw_0_36 : Cond.selects RX8 yX8_textBytes yX8_textBytes ∈ gt := g0 36 (by decide +kernel) (by decide +kernel)
theorem tw_4_46 : Cond.code yX8_textBytes cX8_textBytes 1 (some .int) ∈ gt := g4 46 rfl (by rfl)
theorem tw_4_63 : Cond.methodLink RX8 202 yX8_locks ∈ gt := g4 63 (by decide +kernel) (by decide +kernel)
theorem tw_4_65 : Cond.instanceMethod yX8_locks ∈ gt := g4 65 (by decide +kernel) (by decide +kernel)
theorem tw_0_40 : Cond.selects RX8 yX8_locks yX8_locks ∈ gt := g0 40 (by decide +kernel) (by decide +kernel)
theorem tw_4_66 : Cond.code yX8_locks cX8_locks 4 (some .boolean) ∈ gt := g4 66 rfl (by rfl)
theorem tw_4_98 : Cond.methodLink RX8 206 yX8_unlocks ∈ gt := g4 98 (by decide +kernel) (by decide +kernel)
theorem tw_4_100 : Cond.instanceMethod yX8_unlocks ∈ gt := g4 100 (by decide +kernel) (by decide +kernel)
theorem tw_0_47 : Cond.selects RX8 yX8_unlocks yX8_unlocks ∈ gt := g0 47 (by decide +kernel) (by decide +kernel)
theorem tw_4_101 : Cond.code yX8_unlocks cX8_unlocks 3 none ∈ gt := g4 101 rfl (by rfl)
theorem tw_4_110 : Cond.methodLink RX8 209 yX8_isPol ∈ gt := g4 110 (by decide +kernel) (by decide +kernel)
theorem tw_4_111 : Cond.static yX8_isPol ∈ gt := g4 111 (by decide +kernel) (by decide +kernel)
theorem tw_4_112 : Cond.code yX8_isPol cX8_isPol 1 (some .boolean) ∈ gt := g4 112 rfl (by rfl)
def wj_X8_feed_71 (X : XT) (J : MJ) (q : Int32 → MI → ML → Prop) (k18 : Int32 → MI → ML → Prop) (x0 : Nat) (x1 : Int32) (x2 : Int32) (x3 : Int32) (x4 : Int32) (x5 : Int32) (x6 : Int32) (z0 : Int32) (I : MI) (L : ML) : Prop := (∃ r_1 : Nat, J x0 0 = some r_1 ∧ (vp_in (0 + (I x0 1)) (sl X r_1) ∧ ∀ I_3, I_3 = ms I r_1 (0 + (I x0 1)).toNatClampNeg (jb8 (jb8 (jshr z0 (24 - (8 * (jrem x6 4)))))) → (∀ I_4, I_4 = ms I_3 x0 1 ((I_3 x0 1) + 1) → (∀ x6_5 : Int32, x6_5 = x6 + 1 → k18 x6_5 I_4 L))))
def wl_X8_feed_18 (X : XT) (J : MJ) (q : Int32 → MI → ML → Prop)  (x0 : Nat) (x1 : Int32) (x2 : Int32) (x3 : Int32) (x4 : Int32) (x5 : Int32) : Nat → Int32 → MI → ML → Prop
  | 0 => fun _ _ _ => False
  | fu + 1 => fun x6 I L => (((20 ≤ x6) → q (I x0 1) I L) ∧ (¬ (20 ≤ x6) → (((4 ≤ x6) → (((8 ≤ x6) → (((12 ≤ x6) → (((16 ≤ x6) → wj_X8_feed_71 X J q (wl_X8_feed_18 X J q  x0 x1 x2 x3 x4 x5 fu) x0 x1 x2 x3 x4 x5 x6 x5 I L) ∧ (¬ (16 ≤ x6) → wj_X8_feed_71 X J q (wl_X8_feed_18 X J q  x0 x1 x2 x3 x4 x5 fu) x0 x1 x2 x3 x4 x5 x6 x4 I L))) ∧ (¬ (12 ≤ x6) → wj_X8_feed_71 X J q (wl_X8_feed_18 X J q  x0 x1 x2 x3 x4 x5 fu) x0 x1 x2 x3 x4 x5 x6 x3 I L))) ∧ (¬ (8 ≤ x6) → wj_X8_feed_71 X J q (wl_X8_feed_18 X J q  x0 x1 x2 x3 x4 x5 fu) x0 x1 x2 x3 x4 x5 x6 x2 I L))) ∧ (¬ (4 ≤ x6) → wj_X8_feed_71 X J q (wl_X8_feed_18 X J q  x0 x1 x2 x3 x4 x5 fu) x0 x1 x2 x3 x4 x5 x6 x1 I L))))
def wp_X8_feed (X : XT) (J : MJ) (x0 : Nat) (x1 : Int32) (x2 : Int32) (x3 : Int32) (x4 : Int32) (x5 : Int32) (I : MI) (L : ML) (q : Int32 → MI → ML → Prop) : Prop := (((((I x0 1) + 20) ≤ 4000) → ∃ fu0 : Nat, wl_X8_feed_18 X J q  x0 x1 x2 x3 x4 x5 fu0 0 I L) ∧ (¬ (((I x0 1) + 20) ≤ 4000) → q (-1) I L))
def wp_X8_end (X : XT) (J : MJ) (x0 : Nat) (x1 : Int32) (I : MI) (L : ML) (q : Int32 → MI → ML → Prop) : Prop := (((x1 < 0) → q (-1) I L) ∧ (¬ (x1 < 0) → (((x1 ≤ (I x0 1)) → (∀ I_1, I_1 = ms I x0 1 x1 → q x1 I_1 L)) ∧ (¬ (x1 ≤ (I x0 1)) → q (-1) I L))))
def wp_X8_length (X : XT) (J : MJ) (x0 : Nat) (x1 : Int32) (I : MI) (L : ML) (q : Int32 → MI → ML → Prop) : Prop := ((x1.toInt < 0 ∨ 5 < x1.toInt → q (-1) I L) ∧ ((x1 = nI 0 → q (I x0 2) I L) ∧ ((x1 = nI 1 → q (I x0 3) I L) ∧ ((x1 = nI 2 → q (I x0 4) I L) ∧ ((x1 = nI 3 → q (I x0 5) I L) ∧ ((x1 = nI 4 → q (I x0 6) I L) ∧ (x1 = nI 5 → q (I x0 1) I L)))))))
def wj_X8_take_57 (X : XT) (J : MJ) (q : Int32 → MI → ML → Prop)  (x0 : Nat) (x1 : Int32) (z0 : Int32) (I : MI) (L : ML) : Prop := (wp_X8_length X J x0 x1 I L (fun v_3 I_1 L_2 => (wp_X8_copy X J x0 z0 0 v_3 I_1 L_2 (fun I_4 L_5 => (∀ I_6, I_6 = ms I_4 x0 1 v_3 → q v_3 I_6 L_5)))))
def wp_X8_take (X : XT) (J : MJ) (x0 : Nat) (x1 : Int32) (I : MI) (L : ML) (q : Int32 → MI → ML → Prop) : Prop := (((x1 < 0) → q (-1) I L) ∧ (¬ (x1 < 0) → (((x1 ≤ 4) → ((¬ (x1 = 0) → ((¬ (x1 = 1) → ((¬ (x1 = 2) → ((¬ (x1 = 3) → wj_X8_take_57 X J q  x0 x1 10336 I L) ∧ ((x1 = 3) → wj_X8_take_57 X J q  x0 x1 10304 I L))) ∧ ((x1 = 2) → wj_X8_take_57 X J q  x0 x1 8736 I L))) ∧ ((x1 = 1) → wj_X8_take_57 X J q  x0 x1 5568 I L))) ∧ ((x1 = 0) → wj_X8_take_57 X J q  x0 x1 4000 I L))) ∧ (¬ (x1 ≤ 4) → q (-1) I L))))
def wp_X8_alter (X : XT) (J : MJ) (x0 : Nat) (x1 : Int32) (x2 : Int32) (I : MI) (L : ML) (q : Int32 → MI → ML → Prop) : Prop := (((x1 < 0) → q 0 I L) ∧ (¬ (x1 < 0) → (((x1 < (I x0 1)) → (∃ r_1 : Nat, J x0 0 = some r_1 ∧ (vp_in (0 + x1) (sl X r_1) ∧ ∀ I_3, I_3 = ms I r_1 (0 + x1).toNatClampNeg (jb8 (jb8 x2)) → q 1 I_3 L))) ∧ (¬ (x1 < (I x0 1)) → q 0 I L))))
def wp_X8_choose (X : XT) (J : MJ) (x0 : Nat) (x1 : Int32) (I : MI) (L : ML) (q : Int32 → MI → ML → Prop) : Prop := (((x1 < 2) → q (-1) I L) ∧ (¬ (x1 < 2) → (((x1 ≤ 4) → (∀ I_1, I_1 = ms I x0 7 x1 → (∀ I_2, I_2 = ms I_1 x0 2 0 → (∀ I_3, I_3 = ms I_2 x0 3 0 → (∀ I_4, I_4 = ms I_3 x0 4 0 → (∀ I_5, I_5 = ms I_4 x0 5 0 → (wp_X8_ekBytes X J x0 I_5 L (fun v_8 I_6 L_7 => q v_8 I_6 L_7)))))))) ∧ (¬ (x1 ≤ 4) → q (-1) I L))))
def wp_X8_bound (X : XT) (J : MJ) (x0 : Nat) (x1 : Int32) (I : MI) (L : ML) (q : Int32 → MI → ML → Prop) : Prop := (((x1 < 1) → q (-1) I L) ∧ (¬ (x1 < 1) → (((x1 ≤ 280) → (∀ I_1, I_1 = ms I x0 8 x1 → q x1 I_1 L)) ∧ (¬ (x1 ≤ 280) → q (-1) I L))))
def wj_X8_at_70 (X : XT) (J : MJ) (q : Int32 → MI → ML → Prop)  (x0 : Nat) (x2 : Int32) (z0 : Int32) (I : MI) (L : ML) : Prop := (wp_X8_byteAt X J x0 (z0 + x2) I L (fun v_6 I_4 L_5 => q v_6 I_4 L_5))
def wp_X8_at (X : XT) (J : MJ) (x0 : Nat) (x1 : Int32) (x2 : Int32) (I : MI) (L : ML) (q : Int32 → MI → ML → Prop) : Prop := (((x2 < 0) → q (-1) I L) ∧ (¬ (x2 < 0) → (wp_X8_length X J x0 x1 I L (fun v_3 I_1 L_2 => (((x2 < v_3) → ((¬ (x1 = 0) → ((¬ (x1 = 1) → ((¬ (x1 = 2) → ((¬ (x1 = 3) → ((¬ (x1 = 4) → wj_X8_at_70 X J q  x0 x2 0 I_1 L_2) ∧ ((x1 = 4) → wj_X8_at_70 X J q  x0 x2 10336 I_1 L_2))) ∧ ((x1 = 3) → wj_X8_at_70 X J q  x0 x2 10304 I_1 L_2))) ∧ ((x1 = 2) → wj_X8_at_70 X J q  x0 x2 8736 I_1 L_2))) ∧ ((x1 = 1) → wj_X8_at_70 X J q  x0 x2 5568 I_1 L_2))) ∧ ((x1 = 0) → wj_X8_at_70 X J q  x0 x2 4000 I_1 L_2))) ∧ (¬ (x2 < v_3) → q (-1) I_1 L_2))))))
def wp_X8_used (X : XT) (J : MJ) (x0 : Nat) (I : MI) (L : ML) (q : Int32 → MI → ML → Prop) : Prop := (∀ x1_1 : Int32, x1_1 = I x0 1 → (∀ I_2, I_2 = ms I x0 1 0 → q x1_1 I_2 L))
def wl_X8_make_45 (X : XT) (J : MJ) (q : Int32 → MI → ML → Prop)  (x0 : Nat) : Nat → Int32 → MI → ML → Prop
  | 0 => fun _ _ _ => False
  | fu + 1 => fun x1 I L => ((((I x0 7) ≤ x1) → (wp_X8_copy X J x0 4000 (5568 + (384 * (I x0 7))) (I x0 2) I L (fun I_16 L_17 => (wp_X8_h X J x0 4000 (I_16 x0 2) ((5568 + (768 * (I_16 x0 7))) + 32) I_16 L_17 (fun I_18 L_19 => (wp_X8_copy X J x0 32 ((5568 + (768 * (I_18 x0 7))) + 64) 32 I_18 L_19 (fun I_20 L_21 => (∀ I_22, I_22 = ms I_20 x0 3 ((768 * (I_20 x0 7)) + 96) → (∀ I_23, I_23 = ms I_22 x0 4 0 → (∀ I_24, I_24 = ms I_23 x0 5 0 → q (I_24 x0 2) I_24 L_21)))))))))) ∧ (¬ ((I x0 7) ≤ x1) → (wp_X8_written X J x0 (4 + x1) 12 (5568 + (384 * x1)) I L (fun I_25 L_26 => (∀ x1_27 : Int32, x1_27 = x1 + 1 → wl_X8_make_45 X J q  x0 fu x1_27 I_25 L_26)))))
def wp_X8_make (X : XT) (J : MJ) (x0 : Nat) (I : MI) (L : ML) (q : Int32 → MI → ML → Prop) : Prop := (wp_X8_used X J x0 I L (fun v_3 I_1 L_2 => (((v_3 = 64) → (wp_X8_made X J x0 I_1 L_2 (fun v_6 I_4 L_5 => ((¬ (v_6 = 0) → (wp_X8_ekBytes X J x0 I_4 L_5 (fun v_9 I_7 L_8 => (wp_X8_copy X J x0 16476 4000 v_9 I_7 L_8 (fun I_10 L_11 => (wp_X8_ekBytes X J x0 I_10 L_11 (fun v_14 I_12 L_13 => (∀ I_15, I_15 = ms I_12 x0 2 v_14 → ∃ fu0 : Nat, wl_X8_make_45 X J q  x0 fu0 0 I_15 L_13)))))))) ∧ ((v_6 = 0) → q (-2) I_4 L_5))))) ∧ (¬ (v_3 = 64) → q (-1) I_1 L_2))))
def wl_X8_load_142 (X : XT) (J : MJ) (q : Int32 → MI → ML → Prop)  (x0 : Nat) (x2 : Int32) : Nat → Int32 → MI → ML → Prop
  | 0 => fun _ _ _ => False
  | fu + 1 => fun x3 I L => (((32 ≤ x3) → (wp_X8_copy X J x0 0 5568 x2 I L (fun I_15 L_16 => (∀ I_17, I_17 = ms I_15 x0 3 x2 → q x2 I_17 L_16)))) ∧ (¬ (32 ≤ x3) → (∃ r_18 : Nat, J x0 0 = some r_18 ∧ (vp_in (15436 + x3) (sl X r_18) ∧ (vp_in (((0 + (768 * (I x0 7))) + 32) + x3) (sl X r_18) ∧ ((((I r_18 (15436 + x3).toNatClampNeg) = (I r_18 (((0 + (768 * (I x0 7))) + 32) + x3).toNatClampNeg)) → (∀ x3_21 : Int32, x3_21 = x3 + 1 → wl_X8_load_142 X J q  x0 x2 fu x3_21 I L)) ∧ (¬ ((I r_18 (15436 + x3).toNatClampNeg) = (I r_18 (((0 + (768 * (I x0 7))) + 32) + x3).toNatClampNeg)) → q (-3) I L)))))))
def wl_X8_load_62 (X : XT) (J : MJ) (q : Int32 → MI → ML → Prop)  (x0 : Nat) (x2 : Int32) : Nat → Int32 → MI → ML → Prop
  | 0 => fun _ _ _ => False
  | fu + 1 => fun x3 I L => ((((256 * (I x0 7)) ≤ x3) → (wp_X8_copy X J x0 0 4000 x2 I L (fun I_22 L_23 => (∀ I_24, I_24 = ms I_22 x0 2 x2 → q x2 I_24 L_23)))) ∧ (¬ ((256 * (I x0 7)) ≤ x3) → (wp_X8_group X J x0 0 x3 12 I L (fun v_27 I_25 L_26 => (((v_27 < 3329) → (∀ x3_28 : Int32, x3_28 = x3 + 1 → wl_X8_load_62 X J q  x0 x2 fu x3_28 I_25 L_26)) ∧ (¬ (v_27 < 3329) → q (-2) I_25 L_26))))))
def wj_X8_load_51 (X : XT) (J : MJ) (q : Int32 → MI → ML → Prop)  (x0 : Nat) (x1 : Int32) (x2 : Int32) (z0 : Int32) (z1 : Int32) (I : MI) (L : ML) : Prop := (((z0 = z1) → ((¬ (x1 = 0) → ((¬ (x1 = 1) → (wp_X8_copy X J x0 0 8736 x2 I L (fun I_7 L_8 => (∀ I_9, I_9 = ms I_7 x0 4 x2 → q x2 I_9 L_8)))) ∧ ((x1 = 1) → (wp_X8_ekBytes X J x0 I L (fun v_12 I_10 L_11 => (wp_X8_h X J x0 (0 + (384 * (I x0 7))) v_12 15436 I_10 L_11 (fun I_13 L_14 => ∃ fu0 : Nat, wl_X8_load_142 X J q  x0 x2 fu0 0 I_13 L_14))))))) ∧ ((x1 = 0) → ∃ fu0 : Nat, wl_X8_load_62 X J q  x0 x2 fu0 0 I L))) ∧ (¬ (z0 = z1) → q (-1) I L))
def wp_X8_load (X : XT) (J : MJ) (x0 : Nat) (x1 : Int32) (I : MI) (L : ML) (q : Int32 → MI → ML → Prop) : Prop := (((x1 < 0) → q (-1) I L) ∧ (¬ (x1 < 0) → (((x1 ≤ 2) → (wp_X8_used X J x0 I L (fun v_3 I_1 L_2 => ((¬ (x1 = 0) → ((¬ (x1 = 1) → (wp_X8_textBytes X J x0 I_1 L_2 (fun v_6 I_4 L_5 => wj_X8_load_51 X J q  x0 x1 v_3 v_3 v_6 I_4 L_5))) ∧ ((x1 = 1) → wj_X8_load_51 X J q  x0 x1 v_3 v_3 ((768 * (I_1 x0 7)) + 96) I_1 L_2))) ∧ ((x1 = 0) → (wp_X8_ekBytes X J x0 I_1 L_2 (fun v_31 I_29 L_30 => wj_X8_load_51 X J q  x0 x1 v_3 v_3 v_31 I_29 L_30))))))) ∧ (¬ (x1 ≤ 2) → q (-1) I L))))
def wp_X8_wrap (X : XT) (J : MJ) (x0 : Nat) (I : MI) (L : ML) (q : Int32 → MI → ML → Prop) : Prop := (wp_X8_used X J x0 I L (fun v_3 I_1 L_2 => ((¬ (v_3 = 32) → q (-1) I_1 L_2) ∧ ((v_3 = 32) → ((¬ ((I_1 x0 2) = 0) → (wp_X8_copy X J x0 0 19740 32 I_1 L_2 (fun I_4 L_5 => (wp_X8_h X J x0 4000 (I_4 x0 2) 11400 I_4 L_5 (fun I_6 L_7 => (wp_X8_copy X J x0 19740 11336 32 I_6 L_7 (fun I_8 L_9 => (wp_X8_copy X J x0 11400 11368 32 I_8 L_9 (fun I_10 L_11 => (wp_X8_g X J x0 64 I_10 L_11 (fun I_12 L_13 => (wp_X8_locks X J x0 4000 I_12 L_13 (fun v_16 I_14 L_15 => ((¬ (v_16 = 0) → (wp_X8_textBytes X J x0 I_14 L_15 (fun v_19 I_17 L_18 => (wp_X8_copy X J x0 18044 8736 v_19 I_17 L_18 (fun I_20 L_21 => (wp_X8_textBytes X J x0 I_20 L_21 (fun v_24 I_22 L_23 => (∀ I_25, I_25 = ms I_22 x0 4 v_24 → (wp_X8_copy X J x0 19612 10304 32 I_25 L_23 (fun I_26 L_27 => (∀ I_28, I_28 = ms I_26 x0 5 32 → q (I_28 x0 4) I_28 L_27))))))))))) ∧ ((v_16 = 0) → q (-2) I_14 L_15))))))))))))))) ∧ (((I_1 x0 2) = 0) → q (-1) I_1 L_2))))))
def wj_X8_unwrap_222 (X : XT) (J : MJ) (q : Int32 → MI → ML → Prop)  (x0 : Nat) (x1 : Int32)  (I : MI) (L : ML) : Prop := (∀ I_20, I_20 = ms I x0 5 32 → (((x1 = 0) → q 0 I_20 L) ∧ (¬ (x1 = 0) → q 1 I_20 L)))
def wj_X8_unwrap_131 (X : XT) (J : MJ) (q : Int32 → MI → ML → Prop) (k91 : Int32 → Int32 → MI → ML → Prop) (x0 : Nat) (x2 : Int32) (z0 : Int32) (I : MI) (L : ML) : Prop := (∀ x2_23 : Int32, x2_23 = x2 + 1 → k91 z0 x2_23 I L)
def wj_X8_unwrap_130 (X : XT) (J : MJ) (q : Int32 → MI → ML → Prop) (k91 : Int32 → Int32 → MI → ML → Prop) (x0 : Nat) (x2 : Int32)  (I : MI) (L : ML) : Prop := wj_X8_unwrap_131 X J q k91 x0 x2 0 I L
def wl_X8_unwrap_91 (X : XT) (J : MJ) (q : Int32 → MI → ML → Prop)  (x0 : Nat) : Nat → Int32 → Int32 → MI → ML → Prop
  | 0 => fun _ _ _ _ => False
  | fu + 1 => fun x1 x2 I L => ((((I x0 4) ≤ x2) → (((x1 = 0) → (wp_X8_copy X J x0 ((5568 + (768 * (I x0 7))) + 64) 11336 32 I L (fun I_12 L_13 => (wp_X8_copy X J x0 8736 11368 (I_12 x0 4) I_12 L_13 (fun I_14 L_15 => (wp_X8_absorb X J x0 136 11336 (32 + (I_14 x0 4)) 0 I_14 L_15 (fun I_16 L_17 => (wp_X8_tells X J x0 10304 32 I_16 L_17 (fun I_18 L_19 => wj_X8_unwrap_222 X J q  x0 x1  I_18 L_19))))))))) ∧ (¬ (x1 = 0) → (wp_X8_copy X J x0 19612 10304 32 I L (fun I_21 L_22 => wj_X8_unwrap_222 X J q  x0 x1  I_21 L_22))))) ∧ (¬ ((I x0 4) ≤ x2) → (((x1 = 0) → wj_X8_unwrap_130 X J q (wl_X8_unwrap_91 X J q  x0 fu) x0 x2  I L) ∧ (¬ (x1 = 0) → (∃ r_24 : Nat, J x0 0 = some r_24 ∧ (vp_in (8736 + x2) (sl X r_24) ∧ (vp_in (18044 + x2) (sl X r_24) ∧ ((¬ ((I r_24 (8736 + x2).toNatClampNeg) = (I r_24 (18044 + x2).toNatClampNeg)) → wj_X8_unwrap_130 X J q (wl_X8_unwrap_91 X J q  x0 fu) x0 x2  I L) ∧ (((I r_24 (8736 + x2).toNatClampNeg) = (I r_24 (18044 + x2).toNatClampNeg)) → wj_X8_unwrap_131 X J q (wl_X8_unwrap_91 X J q  x0 fu) x0 x2 1 I L)))))))))
def wp_X8_unwrap (X : XT) (J : MJ) (x0 : Nat) (I : MI) (L : ML) (q : Int32 → MI → ML → Prop) : Prop := ((((I x0 3) = 0) → q (-1) I L) ∧ (¬ ((I x0 3) = 0) → ((¬ ((I x0 4) = 0) → (wp_X8_unlocks X J x0 5568 I L (fun I_1 L_2 => (wp_X8_copy X J x0 19740 11336 32 I_1 L_2 (fun I_3 L_4 => (wp_X8_copy X J x0 ((5568 + (768 * (I_3 x0 7))) + 32) 11368 32 I_3 L_4 (fun I_5 L_6 => (wp_X8_g X J x0 64 I_5 L_6 (fun I_7 L_8 => (wp_X8_locks X J x0 (5568 + (384 * (I_7 x0 7))) I_7 L_8 (fun v_11 I_9 L_10 => ((¬ (v_11 = 0) → ∃ fu0 : Nat, wl_X8_unwrap_91 X J q  x0 fu0 1 0 I_9 L_10) ∧ ((v_11 = 0) → q (-2) I_9 L_10))))))))))))) ∧ (((I x0 4) = 0) → q (-1) I L))))
def wj_X8_hash_91 (X : XT) (J : MJ) (q : Int32 → MI → ML → Prop)  (x0 : Nat) (x4 : Int32) (z0 : Nat) (z1 : Int32) (z2 : Int32) (z3 : Int32) (z4 : Int32) (I : MI) (L : ML) : Prop := (wp_X8_absorb X J z0 z1 z2 z3 z4 I L (fun I_4 L_5 => (wp_X8_tells X J x0 10336 x4 I_4 L_5 (fun I_6 L_7 => (∀ I_8, I_8 = ms I_6 x0 6 x4 → q x4 I_8 L_7)))))
def wj_X8_hash_79 (X : XT) (J : MJ) (q : Int32 → MI → ML → Prop)  (x0 : Nat) (x1 : Int32) (x3 : Int32) (x4 : Int32) (z0 : Nat) (z1 : Int32) (I : MI) (L : ML) : Prop := (((2 ≤ x1) → wj_X8_hash_91 X J q  x0 x4 z0 z1 0 x3 0 I L) ∧ (¬ (2 ≤ x1) → wj_X8_hash_91 X J q  x0 x4 z0 z1 0 x3 1 I L))
def wj_X8_hash_52 (X : XT) (J : MJ) (q : Int32 → MI → ML → Prop)  (x0 : Nat) (x1 : Int32) (x3 : Int32) (z0 : Int32) (I : MI) (L : ML) : Prop := ((¬ (x1 = 1) → ((¬ (x1 = 2) → wj_X8_hash_79 X J q  x0 x1 x3 z0 x0 136 I L) ∧ ((x1 = 2) → wj_X8_hash_79 X J q  x0 x1 x3 z0 x0 168 I L))) ∧ ((x1 = 1) → wj_X8_hash_79 X J q  x0 x1 x3 z0 x0 72 I L))
def wj_X8_hash_27 (X : XT) (J : MJ) (q : Int32 → MI → ML → Prop)  (x0 : Nat) (x1 : Int32) (x2 : Int32)  (I : MI) (L : ML) : Prop := (wp_X8_used X J x0 I L (fun v_3 I_1 L_2 => ((¬ (x1 = 0) → ((¬ (x1 = 1) → wj_X8_hash_52 X J q  x0 x1 v_3 x2 I_1 L_2) ∧ ((x1 = 1) → wj_X8_hash_52 X J q  x0 x1 v_3 64 I_1 L_2))) ∧ ((x1 = 0) → wj_X8_hash_52 X J q  x0 x1 v_3 32 I_1 L_2))))
def wp_X8_hash (X : XT) (J : MJ) (x0 : Nat) (x1 : Int32) (x2 : Int32) (I : MI) (L : ML) (q : Int32 → MI → ML → Prop) : Prop := (((x1 < 0) → q (-1) I L) ∧ (¬ (x1 < 0) → (((3 < x1) → q (-1) I L) ∧ (¬ (3 < x1) → (((x1 ≤ 1) → wj_X8_hash_27 X J q  x0 x1 x2  I L) ∧ (¬ (x1 ≤ 1) → (((x2 < 0) → q (-1) I L) ∧ (¬ (x2 < 0) → (((x2 ≤ 1000) → wj_X8_hash_27 X J q  x0 x1 x2  I L) ∧ (¬ (x2 ≤ 1000) → q (-1) I L))))))))))
def wp_X8_isPol (X : XT) (J : MJ) (x0 : Int32) (I : MI) (L : ML) (q : Int32 → MI → ML → Prop) : Prop := (((x0 < 0) → q 0 I L) ∧ (¬ (x0 < 0) → (((3 < x0) → q 0 I L) ∧ (¬ (3 < x0) → q 1 I L))))
def wp_X8_put (X : XT) (J : MJ) (x0 : Nat) (x1 : Int32) (x2 : Int32) (x3 : Int32) (I : MI) (L : ML) (q : Int32 → MI → ML → Prop) : Prop := (wp_X8_isPol X J x1 I L (fun v_3 I_1 L_2 => (((v_3 = 0) → q (-1) I_1 L_2) ∧ (¬ (v_3 = 0) → (((x2 < 0) → q (-1) I_1 L_2) ∧ (¬ (x2 < 0) → (((x2 ≤ 255) → (∃ r_4 : Nat, J x0 16 = some r_4 ∧ (wp_X8_ring X J x3.toInt64 I_1 L_2 (fun v_7 I_5 L_6 => (vp_in ((256 * x1) + x2) (sl X r_4) ∧ ∀ I_9, I_9 = ms I_5 r_4 ((256 * x1) + x2).toNatClampNeg v_7 → (vp_in ((256 * x1) + x2) (sl X r_4) ∧ q (I_9 r_4 ((256 * x1) + x2).toNatClampNeg) I_9 L_6)))))) ∧ (¬ (x2 ≤ 255) → q (-1) I_1 L_2))))))))
def wj_X8_number_18 (X : XT) (J : MJ) (q : Int32 → MI → ML → Prop)    (I : MI) (L : ML) : Prop := q (-1) I L
def wp_X8_number (X : XT) (J : MJ) (x0 : Nat) (x1 : Int32) (x2 : Int32) (I : MI) (L : ML) (q : Int32 → MI → ML → Prop) : Prop := (wp_X8_isPol X J x1 I L (fun v_3 I_1 L_2 => (((v_3 = 0) → wj_X8_number_18 X J q    I_1 L_2) ∧ (¬ (v_3 = 0) → (((x2 < 0) → wj_X8_number_18 X J q    I_1 L_2) ∧ (¬ (x2 < 0) → (((x2 ≤ 255) → (∃ r_4 : Nat, J x0 16 = some r_4 ∧ (vp_in ((256 * x1) + x2) (sl X r_4) ∧ q (I_1 r_4 ((256 * x1) + x2).toNatClampNeg) I_1 L_2))) ∧ (¬ (x2 ≤ 255) → wj_X8_number_18 X J q    I_1 L_2))))))))
def wp_X8_forward (X : XT) (J : MJ) (x0 : Nat) (x1 : Int32) (I : MI) (L : ML) (q : Int32 → MI → ML → Prop) : Prop := (wp_X8_isPol X J x1 I L (fun v_3 I_1 L_2 => ((¬ (v_3 = 0) → (wp_X8_bringForward X J x0 x1 I_1 L_2 (fun I_4 L_5 => q 1 I_4 L_5))) ∧ ((v_3 = 0) → q 0 I_1 L_2))))
def wp_X8_back (X : XT) (J : MJ) (x0 : Nat) (x1 : Int32) (I : MI) (L : ML) (q : Int32 → MI → ML → Prop) : Prop := (wp_X8_isPol X J x1 I L (fun v_3 I_1 L_2 => ((¬ (v_3 = 0) → (wp_X8_bringBack X J x0 x1 I_1 L_2 (fun I_4 L_5 => q 1 I_4 L_5))) ∧ ((v_3 = 0) → q 0 I_1 L_2))))
def wp_X8_pairs (X : XT) (J : MJ) (x0 : Nat) (x1 : Int32) (x2 : Int32) (x3 : Int32) (I : MI) (L : ML) (q : Int32 → MI → ML → Prop) : Prop := (wp_X8_isPol X J x1 I L (fun v_3 I_1 L_2 => (((v_3 = 0) → q 0 I_1 L_2) ∧ (¬ (v_3 = 0) → (wp_X8_isPol X J x2 I_1 L_2 (fun v_6 I_4 L_5 => (((v_6 = 0) → q 0 I_4 L_5) ∧ (¬ (v_6 = 0) → (wp_X8_isPol X J x3 I_4 L_5 (fun v_9 I_7 L_8 => ((¬ (v_9 = 0) → (wp_X8_product X J x0 x1 x2 17 0 I_7 L_8 (fun I_10 L_11 => (wp_X8_copyPol X J x0 17 x3 I_10 L_11 (fun I_12 L_13 => q 1 I_12 L_13))))) ∧ ((v_9 = 0) → q 0 I_7 L_8))))))))))))
def wj_X8_add_26 (X : XT) (J : MJ) (q : Int32 → MI → ML → Prop)  (x0 : Nat) (x1 : Int32) (x2 : Int32) (x3 : Int32)  (I : MI) (L : ML) : Prop := (wp_X8_copyPol X J x0 x2 17 I L (fun I_7 L_8 => (wp_X8_plus X J x0 x1 17 x3 I_7 L_8 (fun I_9 L_10 => q 1 I_9 L_10))))
def wp_X8_add (X : XT) (J : MJ) (x0 : Nat) (x1 : Int32) (x2 : Int32) (x3 : Int32) (I : MI) (L : ML) (q : Int32 → MI → ML → Prop) : Prop := (wp_X8_isPol X J x1 I L (fun v_3 I_1 L_2 => (((v_3 = 0) → q 0 I_1 L_2) ∧ (¬ (v_3 = 0) → (wp_X8_isPol X J x2 I_1 L_2 (fun v_6 I_4 L_5 => (((v_6 = 0) → q 0 I_4 L_5) ∧ (¬ (v_6 = 0) → (((x3 = 1) → wj_X8_add_26 X J q  x0 x1 x2 x3  I_4 L_5) ∧ (¬ (x3 = 1) → (((x3 = (-1)) → wj_X8_add_26 X J q  x0 x1 x2 x3  I_4 L_5) ∧ (¬ (x3 = (-1)) → q 0 I_4 L_5))))))))))))
def wp_X8_press (X : XT) (J : MJ) (x0 : Nat) (x1 : Int32) (x2 : Int32) (I : MI) (L : ML) (q : Int32 → MI → ML → Prop) : Prop := (wp_X8_isPol X J x1 I L (fun v_3 I_1 L_2 => (((v_3 = 0) → q 0 I_1 L_2) ∧ (¬ (v_3 = 0) → (((x2 < 1) → q 0 I_1 L_2) ∧ (¬ (x2 < 1) → (((x2 ≤ 11) → (wp_X8_pressed X J x0 x1 x2 I_1 L_2 (fun I_4 L_5 => q 1 I_4 L_5))) ∧ (¬ (x2 ≤ 11) → q 0 I_1 L_2))))))))
def wp_X8_stretch (X : XT) (J : MJ) (x0 : Nat) (x1 : Int32) (x2 : Int32) (I : MI) (L : ML) (q : Int32 → MI → ML → Prop) : Prop := (wp_X8_isPol X J x1 I L (fun v_3 I_1 L_2 => (((v_3 = 0) → q 0 I_1 L_2) ∧ (¬ (v_3 = 0) → (((x2 < 1) → q 0 I_1 L_2) ∧ (¬ (x2 < 1) → (((x2 ≤ 11) → (wp_X8_stretched X J x0 x1 x2 I_1 L_2 (fun I_4 L_5 => q 1 I_4 L_5))) ∧ (¬ (x2 ≤ 11) → q 0 I_1 L_2))))))))
def wp_X8_encode (X : XT) (J : MJ) (x0 : Nat) (x1 : Int32) (x2 : Int32) (I : MI) (L : ML) (q : Int32 → MI → ML → Prop) : Prop := (wp_X8_isPol X J x1 I L (fun v_3 I_1 L_2 => (((v_3 = 0) → q (-1) I_1 L_2) ∧ (¬ (v_3 = 0) → (((x2 < 1) → q (-1) I_1 L_2) ∧ (¬ (x2 < 1) → (((x2 ≤ 12) → (wp_X8_written X J x0 x1 x2 10336 I_1 L_2 (fun I_4 L_5 => (∀ I_6, I_6 = ms I_4 x0 6 (32 * x2) → q (I_6 x0 6) I_6 L_5)))) ∧ (¬ (x2 ≤ 12) → q (-1) I_1 L_2))))))))
def wp_X8_decode (X : XT) (J : MJ) (x0 : Nat) (x1 : Int32) (x2 : Int32) (I : MI) (L : ML) (q : Int32 → MI → ML → Prop) : Prop := (wp_X8_isPol X J x1 I L (fun v_3 I_1 L_2 => (((v_3 = 0) → q (-1) I_1 L_2) ∧ (¬ (v_3 = 0) → (((x2 < 1) → q (-1) I_1 L_2) ∧ (¬ (x2 < 1) → (((x2 ≤ 12) → (wp_X8_used X J x0 I_1 L_2 (fun v_6 I_4 L_5 => (((v_6 = (32 * x2)) → (wp_X8_readPol X J x0 x1 x2 0 I_4 L_5 (fun I_7 L_8 => q 256 I_7 L_8))) ∧ (¬ (v_6 = (32 * x2)) → q (-1) I_4 L_5))))) ∧ (¬ (x2 ≤ 12) → q (-1) I_1 L_2))))))))
def wp_X8_sample (X : XT) (J : MJ) (x0 : Nat) (x1 : Int32) (x2 : Int32) (x3 : Int32) (I : MI) (L : ML) (q : Int32 → MI → ML → Prop) : Prop := (wp_X8_isPol X J x1 I L (fun v_3 I_1 L_2 => ((¬ (v_3 = 0) → (wp_X8_used X J x0 I_1 L_2 (fun v_6 I_4 L_5 => (((v_6 = 32) → (wp_X8_matrix X J x0 0 x3 x2 x1 I_4 L_5 (fun v_9 I_7 L_8 => ((¬ (v_9 = (-1)) → q v_9 I_7 L_8) ∧ ((v_9 = (-1)) → q (-2) I_7 L_8))))) ∧ (¬ (v_6 = 32) → q (-1) I_4 L_5))))) ∧ ((v_3 = 0) → q (-1) I_1 L_2))))
def wj_X8_noise_19 (X : XT) (J : MJ) (q : Int32 → MI → ML → Prop)  (x0 : Nat) (x1 : Int32) (x2 : Int32) (x3 : Int32)  (I : MI) (L : ML) : Prop := (wp_X8_used X J x0 I L (fun v_6 I_4 L_5 => (((v_6 = 32) → (wp_X8_noised X J x0 0 x3 x2 x1 I_4 L_5 (fun I_7 L_8 => q 256 I_7 L_8))) ∧ (¬ (v_6 = 32) → q (-1) I_4 L_5))))
def wp_X8_noise (X : XT) (J : MJ) (x0 : Nat) (x1 : Int32) (x2 : Int32) (x3 : Int32) (I : MI) (L : ML) (q : Int32 → MI → ML → Prop) : Prop := (wp_X8_isPol X J x1 I L (fun v_3 I_1 L_2 => (((v_3 = 0) → q (-1) I_1 L_2) ∧ (¬ (v_3 = 0) → (((x2 = 2) → wj_X8_noise_19 X J q  x0 x1 x2 x3  I_1 L_2) ∧ (¬ (x2 = 2) → (((x2 = 3) → wj_X8_noise_19 X J q  x0 x1 x2 x3  I_1 L_2) ∧ (¬ (x2 = 3) → q (-1) I_1 L_2))))))))
set_option maxHeartbeats 4000000 in
set_option maxRecDepth 100000 in
theorem n_X8_feed_71 {p : Program} {l : Launch} {e : Env} {s : State} {m : MethodId} {below : List Frame} {meth : Method} {c : Code} {D : va_G} {X : XT} {ad : Nat → Nat} {n : Nat} {A : Nat → Prop} {J : MJ} {av : List Value} {R : Room} (hR : R = ({ frames := 0, cells := 0, slots := 0, locals := 0 } : Room)) (C0 : Cx p s m meth c cX8_feed (some .int) 8 yX8_feed av D X ad n A J) {q : Int32 → MI → ML → Prop} {k18 : Int32 → MI → ML → Prop} {x0 : Nat} {x1 : Int32} {x2 : Int32} {x3 : Int32} {x4 : Int32} {x5 : Int32} {x6 : Int32} {z0 : Int32} {I : MI} {L : ML} {H : Heap} {locs : List Loc} {ls : Array Slot} (t0 : Ty X n x0 9)
    (hk18 : ∀ (x6 : Int32) (I : MI) (L : ML) (H : Heap) (locs : List Loc) (ls : Array Slot), k18 x6 I L → Wd D X ad n A s.heap J I L H locs → lv_has ls 8 [(0, .ref (ad x0)), (1, .int x1), (2, .int x2), (3, .int x3), (4, .int x4), (5, .int x5), (6, .int x6)] → W p l e R s m av.toArray below meth c H locs 0 0 (MQ below (QI D X ad n A J q) av.toArray s 0 0 A) (F0 m 18 ls [])) (h : wj_X8_feed_71 X J q k18 x0 x1 x2 x3 x4 x5 x6 z0 I L) (hV : Wd D X ad n A s.heap J I L H locs) (hl : lv_has ls 8 [(0, .ref (ad x0)), (1, .int x1), (2, .int x2), (3, .int x3), (4, .int x4), (5, .int x5), (6, .int x6)]) : W p l e R s m av.toArray below meth c H locs 0 0 (MQ below (QI D X ad n A J q) av.toArray s 0 0 A) (F0 m 71 ls [.int z0]) := by
  obtain ⟨hx, hb, hr, hml, hown, hlk, hnm, hts, hK, hZ, hA, hWT⟩ := id C0
  subst hR
  unfold wj_X8_feed_71 at h
  refine lv_istore (lv' := [(7, .int z0), (0, .ref (ad x0)), (1, .int x1), (2, .int x2), (3, .int x3), (4, .int x4), (5, .int x5), (6, .int x6)]) hx hb dX8_feed_71 hl (by decide) rfl (fun ls hl => ?_)
  refine lv_aload_n hx hb dX8_feed_73 rfl (lv_at hl 1 rfl) ?_
  obtain ⟨r_1, hr_1, h⟩ := h
  have tr_1 : Ty X n r_1 1 := hWT.r (c := 5) (j := 0) t0 rfl hr_1
  refine m_getr (C := RX8) (T := TX8) (N := 19) (ci := 5) hx hb hts iwX8 hown hK hV t0 rfl 0 (by decide) rfl rfl hr_1 (hts _ tw_3_91) (fun _ h9 => h9) dX8_feed_74 ?_
  refine lv_iconst (v := 0) hx hb dX8_feed_77 (by decide) ?_
  refine lv_aload_n hx hb dX8_feed_78 rfl (lv_at hl 1 rfl) ?_
  refine m_geti (C := RX8) (T := TX8) (N := 19) (ci := 5) hx hb hts iwX8 hown hK hV t0 rfl 1 (by decide) rfl rfl (hts _ tw_3_92) (fun _ h9 => h9) dX8_feed_79 ?_
  refine lv_iadd hx hb dX8_feed_82 ?_
  refine lv_iload hx hb dX8_feed_83 (lv_at hl 0 rfl) ?_
  refine lv_bipush (v := 24) hx hb dX8_feed_85 (by decide) ?_
  refine lv_bipush (v := 8) hx hb dX8_feed_87 (by decide) ?_
  refine lv_iload hx hb dX8_feed_89 (lv_at hl 7 rfl) ?_
  refine lv_iconst (v := 4) hx hb dX8_feed_91 (by decide) ?_
  refine lv_irem hx hb dX8_feed_92 (by decide) ?_
  refine lv_imul hx hb dX8_feed_93 ?_
  refine lv_isub hx hb dX8_feed_94 ?_
  refine lv_ishr hx hb dX8_feed_95 ?_
  refine lv_i2b hx hb dX8_feed_96 rfl ?_
  obtain ⟨hi_2, h⟩ := h
  refine m_bast hx hb hK hV tr_1 hi_2 dX8_feed_97 (fun H locs hV => ?_)
  obtain ⟨I_3, eI_3⟩ : ∃ y, y = ms I r_1 (0 + (I x0 1)).toNatClampNeg (jb8 (jb8 (jshr z0 (24 - (8 * (jrem x6 4)))))) := ⟨_, rfl⟩
  replace hV : Wd D X ad n A s.heap J I_3 L H locs := by rw [eI_3]; exact hV
  replace h := h I_3 eI_3
  refine lv_aload_n hx hb dX8_feed_98 rfl (lv_at hl 1 rfl) ?_
  refine lv_dup hx hb dX8_feed_99 rfl ?_
  refine m_geti (C := RX8) (T := TX8) (N := 19) (ci := 5) hx hb hts iwX8 hown hK hV t0 rfl 1 (by decide) rfl rfl (hts _ tw_3_92) (fun _ h9 => h9) dX8_feed_100 ?_
  refine lv_iconst (v := 1) hx hb dX8_feed_103 (by decide) ?_
  refine lv_iadd hx hb dX8_feed_104 ?_
  refine m_puti (C := RX8) (T := TX8) (N := 19) (ci := 5) (ty := .int) hx hb hts iwX8 hown hK hV tyX8 tyX8_ok nmX8 t0 rfl 1 (by decide) rfl rfl (hts _ tw_3_92) (fun _ h9 => h9) rfl (by decide +kernel) rfl rfl dX8_feed_105 (fun H locs hV => ?_)
  obtain ⟨I_4, eI_4⟩ : ∃ y, y = ms I_3 x0 1 ((I_3 x0 1) + 1) := ⟨_, rfl⟩
  replace hV : Wd D X ad n A s.heap J I_4 L H locs := by rw [eI_4]; exact hV
  replace h := h I_4 eI_4
  obtain ⟨x6_5, ex6_5⟩ : ∃ y : Int32, y = x6 + 1 := ⟨_, rfl⟩
  replace h := h x6_5 ex6_5
  refine lv_iinc (v := x6_5) (lv' := [(6, .int x6_5), (7, .int z0), (0, .ref (ad x0)), (1, .int x1), (2, .int x2), (3, .int x3), (4, .int x4), (5, .int x5)]) hx hb dX8_feed_108 hl (k := 7) rfl (by rw [ex6_5]; rfl) (by decide) rfl (fun ls hl => ?_)
  refine lv_goto (tgt := 18) hx hb dX8_feed_111 (by decide) ?_
  exact hk18 x6_5 _ _ _ _ _ h hV (lv_sub hl [2, 3, 4, 5, 6, 7, 0] rfl)
set_option maxHeartbeats 4000000 in
set_option maxRecDepth 100000 in
theorem n_X8_feed_18 {p : Program} {l : Launch} {e : Env} {s : State} {m : MethodId} {below : List Frame} {meth : Method} {c : Code} {D : va_G} {X : XT} {ad : Nat → Nat} {n : Nat} {A : Nat → Prop} {J : MJ} {av : List Value} {R : Room} (hR : R = ({ frames := 0, cells := 0, slots := 0, locals := 0 } : Room)) (C0 : Cx p s m meth c cX8_feed (some .int) 8 yX8_feed av D X ad n A J) {q : Int32 → MI → ML → Prop}  {x0 : Nat} {x1 : Int32} {x2 : Int32} {x3 : Int32} {x4 : Int32} {x5 : Int32} (t0 : Ty X n x0 9) : ∀ (fu : Nat) (x6 : Int32) (I : MI) (L : ML) (H : Heap) (locs : List Loc) (ls : Array Slot), wl_X8_feed_18 X J q  x0 x1 x2 x3 x4 x5 fu x6 I L → Wd D X ad n A s.heap J I L H locs → lv_has ls 8 [(0, .ref (ad x0)), (1, .int x1), (2, .int x2), (3, .int x3), (4, .int x4), (5, .int x5), (6, .int x6)] → W p l e R s m av.toArray below meth c H locs 0 0 (MQ below (QI D X ad n A J q) av.toArray s 0 0 A) (F0 m 18 ls []) := by
  obtain ⟨hx, hb, hr, hml, hown, hlk, hnm, hts, hK, hZ, hA, hWT⟩ := id C0
  subst hR
  intro fu
  induction fu with
  | zero => intro x6 I L H locs ls h; exact absurd h (fun h => h)
  | succ fu ih =>
    intro x6 I L H locs ls h hV hl
    refine lv_iload hx hb dX8_feed_18 (lv_at hl 6 rfl) ?_
    refine lv_bipush (v := 20) hx hb dX8_feed_20 (by decide) ?_
    refine lv_icmp_ge (tgt := 114) hx hb dX8_feed_22 (by decide) (fun hc => ?_) (fun hc => ?_)
    · replace h := h.1 hc
      refine lv_aload_n hx hb dX8_feed_114 rfl (lv_at hl 0 rfl) ?_
      refine m_geti (C := RX8) (T := TX8) (N := 19) (ci := 5) hx hb hts iwX8 hown hK hV t0 rfl 1 (by decide) rfl rfl (hts _ tw_3_92) (fun _ h9 => h9) dX8_feed_115 ?_
      exact m_iret hx hb hr hlk hK hZ hA hV h dX8_feed_118
    · replace h := h.2 hc
      refine lv_iload hx hb dX8_feed_25 (lv_at hl 6 rfl) ?_
      refine lv_iconst (v := 4) hx hb dX8_feed_27 (by decide) ?_
      refine lv_icmp_ge (tgt := 35) hx hb dX8_feed_28 (by decide) (fun hc => ?_) (fun hc => ?_)
      · replace h := h.1 hc
        refine lv_iload hx hb dX8_feed_35 (lv_at hl 6 rfl) ?_
        refine lv_bipush (v := 8) hx hb dX8_feed_37 (by decide) ?_
        refine lv_icmp_ge (tgt := 46) hx hb dX8_feed_39 (by decide) (fun hc => ?_) (fun hc => ?_)
        · replace h := h.1 hc
          refine lv_iload hx hb dX8_feed_46 (lv_at hl 6 rfl) ?_
          refine lv_bipush (v := 12) hx hb dX8_feed_48 (by decide) ?_
          refine lv_icmp_ge (tgt := 57) hx hb dX8_feed_50 (by decide) (fun hc => ?_) (fun hc => ?_)
          · replace h := h.1 hc
            refine lv_iload hx hb dX8_feed_57 (lv_at hl 6 rfl) ?_
            refine lv_bipush (v := 16) hx hb dX8_feed_59 (by decide) ?_
            refine lv_icmp_ge (tgt := 69) hx hb dX8_feed_61 (by decide) (fun hc => ?_) (fun hc => ?_)
            · replace h := h.1 hc
              refine lv_iload hx hb dX8_feed_69 (lv_at hl 5 rfl) ?_
              exact n_X8_feed_71 rfl C0 t0  (fun y6 I L H locs ls h hV hl => ih y6 I L H locs ls h hV (lv_sub hl [0, 1, 2, 3, 4, 5, 6] rfl)) h hV (lv_sub hl [0, 1, 2, 3, 4, 5, 6] rfl)
            · replace h := h.2 hc
              refine lv_iload hx hb dX8_feed_64 (lv_at hl 4 rfl) ?_
              refine lv_goto (tgt := 71) hx hb dX8_feed_66 (by decide) ?_
              exact n_X8_feed_71 rfl C0 t0  (fun y6 I L H locs ls h hV hl => ih y6 I L H locs ls h hV (lv_sub hl [0, 1, 2, 3, 4, 5, 6] rfl)) h hV (lv_sub hl [0, 1, 2, 3, 4, 5, 6] rfl)
          · replace h := h.2 hc
            refine lv_iload_n hx hb dX8_feed_53 rfl (lv_at hl 3 rfl) ?_
            refine lv_goto (tgt := 71) hx hb dX8_feed_54 (by decide) ?_
            exact n_X8_feed_71 rfl C0 t0  (fun y6 I L H locs ls h hV hl => ih y6 I L H locs ls h hV (lv_sub hl [0, 1, 2, 3, 4, 5, 6] rfl)) h hV (lv_sub hl [0, 1, 2, 3, 4, 5, 6] rfl)
        · replace h := h.2 hc
          refine lv_iload_n hx hb dX8_feed_42 rfl (lv_at hl 2 rfl) ?_
          refine lv_goto (tgt := 71) hx hb dX8_feed_43 (by decide) ?_
          exact n_X8_feed_71 rfl C0 t0  (fun y6 I L H locs ls h hV hl => ih y6 I L H locs ls h hV (lv_sub hl [0, 1, 2, 3, 4, 5, 6] rfl)) h hV (lv_sub hl [0, 1, 2, 3, 4, 5, 6] rfl)
      · replace h := h.2 hc
        refine lv_iload_n hx hb dX8_feed_31 rfl (lv_at hl 1 rfl) ?_
        refine lv_goto (tgt := 71) hx hb dX8_feed_32 (by decide) ?_
        exact n_X8_feed_71 rfl C0 t0  (fun y6 I L H locs ls h hV hl => ih y6 I L H locs ls h hV (lv_sub hl [0, 1, 2, 3, 4, 5, 6] rfl)) h hV (lv_sub hl [0, 1, 2, 3, 4, 5, 6] rfl)
set_option maxHeartbeats 4000000 in
set_option maxRecDepth 100000 in
theorem s_X8_feed (l : Launch) (D : va_G) (X : XT) (ad : Nat → Nat) (n : Nat) (A : Nat → Prop) (J : MJ) (hWT : WT X n J) (x0 : Nat) (t0 : Ty X n x0 9) (x1 : Int32) (x2 : Int32) (x3 : Int32) (x4 : Int32) (x5 : Int32) (I : MI) (L : ML) (q : Int32 → MI → ML → Prop) (h : wp_X8_feed X J x0 x1 x2 x3 x4 x5 I L q) : Met l yX8_feed (wz yX8_feed cX8_feed 8 (some .int)) ({ frames := 0, cells := 0, slots := 0, locals := 0 } : Room) (va_Pc [.ref (ad x0), .int x1, .int x2, .int x3, .int x4, .int x5] (Pr D X ad n A J I L)) (QI D X ad n A J q) 0 0 A := by
  refine Met_go (by decide +kernel) (Nat.le_of_ble_eq_true rfl) (fun p e s m below meth c hx hb hr hml hown hlk hnm hts hK hZ hA hV ls hl => ?_)
  have C0 : Cx p s m meth c cX8_feed (some .int) 8 yX8_feed [.ref (ad x0), .int x1, .int x2, .int x3, .int x4, .int x5] D X ad n A J := ⟨hx, hb, hr, hml, hown, hlk, hnm, hts, hK, hZ, hA, hWT⟩
  unfold wp_X8_feed at h
  have hl : lv_has ls 8 [(0, .ref (ad x0)), (1, .int x1), (2, .int x2), (3, .int x3), (4, .int x4), (5, .int x5)] := hl
  refine lv_aload_n hx hb dX8_feed_0 rfl (lv_at hl 0 rfl) ?_
  refine m_geti (C := RX8) (T := TX8) (N := 19) (ci := 5) hx hb hts iwX8 hown hK hV t0 rfl 1 (by decide) rfl rfl (hts _ tw_3_92) (fun _ h9 => h9) dX8_feed_1 ?_
  refine lv_bipush (v := 20) hx hb dX8_feed_4 (by decide) ?_
  refine lv_iadd hx hb dX8_feed_6 ?_
  refine lv_sipush (v := 4000) hx hb dX8_feed_7 (by decide) ?_
  refine lv_icmp_le (tgt := 15) hx hb dX8_feed_10 (by decide) (fun hc => ?_) (fun hc => ?_)
  · replace h := h.1 hc
    refine lv_iconst (v := 0) hx hb dX8_feed_15 (by decide) ?_
    refine lv_istore (lv' := [(6, .int 0), (0, .ref (ad x0)), (1, .int x1), (2, .int x2), (3, .int x3), (4, .int x4), (5, .int x5)]) hx hb dX8_feed_16 hl (by decide) rfl (fun ls hl => ?_)
    obtain ⟨fu0, h⟩ := h
    exact n_X8_feed_18 rfl C0 t0   fu0 0 _ _ _ _ _ h hV (lv_sub hl [1, 2, 3, 4, 5, 6, 0] rfl)
  · replace h := h.2 hc
    refine lv_iconst (v := (-1)) hx hb dX8_feed_13 (by decide) ?_
    exact m_iret hx hb hr hlk hK hZ hA hV h dX8_feed_14
set_option maxHeartbeats 4000000 in
set_option maxRecDepth 100000 in
theorem s_X8_end (l : Launch) (D : va_G) (X : XT) (ad : Nat → Nat) (n : Nat) (A : Nat → Prop) (J : MJ) (hWT : WT X n J) (x0 : Nat) (t0 : Ty X n x0 9) (x1 : Int32) (I : MI) (L : ML) (q : Int32 → MI → ML → Prop) (h : wp_X8_end X J x0 x1 I L q) : Met l yX8_end (wz yX8_end cX8_end 2 (some .int)) ({ frames := 0, cells := 0, slots := 0, locals := 0 } : Room) (va_Pc [.ref (ad x0), .int x1] (Pr D X ad n A J I L)) (QI D X ad n A J q) 0 0 A := by
  refine Met_go (by decide +kernel) (Nat.le_of_ble_eq_true rfl) (fun p e s m below meth c hx hb hr hml hown hlk hnm hts hK hZ hA hV ls hl => ?_)
  have C0 : Cx p s m meth c cX8_end (some .int) 2 yX8_end [.ref (ad x0), .int x1] D X ad n A J := ⟨hx, hb, hr, hml, hown, hlk, hnm, hts, hK, hZ, hA, hWT⟩
  unfold wp_X8_end at h
  have hl : lv_has ls 2 [(0, .ref (ad x0)), (1, .int x1)] := hl
  refine lv_iload_n hx hb dX8_end_0 rfl (lv_at hl 1 rfl) ?_
  refine lv_if_lt (tgt := 12) hx hb dX8_end_1 (by decide) (fun hc => ?_) (fun hc => ?_)
  · replace h := h.1 hc
    refine lv_iconst (v := (-1)) hx hb dX8_end_12 (by decide) ?_
    exact m_iret hx hb hr hlk hK hZ hA hV h dX8_end_13
  · replace h := h.2 hc
    refine lv_iload_n hx hb dX8_end_4 rfl (lv_at hl 1 rfl) ?_
    refine lv_aload_n hx hb dX8_end_5 rfl (lv_at hl 0 rfl) ?_
    refine m_geti (C := RX8) (T := TX8) (N := 19) (ci := 5) hx hb hts iwX8 hown hK hV t0 rfl 1 (by decide) rfl rfl (hts _ tw_3_92) (fun _ h9 => h9) dX8_end_6 ?_
    refine lv_icmp_le (tgt := 14) hx hb dX8_end_9 (by decide) (fun hc => ?_) (fun hc => ?_)
    · replace h := h.1 hc
      refine lv_aload_n hx hb dX8_end_14 rfl (lv_at hl 0 rfl) ?_
      refine lv_iload_n hx hb dX8_end_15 rfl (lv_at hl 1 rfl) ?_
      refine m_puti (C := RX8) (T := TX8) (N := 19) (ci := 5) (ty := .int) hx hb hts iwX8 hown hK hV tyX8 tyX8_ok nmX8 t0 rfl 1 (by decide) rfl rfl (hts _ tw_3_92) (fun _ h9 => h9) rfl (by decide +kernel) rfl rfl dX8_end_16 (fun H locs hV => ?_)
      obtain ⟨I_1, eI_1⟩ : ∃ y, y = ms I x0 1 x1 := ⟨_, rfl⟩
      replace hV : Wd D X ad n A s.heap J I_1 L H locs := by rw [eI_1]; exact hV
      replace h := h I_1 eI_1
      refine lv_iload_n hx hb dX8_end_19 rfl (lv_at hl 1 rfl) ?_
      exact m_iret hx hb hr hlk hK hZ hA hV h dX8_end_20
    · replace h := h.2 hc
      refine lv_iconst (v := (-1)) hx hb dX8_end_12 (by decide) ?_
      exact m_iret hx hb hr hlk hK hZ hA hV h dX8_end_13
set_option maxHeartbeats 4000000 in
set_option maxRecDepth 100000 in
theorem s_X8_length (l : Launch) (D : va_G) (X : XT) (ad : Nat → Nat) (n : Nat) (A : Nat → Prop) (J : MJ) (hWT : WT X n J) (x0 : Nat) (t0 : Ty X n x0 9) (x1 : Int32) (I : MI) (L : ML) (q : Int32 → MI → ML → Prop) (h : wp_X8_length X J x0 x1 I L q) : Met l yX8_length (wz yX8_length cX8_length 2 (some .int)) ({ frames := 0, cells := 0, slots := 0, locals := 0 } : Room) (va_Pc [.ref (ad x0), .int x1] (Pr D X ad n A J I L)) (QI D X ad n A J q) 0 0 A := by
  refine Met_go (by decide +kernel) (Nat.le_of_ble_eq_true rfl) (fun p e s m below meth c hx hb hr hml hown hlk hnm hts hK hZ hA hV ls hl => ?_)
  have C0 : Cx p s m meth c cX8_length (some .int) 2 yX8_length [.ref (ad x0), .int x1] D X ad n A J := ⟨hx, hb, hr, hml, hown, hlk, hnm, hts, hK, hZ, hA, hWT⟩
  unfold wp_X8_length at h
  have hl : lv_has ls 2 [(0, .ref (ad x0)), (1, .int x1)] := hl
  refine lv_iload_n hx hb dX8_length_0 rfl (lv_at hl 1 rfl) ?_
  by_cases hsw : x1.toInt < 0 ∨ 5 < x1.toInt
  · replace h := h.1 hsw
    refine lv_tableOut (tgt := 70) hx hb dX8_length_1 hsw (by decide) ?_
    refine lv_iconst (v := (-1)) hx hb dX8_length_70 (by decide) ?_
    exact m_iret hx hb hr hlk hK hZ hA hV h dX8_length_71
  · replace h := h.2
    obtain ⟨jsw, hjsw, ejsw⟩ := sw_in 0 5 (by decide) (by decide) (by decide) (fun z => hsw (Or.inl z)) (fun z => hsw (Or.inr z))
    rcases (show jsw = 0 ∨ jsw = 1 ∨ jsw = 2 ∨ jsw = 3 ∨ jsw = 4 ∨ jsw = 5 by omega) with rfl | rfl | rfl | rfl | rfl | rfl
    · replace h := h.1 ejsw
      refine lv_tableIn (off := 39) (tgt := 40) hx hb dX8_length_1 (fun z => hsw (Or.inl z)) (fun z => hsw (Or.inr z)) (by rw [ejsw]; decide +kernel) (by decide) ?_
      refine lv_aload_n hx hb dX8_length_40 rfl (lv_at hl 0 rfl) ?_
      refine m_geti (C := RX8) (T := TX8) (N := 19) (ci := 5) hx hb hts iwX8 hown hK hV t0 rfl 2 (by decide) rfl rfl (hts _ tw_3_93) (fun _ h9 => h9) dX8_length_41 ?_
      exact m_iret hx hb hr hlk hK hZ hA hV h dX8_length_44
    · replace h := h.2.1 ejsw
      refine lv_tableIn (off := 44) (tgt := 45) hx hb dX8_length_1 (fun z => hsw (Or.inl z)) (fun z => hsw (Or.inr z)) (by rw [ejsw]; decide +kernel) (by decide) ?_
      refine lv_aload_n hx hb dX8_length_45 rfl (lv_at hl 0 rfl) ?_
      refine m_geti (C := RX8) (T := TX8) (N := 19) (ci := 5) hx hb hts iwX8 hown hK hV t0 rfl 3 (by decide) rfl rfl (hts _ tw_3_94) (fun _ h9 => h9) dX8_length_46 ?_
      exact m_iret hx hb hr hlk hK hZ hA hV h dX8_length_49
    · replace h := h.2.2.1 ejsw
      refine lv_tableIn (off := 49) (tgt := 50) hx hb dX8_length_1 (fun z => hsw (Or.inl z)) (fun z => hsw (Or.inr z)) (by rw [ejsw]; decide +kernel) (by decide) ?_
      refine lv_aload_n hx hb dX8_length_50 rfl (lv_at hl 0 rfl) ?_
      refine m_geti (C := RX8) (T := TX8) (N := 19) (ci := 5) hx hb hts iwX8 hown hK hV t0 rfl 4 (by decide) rfl rfl (hts _ tw_3_95) (fun _ h9 => h9) dX8_length_51 ?_
      exact m_iret hx hb hr hlk hK hZ hA hV h dX8_length_54
    · replace h := h.2.2.2.1 ejsw
      refine lv_tableIn (off := 54) (tgt := 55) hx hb dX8_length_1 (fun z => hsw (Or.inl z)) (fun z => hsw (Or.inr z)) (by rw [ejsw]; decide +kernel) (by decide) ?_
      refine lv_aload_n hx hb dX8_length_55 rfl (lv_at hl 0 rfl) ?_
      refine m_geti (C := RX8) (T := TX8) (N := 19) (ci := 5) hx hb hts iwX8 hown hK hV t0 rfl 5 (by decide) rfl rfl (hts _ tw_3_96) (fun _ h9 => h9) dX8_length_56 ?_
      exact m_iret hx hb hr hlk hK hZ hA hV h dX8_length_59
    · replace h := h.2.2.2.2.1 ejsw
      refine lv_tableIn (off := 59) (tgt := 60) hx hb dX8_length_1 (fun z => hsw (Or.inl z)) (fun z => hsw (Or.inr z)) (by rw [ejsw]; decide +kernel) (by decide) ?_
      refine lv_aload_n hx hb dX8_length_60 rfl (lv_at hl 0 rfl) ?_
      refine m_geti (C := RX8) (T := TX8) (N := 19) (ci := 5) hx hb hts iwX8 hown hK hV t0 rfl 6 (by decide) rfl rfl (hts _ tw_3_97) (fun _ h9 => h9) dX8_length_61 ?_
      exact m_iret hx hb hr hlk hK hZ hA hV h dX8_length_64
    · replace h := h.2.2.2.2.2 ejsw
      refine lv_tableIn (off := 64) (tgt := 65) hx hb dX8_length_1 (fun z => hsw (Or.inl z)) (fun z => hsw (Or.inr z)) (by rw [ejsw]; decide +kernel) (by decide) ?_
      refine lv_aload_n hx hb dX8_length_65 rfl (lv_at hl 0 rfl) ?_
      refine m_geti (C := RX8) (T := TX8) (N := 19) (ci := 5) hx hb hts iwX8 hown hK hV t0 rfl 1 (by decide) rfl rfl (hts _ tw_3_92) (fun _ h9 => h9) dX8_length_66 ?_
      exact m_iret hx hb hr hlk hK hZ hA hV h dX8_length_69
set_option maxHeartbeats 4000000 in
set_option maxRecDepth 100000 in
theorem n_X8_take_57 {p : Program} {l : Launch} {e : Env} {s : State} {m : MethodId} {below : List Frame} {meth : Method} {c : Code} {D : va_G} {X : XT} {ad : Nat → Nat} {n : Nat} {A : Nat → Prop} {J : MJ} {av : List Value} {R : Room} (hR : R = ({ frames := 1, cells := 0, slots := 0, locals := 24 } : Room)) (C0 : Cx p s m meth c cX8_take (some .int) 4 yX8_take av D X ad n A J) {q : Int32 → MI → ML → Prop}  {x0 : Nat} {x1 : Int32} {z0 : Int32} {I : MI} {L : ML} {H : Heap} {locs : List Loc} {ls : Array Slot} (t0 : Ty X n x0 9) (h : wj_X8_take_57 X J q  x0 x1 z0 I L) (hV : Wd D X ad n A s.heap J I L H locs) (hl : lv_has ls 4 [(0, .ref (ad x0)), (1, .int x1)]) : W p l e R s m av.toArray below meth c H locs 0 0 (MQ below (QI D X ad n A J q) av.toArray s 0 0 A) (F0 m 57 ls [.int z0]) := by
  obtain ⟨hx, hb, hr, hml, hown, hlk, hnm, hts, hK, hZ, hA, hWT⟩ := id C0
  subst hR
  unfold wj_X8_take_57 at h
  refine lv_istore_n (lv' := [(2, .int z0), (0, .ref (ad x0)), (1, .int x1)]) hx hb dX8_take_57 rfl hl (by decide) rfl (fun ls hl => ?_)
  refine lv_aload_n hx hb dX8_take_58 rfl (lv_at hl 1 rfl) ?_
  refine lv_iload_n hx hb dX8_take_59 rfl (lv_at hl 2 rfl) ?_
  refine k_calli (va_runV (As := [.int x1]) (rest := []) ⟨hx, hb, hml, hown, hts⟩ (s_X8_length l D X ad n A J hWT x0 t0 x1 I L _ h) (cwV 1 hts (gV tw_3_162 tw_3_163 tw_3_164 tw_1_9 tw_3_165) rfl rfl rfl (by decide +kernel) (by decide)) (k_preV (ci := 5) hK hV hA hZ t0 rfl _) rfl rfl hl.1 rfl (lv_room (Nat.le_of_ble_eq_true rfl)) dX8_take_60 ⟨Nat.zero_le _, Nat.zero_le _⟩) hV (fun v_3 I_1 L_2 H locs h hV => ?_)
  refine lv_istore_n (lv' := [(3, .int v_3), (2, .int z0), (0, .ref (ad x0)), (1, .int x1)]) hx hb dX8_take_63 rfl hl (by decide) rfl (fun ls hl => ?_)
  refine lv_aload_n hx hb dX8_take_64 rfl (lv_at hl 2 rfl) ?_
  refine lv_iload_n hx hb dX8_take_65 rfl (lv_at hl 1 rfl) ?_
  refine lv_iconst (v := 0) hx hb dX8_take_66 (by decide) ?_
  refine lv_iload_n hx hb dX8_take_67 rfl (lv_at hl 0 rfl) ?_
  refine k_callv (va_runV (As := [.int z0, .int 0, .int v_3]) (rest := []) ⟨hx, hb, hml, hown, hts⟩ (s_X8_copy l D X ad n A J hWT x0 t0 z0 0 v_3 I_1 L_2 _ h) (cwV 3 hts (gV tw_3_166 tw_3_168 tw_0_14 tw_1_9 tw_3_169) rfl rfl rfl (by decide +kernel) (by decide)) (k_preV (ci := 5) hK hV hA hZ t0 rfl _) rfl rfl hl.1 rfl (lv_room (Nat.le_of_ble_eq_true rfl)) dX8_take_68 ⟨Nat.zero_le _, Nat.zero_le _⟩) hV (fun I_4 L_5 H locs h hV => ?_)
  refine lv_aload_n hx hb dX8_take_71 rfl (lv_at hl 2 rfl) ?_
  refine lv_iload_n hx hb dX8_take_72 rfl (lv_at hl 0 rfl) ?_
  refine m_puti (C := RX8) (T := TX8) (N := 19) (ci := 5) (ty := .int) hx hb hts iwX8 hown hK hV tyX8 tyX8_ok nmX8 t0 rfl 1 (by decide) rfl rfl (hts _ tw_3_92) (fun _ h9 => h9) rfl (by decide +kernel) rfl rfl dX8_take_73 (fun H locs hV => ?_)
  obtain ⟨I_6, eI_6⟩ : ∃ y, y = ms I_4 x0 1 v_3 := ⟨_, rfl⟩
  replace hV : Wd D X ad n A s.heap J I_6 L_5 H locs := by rw [eI_6]; exact hV
  replace h := h I_6 eI_6
  refine lv_iload_n hx hb dX8_take_76 rfl (lv_at hl 0 rfl) ?_
  exact m_iret hx hb hr hlk hK hZ hA hV h dX8_take_77
set_option maxHeartbeats 4000000 in
set_option maxRecDepth 100000 in
theorem s_X8_take (l : Launch) (D : va_G) (X : XT) (ad : Nat → Nat) (n : Nat) (A : Nat → Prop) (J : MJ) (hWT : WT X n J) (x0 : Nat) (t0 : Ty X n x0 9) (x1 : Int32) (I : MI) (L : ML) (q : Int32 → MI → ML → Prop) (h : wp_X8_take X J x0 x1 I L q) : Met l yX8_take (wz yX8_take cX8_take 4 (some .int)) ({ frames := 1, cells := 0, slots := 0, locals := 24 } : Room) (va_Pc [.ref (ad x0), .int x1] (Pr D X ad n A J I L)) (QI D X ad n A J q) 0 0 A := by
  refine Met_go (by decide +kernel) (Nat.le_of_ble_eq_true rfl) (fun p e s m below meth c hx hb hr hml hown hlk hnm hts hK hZ hA hV ls hl => ?_)
  have C0 : Cx p s m meth c cX8_take (some .int) 4 yX8_take [.ref (ad x0), .int x1] D X ad n A J := ⟨hx, hb, hr, hml, hown, hlk, hnm, hts, hK, hZ, hA, hWT⟩
  unfold wp_X8_take at h
  have hl : lv_has ls 4 [(0, .ref (ad x0)), (1, .int x1)] := hl
  refine lv_iload_n hx hb dX8_take_0 rfl (lv_at hl 1 rfl) ?_
  refine lv_if_lt (tgt := 9) hx hb dX8_take_1 (by decide) (fun hc => ?_) (fun hc => ?_)
  · replace h := h.1 hc
    refine lv_iconst (v := (-1)) hx hb dX8_take_9 (by decide) ?_
    exact m_iret hx hb hr hlk hK hZ hA hV h dX8_take_10
  · replace h := h.2 hc
    refine lv_iload_n hx hb dX8_take_4 rfl (lv_at hl 1 rfl) ?_
    refine lv_iconst (v := 4) hx hb dX8_take_5 (by decide) ?_
    refine lv_icmp_le (tgt := 11) hx hb dX8_take_6 (by decide) (fun hc => ?_) (fun hc => ?_)
    · replace h := h.1 hc
      refine lv_iload_n hx hb dX8_take_11 rfl (lv_at hl 1 rfl) ?_
      refine lv_if_ne (tgt := 21) hx hb dX8_take_12 (by decide) (fun hc => ?_) (fun hc => ?_)
      · replace h := h.1 hc
        refine lv_iload_n hx hb dX8_take_21 rfl (lv_at hl 1 rfl) ?_
        refine lv_iconst (v := 1) hx hb dX8_take_22 (by decide) ?_
        refine lv_icmp_ne (tgt := 32) hx hb dX8_take_23 (by decide) (fun hc => ?_) (fun hc => ?_)
        · replace h := h.1 hc
          refine lv_iload_n hx hb dX8_take_32 rfl (lv_at hl 1 rfl) ?_
          refine lv_iconst (v := 2) hx hb dX8_take_33 (by decide) ?_
          refine lv_icmp_ne (tgt := 43) hx hb dX8_take_34 (by decide) (fun hc => ?_) (fun hc => ?_)
          · replace h := h.1 hc
            refine lv_iload_n hx hb dX8_take_43 rfl (lv_at hl 1 rfl) ?_
            refine lv_iconst (v := 3) hx hb dX8_take_44 (by decide) ?_
            refine lv_icmp_ne (tgt := 54) hx hb dX8_take_45 (by decide) (fun hc => ?_) (fun hc => ?_)
            · replace h := h.1 hc
              refine lv_sipush (v := 10336) hx hb dX8_take_54 (by decide) ?_
              exact n_X8_take_57 rfl C0 t0   h hV (lv_sub hl [0, 1] rfl)
            · replace h := h.2 hc
              refine lv_sipush (v := 10304) hx hb dX8_take_48 (by decide) ?_
              refine lv_goto (tgt := 57) hx hb dX8_take_51 (by decide) ?_
              exact n_X8_take_57 rfl C0 t0   h hV (lv_sub hl [0, 1] rfl)
          · replace h := h.2 hc
            refine lv_sipush (v := 8736) hx hb dX8_take_37 (by decide) ?_
            refine lv_goto (tgt := 57) hx hb dX8_take_40 (by decide) ?_
            exact n_X8_take_57 rfl C0 t0   h hV (lv_sub hl [0, 1] rfl)
        · replace h := h.2 hc
          refine lv_sipush (v := 5568) hx hb dX8_take_26 (by decide) ?_
          refine lv_goto (tgt := 57) hx hb dX8_take_29 (by decide) ?_
          exact n_X8_take_57 rfl C0 t0   h hV (lv_sub hl [0, 1] rfl)
      · replace h := h.2 hc
        refine lv_sipush (v := 4000) hx hb dX8_take_15 (by decide) ?_
        refine lv_goto (tgt := 57) hx hb dX8_take_18 (by decide) ?_
        exact n_X8_take_57 rfl C0 t0   h hV (lv_sub hl [0, 1] rfl)
    · replace h := h.2 hc
      refine lv_iconst (v := (-1)) hx hb dX8_take_9 (by decide) ?_
      exact m_iret hx hb hr hlk hK hZ hA hV h dX8_take_10
set_option maxHeartbeats 4000000 in
set_option maxRecDepth 100000 in
theorem s_X8_alter (l : Launch) (D : va_G) (X : XT) (ad : Nat → Nat) (n : Nat) (A : Nat → Prop) (J : MJ) (hWT : WT X n J) (x0 : Nat) (t0 : Ty X n x0 9) (x1 : Int32) (x2 : Int32) (I : MI) (L : ML) (q : Int32 → MI → ML → Prop) (h : wp_X8_alter X J x0 x1 x2 I L q) : Met l yX8_alter (wz yX8_alter cX8_alter 3 (some .boolean)) ({ frames := 0, cells := 0, slots := 0, locals := 0 } : Room) (va_Pc [.ref (ad x0), .int x1, .int x2] (Pr D X ad n A J I L)) (QI D X ad n A J q) 0 0 A := by
  refine Met_go (by decide +kernel) (Nat.le_of_ble_eq_true rfl) (fun p e s m below meth c hx hb hr hml hown hlk hnm hts hK hZ hA hV ls hl => ?_)
  have C0 : Cx p s m meth c cX8_alter (some .boolean) 3 yX8_alter [.ref (ad x0), .int x1, .int x2] D X ad n A J := ⟨hx, hb, hr, hml, hown, hlk, hnm, hts, hK, hZ, hA, hWT⟩
  unfold wp_X8_alter at h
  have hl : lv_has ls 3 [(0, .ref (ad x0)), (1, .int x1), (2, .int x2)] := hl
  refine lv_iload_n hx hb dX8_alter_0 rfl (lv_at hl 1 rfl) ?_
  refine lv_if_lt (tgt := 12) hx hb dX8_alter_1 (by decide) (fun hc => ?_) (fun hc => ?_)
  · replace h := h.1 hc
    refine lv_iconst (v := 0) hx hb dX8_alter_12 (by decide) ?_
    exact m_zret hx hb hr hlk hK hZ hA hV (by decide) h dX8_alter_13
  · replace h := h.2 hc
    refine lv_iload_n hx hb dX8_alter_4 rfl (lv_at hl 1 rfl) ?_
    refine lv_aload_n hx hb dX8_alter_5 rfl (lv_at hl 0 rfl) ?_
    refine m_geti (C := RX8) (T := TX8) (N := 19) (ci := 5) hx hb hts iwX8 hown hK hV t0 rfl 1 (by decide) rfl rfl (hts _ tw_3_92) (fun _ h9 => h9) dX8_alter_6 ?_
    refine lv_icmp_lt (tgt := 14) hx hb dX8_alter_9 (by decide) (fun hc => ?_) (fun hc => ?_)
    · replace h := h.1 hc
      refine lv_aload_n hx hb dX8_alter_14 rfl (lv_at hl 0 rfl) ?_
      obtain ⟨r_1, hr_1, h⟩ := h
      have tr_1 : Ty X n r_1 1 := hWT.r (c := 5) (j := 0) t0 rfl hr_1
      refine m_getr (C := RX8) (T := TX8) (N := 19) (ci := 5) hx hb hts iwX8 hown hK hV t0 rfl 0 (by decide) rfl rfl hr_1 (hts _ tw_3_91) (fun _ h9 => h9) dX8_alter_15 ?_
      refine lv_iconst (v := 0) hx hb dX8_alter_18 (by decide) ?_
      refine lv_iload_n hx hb dX8_alter_19 rfl (lv_at hl 1 rfl) ?_
      refine lv_iadd hx hb dX8_alter_20 ?_
      refine lv_iload_n hx hb dX8_alter_21 rfl (lv_at hl 2 rfl) ?_
      refine lv_i2b hx hb dX8_alter_22 rfl ?_
      obtain ⟨hi_2, h⟩ := h
      refine m_bast hx hb hK hV tr_1 hi_2 dX8_alter_23 (fun H locs hV => ?_)
      obtain ⟨I_3, eI_3⟩ : ∃ y, y = ms I r_1 (0 + x1).toNatClampNeg (jb8 (jb8 x2)) := ⟨_, rfl⟩
      replace hV : Wd D X ad n A s.heap J I_3 L H locs := by rw [eI_3]; exact hV
      replace h := h I_3 eI_3
      refine lv_iconst (v := 1) hx hb dX8_alter_24 (by decide) ?_
      exact m_zret hx hb hr hlk hK hZ hA hV (by decide) h dX8_alter_25
    · replace h := h.2 hc
      refine lv_iconst (v := 0) hx hb dX8_alter_12 (by decide) ?_
      exact m_zret hx hb hr hlk hK hZ hA hV (by decide) h dX8_alter_13
set_option maxHeartbeats 4000000 in
set_option maxRecDepth 100000 in
theorem s_X8_choose (l : Launch) (D : va_G) (X : XT) (ad : Nat → Nat) (n : Nat) (A : Nat → Prop) (J : MJ) (hWT : WT X n J) (x0 : Nat) (t0 : Ty X n x0 9) (x1 : Int32) (I : MI) (L : ML) (q : Int32 → MI → ML → Prop) (h : wp_X8_choose X J x0 x1 I L q) : Met l yX8_choose (wz yX8_choose cX8_choose 2 (some .int)) ({ frames := 1, cells := 0, slots := 0, locals := 20 } : Room) (va_Pc [.ref (ad x0), .int x1] (Pr D X ad n A J I L)) (QI D X ad n A J q) 0 0 A := by
  refine Met_go (by decide +kernel) (Nat.le_of_ble_eq_true rfl) (fun p e s m below meth c hx hb hr hml hown hlk hnm hts hK hZ hA hV ls hl => ?_)
  have C0 : Cx p s m meth c cX8_choose (some .int) 2 yX8_choose [.ref (ad x0), .int x1] D X ad n A J := ⟨hx, hb, hr, hml, hown, hlk, hnm, hts, hK, hZ, hA, hWT⟩
  unfold wp_X8_choose at h
  have hl : lv_has ls 2 [(0, .ref (ad x0)), (1, .int x1)] := hl
  refine lv_iload_n hx hb dX8_choose_0 rfl (lv_at hl 1 rfl) ?_
  refine lv_iconst (v := 2) hx hb dX8_choose_1 (by decide) ?_
  refine lv_icmp_lt (tgt := 10) hx hb dX8_choose_2 (by decide) (fun hc => ?_) (fun hc => ?_)
  · replace h := h.1 hc
    refine lv_iconst (v := (-1)) hx hb dX8_choose_10 (by decide) ?_
    exact m_iret hx hb hr hlk hK hZ hA hV h dX8_choose_11
  · replace h := h.2 hc
    refine lv_iload_n hx hb dX8_choose_5 rfl (lv_at hl 1 rfl) ?_
    refine lv_iconst (v := 4) hx hb dX8_choose_6 (by decide) ?_
    refine lv_icmp_le (tgt := 12) hx hb dX8_choose_7 (by decide) (fun hc => ?_) (fun hc => ?_)
    · replace h := h.1 hc
      refine lv_aload_n hx hb dX8_choose_12 rfl (lv_at hl 0 rfl) ?_
      refine lv_iload_n hx hb dX8_choose_13 rfl (lv_at hl 1 rfl) ?_
      refine m_puti (C := RX8) (T := TX8) (N := 19) (ci := 5) (ty := .int) hx hb hts iwX8 hown hK hV tyX8 tyX8_ok nmX8 t0 rfl 7 (by decide) rfl rfl (hts _ tw_3_98) (fun _ h9 => h9) rfl (by decide +kernel) rfl rfl dX8_choose_14 (fun H locs hV => ?_)
      obtain ⟨I_1, eI_1⟩ : ∃ y, y = ms I x0 7 x1 := ⟨_, rfl⟩
      replace hV : Wd D X ad n A s.heap J I_1 L H locs := by rw [eI_1]; exact hV
      replace h := h I_1 eI_1
      refine lv_aload_n hx hb dX8_choose_17 rfl (lv_at hl 0 rfl) ?_
      refine lv_iconst (v := 0) hx hb dX8_choose_18 (by decide) ?_
      refine m_puti (C := RX8) (T := TX8) (N := 19) (ci := 5) (ty := .int) hx hb hts iwX8 hown hK hV tyX8 tyX8_ok nmX8 t0 rfl 2 (by decide) rfl rfl (hts _ tw_3_93) (fun _ h9 => h9) rfl (by decide +kernel) rfl rfl dX8_choose_19 (fun H locs hV => ?_)
      obtain ⟨I_2, eI_2⟩ : ∃ y, y = ms I_1 x0 2 0 := ⟨_, rfl⟩
      replace hV : Wd D X ad n A s.heap J I_2 L H locs := by rw [eI_2]; exact hV
      replace h := h I_2 eI_2
      refine lv_aload_n hx hb dX8_choose_22 rfl (lv_at hl 0 rfl) ?_
      refine lv_iconst (v := 0) hx hb dX8_choose_23 (by decide) ?_
      refine m_puti (C := RX8) (T := TX8) (N := 19) (ci := 5) (ty := .int) hx hb hts iwX8 hown hK hV tyX8 tyX8_ok nmX8 t0 rfl 3 (by decide) rfl rfl (hts _ tw_3_94) (fun _ h9 => h9) rfl (by decide +kernel) rfl rfl dX8_choose_24 (fun H locs hV => ?_)
      obtain ⟨I_3, eI_3⟩ : ∃ y, y = ms I_2 x0 3 0 := ⟨_, rfl⟩
      replace hV : Wd D X ad n A s.heap J I_3 L H locs := by rw [eI_3]; exact hV
      replace h := h I_3 eI_3
      refine lv_aload_n hx hb dX8_choose_27 rfl (lv_at hl 0 rfl) ?_
      refine lv_iconst (v := 0) hx hb dX8_choose_28 (by decide) ?_
      refine m_puti (C := RX8) (T := TX8) (N := 19) (ci := 5) (ty := .int) hx hb hts iwX8 hown hK hV tyX8 tyX8_ok nmX8 t0 rfl 4 (by decide) rfl rfl (hts _ tw_3_95) (fun _ h9 => h9) rfl (by decide +kernel) rfl rfl dX8_choose_29 (fun H locs hV => ?_)
      obtain ⟨I_4, eI_4⟩ : ∃ y, y = ms I_3 x0 4 0 := ⟨_, rfl⟩
      replace hV : Wd D X ad n A s.heap J I_4 L H locs := by rw [eI_4]; exact hV
      replace h := h I_4 eI_4
      refine lv_aload_n hx hb dX8_choose_32 rfl (lv_at hl 0 rfl) ?_
      refine lv_iconst (v := 0) hx hb dX8_choose_33 (by decide) ?_
      refine m_puti (C := RX8) (T := TX8) (N := 19) (ci := 5) (ty := .int) hx hb hts iwX8 hown hK hV tyX8 tyX8_ok nmX8 t0 rfl 5 (by decide) rfl rfl (hts _ tw_3_96) (fun _ h9 => h9) rfl (by decide +kernel) rfl rfl dX8_choose_34 (fun H locs hV => ?_)
      obtain ⟨I_5, eI_5⟩ : ∃ y, y = ms I_4 x0 5 0 := ⟨_, rfl⟩
      replace hV : Wd D X ad n A s.heap J I_5 L H locs := by rw [eI_5]; exact hV
      replace h := h I_5 eI_5
      refine lv_aload_n hx hb dX8_choose_37 rfl (lv_at hl 0 rfl) ?_
      refine k_calli (va_runV (As := []) (rest := []) ⟨hx, hb, hml, hown, hts⟩ (s_X8_ekBytes l D X ad n A J hWT x0 t0 I_5 L _ h) (cwV 0 hts (gV tw_3_178 tw_3_180 tw_0_15 tw_1_9 tw_3_181) rfl rfl rfl (by decide +kernel) (by decide)) (k_preV (ci := 5) hK hV hA hZ t0 rfl _) rfl rfl hl.1 rfl (lv_room (Nat.le_of_ble_eq_true rfl)) dX8_choose_38 ⟨Nat.zero_le _, Nat.zero_le _⟩) hV (fun v_8 I_6 L_7 H locs h hV => ?_)
      exact m_iret hx hb hr hlk hK hZ hA hV h dX8_choose_41
    · replace h := h.2 hc
      refine lv_iconst (v := (-1)) hx hb dX8_choose_10 (by decide) ?_
      exact m_iret hx hb hr hlk hK hZ hA hV h dX8_choose_11
set_option maxHeartbeats 4000000 in
set_option maxRecDepth 100000 in
theorem s_X8_bound (l : Launch) (D : va_G) (X : XT) (ad : Nat → Nat) (n : Nat) (A : Nat → Prop) (J : MJ) (hWT : WT X n J) (x0 : Nat) (t0 : Ty X n x0 9) (x1 : Int32) (I : MI) (L : ML) (q : Int32 → MI → ML → Prop) (h : wp_X8_bound X J x0 x1 I L q) : Met l yX8_bound (wz yX8_bound cX8_bound 2 (some .int)) ({ frames := 0, cells := 0, slots := 0, locals := 0 } : Room) (va_Pc [.ref (ad x0), .int x1] (Pr D X ad n A J I L)) (QI D X ad n A J q) 0 0 A := by
  refine Met_go (by decide +kernel) (Nat.le_of_ble_eq_true rfl) (fun p e s m below meth c hx hb hr hml hown hlk hnm hts hK hZ hA hV ls hl => ?_)
  have C0 : Cx p s m meth c cX8_bound (some .int) 2 yX8_bound [.ref (ad x0), .int x1] D X ad n A J := ⟨hx, hb, hr, hml, hown, hlk, hnm, hts, hK, hZ, hA, hWT⟩
  unfold wp_X8_bound at h
  have hl : lv_has ls 2 [(0, .ref (ad x0)), (1, .int x1)] := hl
  refine lv_iload_n hx hb dX8_bound_0 rfl (lv_at hl 1 rfl) ?_
  refine lv_iconst (v := 1) hx hb dX8_bound_1 (by decide) ?_
  refine lv_icmp_lt (tgt := 12) hx hb dX8_bound_2 (by decide) (fun hc => ?_) (fun hc => ?_)
  · replace h := h.1 hc
    refine lv_iconst (v := (-1)) hx hb dX8_bound_12 (by decide) ?_
    exact m_iret hx hb hr hlk hK hZ hA hV h dX8_bound_13
  · replace h := h.2 hc
    refine lv_iload_n hx hb dX8_bound_5 rfl (lv_at hl 1 rfl) ?_
    refine lv_sipush (v := 280) hx hb dX8_bound_6 (by decide) ?_
    refine lv_icmp_le (tgt := 14) hx hb dX8_bound_9 (by decide) (fun hc => ?_) (fun hc => ?_)
    · replace h := h.1 hc
      refine lv_aload_n hx hb dX8_bound_14 rfl (lv_at hl 0 rfl) ?_
      refine lv_iload_n hx hb dX8_bound_15 rfl (lv_at hl 1 rfl) ?_
      refine m_puti (C := RX8) (T := TX8) (N := 19) (ci := 5) (ty := .int) hx hb hts iwX8 hown hK hV tyX8 tyX8_ok nmX8 t0 rfl 8 (by decide) rfl rfl (hts _ tw_3_99) (fun _ h9 => h9) rfl (by decide +kernel) rfl rfl dX8_bound_16 (fun H locs hV => ?_)
      obtain ⟨I_1, eI_1⟩ : ∃ y, y = ms I x0 8 x1 := ⟨_, rfl⟩
      replace hV : Wd D X ad n A s.heap J I_1 L H locs := by rw [eI_1]; exact hV
      replace h := h I_1 eI_1
      refine lv_iload_n hx hb dX8_bound_19 rfl (lv_at hl 1 rfl) ?_
      exact m_iret hx hb hr hlk hK hZ hA hV h dX8_bound_20
    · replace h := h.2 hc
      refine lv_iconst (v := (-1)) hx hb dX8_bound_12 (by decide) ?_
      exact m_iret hx hb hr hlk hK hZ hA hV h dX8_bound_13
set_option maxHeartbeats 4000000 in
set_option maxRecDepth 100000 in
theorem n_X8_at_70 {p : Program} {l : Launch} {e : Env} {s : State} {m : MethodId} {below : List Frame} {meth : Method} {c : Code} {D : va_G} {X : XT} {ad : Nat → Nat} {n : Nat} {A : Nat → Prop} {J : MJ} {av : List Value} {R : Room} (hR : R = ({ frames := 1, cells := 0, slots := 0, locals := 21 } : Room)) (C0 : Cx p s m meth c cX8_at (some .int) 4 yX8_at av D X ad n A J) {q : Int32 → MI → ML → Prop}  {x0 : Nat} {x2 : Int32} {z0 : Int32} {I : MI} {L : ML} {H : Heap} {locs : List Loc} {ls : Array Slot} (t0 : Ty X n x0 9) (h : wj_X8_at_70 X J q  x0 x2 z0 I L) (hV : Wd D X ad n A s.heap J I L H locs) (hl : lv_has ls 4 [(0, .ref (ad x0)), (2, .int x2)]) : W p l e R s m av.toArray below meth c H locs 0 0 (MQ below (QI D X ad n A J q) av.toArray s 0 0 A) (F0 m 70 ls [.int z0]) := by
  obtain ⟨hx, hb, hr, hml, hown, hlk, hnm, hts, hK, hZ, hA, hWT⟩ := id C0
  subst hR
  unfold wj_X8_at_70 at h
  refine lv_istore_n (lv' := [(3, .int z0), (0, .ref (ad x0)), (2, .int x2)]) hx hb dX8_at_70 rfl hl (by decide) rfl (fun ls hl => ?_)
  refine lv_aload_n hx hb dX8_at_71 rfl (lv_at hl 1 rfl) ?_
  refine lv_iload_n hx hb dX8_at_72 rfl (lv_at hl 0 rfl) ?_
  refine lv_iload_n hx hb dX8_at_73 rfl (lv_at hl 2 rfl) ?_
  refine lv_iadd hx hb dX8_at_74 ?_
  refine k_calli (va_runV (As := [.int (z0 + x2)]) (rest := []) ⟨hx, hb, hml, hown, hts⟩ (s_X8_byteAt l D X ad n A J hWT x0 t0 (z0 + x2) I L _ h) (cwV 1 hts (gV tw_3_191 tw_3_193 tw_0_16 tw_1_9 tw_3_194) rfl rfl rfl (by decide +kernel) (by decide)) (k_preV (ci := 5) hK hV hA hZ t0 rfl _) rfl rfl hl.1 rfl (lv_room (Nat.le_of_ble_eq_true rfl)) dX8_at_75 ⟨Nat.zero_le _, Nat.zero_le _⟩) hV (fun v_6 I_4 L_5 H locs h hV => ?_)
  exact m_iret hx hb hr hlk hK hZ hA hV h dX8_at_78
set_option maxHeartbeats 4000000 in
set_option maxRecDepth 100000 in
theorem s_X8_at (l : Launch) (D : va_G) (X : XT) (ad : Nat → Nat) (n : Nat) (A : Nat → Prop) (J : MJ) (hWT : WT X n J) (x0 : Nat) (t0 : Ty X n x0 9) (x1 : Int32) (x2 : Int32) (I : MI) (L : ML) (q : Int32 → MI → ML → Prop) (h : wp_X8_at X J x0 x1 x2 I L q) : Met l yX8_at (wz yX8_at cX8_at 4 (some .int)) ({ frames := 1, cells := 0, slots := 0, locals := 21 } : Room) (va_Pc [.ref (ad x0), .int x1, .int x2] (Pr D X ad n A J I L)) (QI D X ad n A J q) 0 0 A := by
  refine Met_go (by decide +kernel) (Nat.le_of_ble_eq_true rfl) (fun p e s m below meth c hx hb hr hml hown hlk hnm hts hK hZ hA hV ls hl => ?_)
  have C0 : Cx p s m meth c cX8_at (some .int) 4 yX8_at [.ref (ad x0), .int x1, .int x2] D X ad n A J := ⟨hx, hb, hr, hml, hown, hlk, hnm, hts, hK, hZ, hA, hWT⟩
  unfold wp_X8_at at h
  have hl : lv_has ls 4 [(0, .ref (ad x0)), (1, .int x1), (2, .int x2)] := hl
  refine lv_iload_n hx hb dX8_at_0 rfl (lv_at hl 2 rfl) ?_
  refine lv_if_lt (tgt := 13) hx hb dX8_at_1 (by decide) (fun hc => ?_) (fun hc => ?_)
  · replace h := h.1 hc
    refine lv_iconst (v := (-1)) hx hb dX8_at_13 (by decide) ?_
    exact m_iret hx hb hr hlk hK hZ hA hV h dX8_at_14
  · replace h := h.2 hc
    refine lv_iload_n hx hb dX8_at_4 rfl (lv_at hl 2 rfl) ?_
    refine lv_aload_n hx hb dX8_at_5 rfl (lv_at hl 0 rfl) ?_
    refine lv_iload_n hx hb dX8_at_6 rfl (lv_at hl 1 rfl) ?_
    refine k_calli (va_runV (As := [.int x1]) (rest := [.int x2]) ⟨hx, hb, hml, hown, hts⟩ (s_X8_length l D X ad n A J hWT x0 t0 x1 I L _ h) (cwV 1 hts (gV tw_3_162 tw_3_163 tw_3_164 tw_1_9 tw_3_165) rfl rfl rfl (by decide +kernel) (by decide)) (k_preV (ci := 5) hK hV hA hZ t0 rfl _) rfl rfl hl.1 rfl (lv_room (Nat.le_of_ble_eq_true rfl)) dX8_at_7 ⟨Nat.zero_le _, Nat.zero_le _⟩) hV (fun v_3 I_1 L_2 H locs h hV => ?_)
    refine lv_icmp_lt (tgt := 15) hx hb dX8_at_10 (by decide) (fun hc => ?_) (fun hc => ?_)
    · replace h := h.1 hc
      refine lv_iload_n hx hb dX8_at_15 rfl (lv_at hl 1 rfl) ?_
      refine lv_if_ne (tgt := 25) hx hb dX8_at_16 (by decide) (fun hc => ?_) (fun hc => ?_)
      · replace h := h.1 hc
        refine lv_iload_n hx hb dX8_at_25 rfl (lv_at hl 1 rfl) ?_
        refine lv_iconst (v := 1) hx hb dX8_at_26 (by decide) ?_
        refine lv_icmp_ne (tgt := 36) hx hb dX8_at_27 (by decide) (fun hc => ?_) (fun hc => ?_)
        · replace h := h.1 hc
          refine lv_iload_n hx hb dX8_at_36 rfl (lv_at hl 1 rfl) ?_
          refine lv_iconst (v := 2) hx hb dX8_at_37 (by decide) ?_
          refine lv_icmp_ne (tgt := 47) hx hb dX8_at_38 (by decide) (fun hc => ?_) (fun hc => ?_)
          · replace h := h.1 hc
            refine lv_iload_n hx hb dX8_at_47 rfl (lv_at hl 1 rfl) ?_
            refine lv_iconst (v := 3) hx hb dX8_at_48 (by decide) ?_
            refine lv_icmp_ne (tgt := 58) hx hb dX8_at_49 (by decide) (fun hc => ?_) (fun hc => ?_)
            · replace h := h.1 hc
              refine lv_iload_n hx hb dX8_at_58 rfl (lv_at hl 1 rfl) ?_
              refine lv_iconst (v := 4) hx hb dX8_at_59 (by decide) ?_
              refine lv_icmp_ne (tgt := 69) hx hb dX8_at_60 (by decide) (fun hc => ?_) (fun hc => ?_)
              · replace h := h.1 hc
                refine lv_iconst (v := 0) hx hb dX8_at_69 (by decide) ?_
                exact n_X8_at_70 rfl C0 t0   h hV (lv_sub hl [0, 2] rfl)
              · replace h := h.2 hc
                refine lv_sipush (v := 10336) hx hb dX8_at_63 (by decide) ?_
                refine lv_goto (tgt := 70) hx hb dX8_at_66 (by decide) ?_
                exact n_X8_at_70 rfl C0 t0   h hV (lv_sub hl [0, 2] rfl)
            · replace h := h.2 hc
              refine lv_sipush (v := 10304) hx hb dX8_at_52 (by decide) ?_
              refine lv_goto (tgt := 70) hx hb dX8_at_55 (by decide) ?_
              exact n_X8_at_70 rfl C0 t0   h hV (lv_sub hl [0, 2] rfl)
          · replace h := h.2 hc
            refine lv_sipush (v := 8736) hx hb dX8_at_41 (by decide) ?_
            refine lv_goto (tgt := 70) hx hb dX8_at_44 (by decide) ?_
            exact n_X8_at_70 rfl C0 t0   h hV (lv_sub hl [0, 2] rfl)
        · replace h := h.2 hc
          refine lv_sipush (v := 5568) hx hb dX8_at_30 (by decide) ?_
          refine lv_goto (tgt := 70) hx hb dX8_at_33 (by decide) ?_
          exact n_X8_at_70 rfl C0 t0   h hV (lv_sub hl [0, 2] rfl)
      · replace h := h.2 hc
        refine lv_sipush (v := 4000) hx hb dX8_at_19 (by decide) ?_
        refine lv_goto (tgt := 70) hx hb dX8_at_22 (by decide) ?_
        exact n_X8_at_70 rfl C0 t0   h hV (lv_sub hl [0, 2] rfl)
    · replace h := h.2 hc
      refine lv_iconst (v := (-1)) hx hb dX8_at_13 (by decide) ?_
      exact m_iret hx hb hr hlk hK hZ hA hV h dX8_at_14
set_option maxHeartbeats 4000000 in
set_option maxRecDepth 100000 in
theorem s_X8_used (l : Launch) (D : va_G) (X : XT) (ad : Nat → Nat) (n : Nat) (A : Nat → Prop) (J : MJ) (hWT : WT X n J) (x0 : Nat) (t0 : Ty X n x0 9) (I : MI) (L : ML) (q : Int32 → MI → ML → Prop) (h : wp_X8_used X J x0 I L q) : Met l yX8_used (wz yX8_used cX8_used 2 (some .int)) ({ frames := 0, cells := 0, slots := 0, locals := 0 } : Room) (va_Pc [.ref (ad x0)] (Pr D X ad n A J I L)) (QI D X ad n A J q) 0 0 A := by
  refine Met_go (by decide +kernel) (Nat.le_of_ble_eq_true rfl) (fun p e s m below meth c hx hb hr hml hown hlk hnm hts hK hZ hA hV ls hl => ?_)
  have C0 : Cx p s m meth c cX8_used (some .int) 2 yX8_used [.ref (ad x0)] D X ad n A J := ⟨hx, hb, hr, hml, hown, hlk, hnm, hts, hK, hZ, hA, hWT⟩
  unfold wp_X8_used at h
  have hl : lv_has ls 2 [(0, .ref (ad x0))] := hl
  refine lv_aload_n hx hb dX8_used_0 rfl (lv_at hl 0 rfl) ?_
  refine m_geti (C := RX8) (T := TX8) (N := 19) (ci := 5) hx hb hts iwX8 hown hK hV t0 rfl 1 (by decide) rfl rfl (hts _ tw_3_92) (fun _ h9 => h9) dX8_used_1 ?_
  refine lv_topi (fun x1_1 ex1_1 => ?_)
  replace h := h x1_1 ex1_1
  refine lv_istore_n (lv' := [(1, .int x1_1), (0, .ref (ad x0))]) hx hb dX8_used_4 rfl hl (by decide) rfl (fun ls hl => ?_)
  refine lv_aload_n hx hb dX8_used_5 rfl (lv_at hl 1 rfl) ?_
  refine lv_iconst (v := 0) hx hb dX8_used_6 (by decide) ?_
  refine m_puti (C := RX8) (T := TX8) (N := 19) (ci := 5) (ty := .int) hx hb hts iwX8 hown hK hV tyX8 tyX8_ok nmX8 t0 rfl 1 (by decide) rfl rfl (hts _ tw_3_92) (fun _ h9 => h9) rfl (by decide +kernel) rfl rfl dX8_used_7 (fun H locs hV => ?_)
  obtain ⟨I_2, eI_2⟩ : ∃ y, y = ms I x0 1 0 := ⟨_, rfl⟩
  replace hV : Wd D X ad n A s.heap J I_2 L H locs := by rw [eI_2]; exact hV
  replace h := h I_2 eI_2
  refine lv_iload_n hx hb dX8_used_10 rfl (lv_at hl 0 rfl) ?_
  exact m_iret hx hb hr hlk hK hZ hA hV h dX8_used_11
set_option maxHeartbeats 4000000 in
set_option maxRecDepth 100000 in
theorem n_X8_make_45 {p : Program} {l : Launch} {e : Env} {s : State} {m : MethodId} {below : List Frame} {meth : Method} {c : Code} {D : va_G} {X : XT} {ad : Nat → Nat} {n : Nat} {A : Nat → Prop} {J : MJ} {av : List Value} {R : Room} (hR : R = ({ frames := 9, cells := 0, slots := 0, locals := 213 } : Room)) (C0 : Cx p s m meth c cX8_make (some .int) 2 yX8_make av D X ad n A J) {q : Int32 → MI → ML → Prop}  {x0 : Nat} (t0 : Ty X n x0 9) : ∀ (fu : Nat) (x1 : Int32) (I : MI) (L : ML) (H : Heap) (locs : List Loc) (ls : Array Slot), wl_X8_make_45 X J q  x0 fu x1 I L → Wd D X ad n A s.heap J I L H locs → lv_has ls 2 [(0, .ref (ad x0)), (1, .int x1)] → W p l e R s m av.toArray below meth c H locs 0 0 (MQ below (QI D X ad n A J q) av.toArray s 0 0 A) (F0 m 45 ls []) := by
  obtain ⟨hx, hb, hr, hml, hown, hlk, hnm, hts, hK, hZ, hA, hWT⟩ := id C0
  subst hR
  intro fu
  induction fu with
  | zero => intro x1 I L H locs ls h; exact absurd h (fun h => h)
  | succ fu ih =>
    intro x1 I L H locs ls h hV hl
    refine lv_iload_n hx hb dX8_make_45 rfl (lv_at hl 1 rfl) ?_
    refine lv_aload_n hx hb dX8_make_46 rfl (lv_at hl 0 rfl) ?_
    refine m_geti (C := RX8) (T := TX8) (N := 19) (ci := 5) hx hb hts iwX8 hown hK hV t0 rfl 7 (by decide) rfl rfl (hts _ tw_3_98) (fun _ h9 => h9) dX8_make_47 ?_
    refine lv_icmp_ge (tgt := 77) hx hb dX8_make_50 (by decide) (fun hc => ?_) (fun hc => ?_)
    · replace h := h.1 hc
      refine lv_aload_n hx hb dX8_make_77 rfl (lv_at hl 0 rfl) ?_
      refine lv_sipush (v := 4000) hx hb dX8_make_78 (by decide) ?_
      refine lv_sipush (v := 5568) hx hb dX8_make_81 (by decide) ?_
      refine lv_sipush (v := 384) hx hb dX8_make_84 (by decide) ?_
      refine lv_aload_n hx hb dX8_make_87 rfl (lv_at hl 0 rfl) ?_
      refine m_geti (C := RX8) (T := TX8) (N := 19) (ci := 5) hx hb hts iwX8 hown hK hV t0 rfl 7 (by decide) rfl rfl (hts _ tw_3_98) (fun _ h9 => h9) dX8_make_88 ?_
      refine lv_imul hx hb dX8_make_91 ?_
      refine lv_iadd hx hb dX8_make_92 ?_
      refine lv_aload_n hx hb dX8_make_93 rfl (lv_at hl 0 rfl) ?_
      refine m_geti (C := RX8) (T := TX8) (N := 19) (ci := 5) hx hb hts iwX8 hown hK hV t0 rfl 2 (by decide) rfl rfl (hts _ tw_3_93) (fun _ h9 => h9) dX8_make_94 ?_
      refine k_callv (va_runV (As := [.int 4000, .int (5568 + (384 * (I x0 7))), .int (I x0 2)]) (rest := []) ⟨hx, hb, hml, hown, hts⟩ (s_X8_copy l D X ad n A J hWT x0 t0 4000 (5568 + (384 * (I x0 7))) (I x0 2) I L _ h) (cwV 3 hts (gV tw_3_166 tw_3_168 tw_0_14 tw_1_9 tw_3_169) rfl rfl rfl (by decide +kernel) (by decide)) (k_preV (ci := 5) hK hV hA hZ t0 rfl _) rfl rfl hl.1 rfl (lv_room (Nat.le_of_ble_eq_true rfl)) dX8_make_97 ⟨Nat.zero_le _, Nat.zero_le _⟩) hV (fun I_16 L_17 H locs h hV => ?_)
      refine lv_aload_n hx hb dX8_make_100 rfl (lv_at hl 0 rfl) ?_
      refine lv_sipush (v := 4000) hx hb dX8_make_101 (by decide) ?_
      refine lv_aload_n hx hb dX8_make_104 rfl (lv_at hl 0 rfl) ?_
      refine m_geti (C := RX8) (T := TX8) (N := 19) (ci := 5) hx hb hts iwX8 hown hK hV t0 rfl 2 (by decide) rfl rfl (hts _ tw_3_93) (fun _ h9 => h9) dX8_make_105 ?_
      refine lv_sipush (v := 5568) hx hb dX8_make_108 (by decide) ?_
      refine lv_sipush (v := 768) hx hb dX8_make_111 (by decide) ?_
      refine lv_aload_n hx hb dX8_make_114 rfl (lv_at hl 0 rfl) ?_
      refine m_geti (C := RX8) (T := TX8) (N := 19) (ci := 5) hx hb hts iwX8 hown hK hV t0 rfl 7 (by decide) rfl rfl (hts _ tw_3_98) (fun _ h9 => h9) dX8_make_115 ?_
      refine lv_imul hx hb dX8_make_118 ?_
      refine lv_iadd hx hb dX8_make_119 ?_
      refine lv_bipush (v := 32) hx hb dX8_make_120 (by decide) ?_
      refine lv_iadd hx hb dX8_make_122 ?_
      refine k_callv (va_runV (As := [.int 4000, .int (I_16 x0 2), .int ((5568 + (768 * (I_16 x0 7))) + 32)]) (rest := []) ⟨hx, hb, hml, hown, hts⟩ (s_X8_h l D X ad n A J hWT x0 t0 4000 (I_16 x0 2) ((5568 + (768 * (I_16 x0 7))) + 32) I_16 L_17 _ h) (cwV 3 hts (gV tw_4_35 tw_4_37 tw_0_35 tw_1_9 tw_4_38) rfl rfl rfl (by decide +kernel) (by decide)) (k_preV (ci := 5) hK hV hA hZ t0 rfl _) rfl rfl hl.1 rfl (lv_room (Nat.le_of_ble_eq_true rfl)) dX8_make_123 ⟨Nat.zero_le _, Nat.zero_le _⟩) hV (fun I_18 L_19 H locs h hV => ?_)
      refine lv_aload_n hx hb dX8_make_126 rfl (lv_at hl 0 rfl) ?_
      refine lv_bipush (v := 32) hx hb dX8_make_127 (by decide) ?_
      refine lv_sipush (v := 5568) hx hb dX8_make_129 (by decide) ?_
      refine lv_sipush (v := 768) hx hb dX8_make_132 (by decide) ?_
      refine lv_aload_n hx hb dX8_make_135 rfl (lv_at hl 0 rfl) ?_
      refine m_geti (C := RX8) (T := TX8) (N := 19) (ci := 5) hx hb hts iwX8 hown hK hV t0 rfl 7 (by decide) rfl rfl (hts _ tw_3_98) (fun _ h9 => h9) dX8_make_136 ?_
      refine lv_imul hx hb dX8_make_139 ?_
      refine lv_iadd hx hb dX8_make_140 ?_
      refine lv_bipush (v := 64) hx hb dX8_make_141 (by decide) ?_
      refine lv_iadd hx hb dX8_make_143 ?_
      refine lv_bipush (v := 32) hx hb dX8_make_144 (by decide) ?_
      refine k_callv (va_runV (As := [.int 32, .int ((5568 + (768 * (I_18 x0 7))) + 64), .int 32]) (rest := []) ⟨hx, hb, hml, hown, hts⟩ (s_X8_copy l D X ad n A J hWT x0 t0 32 ((5568 + (768 * (I_18 x0 7))) + 64) 32 I_18 L_19 _ h) (cwV 3 hts (gV tw_3_166 tw_3_168 tw_0_14 tw_1_9 tw_3_169) rfl rfl rfl (by decide +kernel) (by decide)) (k_preV (ci := 5) hK hV hA hZ t0 rfl _) rfl rfl hl.1 rfl (lv_room (Nat.le_of_ble_eq_true rfl)) dX8_make_146 ⟨Nat.zero_le _, Nat.zero_le _⟩) hV (fun I_20 L_21 H locs h hV => ?_)
      refine lv_aload_n hx hb dX8_make_149 rfl (lv_at hl 0 rfl) ?_
      refine lv_sipush (v := 768) hx hb dX8_make_150 (by decide) ?_
      refine lv_aload_n hx hb dX8_make_153 rfl (lv_at hl 0 rfl) ?_
      refine m_geti (C := RX8) (T := TX8) (N := 19) (ci := 5) hx hb hts iwX8 hown hK hV t0 rfl 7 (by decide) rfl rfl (hts _ tw_3_98) (fun _ h9 => h9) dX8_make_154 ?_
      refine lv_imul hx hb dX8_make_157 ?_
      refine lv_bipush (v := 96) hx hb dX8_make_158 (by decide) ?_
      refine lv_iadd hx hb dX8_make_160 ?_
      refine m_puti (C := RX8) (T := TX8) (N := 19) (ci := 5) (ty := .int) hx hb hts iwX8 hown hK hV tyX8 tyX8_ok nmX8 t0 rfl 3 (by decide) rfl rfl (hts _ tw_3_94) (fun _ h9 => h9) rfl (by decide +kernel) rfl rfl dX8_make_161 (fun H locs hV => ?_)
      obtain ⟨I_22, eI_22⟩ : ∃ y, y = ms I_20 x0 3 ((768 * (I_20 x0 7)) + 96) := ⟨_, rfl⟩
      replace hV : Wd D X ad n A s.heap J I_22 L_21 H locs := by rw [eI_22]; exact hV
      replace h := h I_22 eI_22
      refine lv_aload_n hx hb dX8_make_164 rfl (lv_at hl 0 rfl) ?_
      refine lv_iconst (v := 0) hx hb dX8_make_165 (by decide) ?_
      refine m_puti (C := RX8) (T := TX8) (N := 19) (ci := 5) (ty := .int) hx hb hts iwX8 hown hK hV tyX8 tyX8_ok nmX8 t0 rfl 4 (by decide) rfl rfl (hts _ tw_3_95) (fun _ h9 => h9) rfl (by decide +kernel) rfl rfl dX8_make_166 (fun H locs hV => ?_)
      obtain ⟨I_23, eI_23⟩ : ∃ y, y = ms I_22 x0 4 0 := ⟨_, rfl⟩
      replace hV : Wd D X ad n A s.heap J I_23 L_21 H locs := by rw [eI_23]; exact hV
      replace h := h I_23 eI_23
      refine lv_aload_n hx hb dX8_make_169 rfl (lv_at hl 0 rfl) ?_
      refine lv_iconst (v := 0) hx hb dX8_make_170 (by decide) ?_
      refine m_puti (C := RX8) (T := TX8) (N := 19) (ci := 5) (ty := .int) hx hb hts iwX8 hown hK hV tyX8 tyX8_ok nmX8 t0 rfl 5 (by decide) rfl rfl (hts _ tw_3_96) (fun _ h9 => h9) rfl (by decide +kernel) rfl rfl dX8_make_171 (fun H locs hV => ?_)
      obtain ⟨I_24, eI_24⟩ : ∃ y, y = ms I_23 x0 5 0 := ⟨_, rfl⟩
      replace hV : Wd D X ad n A s.heap J I_24 L_21 H locs := by rw [eI_24]; exact hV
      replace h := h I_24 eI_24
      refine lv_aload_n hx hb dX8_make_174 rfl (lv_at hl 0 rfl) ?_
      refine m_geti (C := RX8) (T := TX8) (N := 19) (ci := 5) hx hb hts iwX8 hown hK hV t0 rfl 2 (by decide) rfl rfl (hts _ tw_3_93) (fun _ h9 => h9) dX8_make_175 ?_
      exact m_iret hx hb hr hlk hK hZ hA hV h dX8_make_178
    · replace h := h.2 hc
      refine lv_aload_n hx hb dX8_make_53 rfl (lv_at hl 0 rfl) ?_
      refine lv_iconst (v := 4) hx hb dX8_make_54 (by decide) ?_
      refine lv_iload_n hx hb dX8_make_55 rfl (lv_at hl 1 rfl) ?_
      refine lv_iadd hx hb dX8_make_56 ?_
      refine lv_bipush (v := 12) hx hb dX8_make_57 (by decide) ?_
      refine lv_sipush (v := 5568) hx hb dX8_make_59 (by decide) ?_
      refine lv_sipush (v := 384) hx hb dX8_make_62 (by decide) ?_
      refine lv_iload_n hx hb dX8_make_65 rfl (lv_at hl 1 rfl) ?_
      refine lv_imul hx hb dX8_make_66 ?_
      refine lv_iadd hx hb dX8_make_67 ?_
      refine k_callv (va_runV (As := [.int (4 + x1), .int 12, .int (5568 + (384 * x1))]) (rest := []) ⟨hx, hb, hml, hown, hts⟩ (s_X8_written l D X ad n A J hWT x0 t0 (4 + x1) 12 (5568 + (384 * x1)) I L _ h) (cwV 3 hts (gV tw_4_31 tw_4_33 tw_0_34 tw_1_9 tw_4_34) rfl rfl rfl (by decide +kernel) (by decide)) (k_preV (ci := 5) hK hV hA hZ t0 rfl _) rfl rfl hl.1 rfl (lv_room (Nat.le_of_ble_eq_true rfl)) dX8_make_68 ⟨Nat.zero_le _, Nat.zero_le _⟩) hV (fun I_25 L_26 H locs h hV => ?_)
      obtain ⟨x1_27, ex1_27⟩ : ∃ y : Int32, y = x1 + 1 := ⟨_, rfl⟩
      replace h := h x1_27 ex1_27
      refine lv_iinc (v := x1_27) (lv' := [(1, .int x1_27), (0, .ref (ad x0))]) hx hb dX8_make_71 hl (k := 1) rfl (by rw [ex1_27]; rfl) (by decide) rfl (fun ls hl => ?_)
      refine lv_goto (tgt := 45) hx hb dX8_make_74 (by decide) ?_
      exact ih x1_27 _ _ _ _ _ h hV (lv_sub hl [1, 0] rfl)
set_option maxHeartbeats 4000000 in
set_option maxRecDepth 100000 in
theorem s_X8_make (l : Launch) (D : va_G) (X : XT) (ad : Nat → Nat) (n : Nat) (A : Nat → Prop) (J : MJ) (hWT : WT X n J) (x0 : Nat) (t0 : Ty X n x0 9) (I : MI) (L : ML) (q : Int32 → MI → ML → Prop) (h : wp_X8_make X J x0 I L q) : Met l yX8_make (wz yX8_make cX8_make 2 (some .int)) ({ frames := 9, cells := 0, slots := 0, locals := 213 } : Room) (va_Pc [.ref (ad x0)] (Pr D X ad n A J I L)) (QI D X ad n A J q) 0 0 A := by
  refine Met_go (by decide +kernel) (Nat.le_of_ble_eq_true rfl) (fun p e s m below meth c hx hb hr hml hown hlk hnm hts hK hZ hA hV ls hl => ?_)
  have C0 : Cx p s m meth c cX8_make (some .int) 2 yX8_make [.ref (ad x0)] D X ad n A J := ⟨hx, hb, hr, hml, hown, hlk, hnm, hts, hK, hZ, hA, hWT⟩
  unfold wp_X8_make at h
  have hl : lv_has ls 2 [(0, .ref (ad x0))] := hl
  refine lv_aload_n hx hb dX8_make_0 rfl (lv_at hl 0 rfl) ?_
  refine k_calli (va_runV (As := []) (rest := []) ⟨hx, hb, hml, hown, hts⟩ (s_X8_used l D X ad n A J hWT x0 t0 I L _ h) (cwV 0 hts (gV tw_3_199 tw_3_201 tw_0_17 tw_1_9 tw_3_202) rfl rfl rfl (by decide +kernel) (by decide)) (k_preV (ci := 5) hK hV hA hZ t0 rfl _) rfl rfl hl.1 rfl (lv_room (Nat.le_of_ble_eq_true rfl)) dX8_make_1 ⟨Nat.zero_le _, Nat.zero_le _⟩) hV (fun v_3 I_1 L_2 H locs h hV => ?_)
  refine lv_bipush (v := 64) hx hb dX8_make_4 (by decide) ?_
  refine lv_icmp_eq (tgt := 11) hx hb dX8_make_6 (by decide) (fun hc => ?_) (fun hc => ?_)
  · replace h := h.1 hc
    refine lv_aload_n hx hb dX8_make_11 rfl (lv_at hl 0 rfl) ?_
    refine k_calli (va_runV (As := []) (rest := []) ⟨hx, hb, hml, hown, hts⟩ (s_X8_made l D X ad n A J hWT x0 t0 I_1 L_2 _ h) (cwV 0 hts (gV tw_3_203 tw_3_205 tw_0_18 tw_1_9 tw_3_206) rfl rfl rfl (by decide +kernel) (by decide)) (k_preV (ci := 5) hK hV hA hZ t0 rfl _) rfl rfl hl.1 rfl (lv_room (Nat.le_of_ble_eq_true rfl)) dX8_make_12 ⟨Nat.zero_le _, Nat.zero_le _⟩) hV (fun v_6 I_4 L_5 H locs h hV => ?_)
    refine lv_if_ne (tgt := 21) hx hb dX8_make_15 (by decide) (fun hc => ?_) (fun hc => ?_)
    · replace h := h.1 hc
      refine lv_aload_n hx hb dX8_make_21 rfl (lv_at hl 0 rfl) ?_
      refine lv_sipush (v := 16476) hx hb dX8_make_22 (by decide) ?_
      refine lv_sipush (v := 4000) hx hb dX8_make_25 (by decide) ?_
      refine lv_aload_n hx hb dX8_make_28 rfl (lv_at hl 0 rfl) ?_
      refine k_calli (va_runV (As := []) (rest := [.int 4000, .int 16476, .ref (ad x0)]) ⟨hx, hb, hml, hown, hts⟩ (s_X8_ekBytes l D X ad n A J hWT x0 t0 I_4 L_5 _ h) (cwV 0 hts (gV tw_3_178 tw_3_180 tw_0_15 tw_1_9 tw_3_181) rfl rfl rfl (by decide +kernel) (by decide)) (k_preV (ci := 5) hK hV hA hZ t0 rfl _) rfl rfl hl.1 rfl (lv_room (Nat.le_of_ble_eq_true rfl)) dX8_make_29 ⟨Nat.zero_le _, Nat.zero_le _⟩) hV (fun v_9 I_7 L_8 H locs h hV => ?_)
      refine k_callv (va_runV (As := [.int 16476, .int 4000, .int v_9]) (rest := []) ⟨hx, hb, hml, hown, hts⟩ (s_X8_copy l D X ad n A J hWT x0 t0 16476 4000 v_9 I_7 L_8 _ h) (cwV 3 hts (gV tw_3_166 tw_3_168 tw_0_14 tw_1_9 tw_3_169) rfl rfl rfl (by decide +kernel) (by decide)) (k_preV (ci := 5) hK hV hA hZ t0 rfl _) rfl rfl hl.1 rfl (lv_room (Nat.le_of_ble_eq_true rfl)) dX8_make_32 ⟨Nat.zero_le _, Nat.zero_le _⟩) hV (fun I_10 L_11 H locs h hV => ?_)
      refine lv_aload_n hx hb dX8_make_35 rfl (lv_at hl 0 rfl) ?_
      refine lv_aload_n hx hb dX8_make_36 rfl (lv_at hl 0 rfl) ?_
      refine k_calli (va_runV (As := []) (rest := [.ref (ad x0)]) ⟨hx, hb, hml, hown, hts⟩ (s_X8_ekBytes l D X ad n A J hWT x0 t0 I_10 L_11 _ h) (cwV 0 hts (gV tw_3_178 tw_3_180 tw_0_15 tw_1_9 tw_3_181) rfl rfl rfl (by decide +kernel) (by decide)) (k_preV (ci := 5) hK hV hA hZ t0 rfl _) rfl rfl hl.1 rfl (lv_room (Nat.le_of_ble_eq_true rfl)) dX8_make_37 ⟨Nat.zero_le _, Nat.zero_le _⟩) hV (fun v_14 I_12 L_13 H locs h hV => ?_)
      refine m_puti (C := RX8) (T := TX8) (N := 19) (ci := 5) (ty := .int) hx hb hts iwX8 hown hK hV tyX8 tyX8_ok nmX8 t0 rfl 2 (by decide) rfl rfl (hts _ tw_3_93) (fun _ h9 => h9) rfl (by decide +kernel) rfl rfl dX8_make_40 (fun H locs hV => ?_)
      obtain ⟨I_15, eI_15⟩ : ∃ y, y = ms I_12 x0 2 v_14 := ⟨_, rfl⟩
      replace hV : Wd D X ad n A s.heap J I_15 L_13 H locs := by rw [eI_15]; exact hV
      replace h := h I_15 eI_15
      refine lv_iconst (v := 0) hx hb dX8_make_43 (by decide) ?_
      refine lv_istore_n (lv' := [(1, .int 0), (0, .ref (ad x0))]) hx hb dX8_make_44 rfl hl (by decide) rfl (fun ls hl => ?_)
      obtain ⟨fu0, h⟩ := h
      exact n_X8_make_45 rfl C0 t0   fu0 0 _ _ _ _ _ h hV (lv_sub hl [1, 0] rfl)
    · replace h := h.2 hc
      refine lv_bipush (v := (-2)) hx hb dX8_make_18 (by decide) ?_
      exact m_iret hx hb hr hlk hK hZ hA hV h dX8_make_20
  · replace h := h.2 hc
    refine lv_iconst (v := (-1)) hx hb dX8_make_9 (by decide) ?_
    exact m_iret hx hb hr hlk hK hZ hA hV h dX8_make_10
set_option maxHeartbeats 4000000 in
set_option maxRecDepth 100000 in
theorem n_X8_load_142 {p : Program} {l : Launch} {e : Env} {s : State} {m : MethodId} {below : List Frame} {meth : Method} {c : Code} {D : va_G} {X : XT} {ad : Nat → Nat} {n : Nat} {A : Nat → Prop} {J : MJ} {av : List Value} {R : Room} (hR : R = ({ frames := 7, cells := 0, slots := 0, locals := 162 } : Room)) (C0 : Cx p s m meth c cX8_load (some .int) 4 yX8_load av D X ad n A J) {q : Int32 → MI → ML → Prop}  {x0 : Nat} {x2 : Int32} (t0 : Ty X n x0 9) : ∀ (fu : Nat) (x3 : Int32) (I : MI) (L : ML) (H : Heap) (locs : List Loc) (ls : Array Slot), wl_X8_load_142 X J q  x0 x2 fu x3 I L → Wd D X ad n A s.heap J I L H locs → lv_has ls 4 [(0, .ref (ad x0)), (2, .int x2), (3, .int x3)] → W p l e R s m av.toArray below meth c H locs 0 0 (MQ below (QI D X ad n A J q) av.toArray s 0 0 A) (F0 m 142 ls []) := by
  obtain ⟨hx, hb, hr, hml, hown, hlk, hnm, hts, hK, hZ, hA, hWT⟩ := id C0
  subst hR
  intro fu
  induction fu with
  | zero => intro x3 I L H locs ls h; exact absurd h (fun h => h)
  | succ fu ih =>
    intro x3 I L H locs ls h hV hl
    refine lv_iload_n hx hb dX8_load_142 rfl (lv_at hl 2 rfl) ?_
    refine lv_bipush (v := 32) hx hb dX8_load_143 (by decide) ?_
    refine lv_icmp_ge (tgt := 190) hx hb dX8_load_145 (by decide) (fun hc => ?_) (fun hc => ?_)
    · replace h := h.1 hc
      refine lv_aload_n hx hb dX8_load_190 rfl (lv_at hl 0 rfl) ?_
      refine lv_iconst (v := 0) hx hb dX8_load_191 (by decide) ?_
      refine lv_sipush (v := 5568) hx hb dX8_load_192 (by decide) ?_
      refine lv_iload_n hx hb dX8_load_195 rfl (lv_at hl 1 rfl) ?_
      refine k_callv (va_runV (As := [.int 0, .int 5568, .int x2]) (rest := []) ⟨hx, hb, hml, hown, hts⟩ (s_X8_copy l D X ad n A J hWT x0 t0 0 5568 x2 I L _ h) (cwV 3 hts (gV tw_3_166 tw_3_168 tw_0_14 tw_1_9 tw_3_169) rfl rfl rfl (by decide +kernel) (by decide)) (k_preV (ci := 5) hK hV hA hZ t0 rfl _) rfl rfl hl.1 rfl (lv_room (Nat.le_of_ble_eq_true rfl)) dX8_load_196 ⟨Nat.zero_le _, Nat.zero_le _⟩) hV (fun I_15 L_16 H locs h hV => ?_)
      refine lv_aload_n hx hb dX8_load_199 rfl (lv_at hl 0 rfl) ?_
      refine lv_iload_n hx hb dX8_load_200 rfl (lv_at hl 1 rfl) ?_
      refine m_puti (C := RX8) (T := TX8) (N := 19) (ci := 5) (ty := .int) hx hb hts iwX8 hown hK hV tyX8 tyX8_ok nmX8 t0 rfl 3 (by decide) rfl rfl (hts _ tw_3_94) (fun _ h9 => h9) rfl (by decide +kernel) rfl rfl dX8_load_201 (fun H locs hV => ?_)
      obtain ⟨I_17, eI_17⟩ : ∃ y, y = ms I_15 x0 3 x2 := ⟨_, rfl⟩
      replace hV : Wd D X ad n A s.heap J I_17 L_16 H locs := by rw [eI_17]; exact hV
      replace h := h I_17 eI_17
      refine lv_goto (tgt := 221) hx hb dX8_load_204 (by decide) ?_
      refine lv_iload_n hx hb dX8_load_221 rfl (lv_at hl 1 rfl) ?_
      exact m_iret hx hb hr hlk hK hZ hA hV h dX8_load_222
    · replace h := h.2 hc
      refine lv_aload_n hx hb dX8_load_148 rfl (lv_at hl 0 rfl) ?_
      obtain ⟨r_18, hr_18, h⟩ := h
      have tr_18 : Ty X n r_18 1 := hWT.r (c := 5) (j := 0) t0 rfl hr_18
      refine m_getr (C := RX8) (T := TX8) (N := 19) (ci := 5) hx hb hts iwX8 hown hK hV t0 rfl 0 (by decide) rfl rfl hr_18 (hts _ tw_3_91) (fun _ h9 => h9) dX8_load_149 ?_
      refine lv_sipush (v := 15436) hx hb dX8_load_152 (by decide) ?_
      refine lv_iload_n hx hb dX8_load_155 rfl (lv_at hl 2 rfl) ?_
      refine lv_iadd hx hb dX8_load_156 ?_
      obtain ⟨hi_19, h⟩ := h
      refine m_bald hx hb hK hV tr_18 hi_19 dX8_load_157 ?_
      refine lv_aload_n hx hb dX8_load_158 rfl (lv_at hl 0 rfl) ?_
      refine m_getr (C := RX8) (T := TX8) (N := 19) (ci := 5) hx hb hts iwX8 hown hK hV t0 rfl 0 (by decide) rfl rfl hr_18 (hts _ tw_3_91) (fun _ h9 => h9) dX8_load_159 ?_
      refine lv_iconst (v := 0) hx hb dX8_load_162 (by decide) ?_
      refine lv_sipush (v := 768) hx hb dX8_load_163 (by decide) ?_
      refine lv_aload_n hx hb dX8_load_166 rfl (lv_at hl 0 rfl) ?_
      refine m_geti (C := RX8) (T := TX8) (N := 19) (ci := 5) hx hb hts iwX8 hown hK hV t0 rfl 7 (by decide) rfl rfl (hts _ tw_3_98) (fun _ h9 => h9) dX8_load_167 ?_
      refine lv_imul hx hb dX8_load_170 ?_
      refine lv_iadd hx hb dX8_load_171 ?_
      refine lv_bipush (v := 32) hx hb dX8_load_172 (by decide) ?_
      refine lv_iadd hx hb dX8_load_174 ?_
      refine lv_iload_n hx hb dX8_load_175 rfl (lv_at hl 2 rfl) ?_
      refine lv_iadd hx hb dX8_load_176 ?_
      obtain ⟨hi_20, h⟩ := h
      refine m_bald hx hb hK hV tr_18 hi_20 dX8_load_177 ?_
      refine lv_icmp_eq (tgt := 184) hx hb dX8_load_178 (by decide) (fun hc => ?_) (fun hc => ?_)
      · replace h := h.1 hc
        obtain ⟨x3_21, ex3_21⟩ : ∃ y : Int32, y = x3 + 1 := ⟨_, rfl⟩
        replace h := h x3_21 ex3_21
        refine lv_iinc (v := x3_21) (lv' := [(3, .int x3_21), (0, .ref (ad x0)), (2, .int x2)]) hx hb dX8_load_184 hl (k := 2) rfl (by rw [ex3_21]; rfl) (by decide) rfl (fun ls hl => ?_)
        refine lv_goto (tgt := 142) hx hb dX8_load_187 (by decide) ?_
        exact ih x3_21 _ _ _ _ _ h hV (lv_sub hl [1, 2, 0] rfl)
      · replace h := h.2 hc
        refine lv_bipush (v := (-3)) hx hb dX8_load_181 (by decide) ?_
        exact m_iret hx hb hr hlk hK hZ hA hV h dX8_load_183
set_option maxHeartbeats 4000000 in
set_option maxRecDepth 100000 in
theorem n_X8_load_62 {p : Program} {l : Launch} {e : Env} {s : State} {m : MethodId} {below : List Frame} {meth : Method} {c : Code} {D : va_G} {X : XT} {ad : Nat → Nat} {n : Nat} {A : Nat → Prop} {J : MJ} {av : List Value} {R : Room} (hR : R = ({ frames := 7, cells := 0, slots := 0, locals := 162 } : Room)) (C0 : Cx p s m meth c cX8_load (some .int) 4 yX8_load av D X ad n A J) {q : Int32 → MI → ML → Prop}  {x0 : Nat} {x2 : Int32} (t0 : Ty X n x0 9) : ∀ (fu : Nat) (x3 : Int32) (I : MI) (L : ML) (H : Heap) (locs : List Loc) (ls : Array Slot), wl_X8_load_62 X J q  x0 x2 fu x3 I L → Wd D X ad n A s.heap J I L H locs → lv_has ls 4 [(0, .ref (ad x0)), (2, .int x2), (3, .int x3)] → W p l e R s m av.toArray below meth c H locs 0 0 (MQ below (QI D X ad n A J q) av.toArray s 0 0 A) (F0 m 62 ls []) := by
  obtain ⟨hx, hb, hr, hml, hown, hlk, hnm, hts, hK, hZ, hA, hWT⟩ := id C0
  subst hR
  intro fu
  induction fu with
  | zero => intro x3 I L H locs ls h; exact absurd h (fun h => h)
  | succ fu ih =>
    intro x3 I L H locs ls h hV hl
    refine lv_iload_n hx hb dX8_load_62 rfl (lv_at hl 2 rfl) ?_
    refine lv_sipush (v := 256) hx hb dX8_load_63 (by decide) ?_
    refine lv_aload_n hx hb dX8_load_66 rfl (lv_at hl 0 rfl) ?_
    refine m_geti (C := RX8) (T := TX8) (N := 19) (ci := 5) hx hb hts iwX8 hown hK hV t0 rfl 7 (by decide) rfl rfl (hts _ tw_3_98) (fun _ h9 => h9) dX8_load_67 ?_
    refine lv_imul hx hb dX8_load_70 ?_
    refine lv_icmp_ge (tgt := 97) hx hb dX8_load_71 (by decide) (fun hc => ?_) (fun hc => ?_)
    · replace h := h.1 hc
      refine lv_aload_n hx hb dX8_load_97 rfl (lv_at hl 0 rfl) ?_
      refine lv_iconst (v := 0) hx hb dX8_load_98 (by decide) ?_
      refine lv_sipush (v := 4000) hx hb dX8_load_99 (by decide) ?_
      refine lv_iload_n hx hb dX8_load_102 rfl (lv_at hl 1 rfl) ?_
      refine k_callv (va_runV (As := [.int 0, .int 4000, .int x2]) (rest := []) ⟨hx, hb, hml, hown, hts⟩ (s_X8_copy l D X ad n A J hWT x0 t0 0 4000 x2 I L _ h) (cwV 3 hts (gV tw_3_166 tw_3_168 tw_0_14 tw_1_9 tw_3_169) rfl rfl rfl (by decide +kernel) (by decide)) (k_preV (ci := 5) hK hV hA hZ t0 rfl _) rfl rfl hl.1 rfl (lv_room (Nat.le_of_ble_eq_true rfl)) dX8_load_103 ⟨Nat.zero_le _, Nat.zero_le _⟩) hV (fun I_22 L_23 H locs h hV => ?_)
      refine lv_aload_n hx hb dX8_load_106 rfl (lv_at hl 0 rfl) ?_
      refine lv_iload_n hx hb dX8_load_107 rfl (lv_at hl 1 rfl) ?_
      refine m_puti (C := RX8) (T := TX8) (N := 19) (ci := 5) (ty := .int) hx hb hts iwX8 hown hK hV tyX8 tyX8_ok nmX8 t0 rfl 2 (by decide) rfl rfl (hts _ tw_3_93) (fun _ h9 => h9) rfl (by decide +kernel) rfl rfl dX8_load_108 (fun H locs hV => ?_)
      obtain ⟨I_24, eI_24⟩ : ∃ y, y = ms I_22 x0 2 x2 := ⟨_, rfl⟩
      replace hV : Wd D X ad n A s.heap J I_24 L_23 H locs := by rw [eI_24]; exact hV
      replace h := h I_24 eI_24
      refine lv_goto (tgt := 221) hx hb dX8_load_111 (by decide) ?_
      refine lv_iload_n hx hb dX8_load_221 rfl (lv_at hl 1 rfl) ?_
      exact m_iret hx hb hr hlk hK hZ hA hV h dX8_load_222
    · replace h := h.2 hc
      refine lv_aload_n hx hb dX8_load_74 rfl (lv_at hl 0 rfl) ?_
      refine lv_iconst (v := 0) hx hb dX8_load_75 (by decide) ?_
      refine lv_iload_n hx hb dX8_load_76 rfl (lv_at hl 2 rfl) ?_
      refine lv_bipush (v := 12) hx hb dX8_load_77 (by decide) ?_
      refine k_calli (va_runV (As := [.int 0, .int x3, .int 12]) (rest := []) ⟨hx, hb, hml, hown, hts⟩ (s_X8_group l D X ad n A J hWT x0 t0 0 x3 12 I L _ h) (cwV 3 hts (gV tw_4_55 tw_4_57 tw_0_39 tw_1_9 tw_4_58) rfl rfl rfl (by decide +kernel) (by decide)) (k_preV (ci := 5) hK hV hA hZ t0 rfl _) rfl rfl hl.1 rfl (lv_room (Nat.le_of_ble_eq_true rfl)) dX8_load_79 ⟨Nat.zero_le _, Nat.zero_le _⟩) hV (fun v_27 I_25 L_26 H locs h hV => ?_)
      refine lv_sipush (v := 3329) hx hb dX8_load_82 (by decide) ?_
      refine lv_icmp_lt (tgt := 91) hx hb dX8_load_85 (by decide) (fun hc => ?_) (fun hc => ?_)
      · replace h := h.1 hc
        obtain ⟨x3_28, ex3_28⟩ : ∃ y : Int32, y = x3 + 1 := ⟨_, rfl⟩
        replace h := h x3_28 ex3_28
        refine lv_iinc (v := x3_28) (lv' := [(3, .int x3_28), (0, .ref (ad x0)), (2, .int x2)]) hx hb dX8_load_91 hl (k := 2) rfl (by rw [ex3_28]; rfl) (by decide) rfl (fun ls hl => ?_)
        refine lv_goto (tgt := 62) hx hb dX8_load_94 (by decide) ?_
        exact ih x3_28 _ _ _ _ _ h hV (lv_sub hl [1, 2, 0] rfl)
      · replace h := h.2 hc
        refine lv_bipush (v := (-2)) hx hb dX8_load_88 (by decide) ?_
        exact m_iret hx hb hr hlk hK hZ hA hV h dX8_load_90
set_option maxHeartbeats 4000000 in
set_option maxRecDepth 100000 in
theorem n_X8_load_51 {p : Program} {l : Launch} {e : Env} {s : State} {m : MethodId} {below : List Frame} {meth : Method} {c : Code} {D : va_G} {X : XT} {ad : Nat → Nat} {n : Nat} {A : Nat → Prop} {J : MJ} {av : List Value} {R : Room} (hR : R = ({ frames := 7, cells := 0, slots := 0, locals := 162 } : Room)) (C0 : Cx p s m meth c cX8_load (some .int) 4 yX8_load av D X ad n A J) {q : Int32 → MI → ML → Prop}  {x0 : Nat} {x1 : Int32} {x2 : Int32} {z0 : Int32} {z1 : Int32} {I : MI} {L : ML} {H : Heap} {locs : List Loc} {ls : Array Slot} (t0 : Ty X n x0 9) (h : wj_X8_load_51 X J q  x0 x1 x2 z0 z1 I L) (hV : Wd D X ad n A s.heap J I L H locs) (hl : lv_has ls 4 [(0, .ref (ad x0)), (1, .int x1), (2, .int x2)]) : W p l e R s m av.toArray below meth c H locs 0 0 (MQ below (QI D X ad n A J q) av.toArray s 0 0 A) (F0 m 51 ls [.int z1, .int z0]) := by
  obtain ⟨hx, hb, hr, hml, hown, hlk, hnm, hts, hK, hZ, hA, hWT⟩ := id C0
  subst hR
  unfold wj_X8_load_51 at h
  refine lv_icmp_eq (tgt := 56) hx hb dX8_load_51 (by decide) (fun hc => ?_) (fun hc => ?_)
  · replace h := h.1 hc
    refine lv_iload_n hx hb dX8_load_56 rfl (lv_at hl 1 rfl) ?_
    refine lv_if_ne (tgt := 114) hx hb dX8_load_57 (by decide) (fun hc => ?_) (fun hc => ?_)
    · replace h := h.1 hc
      refine lv_iload_n hx hb dX8_load_114 rfl (lv_at hl 1 rfl) ?_
      refine lv_iconst (v := 1) hx hb dX8_load_115 (by decide) ?_
      refine lv_icmp_ne (tgt := 207) hx hb dX8_load_116 (by decide) (fun hc => ?_) (fun hc => ?_)
      · replace h := h.1 hc
        refine lv_aload_n hx hb dX8_load_207 rfl (lv_at hl 0 rfl) ?_
        refine lv_iconst (v := 0) hx hb dX8_load_208 (by decide) ?_
        refine lv_sipush (v := 8736) hx hb dX8_load_209 (by decide) ?_
        refine lv_iload_n hx hb dX8_load_212 rfl (lv_at hl 2 rfl) ?_
        refine k_callv (va_runV (As := [.int 0, .int 8736, .int x2]) (rest := []) ⟨hx, hb, hml, hown, hts⟩ (s_X8_copy l D X ad n A J hWT x0 t0 0 8736 x2 I L _ h) (cwV 3 hts (gV tw_3_166 tw_3_168 tw_0_14 tw_1_9 tw_3_169) rfl rfl rfl (by decide +kernel) (by decide)) (k_preV (ci := 5) hK hV hA hZ t0 rfl _) rfl rfl hl.1 rfl (lv_room (Nat.le_of_ble_eq_true rfl)) dX8_load_213 ⟨Nat.zero_le _, Nat.zero_le _⟩) hV (fun I_7 L_8 H locs h hV => ?_)
        refine lv_aload_n hx hb dX8_load_216 rfl (lv_at hl 0 rfl) ?_
        refine lv_iload_n hx hb dX8_load_217 rfl (lv_at hl 2 rfl) ?_
        refine m_puti (C := RX8) (T := TX8) (N := 19) (ci := 5) (ty := .int) hx hb hts iwX8 hown hK hV tyX8 tyX8_ok nmX8 t0 rfl 4 (by decide) rfl rfl (hts _ tw_3_95) (fun _ h9 => h9) rfl (by decide +kernel) rfl rfl dX8_load_218 (fun H locs hV => ?_)
        obtain ⟨I_9, eI_9⟩ : ∃ y, y = ms I_7 x0 4 x2 := ⟨_, rfl⟩
        replace hV : Wd D X ad n A s.heap J I_9 L_8 H locs := by rw [eI_9]; exact hV
        replace h := h I_9 eI_9
        refine lv_iload_n hx hb dX8_load_221 rfl (lv_at hl 2 rfl) ?_
        exact m_iret hx hb hr hlk hK hZ hA hV h dX8_load_222
      · replace h := h.2 hc
        refine lv_aload_n hx hb dX8_load_119 rfl (lv_at hl 0 rfl) ?_
        refine lv_iconst (v := 0) hx hb dX8_load_120 (by decide) ?_
        refine lv_sipush (v := 384) hx hb dX8_load_121 (by decide) ?_
        refine lv_aload_n hx hb dX8_load_124 rfl (lv_at hl 0 rfl) ?_
        refine m_geti (C := RX8) (T := TX8) (N := 19) (ci := 5) hx hb hts iwX8 hown hK hV t0 rfl 7 (by decide) rfl rfl (hts _ tw_3_98) (fun _ h9 => h9) dX8_load_125 ?_
        refine lv_imul hx hb dX8_load_128 ?_
        refine lv_iadd hx hb dX8_load_129 ?_
        refine lv_aload_n hx hb dX8_load_130 rfl (lv_at hl 0 rfl) ?_
        refine k_calli (va_runV (As := []) (rest := [.int (0 + (384 * (I x0 7))), .ref (ad x0)]) ⟨hx, hb, hml, hown, hts⟩ (s_X8_ekBytes l D X ad n A J hWT x0 t0 I L _ h) (cwV 0 hts (gV tw_3_178 tw_3_180 tw_0_15 tw_1_9 tw_3_181) rfl rfl rfl (by decide +kernel) (by decide)) (k_preV (ci := 5) hK hV hA hZ t0 rfl _) rfl rfl hl.1 rfl (lv_room (Nat.le_of_ble_eq_true rfl)) dX8_load_131 ⟨Nat.zero_le _, Nat.zero_le _⟩) hV (fun v_12 I_10 L_11 H locs h hV => ?_)
        refine lv_sipush (v := 15436) hx hb dX8_load_134 (by decide) ?_
        refine k_callv (va_runV (As := [.int (0 + (384 * (I x0 7))), .int v_12, .int 15436]) (rest := []) ⟨hx, hb, hml, hown, hts⟩ (s_X8_h l D X ad n A J hWT x0 t0 (0 + (384 * (I x0 7))) v_12 15436 I_10 L_11 _ h) (cwV 3 hts (gV tw_4_35 tw_4_37 tw_0_35 tw_1_9 tw_4_38) rfl rfl rfl (by decide +kernel) (by decide)) (k_preV (ci := 5) hK hV hA hZ t0 rfl _) rfl rfl hl.1 rfl (lv_room (Nat.le_of_ble_eq_true rfl)) dX8_load_137 ⟨Nat.zero_le _, Nat.zero_le _⟩) hV (fun I_13 L_14 H locs h hV => ?_)
        refine lv_iconst (v := 0) hx hb dX8_load_140 (by decide) ?_
        refine lv_istore_n (lv' := [(3, .int 0), (0, .ref (ad x0)), (1, .int x1), (2, .int x2)]) hx hb dX8_load_141 rfl hl (by decide) rfl (fun ls hl => ?_)
        obtain ⟨fu0, h⟩ := h
        exact n_X8_load_142 rfl C0 t0   fu0 0 _ _ _ _ _ h hV (lv_sub hl [1, 3, 0] rfl)
    · replace h := h.2 hc
      refine lv_iconst (v := 0) hx hb dX8_load_60 (by decide) ?_
      refine lv_istore_n (lv' := [(3, .int 0), (0, .ref (ad x0)), (1, .int x1), (2, .int x2)]) hx hb dX8_load_61 rfl hl (by decide) rfl (fun ls hl => ?_)
      obtain ⟨fu0, h⟩ := h
      exact n_X8_load_62 rfl C0 t0   fu0 0 _ _ _ _ _ h hV (lv_sub hl [1, 3, 0] rfl)
  · replace h := h.2 hc
    refine lv_iconst (v := (-1)) hx hb dX8_load_54 (by decide) ?_
    exact m_iret hx hb hr hlk hK hZ hA hV h dX8_load_55
set_option maxHeartbeats 4000000 in
set_option maxRecDepth 100000 in
theorem s_X8_load (l : Launch) (D : va_G) (X : XT) (ad : Nat → Nat) (n : Nat) (A : Nat → Prop) (J : MJ) (hWT : WT X n J) (x0 : Nat) (t0 : Ty X n x0 9) (x1 : Int32) (I : MI) (L : ML) (q : Int32 → MI → ML → Prop) (h : wp_X8_load X J x0 x1 I L q) : Met l yX8_load (wz yX8_load cX8_load 4 (some .int)) ({ frames := 7, cells := 0, slots := 0, locals := 162 } : Room) (va_Pc [.ref (ad x0), .int x1] (Pr D X ad n A J I L)) (QI D X ad n A J q) 0 0 A := by
  refine Met_go (by decide +kernel) (Nat.le_of_ble_eq_true rfl) (fun p e s m below meth c hx hb hr hml hown hlk hnm hts hK hZ hA hV ls hl => ?_)
  have C0 : Cx p s m meth c cX8_load (some .int) 4 yX8_load [.ref (ad x0), .int x1] D X ad n A J := ⟨hx, hb, hr, hml, hown, hlk, hnm, hts, hK, hZ, hA, hWT⟩
  unfold wp_X8_load at h
  have hl : lv_has ls 4 [(0, .ref (ad x0)), (1, .int x1)] := hl
  refine lv_iload_n hx hb dX8_load_0 rfl (lv_at hl 1 rfl) ?_
  refine lv_if_lt (tgt := 9) hx hb dX8_load_1 (by decide) (fun hc => ?_) (fun hc => ?_)
  · replace h := h.1 hc
    refine lv_iconst (v := (-1)) hx hb dX8_load_9 (by decide) ?_
    exact m_iret hx hb hr hlk hK hZ hA hV h dX8_load_10
  · replace h := h.2 hc
    refine lv_iload_n hx hb dX8_load_4 rfl (lv_at hl 1 rfl) ?_
    refine lv_iconst (v := 2) hx hb dX8_load_5 (by decide) ?_
    refine lv_icmp_le (tgt := 11) hx hb dX8_load_6 (by decide) (fun hc => ?_) (fun hc => ?_)
    · replace h := h.1 hc
      refine lv_aload_n hx hb dX8_load_11 rfl (lv_at hl 0 rfl) ?_
      refine k_calli (va_runV (As := []) (rest := []) ⟨hx, hb, hml, hown, hts⟩ (s_X8_used l D X ad n A J hWT x0 t0 I L _ h) (cwV 0 hts (gV tw_3_199 tw_3_201 tw_0_17 tw_1_9 tw_3_202) rfl rfl rfl (by decide +kernel) (by decide)) (k_preV (ci := 5) hK hV hA hZ t0 rfl _) rfl rfl hl.1 rfl (lv_room (Nat.le_of_ble_eq_true rfl)) dX8_load_12 ⟨Nat.zero_le _, Nat.zero_le _⟩) hV (fun v_3 I_1 L_2 H locs h hV => ?_)
      refine lv_istore_n (lv' := [(2, .int v_3), (0, .ref (ad x0)), (1, .int x1)]) hx hb dX8_load_15 rfl hl (by decide) rfl (fun ls hl => ?_)
      refine lv_iload_n hx hb dX8_load_16 rfl (lv_at hl 0 rfl) ?_
      refine lv_iload_n hx hb dX8_load_17 rfl (lv_at hl 2 rfl) ?_
      refine lv_if_ne (tgt := 28) hx hb dX8_load_18 (by decide) (fun hc => ?_) (fun hc => ?_)
      · replace h := h.1 hc
        refine lv_iload_n hx hb dX8_load_28 rfl (lv_at hl 2 rfl) ?_
        refine lv_iconst (v := 1) hx hb dX8_load_29 (by decide) ?_
        refine lv_icmp_ne (tgt := 47) hx hb dX8_load_30 (by decide) (fun hc => ?_) (fun hc => ?_)
        · replace h := h.1 hc
          refine lv_aload_n hx hb dX8_load_47 rfl (lv_at hl 1 rfl) ?_
          refine k_calli (va_runV (As := []) (rest := [.int v_3]) ⟨hx, hb, hml, hown, hts⟩ (s_X8_textBytes l D X ad n A J hWT x0 t0 I_1 L_2 _ h) (cwV 0 hts (gV tw_4_43 tw_4_45 tw_0_36 tw_1_9 tw_4_46) rfl rfl rfl (by decide +kernel) (by decide)) (k_preV (ci := 5) hK hV hA hZ t0 rfl _) rfl rfl hl.1 rfl (lv_room (Nat.le_of_ble_eq_true rfl)) dX8_load_48 ⟨Nat.zero_le _, Nat.zero_le _⟩) hV (fun v_6 I_4 L_5 H locs h hV => ?_)
          exact n_X8_load_51 rfl C0 t0   h hV (lv_sub hl [1, 2, 0] rfl)
        · replace h := h.2 hc
          refine lv_sipush (v := 768) hx hb dX8_load_33 (by decide) ?_
          refine lv_aload_n hx hb dX8_load_36 rfl (lv_at hl 1 rfl) ?_
          refine m_geti (C := RX8) (T := TX8) (N := 19) (ci := 5) hx hb hts iwX8 hown hK hV t0 rfl 7 (by decide) rfl rfl (hts _ tw_3_98) (fun _ h9 => h9) dX8_load_37 ?_
          refine lv_imul hx hb dX8_load_40 ?_
          refine lv_bipush (v := 96) hx hb dX8_load_41 (by decide) ?_
          refine lv_iadd hx hb dX8_load_43 ?_
          refine lv_goto (tgt := 51) hx hb dX8_load_44 (by decide) ?_
          exact n_X8_load_51 rfl C0 t0   h hV (lv_sub hl [1, 2, 0] rfl)
      · replace h := h.2 hc
        refine lv_aload_n hx hb dX8_load_21 rfl (lv_at hl 1 rfl) ?_
        refine k_calli (va_runV (As := []) (rest := [.int v_3]) ⟨hx, hb, hml, hown, hts⟩ (s_X8_ekBytes l D X ad n A J hWT x0 t0 I_1 L_2 _ h) (cwV 0 hts (gV tw_3_178 tw_3_180 tw_0_15 tw_1_9 tw_3_181) rfl rfl rfl (by decide +kernel) (by decide)) (k_preV (ci := 5) hK hV hA hZ t0 rfl _) rfl rfl hl.1 rfl (lv_room (Nat.le_of_ble_eq_true rfl)) dX8_load_22 ⟨Nat.zero_le _, Nat.zero_le _⟩) hV (fun v_31 I_29 L_30 H locs h hV => ?_)
        refine lv_goto (tgt := 51) hx hb dX8_load_25 (by decide) ?_
        exact n_X8_load_51 rfl C0 t0   h hV (lv_sub hl [1, 2, 0] rfl)
    · replace h := h.2 hc
      refine lv_iconst (v := (-1)) hx hb dX8_load_9 (by decide) ?_
      exact m_iret hx hb hr hlk hK hZ hA hV h dX8_load_10
set_option maxHeartbeats 4000000 in
set_option maxRecDepth 100000 in
theorem s_X8_wrap (l : Launch) (D : va_G) (X : XT) (ad : Nat → Nat) (n : Nat) (A : Nat → Prop) (J : MJ) (hWT : WT X n J) (x0 : Nat) (t0 : Ty X n x0 9) (I : MI) (L : ML) (q : Int32 → MI → ML → Prop) (h : wp_X8_wrap X J x0 I L q) : Met l yX8_wrap (wz yX8_wrap cX8_wrap 1 (some .int)) ({ frames := 9, cells := 0, slots := 0, locals := 214 } : Room) (va_Pc [.ref (ad x0)] (Pr D X ad n A J I L)) (QI D X ad n A J q) 0 0 A := by
  refine Met_go (by decide +kernel) (Nat.le_of_ble_eq_true rfl) (fun p e s m below meth c hx hb hr hml hown hlk hnm hts hK hZ hA hV ls hl => ?_)
  have C0 : Cx p s m meth c cX8_wrap (some .int) 1 yX8_wrap [.ref (ad x0)] D X ad n A J := ⟨hx, hb, hr, hml, hown, hlk, hnm, hts, hK, hZ, hA, hWT⟩
  unfold wp_X8_wrap at h
  have hl : lv_has ls 1 [(0, .ref (ad x0))] := hl
  refine lv_aload_n hx hb dX8_wrap_0 rfl (lv_at hl 0 rfl) ?_
  refine k_calli (va_runV (As := []) (rest := []) ⟨hx, hb, hml, hown, hts⟩ (s_X8_used l D X ad n A J hWT x0 t0 I L _ h) (cwV 0 hts (gV tw_3_199 tw_3_201 tw_0_17 tw_1_9 tw_3_202) rfl rfl rfl (by decide +kernel) (by decide)) (k_preV (ci := 5) hK hV hA hZ t0 rfl _) rfl rfl hl.1 rfl (lv_room (Nat.le_of_ble_eq_true rfl)) dX8_wrap_1 ⟨Nat.zero_le _, Nat.zero_le _⟩) hV (fun v_3 I_1 L_2 H locs h hV => ?_)
  refine lv_bipush (v := 32) hx hb dX8_wrap_4 (by decide) ?_
  refine lv_icmp_ne (tgt := 16) hx hb dX8_wrap_6 (by decide) (fun hc => ?_) (fun hc => ?_)
  · replace h := h.1 hc
    refine lv_iconst (v := (-1)) hx hb dX8_wrap_16 (by decide) ?_
    exact m_iret hx hb hr hlk hK hZ hA hV h dX8_wrap_17
  · replace h := h.2 hc
    refine lv_aload_n hx hb dX8_wrap_9 rfl (lv_at hl 0 rfl) ?_
    refine m_geti (C := RX8) (T := TX8) (N := 19) (ci := 5) hx hb hts iwX8 hown hK hV t0 rfl 2 (by decide) rfl rfl (hts _ tw_3_93) (fun _ h9 => h9) dX8_wrap_10 ?_
    refine lv_if_ne (tgt := 18) hx hb dX8_wrap_13 (by decide) (fun hc => ?_) (fun hc => ?_)
    · replace h := h.1 hc
      refine lv_aload_n hx hb dX8_wrap_18 rfl (lv_at hl 0 rfl) ?_
      refine lv_iconst (v := 0) hx hb dX8_wrap_19 (by decide) ?_
      refine lv_sipush (v := 19740) hx hb dX8_wrap_20 (by decide) ?_
      refine lv_bipush (v := 32) hx hb dX8_wrap_23 (by decide) ?_
      refine k_callv (va_runV (As := [.int 0, .int 19740, .int 32]) (rest := []) ⟨hx, hb, hml, hown, hts⟩ (s_X8_copy l D X ad n A J hWT x0 t0 0 19740 32 I_1 L_2 _ h) (cwV 3 hts (gV tw_3_166 tw_3_168 tw_0_14 tw_1_9 tw_3_169) rfl rfl rfl (by decide +kernel) (by decide)) (k_preV (ci := 5) hK hV hA hZ t0 rfl _) rfl rfl hl.1 rfl (lv_room (Nat.le_of_ble_eq_true rfl)) dX8_wrap_25 ⟨Nat.zero_le _, Nat.zero_le _⟩) hV (fun I_4 L_5 H locs h hV => ?_)
      refine lv_aload_n hx hb dX8_wrap_28 rfl (lv_at hl 0 rfl) ?_
      refine lv_sipush (v := 4000) hx hb dX8_wrap_29 (by decide) ?_
      refine lv_aload_n hx hb dX8_wrap_32 rfl (lv_at hl 0 rfl) ?_
      refine m_geti (C := RX8) (T := TX8) (N := 19) (ci := 5) hx hb hts iwX8 hown hK hV t0 rfl 2 (by decide) rfl rfl (hts _ tw_3_93) (fun _ h9 => h9) dX8_wrap_33 ?_
      refine lv_sipush (v := 11400) hx hb dX8_wrap_36 (by decide) ?_
      refine k_callv (va_runV (As := [.int 4000, .int (I_4 x0 2), .int 11400]) (rest := []) ⟨hx, hb, hml, hown, hts⟩ (s_X8_h l D X ad n A J hWT x0 t0 4000 (I_4 x0 2) 11400 I_4 L_5 _ h) (cwV 3 hts (gV tw_4_35 tw_4_37 tw_0_35 tw_1_9 tw_4_38) rfl rfl rfl (by decide +kernel) (by decide)) (k_preV (ci := 5) hK hV hA hZ t0 rfl _) rfl rfl hl.1 rfl (lv_room (Nat.le_of_ble_eq_true rfl)) dX8_wrap_39 ⟨Nat.zero_le _, Nat.zero_le _⟩) hV (fun I_6 L_7 H locs h hV => ?_)
      refine lv_aload_n hx hb dX8_wrap_42 rfl (lv_at hl 0 rfl) ?_
      refine lv_sipush (v := 19740) hx hb dX8_wrap_43 (by decide) ?_
      refine lv_sipush (v := 11336) hx hb dX8_wrap_46 (by decide) ?_
      refine lv_bipush (v := 32) hx hb dX8_wrap_49 (by decide) ?_
      refine k_callv (va_runV (As := [.int 19740, .int 11336, .int 32]) (rest := []) ⟨hx, hb, hml, hown, hts⟩ (s_X8_copy l D X ad n A J hWT x0 t0 19740 11336 32 I_6 L_7 _ h) (cwV 3 hts (gV tw_3_166 tw_3_168 tw_0_14 tw_1_9 tw_3_169) rfl rfl rfl (by decide +kernel) (by decide)) (k_preV (ci := 5) hK hV hA hZ t0 rfl _) rfl rfl hl.1 rfl (lv_room (Nat.le_of_ble_eq_true rfl)) dX8_wrap_51 ⟨Nat.zero_le _, Nat.zero_le _⟩) hV (fun I_8 L_9 H locs h hV => ?_)
      refine lv_aload_n hx hb dX8_wrap_54 rfl (lv_at hl 0 rfl) ?_
      refine lv_sipush (v := 11400) hx hb dX8_wrap_55 (by decide) ?_
      refine lv_sipush (v := 11368) hx hb dX8_wrap_58 (by decide) ?_
      refine lv_bipush (v := 32) hx hb dX8_wrap_61 (by decide) ?_
      refine k_callv (va_runV (As := [.int 11400, .int 11368, .int 32]) (rest := []) ⟨hx, hb, hml, hown, hts⟩ (s_X8_copy l D X ad n A J hWT x0 t0 11400 11368 32 I_8 L_9 _ h) (cwV 3 hts (gV tw_3_166 tw_3_168 tw_0_14 tw_1_9 tw_3_169) rfl rfl rfl (by decide +kernel) (by decide)) (k_preV (ci := 5) hK hV hA hZ t0 rfl _) rfl rfl hl.1 rfl (lv_room (Nat.le_of_ble_eq_true rfl)) dX8_wrap_63 ⟨Nat.zero_le _, Nat.zero_le _⟩) hV (fun I_10 L_11 H locs h hV => ?_)
      refine lv_aload_n hx hb dX8_wrap_66 rfl (lv_at hl 0 rfl) ?_
      refine lv_bipush (v := 64) hx hb dX8_wrap_67 (by decide) ?_
      refine k_callv (va_runV (As := [.int 64]) (rest := []) ⟨hx, hb, hml, hown, hts⟩ (s_X8_g l D X ad n A J hWT x0 t0 64 I_10 L_11 _ h) (cwV 1 hts (gV tw_3_207 tw_3_209 tw_0_19 tw_1_9 tw_3_210) rfl rfl rfl (by decide +kernel) (by decide)) (k_preV (ci := 5) hK hV hA hZ t0 rfl _) rfl rfl hl.1 rfl (lv_room (Nat.le_of_ble_eq_true rfl)) dX8_wrap_69 ⟨Nat.zero_le _, Nat.zero_le _⟩) hV (fun I_12 L_13 H locs h hV => ?_)
      refine lv_aload_n hx hb dX8_wrap_72 rfl (lv_at hl 0 rfl) ?_
      refine lv_sipush (v := 4000) hx hb dX8_wrap_73 (by decide) ?_
      refine k_calli (va_runV (As := [.int 4000]) (rest := []) ⟨hx, hb, hml, hown, hts⟩ (s_X8_locks l D X ad n A J hWT x0 t0 4000 I_12 L_13 _ h) (cwV 1 hts (gV tw_4_63 tw_4_65 tw_0_40 tw_1_9 tw_4_66) rfl rfl rfl (by decide +kernel) (by decide)) (k_preV (ci := 5) hK hV hA hZ t0 rfl _) rfl rfl hl.1 rfl (lv_room (Nat.le_of_ble_eq_true rfl)) dX8_wrap_76 ⟨Nat.zero_le _, Nat.zero_le _⟩) hV (fun v_16 I_14 L_15 H locs h hV => ?_)
      refine lv_if_ne (tgt := 85) hx hb dX8_wrap_79 (by decide) (fun hc => ?_) (fun hc => ?_)
      · replace h := h.1 hc
        refine lv_aload_n hx hb dX8_wrap_85 rfl (lv_at hl 0 rfl) ?_
        refine lv_sipush (v := 18044) hx hb dX8_wrap_86 (by decide) ?_
        refine lv_sipush (v := 8736) hx hb dX8_wrap_89 (by decide) ?_
        refine lv_aload_n hx hb dX8_wrap_92 rfl (lv_at hl 0 rfl) ?_
        refine k_calli (va_runV (As := []) (rest := [.int 8736, .int 18044, .ref (ad x0)]) ⟨hx, hb, hml, hown, hts⟩ (s_X8_textBytes l D X ad n A J hWT x0 t0 I_14 L_15 _ h) (cwV 0 hts (gV tw_4_43 tw_4_45 tw_0_36 tw_1_9 tw_4_46) rfl rfl rfl (by decide +kernel) (by decide)) (k_preV (ci := 5) hK hV hA hZ t0 rfl _) rfl rfl hl.1 rfl (lv_room (Nat.le_of_ble_eq_true rfl)) dX8_wrap_93 ⟨Nat.zero_le _, Nat.zero_le _⟩) hV (fun v_19 I_17 L_18 H locs h hV => ?_)
        refine k_callv (va_runV (As := [.int 18044, .int 8736, .int v_19]) (rest := []) ⟨hx, hb, hml, hown, hts⟩ (s_X8_copy l D X ad n A J hWT x0 t0 18044 8736 v_19 I_17 L_18 _ h) (cwV 3 hts (gV tw_3_166 tw_3_168 tw_0_14 tw_1_9 tw_3_169) rfl rfl rfl (by decide +kernel) (by decide)) (k_preV (ci := 5) hK hV hA hZ t0 rfl _) rfl rfl hl.1 rfl (lv_room (Nat.le_of_ble_eq_true rfl)) dX8_wrap_96 ⟨Nat.zero_le _, Nat.zero_le _⟩) hV (fun I_20 L_21 H locs h hV => ?_)
        refine lv_aload_n hx hb dX8_wrap_99 rfl (lv_at hl 0 rfl) ?_
        refine lv_aload_n hx hb dX8_wrap_100 rfl (lv_at hl 0 rfl) ?_
        refine k_calli (va_runV (As := []) (rest := [.ref (ad x0)]) ⟨hx, hb, hml, hown, hts⟩ (s_X8_textBytes l D X ad n A J hWT x0 t0 I_20 L_21 _ h) (cwV 0 hts (gV tw_4_43 tw_4_45 tw_0_36 tw_1_9 tw_4_46) rfl rfl rfl (by decide +kernel) (by decide)) (k_preV (ci := 5) hK hV hA hZ t0 rfl _) rfl rfl hl.1 rfl (lv_room (Nat.le_of_ble_eq_true rfl)) dX8_wrap_101 ⟨Nat.zero_le _, Nat.zero_le _⟩) hV (fun v_24 I_22 L_23 H locs h hV => ?_)
        refine m_puti (C := RX8) (T := TX8) (N := 19) (ci := 5) (ty := .int) hx hb hts iwX8 hown hK hV tyX8 tyX8_ok nmX8 t0 rfl 4 (by decide) rfl rfl (hts _ tw_3_95) (fun _ h9 => h9) rfl (by decide +kernel) rfl rfl dX8_wrap_104 (fun H locs hV => ?_)
        obtain ⟨I_25, eI_25⟩ : ∃ y, y = ms I_22 x0 4 v_24 := ⟨_, rfl⟩
        replace hV : Wd D X ad n A s.heap J I_25 L_23 H locs := by rw [eI_25]; exact hV
        replace h := h I_25 eI_25
        refine lv_aload_n hx hb dX8_wrap_107 rfl (lv_at hl 0 rfl) ?_
        refine lv_sipush (v := 19612) hx hb dX8_wrap_108 (by decide) ?_
        refine lv_sipush (v := 10304) hx hb dX8_wrap_111 (by decide) ?_
        refine lv_bipush (v := 32) hx hb dX8_wrap_114 (by decide) ?_
        refine k_callv (va_runV (As := [.int 19612, .int 10304, .int 32]) (rest := []) ⟨hx, hb, hml, hown, hts⟩ (s_X8_copy l D X ad n A J hWT x0 t0 19612 10304 32 I_25 L_23 _ h) (cwV 3 hts (gV tw_3_166 tw_3_168 tw_0_14 tw_1_9 tw_3_169) rfl rfl rfl (by decide +kernel) (by decide)) (k_preV (ci := 5) hK hV hA hZ t0 rfl _) rfl rfl hl.1 rfl (lv_room (Nat.le_of_ble_eq_true rfl)) dX8_wrap_116 ⟨Nat.zero_le _, Nat.zero_le _⟩) hV (fun I_26 L_27 H locs h hV => ?_)
        refine lv_aload_n hx hb dX8_wrap_119 rfl (lv_at hl 0 rfl) ?_
        refine lv_bipush (v := 32) hx hb dX8_wrap_120 (by decide) ?_
        refine m_puti (C := RX8) (T := TX8) (N := 19) (ci := 5) (ty := .int) hx hb hts iwX8 hown hK hV tyX8 tyX8_ok nmX8 t0 rfl 5 (by decide) rfl rfl (hts _ tw_3_96) (fun _ h9 => h9) rfl (by decide +kernel) rfl rfl dX8_wrap_122 (fun H locs hV => ?_)
        obtain ⟨I_28, eI_28⟩ : ∃ y, y = ms I_26 x0 5 32 := ⟨_, rfl⟩
        replace hV : Wd D X ad n A s.heap J I_28 L_27 H locs := by rw [eI_28]; exact hV
        replace h := h I_28 eI_28
        refine lv_aload_n hx hb dX8_wrap_125 rfl (lv_at hl 0 rfl) ?_
        refine m_geti (C := RX8) (T := TX8) (N := 19) (ci := 5) hx hb hts iwX8 hown hK hV t0 rfl 4 (by decide) rfl rfl (hts _ tw_3_95) (fun _ h9 => h9) dX8_wrap_126 ?_
        exact m_iret hx hb hr hlk hK hZ hA hV h dX8_wrap_129
      · replace h := h.2 hc
        refine lv_bipush (v := (-2)) hx hb dX8_wrap_82 (by decide) ?_
        exact m_iret hx hb hr hlk hK hZ hA hV h dX8_wrap_84
    · replace h := h.2 hc
      refine lv_iconst (v := (-1)) hx hb dX8_wrap_16 (by decide) ?_
      exact m_iret hx hb hr hlk hK hZ hA hV h dX8_wrap_17
set_option maxHeartbeats 4000000 in
set_option maxRecDepth 100000 in
theorem n_X8_unwrap_222 {p : Program} {l : Launch} {e : Env} {s : State} {m : MethodId} {below : List Frame} {meth : Method} {c : Code} {D : va_G} {X : XT} {ad : Nat → Nat} {n : Nat} {A : Nat → Prop} {J : MJ} {av : List Value} {R : Room} (hR : R = ({ frames := 9, cells := 0, slots := 0, locals := 214 } : Room)) (C0 : Cx p s m meth c cX8_unwrap (some .int) 3 yX8_unwrap av D X ad n A J) {q : Int32 → MI → ML → Prop}  {x0 : Nat} {x1 : Int32}  {I : MI} {L : ML} {H : Heap} {locs : List Loc} {ls : Array Slot} (t0 : Ty X n x0 9) (h : wj_X8_unwrap_222 X J q  x0 x1  I L) (hV : Wd D X ad n A s.heap J I L H locs) (hl : lv_has ls 3 [(0, .ref (ad x0)), (1, .int x1)]) : W p l e R s m av.toArray below meth c H locs 0 0 (MQ below (QI D X ad n A J q) av.toArray s 0 0 A) (F0 m 222 ls []) := by
  obtain ⟨hx, hb, hr, hml, hown, hlk, hnm, hts, hK, hZ, hA, hWT⟩ := id C0
  subst hR
  unfold wj_X8_unwrap_222 at h
  refine lv_aload_n hx hb dX8_unwrap_222 rfl (lv_at hl 0 rfl) ?_
  refine lv_bipush (v := 32) hx hb dX8_unwrap_223 (by decide) ?_
  refine m_puti (C := RX8) (T := TX8) (N := 19) (ci := 5) (ty := .int) hx hb hts iwX8 hown hK hV tyX8 tyX8_ok nmX8 t0 rfl 5 (by decide) rfl rfl (hts _ tw_3_96) (fun _ h9 => h9) rfl (by decide +kernel) rfl rfl dX8_unwrap_225 (fun H locs hV => ?_)
  obtain ⟨I_20, eI_20⟩ : ∃ y, y = ms I x0 5 32 := ⟨_, rfl⟩
  replace hV : Wd D X ad n A s.heap J I_20 L H locs := by rw [eI_20]; exact hV
  replace h := h I_20 eI_20
  refine lv_iload_n hx hb dX8_unwrap_228 rfl (lv_at hl 1 rfl) ?_
  refine lv_if_eq (tgt := 236) hx hb dX8_unwrap_229 (by decide) (fun hc => ?_) (fun hc => ?_)
  · replace h := h.1 hc
    refine lv_iconst (v := 0) hx hb dX8_unwrap_236 (by decide) ?_
    exact m_iret hx hb hr hlk hK hZ hA hV h dX8_unwrap_237
  · replace h := h.2 hc
    refine lv_iconst (v := 1) hx hb dX8_unwrap_232 (by decide) ?_
    refine lv_goto (tgt := 237) hx hb dX8_unwrap_233 (by decide) ?_
    exact m_iret hx hb hr hlk hK hZ hA hV h dX8_unwrap_237
set_option maxHeartbeats 4000000 in
set_option maxRecDepth 100000 in
theorem n_X8_unwrap_131 {p : Program} {l : Launch} {e : Env} {s : State} {m : MethodId} {below : List Frame} {meth : Method} {c : Code} {D : va_G} {X : XT} {ad : Nat → Nat} {n : Nat} {A : Nat → Prop} {J : MJ} {av : List Value} {R : Room} (hR : R = ({ frames := 9, cells := 0, slots := 0, locals := 214 } : Room)) (C0 : Cx p s m meth c cX8_unwrap (some .int) 3 yX8_unwrap av D X ad n A J) {q : Int32 → MI → ML → Prop} {k91 : Int32 → Int32 → MI → ML → Prop} {x0 : Nat} {x2 : Int32} {z0 : Int32} {I : MI} {L : ML} {H : Heap} {locs : List Loc} {ls : Array Slot} (t0 : Ty X n x0 9)
    (hk91 : ∀ (x1 : Int32) (x2 : Int32) (I : MI) (L : ML) (H : Heap) (locs : List Loc) (ls : Array Slot), k91 x1 x2 I L → Wd D X ad n A s.heap J I L H locs → lv_has ls 3 [(0, .ref (ad x0)), (1, .int x1), (2, .int x2)] → W p l e R s m av.toArray below meth c H locs 0 0 (MQ below (QI D X ad n A J q) av.toArray s 0 0 A) (F0 m 91 ls [])) (h : wj_X8_unwrap_131 X J q k91 x0 x2 z0 I L) (hV : Wd D X ad n A s.heap J I L H locs) (hl : lv_has ls 3 [(0, .ref (ad x0)), (2, .int x2)]) : W p l e R s m av.toArray below meth c H locs 0 0 (MQ below (QI D X ad n A J q) av.toArray s 0 0 A) (F0 m 131 ls [.int z0]) := by
  obtain ⟨hx, hb, hr, hml, hown, hlk, hnm, hts, hK, hZ, hA, hWT⟩ := id C0
  subst hR
  unfold wj_X8_unwrap_131 at h
  refine lv_istore_n (lv' := [(1, .int z0), (0, .ref (ad x0)), (2, .int x2)]) hx hb dX8_unwrap_131 rfl hl (by decide) rfl (fun ls hl => ?_)
  obtain ⟨x2_23, ex2_23⟩ : ∃ y : Int32, y = x2 + 1 := ⟨_, rfl⟩
  replace h := h x2_23 ex2_23
  refine lv_iinc (v := x2_23) (lv' := [(2, .int x2_23), (1, .int z0), (0, .ref (ad x0))]) hx hb dX8_unwrap_132 hl (k := 2) rfl (by rw [ex2_23]; rfl) (by decide) rfl (fun ls hl => ?_)
  refine lv_goto (tgt := 91) hx hb dX8_unwrap_135 (by decide) ?_
  exact hk91 z0 x2_23 _ _ _ _ _ h hV (lv_sub hl [2, 1, 0] rfl)
set_option maxHeartbeats 4000000 in
set_option maxRecDepth 100000 in
theorem n_X8_unwrap_130 {p : Program} {l : Launch} {e : Env} {s : State} {m : MethodId} {below : List Frame} {meth : Method} {c : Code} {D : va_G} {X : XT} {ad : Nat → Nat} {n : Nat} {A : Nat → Prop} {J : MJ} {av : List Value} {R : Room} (hR : R = ({ frames := 9, cells := 0, slots := 0, locals := 214 } : Room)) (C0 : Cx p s m meth c cX8_unwrap (some .int) 3 yX8_unwrap av D X ad n A J) {q : Int32 → MI → ML → Prop} {k91 : Int32 → Int32 → MI → ML → Prop} {x0 : Nat} {x2 : Int32}  {I : MI} {L : ML} {H : Heap} {locs : List Loc} {ls : Array Slot} (t0 : Ty X n x0 9)
    (hk91 : ∀ (x1 : Int32) (x2 : Int32) (I : MI) (L : ML) (H : Heap) (locs : List Loc) (ls : Array Slot), k91 x1 x2 I L → Wd D X ad n A s.heap J I L H locs → lv_has ls 3 [(0, .ref (ad x0)), (1, .int x1), (2, .int x2)] → W p l e R s m av.toArray below meth c H locs 0 0 (MQ below (QI D X ad n A J q) av.toArray s 0 0 A) (F0 m 91 ls [])) (h : wj_X8_unwrap_130 X J q k91 x0 x2  I L) (hV : Wd D X ad n A s.heap J I L H locs) (hl : lv_has ls 3 [(0, .ref (ad x0)), (2, .int x2)]) : W p l e R s m av.toArray below meth c H locs 0 0 (MQ below (QI D X ad n A J q) av.toArray s 0 0 A) (F0 m 130 ls []) := by
  obtain ⟨hx, hb, hr, hml, hown, hlk, hnm, hts, hK, hZ, hA, hWT⟩ := id C0
  subst hR
  unfold wj_X8_unwrap_130 at h
  refine lv_iconst (v := 0) hx hb dX8_unwrap_130 (by decide) ?_
  exact n_X8_unwrap_131 rfl C0 t0  hk91 h hV (lv_sub hl [0, 1] rfl)
set_option maxHeartbeats 4000000 in
set_option maxRecDepth 100000 in
theorem n_X8_unwrap_91 {p : Program} {l : Launch} {e : Env} {s : State} {m : MethodId} {below : List Frame} {meth : Method} {c : Code} {D : va_G} {X : XT} {ad : Nat → Nat} {n : Nat} {A : Nat → Prop} {J : MJ} {av : List Value} {R : Room} (hR : R = ({ frames := 9, cells := 0, slots := 0, locals := 214 } : Room)) (C0 : Cx p s m meth c cX8_unwrap (some .int) 3 yX8_unwrap av D X ad n A J) {q : Int32 → MI → ML → Prop}  {x0 : Nat} (t0 : Ty X n x0 9) : ∀ (fu : Nat) (x1 : Int32) (x2 : Int32) (I : MI) (L : ML) (H : Heap) (locs : List Loc) (ls : Array Slot), wl_X8_unwrap_91 X J q  x0 fu x1 x2 I L → Wd D X ad n A s.heap J I L H locs → lv_has ls 3 [(0, .ref (ad x0)), (1, .int x1), (2, .int x2)] → W p l e R s m av.toArray below meth c H locs 0 0 (MQ below (QI D X ad n A J q) av.toArray s 0 0 A) (F0 m 91 ls []) := by
  obtain ⟨hx, hb, hr, hml, hown, hlk, hnm, hts, hK, hZ, hA, hWT⟩ := id C0
  subst hR
  intro fu
  induction fu with
  | zero => intro x1 x2 I L H locs ls h; exact absurd h (fun h => h)
  | succ fu ih =>
    intro x1 x2 I L H locs ls h hV hl
    refine lv_iload_n hx hb dX8_unwrap_91 rfl (lv_at hl 2 rfl) ?_
    refine lv_aload_n hx hb dX8_unwrap_92 rfl (lv_at hl 0 rfl) ?_
    refine m_geti (C := RX8) (T := TX8) (N := 19) (ci := 5) hx hb hts iwX8 hown hK hV t0 rfl 4 (by decide) rfl rfl (hts _ tw_3_95) (fun _ h9 => h9) dX8_unwrap_93 ?_
    refine lv_icmp_ge (tgt := 138) hx hb dX8_unwrap_96 (by decide) (fun hc => ?_) (fun hc => ?_)
    · replace h := h.1 hc
      refine lv_iload_n hx hb dX8_unwrap_138 rfl (lv_at hl 1 rfl) ?_
      refine lv_if_eq (tgt := 157) hx hb dX8_unwrap_139 (by decide) (fun hc => ?_) (fun hc => ?_)
      · replace h := h.1 hc
        refine lv_aload_n hx hb dX8_unwrap_157 rfl (lv_at hl 0 rfl) ?_
        refine lv_sipush (v := 5568) hx hb dX8_unwrap_158 (by decide) ?_
        refine lv_sipush (v := 768) hx hb dX8_unwrap_161 (by decide) ?_
        refine lv_aload_n hx hb dX8_unwrap_164 rfl (lv_at hl 0 rfl) ?_
        refine m_geti (C := RX8) (T := TX8) (N := 19) (ci := 5) hx hb hts iwX8 hown hK hV t0 rfl 7 (by decide) rfl rfl (hts _ tw_3_98) (fun _ h9 => h9) dX8_unwrap_165 ?_
        refine lv_imul hx hb dX8_unwrap_168 ?_
        refine lv_iadd hx hb dX8_unwrap_169 ?_
        refine lv_bipush (v := 64) hx hb dX8_unwrap_170 (by decide) ?_
        refine lv_iadd hx hb dX8_unwrap_172 ?_
        refine lv_sipush (v := 11336) hx hb dX8_unwrap_173 (by decide) ?_
        refine lv_bipush (v := 32) hx hb dX8_unwrap_176 (by decide) ?_
        refine k_callv (va_runV (As := [.int ((5568 + (768 * (I x0 7))) + 64), .int 11336, .int 32]) (rest := []) ⟨hx, hb, hml, hown, hts⟩ (s_X8_copy l D X ad n A J hWT x0 t0 ((5568 + (768 * (I x0 7))) + 64) 11336 32 I L _ h) (cwV 3 hts (gV tw_3_166 tw_3_168 tw_0_14 tw_1_9 tw_3_169) rfl rfl rfl (by decide +kernel) (by decide)) (k_preV (ci := 5) hK hV hA hZ t0 rfl _) rfl rfl hl.1 rfl (lv_room (Nat.le_of_ble_eq_true rfl)) dX8_unwrap_178 ⟨Nat.zero_le _, Nat.zero_le _⟩) hV (fun I_12 L_13 H locs h hV => ?_)
        refine lv_aload_n hx hb dX8_unwrap_181 rfl (lv_at hl 0 rfl) ?_
        refine lv_sipush (v := 8736) hx hb dX8_unwrap_182 (by decide) ?_
        refine lv_sipush (v := 11368) hx hb dX8_unwrap_185 (by decide) ?_
        refine lv_aload_n hx hb dX8_unwrap_188 rfl (lv_at hl 0 rfl) ?_
        refine m_geti (C := RX8) (T := TX8) (N := 19) (ci := 5) hx hb hts iwX8 hown hK hV t0 rfl 4 (by decide) rfl rfl (hts _ tw_3_95) (fun _ h9 => h9) dX8_unwrap_189 ?_
        refine k_callv (va_runV (As := [.int 8736, .int 11368, .int (I_12 x0 4)]) (rest := []) ⟨hx, hb, hml, hown, hts⟩ (s_X8_copy l D X ad n A J hWT x0 t0 8736 11368 (I_12 x0 4) I_12 L_13 _ h) (cwV 3 hts (gV tw_3_166 tw_3_168 tw_0_14 tw_1_9 tw_3_169) rfl rfl rfl (by decide +kernel) (by decide)) (k_preV (ci := 5) hK hV hA hZ t0 rfl _) rfl rfl hl.1 rfl (lv_room (Nat.le_of_ble_eq_true rfl)) dX8_unwrap_192 ⟨Nat.zero_le _, Nat.zero_le _⟩) hV (fun I_14 L_15 H locs h hV => ?_)
        refine lv_aload_n hx hb dX8_unwrap_195 rfl (lv_at hl 0 rfl) ?_
        refine lv_sipush (v := 136) hx hb dX8_unwrap_196 (by decide) ?_
        refine lv_sipush (v := 11336) hx hb dX8_unwrap_199 (by decide) ?_
        refine lv_bipush (v := 32) hx hb dX8_unwrap_202 (by decide) ?_
        refine lv_aload_n hx hb dX8_unwrap_204 rfl (lv_at hl 0 rfl) ?_
        refine m_geti (C := RX8) (T := TX8) (N := 19) (ci := 5) hx hb hts iwX8 hown hK hV t0 rfl 4 (by decide) rfl rfl (hts _ tw_3_95) (fun _ h9 => h9) dX8_unwrap_205 ?_
        refine lv_iadd hx hb dX8_unwrap_208 ?_
        refine lv_iconst (v := 0) hx hb dX8_unwrap_209 (by decide) ?_
        refine k_callv (va_runV (As := [.int 136, .int 11336, .int (32 + (I_14 x0 4)), .int 0]) (rest := []) ⟨hx, hb, hml, hown, hts⟩ (s_X8_absorb l D X ad n A J hWT x0 t0 136 11336 (32 + (I_14 x0 4)) 0 I_14 L_15 _ h) (cwV 4 hts (gV tw_3_211 tw_3_213 tw_0_20 tw_1_9 tw_3_214) rfl rfl rfl (by decide +kernel) (by decide)) (k_preV (ci := 5) hK hV hA hZ t0 rfl _) rfl rfl hl.1 rfl (lv_room (Nat.le_of_ble_eq_true rfl)) dX8_unwrap_210 ⟨Nat.zero_le _, Nat.zero_le _⟩) hV (fun I_16 L_17 H locs h hV => ?_)
        refine lv_aload_n hx hb dX8_unwrap_213 rfl (lv_at hl 0 rfl) ?_
        refine lv_sipush (v := 10304) hx hb dX8_unwrap_214 (by decide) ?_
        refine lv_bipush (v := 32) hx hb dX8_unwrap_217 (by decide) ?_
        refine k_callv (va_runV (As := [.int 10304, .int 32]) (rest := []) ⟨hx, hb, hml, hown, hts⟩ (s_X8_tells l D X ad n A J hWT x0 t0 10304 32 I_16 L_17 _ h) (cwV 2 hts (gV tw_3_231 tw_3_233 tw_0_25 tw_1_9 tw_3_234) rfl rfl rfl (by decide +kernel) (by decide)) (k_preV (ci := 5) hK hV hA hZ t0 rfl _) rfl rfl hl.1 rfl (lv_room (Nat.le_of_ble_eq_true rfl)) dX8_unwrap_219 ⟨Nat.zero_le _, Nat.zero_le _⟩) hV (fun I_18 L_19 H locs h hV => ?_)
        exact n_X8_unwrap_222 rfl C0 t0   h hV (lv_sub hl [0, 1] rfl)
      · replace h := h.2 hc
        refine lv_aload_n hx hb dX8_unwrap_142 rfl (lv_at hl 0 rfl) ?_
        refine lv_sipush (v := 19612) hx hb dX8_unwrap_143 (by decide) ?_
        refine lv_sipush (v := 10304) hx hb dX8_unwrap_146 (by decide) ?_
        refine lv_bipush (v := 32) hx hb dX8_unwrap_149 (by decide) ?_
        refine k_callv (va_runV (As := [.int 19612, .int 10304, .int 32]) (rest := []) ⟨hx, hb, hml, hown, hts⟩ (s_X8_copy l D X ad n A J hWT x0 t0 19612 10304 32 I L _ h) (cwV 3 hts (gV tw_3_166 tw_3_168 tw_0_14 tw_1_9 tw_3_169) rfl rfl rfl (by decide +kernel) (by decide)) (k_preV (ci := 5) hK hV hA hZ t0 rfl _) rfl rfl hl.1 rfl (lv_room (Nat.le_of_ble_eq_true rfl)) dX8_unwrap_151 ⟨Nat.zero_le _, Nat.zero_le _⟩) hV (fun I_21 L_22 H locs h hV => ?_)
        refine lv_goto (tgt := 222) hx hb dX8_unwrap_154 (by decide) ?_
        exact n_X8_unwrap_222 rfl C0 t0   h hV (lv_sub hl [0, 1] rfl)
    · replace h := h.2 hc
      refine lv_iload_n hx hb dX8_unwrap_99 rfl (lv_at hl 1 rfl) ?_
      refine lv_if_eq (tgt := 130) hx hb dX8_unwrap_100 (by decide) (fun hc => ?_) (fun hc => ?_)
      · replace h := h.1 hc
        exact n_X8_unwrap_130 rfl C0 t0  (fun y1 y2 I L H locs ls h hV hl => ih y1 y2 I L H locs ls h hV (lv_sub hl [0, 1, 2] rfl)) h hV (lv_sub hl [0, 2] rfl)
      · replace h := h.2 hc
        refine lv_aload_n hx hb dX8_unwrap_103 rfl (lv_at hl 0 rfl) ?_
        obtain ⟨r_24, hr_24, h⟩ := h
        have tr_24 : Ty X n r_24 1 := hWT.r (c := 5) (j := 0) t0 rfl hr_24
        refine m_getr (C := RX8) (T := TX8) (N := 19) (ci := 5) hx hb hts iwX8 hown hK hV t0 rfl 0 (by decide) rfl rfl hr_24 (hts _ tw_3_91) (fun _ h9 => h9) dX8_unwrap_104 ?_
        refine lv_sipush (v := 8736) hx hb dX8_unwrap_107 (by decide) ?_
        refine lv_iload_n hx hb dX8_unwrap_110 rfl (lv_at hl 2 rfl) ?_
        refine lv_iadd hx hb dX8_unwrap_111 ?_
        obtain ⟨hi_25, h⟩ := h
        refine m_bald hx hb hK hV tr_24 hi_25 dX8_unwrap_112 ?_
        refine lv_aload_n hx hb dX8_unwrap_113 rfl (lv_at hl 0 rfl) ?_
        refine m_getr (C := RX8) (T := TX8) (N := 19) (ci := 5) hx hb hts iwX8 hown hK hV t0 rfl 0 (by decide) rfl rfl hr_24 (hts _ tw_3_91) (fun _ h9 => h9) dX8_unwrap_114 ?_
        refine lv_sipush (v := 18044) hx hb dX8_unwrap_117 (by decide) ?_
        refine lv_iload_n hx hb dX8_unwrap_120 rfl (lv_at hl 2 rfl) ?_
        refine lv_iadd hx hb dX8_unwrap_121 ?_
        obtain ⟨hi_26, h⟩ := h
        refine m_bald hx hb hK hV tr_24 hi_26 dX8_unwrap_122 ?_
        refine lv_icmp_ne (tgt := 130) hx hb dX8_unwrap_123 (by decide) (fun hc => ?_) (fun hc => ?_)
        · replace h := h.1 hc
          exact n_X8_unwrap_130 rfl C0 t0  (fun y1 y2 I L H locs ls h hV hl => ih y1 y2 I L H locs ls h hV (lv_sub hl [0, 1, 2] rfl)) h hV (lv_sub hl [0, 2] rfl)
        · replace h := h.2 hc
          refine lv_iconst (v := 1) hx hb dX8_unwrap_126 (by decide) ?_
          refine lv_goto (tgt := 131) hx hb dX8_unwrap_127 (by decide) ?_
          exact n_X8_unwrap_131 rfl C0 t0  (fun y1 y2 I L H locs ls h hV hl => ih y1 y2 I L H locs ls h hV (lv_sub hl [0, 1, 2] rfl)) h hV (lv_sub hl [0, 2] rfl)
set_option maxHeartbeats 4000000 in
set_option maxRecDepth 100000 in
theorem s_X8_unwrap (l : Launch) (D : va_G) (X : XT) (ad : Nat → Nat) (n : Nat) (A : Nat → Prop) (J : MJ) (hWT : WT X n J) (x0 : Nat) (t0 : Ty X n x0 9) (I : MI) (L : ML) (q : Int32 → MI → ML → Prop) (h : wp_X8_unwrap X J x0 I L q) : Met l yX8_unwrap (wz yX8_unwrap cX8_unwrap 3 (some .int)) ({ frames := 9, cells := 0, slots := 0, locals := 214 } : Room) (va_Pc [.ref (ad x0)] (Pr D X ad n A J I L)) (QI D X ad n A J q) 0 0 A := by
  refine Met_go (by decide +kernel) (Nat.le_of_ble_eq_true rfl) (fun p e s m below meth c hx hb hr hml hown hlk hnm hts hK hZ hA hV ls hl => ?_)
  have C0 : Cx p s m meth c cX8_unwrap (some .int) 3 yX8_unwrap [.ref (ad x0)] D X ad n A J := ⟨hx, hb, hr, hml, hown, hlk, hnm, hts, hK, hZ, hA, hWT⟩
  unfold wp_X8_unwrap at h
  have hl : lv_has ls 3 [(0, .ref (ad x0))] := hl
  refine lv_aload_n hx hb dX8_unwrap_0 rfl (lv_at hl 0 rfl) ?_
  refine m_geti (C := RX8) (T := TX8) (N := 19) (ci := 5) hx hb hts iwX8 hown hK hV t0 rfl 3 (by decide) rfl rfl (hts _ tw_3_94) (fun _ h9 => h9) dX8_unwrap_1 ?_
  refine lv_if_eq (tgt := 14) hx hb dX8_unwrap_4 (by decide) (fun hc => ?_) (fun hc => ?_)
  · replace h := h.1 hc
    refine lv_iconst (v := (-1)) hx hb dX8_unwrap_14 (by decide) ?_
    exact m_iret hx hb hr hlk hK hZ hA hV h dX8_unwrap_15
  · replace h := h.2 hc
    refine lv_aload_n hx hb dX8_unwrap_7 rfl (lv_at hl 0 rfl) ?_
    refine m_geti (C := RX8) (T := TX8) (N := 19) (ci := 5) hx hb hts iwX8 hown hK hV t0 rfl 4 (by decide) rfl rfl (hts _ tw_3_95) (fun _ h9 => h9) dX8_unwrap_8 ?_
    refine lv_if_ne (tgt := 16) hx hb dX8_unwrap_11 (by decide) (fun hc => ?_) (fun hc => ?_)
    · replace h := h.1 hc
      refine lv_aload_n hx hb dX8_unwrap_16 rfl (lv_at hl 0 rfl) ?_
      refine lv_sipush (v := 5568) hx hb dX8_unwrap_17 (by decide) ?_
      refine k_callv (va_runV (As := [.int 5568]) (rest := []) ⟨hx, hb, hml, hown, hts⟩ (s_X8_unlocks l D X ad n A J hWT x0 t0 5568 I L _ h) (cwV 1 hts (gV tw_4_98 tw_4_100 tw_0_47 tw_1_9 tw_4_101) rfl rfl rfl (by decide +kernel) (by decide)) (k_preV (ci := 5) hK hV hA hZ t0 rfl _) rfl rfl hl.1 rfl (lv_room (Nat.le_of_ble_eq_true rfl)) dX8_unwrap_20 ⟨Nat.zero_le _, Nat.zero_le _⟩) hV (fun I_1 L_2 H locs h hV => ?_)
      refine lv_aload_n hx hb dX8_unwrap_23 rfl (lv_at hl 0 rfl) ?_
      refine lv_sipush (v := 19740) hx hb dX8_unwrap_24 (by decide) ?_
      refine lv_sipush (v := 11336) hx hb dX8_unwrap_27 (by decide) ?_
      refine lv_bipush (v := 32) hx hb dX8_unwrap_30 (by decide) ?_
      refine k_callv (va_runV (As := [.int 19740, .int 11336, .int 32]) (rest := []) ⟨hx, hb, hml, hown, hts⟩ (s_X8_copy l D X ad n A J hWT x0 t0 19740 11336 32 I_1 L_2 _ h) (cwV 3 hts (gV tw_3_166 tw_3_168 tw_0_14 tw_1_9 tw_3_169) rfl rfl rfl (by decide +kernel) (by decide)) (k_preV (ci := 5) hK hV hA hZ t0 rfl _) rfl rfl hl.1 rfl (lv_room (Nat.le_of_ble_eq_true rfl)) dX8_unwrap_32 ⟨Nat.zero_le _, Nat.zero_le _⟩) hV (fun I_3 L_4 H locs h hV => ?_)
      refine lv_aload_n hx hb dX8_unwrap_35 rfl (lv_at hl 0 rfl) ?_
      refine lv_sipush (v := 5568) hx hb dX8_unwrap_36 (by decide) ?_
      refine lv_sipush (v := 768) hx hb dX8_unwrap_39 (by decide) ?_
      refine lv_aload_n hx hb dX8_unwrap_42 rfl (lv_at hl 0 rfl) ?_
      refine m_geti (C := RX8) (T := TX8) (N := 19) (ci := 5) hx hb hts iwX8 hown hK hV t0 rfl 7 (by decide) rfl rfl (hts _ tw_3_98) (fun _ h9 => h9) dX8_unwrap_43 ?_
      refine lv_imul hx hb dX8_unwrap_46 ?_
      refine lv_iadd hx hb dX8_unwrap_47 ?_
      refine lv_bipush (v := 32) hx hb dX8_unwrap_48 (by decide) ?_
      refine lv_iadd hx hb dX8_unwrap_50 ?_
      refine lv_sipush (v := 11368) hx hb dX8_unwrap_51 (by decide) ?_
      refine lv_bipush (v := 32) hx hb dX8_unwrap_54 (by decide) ?_
      refine k_callv (va_runV (As := [.int ((5568 + (768 * (I_3 x0 7))) + 32), .int 11368, .int 32]) (rest := []) ⟨hx, hb, hml, hown, hts⟩ (s_X8_copy l D X ad n A J hWT x0 t0 ((5568 + (768 * (I_3 x0 7))) + 32) 11368 32 I_3 L_4 _ h) (cwV 3 hts (gV tw_3_166 tw_3_168 tw_0_14 tw_1_9 tw_3_169) rfl rfl rfl (by decide +kernel) (by decide)) (k_preV (ci := 5) hK hV hA hZ t0 rfl _) rfl rfl hl.1 rfl (lv_room (Nat.le_of_ble_eq_true rfl)) dX8_unwrap_56 ⟨Nat.zero_le _, Nat.zero_le _⟩) hV (fun I_5 L_6 H locs h hV => ?_)
      refine lv_aload_n hx hb dX8_unwrap_59 rfl (lv_at hl 0 rfl) ?_
      refine lv_bipush (v := 64) hx hb dX8_unwrap_60 (by decide) ?_
      refine k_callv (va_runV (As := [.int 64]) (rest := []) ⟨hx, hb, hml, hown, hts⟩ (s_X8_g l D X ad n A J hWT x0 t0 64 I_5 L_6 _ h) (cwV 1 hts (gV tw_3_207 tw_3_209 tw_0_19 tw_1_9 tw_3_210) rfl rfl rfl (by decide +kernel) (by decide)) (k_preV (ci := 5) hK hV hA hZ t0 rfl _) rfl rfl hl.1 rfl (lv_room (Nat.le_of_ble_eq_true rfl)) dX8_unwrap_62 ⟨Nat.zero_le _, Nat.zero_le _⟩) hV (fun I_7 L_8 H locs h hV => ?_)
      refine lv_aload_n hx hb dX8_unwrap_65 rfl (lv_at hl 0 rfl) ?_
      refine lv_sipush (v := 5568) hx hb dX8_unwrap_66 (by decide) ?_
      refine lv_sipush (v := 384) hx hb dX8_unwrap_69 (by decide) ?_
      refine lv_aload_n hx hb dX8_unwrap_72 rfl (lv_at hl 0 rfl) ?_
      refine m_geti (C := RX8) (T := TX8) (N := 19) (ci := 5) hx hb hts iwX8 hown hK hV t0 rfl 7 (by decide) rfl rfl (hts _ tw_3_98) (fun _ h9 => h9) dX8_unwrap_73 ?_
      refine lv_imul hx hb dX8_unwrap_76 ?_
      refine lv_iadd hx hb dX8_unwrap_77 ?_
      refine k_calli (va_runV (As := [.int (5568 + (384 * (I_7 x0 7)))]) (rest := []) ⟨hx, hb, hml, hown, hts⟩ (s_X8_locks l D X ad n A J hWT x0 t0 (5568 + (384 * (I_7 x0 7))) I_7 L_8 _ h) (cwV 1 hts (gV tw_4_63 tw_4_65 tw_0_40 tw_1_9 tw_4_66) rfl rfl rfl (by decide +kernel) (by decide)) (k_preV (ci := 5) hK hV hA hZ t0 rfl _) rfl rfl hl.1 rfl (lv_room (Nat.le_of_ble_eq_true rfl)) dX8_unwrap_78 ⟨Nat.zero_le _, Nat.zero_le _⟩) hV (fun v_11 I_9 L_10 H locs h hV => ?_)
      refine lv_if_ne (tgt := 87) hx hb dX8_unwrap_81 (by decide) (fun hc => ?_) (fun hc => ?_)
      · replace h := h.1 hc
        refine lv_iconst (v := 1) hx hb dX8_unwrap_87 (by decide) ?_
        refine lv_istore_n (lv' := [(1, .int 1), (0, .ref (ad x0))]) hx hb dX8_unwrap_88 rfl hl (by decide) rfl (fun ls hl => ?_)
        refine lv_iconst (v := 0) hx hb dX8_unwrap_89 (by decide) ?_
        refine lv_istore_n (lv' := [(2, .int 0), (1, .int 1), (0, .ref (ad x0))]) hx hb dX8_unwrap_90 rfl hl (by decide) rfl (fun ls hl => ?_)
        obtain ⟨fu0, h⟩ := h
        exact n_X8_unwrap_91 rfl C0 t0   fu0 1 0 _ _ _ _ _ h hV (lv_sub hl [2, 1, 0] rfl)
      · replace h := h.2 hc
        refine lv_bipush (v := (-2)) hx hb dX8_unwrap_84 (by decide) ?_
        exact m_iret hx hb hr hlk hK hZ hA hV h dX8_unwrap_86
    · replace h := h.2 hc
      refine lv_iconst (v := (-1)) hx hb dX8_unwrap_14 (by decide) ?_
      exact m_iret hx hb hr hlk hK hZ hA hV h dX8_unwrap_15
set_option maxHeartbeats 4000000 in
set_option maxRecDepth 100000 in
theorem n_X8_hash_91 {p : Program} {l : Launch} {e : Env} {s : State} {m : MethodId} {below : List Frame} {meth : Method} {c : Code} {D : va_G} {X : XT} {ad : Nat → Nat} {n : Nat} {A : Nat → Prop} {J : MJ} {av : List Value} {R : Room} (hR : R = ({ frames := 6, cells := 0, slots := 0, locals := 139 } : Room)) (C0 : Cx p s m meth c cX8_hash (some .int) 5 yX8_hash av D X ad n A J) {q : Int32 → MI → ML → Prop}  {x0 : Nat} {x4 : Int32} {z0 : Nat} {z1 : Int32} {z2 : Int32} {z3 : Int32} {z4 : Int32} {I : MI} {L : ML} {H : Heap} {locs : List Loc} {ls : Array Slot} (t0 : Ty X n x0 9) (u0 : Ty X n z0 9) (h : wj_X8_hash_91 X J q  x0 x4 z0 z1 z2 z3 z4 I L) (hV : Wd D X ad n A s.heap J I L H locs) (hl : lv_has ls 5 [(0, .ref (ad x0)), (4, .int x4)]) : W p l e R s m av.toArray below meth c H locs 0 0 (MQ below (QI D X ad n A J q) av.toArray s 0 0 A) (F0 m 91 ls [.int z4, .int z3, .int z2, .int z1, .ref (ad z0)]) := by
  obtain ⟨hx, hb, hr, hml, hown, hlk, hnm, hts, hK, hZ, hA, hWT⟩ := id C0
  subst hR
  unfold wj_X8_hash_91 at h
  refine k_callv (va_runV (As := [.int z1, .int z2, .int z3, .int z4]) (rest := []) ⟨hx, hb, hml, hown, hts⟩ (s_X8_absorb l D X ad n A J hWT z0 u0 z1 z2 z3 z4 I L _ h) (cwV 4 hts (gV tw_3_211 tw_3_213 tw_0_20 tw_1_9 tw_3_214) rfl rfl rfl (by decide +kernel) (by decide)) (k_preV (ci := 5) hK hV hA hZ u0 rfl _) rfl rfl hl.1 rfl (lv_room (Nat.le_of_ble_eq_true rfl)) dX8_hash_91 ⟨Nat.zero_le _, Nat.zero_le _⟩) hV (fun I_4 L_5 H locs h hV => ?_)
  refine lv_aload_n hx hb dX8_hash_94 rfl (lv_at hl 0 rfl) ?_
  refine lv_sipush (v := 10336) hx hb dX8_hash_95 (by decide) ?_
  refine lv_iload hx hb dX8_hash_98 (lv_at hl 1 rfl) ?_
  refine k_callv (va_runV (As := [.int 10336, .int x4]) (rest := []) ⟨hx, hb, hml, hown, hts⟩ (s_X8_tells l D X ad n A J hWT x0 t0 10336 x4 I_4 L_5 _ h) (cwV 2 hts (gV tw_3_231 tw_3_233 tw_0_25 tw_1_9 tw_3_234) rfl rfl rfl (by decide +kernel) (by decide)) (k_preV (ci := 5) hK hV hA hZ t0 rfl _) rfl rfl hl.1 rfl (lv_room (Nat.le_of_ble_eq_true rfl)) dX8_hash_100 ⟨Nat.zero_le _, Nat.zero_le _⟩) hV (fun I_6 L_7 H locs h hV => ?_)
  refine lv_aload_n hx hb dX8_hash_103 rfl (lv_at hl 0 rfl) ?_
  refine lv_iload hx hb dX8_hash_104 (lv_at hl 1 rfl) ?_
  refine m_puti (C := RX8) (T := TX8) (N := 19) (ci := 5) (ty := .int) hx hb hts iwX8 hown hK hV tyX8 tyX8_ok nmX8 t0 rfl 6 (by decide) rfl rfl (hts _ tw_3_97) (fun _ h9 => h9) rfl (by decide +kernel) rfl rfl dX8_hash_106 (fun H locs hV => ?_)
  obtain ⟨I_8, eI_8⟩ : ∃ y, y = ms I_6 x0 6 x4 := ⟨_, rfl⟩
  replace hV : Wd D X ad n A s.heap J I_8 L_7 H locs := by rw [eI_8]; exact hV
  replace h := h I_8 eI_8
  refine lv_iload hx hb dX8_hash_109 (lv_at hl 1 rfl) ?_
  exact m_iret hx hb hr hlk hK hZ hA hV h dX8_hash_111
set_option maxHeartbeats 4000000 in
set_option maxRecDepth 100000 in
theorem n_X8_hash_79 {p : Program} {l : Launch} {e : Env} {s : State} {m : MethodId} {below : List Frame} {meth : Method} {c : Code} {D : va_G} {X : XT} {ad : Nat → Nat} {n : Nat} {A : Nat → Prop} {J : MJ} {av : List Value} {R : Room} (hR : R = ({ frames := 6, cells := 0, slots := 0, locals := 139 } : Room)) (C0 : Cx p s m meth c cX8_hash (some .int) 5 yX8_hash av D X ad n A J) {q : Int32 → MI → ML → Prop}  {x0 : Nat} {x1 : Int32} {x3 : Int32} {x4 : Int32} {z0 : Nat} {z1 : Int32} {I : MI} {L : ML} {H : Heap} {locs : List Loc} {ls : Array Slot} (t0 : Ty X n x0 9) (u0 : Ty X n z0 9) (h : wj_X8_hash_79 X J q  x0 x1 x3 x4 z0 z1 I L) (hV : Wd D X ad n A s.heap J I L H locs) (hl : lv_has ls 5 [(0, .ref (ad x0)), (1, .int x1), (3, .int x3), (4, .int x4)]) : W p l e R s m av.toArray below meth c H locs 0 0 (MQ below (QI D X ad n A J q) av.toArray s 0 0 A) (F0 m 79 ls [.int z1, .ref (ad z0)]) := by
  obtain ⟨hx, hb, hr, hml, hown, hlk, hnm, hts, hK, hZ, hA, hWT⟩ := id C0
  subst hR
  unfold wj_X8_hash_79 at h
  refine lv_iconst (v := 0) hx hb dX8_hash_79 (by decide) ?_
  refine lv_iload_n hx hb dX8_hash_80 rfl (lv_at hl 2 rfl) ?_
  refine lv_iload_n hx hb dX8_hash_81 rfl (lv_at hl 1 rfl) ?_
  refine lv_iconst (v := 2) hx hb dX8_hash_82 (by decide) ?_
  refine lv_icmp_ge (tgt := 90) hx hb dX8_hash_83 (by decide) (fun hc => ?_) (fun hc => ?_)
  · replace h := h.1 hc
    refine lv_iconst (v := 0) hx hb dX8_hash_90 (by decide) ?_
    exact n_X8_hash_91 rfl C0 t0 u0  h hV (lv_sub hl [0, 3] rfl)
  · replace h := h.2 hc
    refine lv_iconst (v := 1) hx hb dX8_hash_86 (by decide) ?_
    refine lv_goto (tgt := 91) hx hb dX8_hash_87 (by decide) ?_
    exact n_X8_hash_91 rfl C0 t0 u0  h hV (lv_sub hl [0, 3] rfl)
set_option maxHeartbeats 4000000 in
set_option maxRecDepth 100000 in
theorem n_X8_hash_52 {p : Program} {l : Launch} {e : Env} {s : State} {m : MethodId} {below : List Frame} {meth : Method} {c : Code} {D : va_G} {X : XT} {ad : Nat → Nat} {n : Nat} {A : Nat → Prop} {J : MJ} {av : List Value} {R : Room} (hR : R = ({ frames := 6, cells := 0, slots := 0, locals := 139 } : Room)) (C0 : Cx p s m meth c cX8_hash (some .int) 5 yX8_hash av D X ad n A J) {q : Int32 → MI → ML → Prop}  {x0 : Nat} {x1 : Int32} {x3 : Int32} {z0 : Int32} {I : MI} {L : ML} {H : Heap} {locs : List Loc} {ls : Array Slot} (t0 : Ty X n x0 9) (h : wj_X8_hash_52 X J q  x0 x1 x3 z0 I L) (hV : Wd D X ad n A s.heap J I L H locs) (hl : lv_has ls 5 [(0, .ref (ad x0)), (1, .int x1), (3, .int x3)]) : W p l e R s m av.toArray below meth c H locs 0 0 (MQ below (QI D X ad n A J q) av.toArray s 0 0 A) (F0 m 52 ls [.int z0]) := by
  obtain ⟨hx, hb, hr, hml, hown, hlk, hnm, hts, hK, hZ, hA, hWT⟩ := id C0
  subst hR
  unfold wj_X8_hash_52 at h
  refine lv_istore (lv' := [(4, .int z0), (0, .ref (ad x0)), (1, .int x1), (3, .int x3)]) hx hb dX8_hash_52 hl (by decide) rfl (fun ls hl => ?_)
  refine lv_aload_n hx hb dX8_hash_54 rfl (lv_at hl 1 rfl) ?_
  refine lv_iload_n hx hb dX8_hash_55 rfl (lv_at hl 2 rfl) ?_
  refine lv_iconst (v := 1) hx hb dX8_hash_56 (by decide) ?_
  refine lv_icmp_ne (tgt := 65) hx hb dX8_hash_57 (by decide) (fun hc => ?_) (fun hc => ?_)
  · replace h := h.1 hc
    refine lv_iload_n hx hb dX8_hash_65 rfl (lv_at hl 2 rfl) ?_
    refine lv_iconst (v := 2) hx hb dX8_hash_66 (by decide) ?_
    refine lv_icmp_ne (tgt := 76) hx hb dX8_hash_67 (by decide) (fun hc => ?_) (fun hc => ?_)
    · replace h := h.1 hc
      refine lv_sipush (v := 136) hx hb dX8_hash_76 (by decide) ?_
      exact n_X8_hash_79 rfl C0 t0 t0  h hV (lv_sub hl [1, 2, 3, 0] rfl)
    · replace h := h.2 hc
      refine lv_sipush (v := 168) hx hb dX8_hash_70 (by decide) ?_
      refine lv_goto (tgt := 79) hx hb dX8_hash_73 (by decide) ?_
      exact n_X8_hash_79 rfl C0 t0 t0  h hV (lv_sub hl [1, 2, 3, 0] rfl)
  · replace h := h.2 hc
    refine lv_bipush (v := 72) hx hb dX8_hash_60 (by decide) ?_
    refine lv_goto (tgt := 79) hx hb dX8_hash_62 (by decide) ?_
    exact n_X8_hash_79 rfl C0 t0 t0  h hV (lv_sub hl [1, 2, 3, 0] rfl)
set_option maxHeartbeats 4000000 in
set_option maxRecDepth 100000 in
theorem n_X8_hash_27 {p : Program} {l : Launch} {e : Env} {s : State} {m : MethodId} {below : List Frame} {meth : Method} {c : Code} {D : va_G} {X : XT} {ad : Nat → Nat} {n : Nat} {A : Nat → Prop} {J : MJ} {av : List Value} {R : Room} (hR : R = ({ frames := 6, cells := 0, slots := 0, locals := 139 } : Room)) (C0 : Cx p s m meth c cX8_hash (some .int) 5 yX8_hash av D X ad n A J) {q : Int32 → MI → ML → Prop}  {x0 : Nat} {x1 : Int32} {x2 : Int32}  {I : MI} {L : ML} {H : Heap} {locs : List Loc} {ls : Array Slot} (t0 : Ty X n x0 9) (h : wj_X8_hash_27 X J q  x0 x1 x2  I L) (hV : Wd D X ad n A s.heap J I L H locs) (hl : lv_has ls 5 [(0, .ref (ad x0)), (1, .int x1), (2, .int x2)]) : W p l e R s m av.toArray below meth c H locs 0 0 (MQ below (QI D X ad n A J q) av.toArray s 0 0 A) (F0 m 27 ls []) := by
  obtain ⟨hx, hb, hr, hml, hown, hlk, hnm, hts, hK, hZ, hA, hWT⟩ := id C0
  subst hR
  unfold wj_X8_hash_27 at h
  refine lv_aload_n hx hb dX8_hash_27 rfl (lv_at hl 0 rfl) ?_
  refine k_calli (va_runV (As := []) (rest := []) ⟨hx, hb, hml, hown, hts⟩ (s_X8_used l D X ad n A J hWT x0 t0 I L _ h) (cwV 0 hts (gV tw_3_199 tw_3_201 tw_0_17 tw_1_9 tw_3_202) rfl rfl rfl (by decide +kernel) (by decide)) (k_preV (ci := 5) hK hV hA hZ t0 rfl _) rfl rfl hl.1 rfl (lv_room (Nat.le_of_ble_eq_true rfl)) dX8_hash_28 ⟨Nat.zero_le _, Nat.zero_le _⟩) hV (fun v_3 I_1 L_2 H locs h hV => ?_)
  refine lv_istore_n (lv' := [(3, .int v_3), (0, .ref (ad x0)), (1, .int x1), (2, .int x2)]) hx hb dX8_hash_31 rfl hl (by decide) rfl (fun ls hl => ?_)
  refine lv_iload_n hx hb dX8_hash_32 rfl (lv_at hl 2 rfl) ?_
  refine lv_if_ne (tgt := 41) hx hb dX8_hash_33 (by decide) (fun hc => ?_) (fun hc => ?_)
  · replace h := h.1 hc
    refine lv_iload_n hx hb dX8_hash_41 rfl (lv_at hl 2 rfl) ?_
    refine lv_iconst (v := 1) hx hb dX8_hash_42 (by decide) ?_
    refine lv_icmp_ne (tgt := 51) hx hb dX8_hash_43 (by decide) (fun hc => ?_) (fun hc => ?_)
    · replace h := h.1 hc
      refine lv_iload_n hx hb dX8_hash_51 rfl (lv_at hl 3 rfl) ?_
      exact n_X8_hash_52 rfl C0 t0   h hV (lv_sub hl [1, 2, 0] rfl)
    · replace h := h.2 hc
      refine lv_bipush (v := 64) hx hb dX8_hash_46 (by decide) ?_
      refine lv_goto (tgt := 52) hx hb dX8_hash_48 (by decide) ?_
      exact n_X8_hash_52 rfl C0 t0   h hV (lv_sub hl [1, 2, 0] rfl)
  · replace h := h.2 hc
    refine lv_bipush (v := 32) hx hb dX8_hash_36 (by decide) ?_
    refine lv_goto (tgt := 52) hx hb dX8_hash_38 (by decide) ?_
    exact n_X8_hash_52 rfl C0 t0   h hV (lv_sub hl [1, 2, 0] rfl)
set_option maxHeartbeats 4000000 in
set_option maxRecDepth 100000 in
theorem s_X8_hash (l : Launch) (D : va_G) (X : XT) (ad : Nat → Nat) (n : Nat) (A : Nat → Prop) (J : MJ) (hWT : WT X n J) (x0 : Nat) (t0 : Ty X n x0 9) (x1 : Int32) (x2 : Int32) (I : MI) (L : ML) (q : Int32 → MI → ML → Prop) (h : wp_X8_hash X J x0 x1 x2 I L q) : Met l yX8_hash (wz yX8_hash cX8_hash 5 (some .int)) ({ frames := 6, cells := 0, slots := 0, locals := 139 } : Room) (va_Pc [.ref (ad x0), .int x1, .int x2] (Pr D X ad n A J I L)) (QI D X ad n A J q) 0 0 A := by
  refine Met_go (by decide +kernel) (Nat.le_of_ble_eq_true rfl) (fun p e s m below meth c hx hb hr hml hown hlk hnm hts hK hZ hA hV ls hl => ?_)
  have C0 : Cx p s m meth c cX8_hash (some .int) 5 yX8_hash [.ref (ad x0), .int x1, .int x2] D X ad n A J := ⟨hx, hb, hr, hml, hown, hlk, hnm, hts, hK, hZ, hA, hWT⟩
  unfold wp_X8_hash at h
  have hl : lv_has ls 5 [(0, .ref (ad x0)), (1, .int x1), (2, .int x2)] := hl
  refine lv_iload_n hx hb dX8_hash_0 rfl (lv_at hl 1 rfl) ?_
  refine lv_if_lt (tgt := 25) hx hb dX8_hash_1 (by decide) (fun hc => ?_) (fun hc => ?_)
  · replace h := h.1 hc
    refine lv_iconst (v := (-1)) hx hb dX8_hash_25 (by decide) ?_
    exact m_iret hx hb hr hlk hK hZ hA hV h dX8_hash_26
  · replace h := h.2 hc
    refine lv_iload_n hx hb dX8_hash_4 rfl (lv_at hl 1 rfl) ?_
    refine lv_iconst (v := 3) hx hb dX8_hash_5 (by decide) ?_
    refine lv_icmp_gt (tgt := 25) hx hb dX8_hash_6 (by decide) (fun hc => ?_) (fun hc => ?_)
    · replace h := h.1 hc
      refine lv_iconst (v := (-1)) hx hb dX8_hash_25 (by decide) ?_
      exact m_iret hx hb hr hlk hK hZ hA hV h dX8_hash_26
    · replace h := h.2 hc
      refine lv_iload_n hx hb dX8_hash_9 rfl (lv_at hl 1 rfl) ?_
      refine lv_iconst (v := 1) hx hb dX8_hash_10 (by decide) ?_
      refine lv_icmp_le (tgt := 27) hx hb dX8_hash_11 (by decide) (fun hc => ?_) (fun hc => ?_)
      · replace h := h.1 hc
        exact n_X8_hash_27 rfl C0 t0   h hV (lv_sub hl [0, 1, 2] rfl)
      · replace h := h.2 hc
        refine lv_iload_n hx hb dX8_hash_14 rfl (lv_at hl 2 rfl) ?_
        refine lv_if_lt (tgt := 25) hx hb dX8_hash_15 (by decide) (fun hc => ?_) (fun hc => ?_)
        · replace h := h.1 hc
          refine lv_iconst (v := (-1)) hx hb dX8_hash_25 (by decide) ?_
          exact m_iret hx hb hr hlk hK hZ hA hV h dX8_hash_26
        · replace h := h.2 hc
          refine lv_iload_n hx hb dX8_hash_18 rfl (lv_at hl 2 rfl) ?_
          refine lv_sipush (v := 1000) hx hb dX8_hash_19 (by decide) ?_
          refine lv_icmp_le (tgt := 27) hx hb dX8_hash_22 (by decide) (fun hc => ?_) (fun hc => ?_)
          · replace h := h.1 hc
            exact n_X8_hash_27 rfl C0 t0   h hV (lv_sub hl [0, 1, 2] rfl)
          · replace h := h.2 hc
            refine lv_iconst (v := (-1)) hx hb dX8_hash_25 (by decide) ?_
            exact m_iret hx hb hr hlk hK hZ hA hV h dX8_hash_26
set_option maxHeartbeats 4000000 in
set_option maxRecDepth 100000 in
theorem s_X8_isPol (l : Launch) (D : va_G) (X : XT) (ad : Nat → Nat) (n : Nat) (A : Nat → Prop) (J : MJ) (hWT : WT X n J) (x0 : Int32) (I : MI) (L : ML) (q : Int32 → MI → ML → Prop) (h : wp_X8_isPol X J x0 I L q) : Met l yX8_isPol (wz yX8_isPol cX8_isPol 1 (some .boolean)) ({ frames := 0, cells := 0, slots := 0, locals := 0 } : Room) (va_Pc [.int x0] (Pr D X ad n A J I L)) (QI D X ad n A J q) 0 0 A := by
  refine Met_go (by decide +kernel) (Nat.le_of_ble_eq_true rfl) (fun p e s m below meth c hx hb hr hml hown hlk hnm hts hK hZ hA hV ls hl => ?_)
  have C0 : Cx p s m meth c cX8_isPol (some .boolean) 1 yX8_isPol [.int x0] D X ad n A J := ⟨hx, hb, hr, hml, hown, hlk, hnm, hts, hK, hZ, hA, hWT⟩
  unfold wp_X8_isPol at h
  have hl : lv_has ls 1 [(0, .int x0)] := hl
  refine lv_iload_n hx hb dX8_isPol_0 rfl (lv_at hl 0 rfl) ?_
  refine lv_if_lt (tgt := 13) hx hb dX8_isPol_1 (by decide) (fun hc => ?_) (fun hc => ?_)
  · replace h := h.1 hc
    refine lv_iconst (v := 0) hx hb dX8_isPol_13 (by decide) ?_
    exact m_zret hx hb hr hlk hK hZ hA hV (by decide) h dX8_isPol_14
  · replace h := h.2 hc
    refine lv_iload_n hx hb dX8_isPol_4 rfl (lv_at hl 0 rfl) ?_
    refine lv_iconst (v := 3) hx hb dX8_isPol_5 (by decide) ?_
    refine lv_icmp_gt (tgt := 13) hx hb dX8_isPol_6 (by decide) (fun hc => ?_) (fun hc => ?_)
    · replace h := h.1 hc
      refine lv_iconst (v := 0) hx hb dX8_isPol_13 (by decide) ?_
      exact m_zret hx hb hr hlk hK hZ hA hV (by decide) h dX8_isPol_14
    · replace h := h.2 hc
      refine lv_iconst (v := 1) hx hb dX8_isPol_9 (by decide) ?_
      refine lv_goto (tgt := 14) hx hb dX8_isPol_10 (by decide) ?_
      exact m_zret hx hb hr hlk hK hZ hA hV (by decide) h dX8_isPol_14
set_option maxHeartbeats 4000000 in
set_option maxRecDepth 100000 in
theorem s_X8_put (l : Launch) (D : va_G) (X : XT) (ad : Nat → Nat) (n : Nat) (A : Nat → Prop) (J : MJ) (hWT : WT X n J) (x0 : Nat) (t0 : Ty X n x0 9) (x1 : Int32) (x2 : Int32) (x3 : Int32) (I : MI) (L : ML) (q : Int32 → MI → ML → Prop) (h : wp_X8_put X J x0 x1 x2 x3 I L q) : Met l yX8_put (wz yX8_put cX8_put 4 (some .int)) ({ frames := 1, cells := 0, slots := 0, locals := 22 } : Room) (va_Pc [.ref (ad x0), .int x1, .int x2, .int x3] (Pr D X ad n A J I L)) (QI D X ad n A J q) 0 0 A := by
  refine Met_go (by decide +kernel) (Nat.le_of_ble_eq_true rfl) (fun p e s m below meth c hx hb hr hml hown hlk hnm hts hK hZ hA hV ls hl => ?_)
  have C0 : Cx p s m meth c cX8_put (some .int) 4 yX8_put [.ref (ad x0), .int x1, .int x2, .int x3] D X ad n A J := ⟨hx, hb, hr, hml, hown, hlk, hnm, hts, hK, hZ, hA, hWT⟩
  unfold wp_X8_put at h
  have hl : lv_has ls 4 [(0, .ref (ad x0)), (1, .int x1), (2, .int x2), (3, .int x3)] := hl
  refine lv_iload_n hx hb dX8_put_0 rfl (lv_at hl 1 rfl) ?_
  refine k_calli (va_runS (As := [.int x1]) (rest := []) ⟨hx, hb, hml, hown, hts⟩ (s_X8_isPol l D X ad n A J hWT x1 I L _ h) (va_cwS 1 hts (gS tw_4_110 tw_4_111 tw_1_9 tw_4_112) rfl rfl rfl (by decide +kernel) (by decide)) (k_preS hK hV hA hZ _) rfl rfl hl.1 rfl (lv_room (Nat.le_of_ble_eq_true rfl)) dX8_put_1 ⟨Nat.zero_le _, Nat.zero_le _⟩) hV (fun v_3 I_1 L_2 H locs h hV => ?_)
  refine lv_if_eq (tgt := 18) hx hb dX8_put_4 (by decide) (fun hc => ?_) (fun hc => ?_)
  · replace h := h.1 hc
    refine lv_iconst (v := (-1)) hx hb dX8_put_18 (by decide) ?_
    exact m_iret hx hb hr hlk hK hZ hA hV h dX8_put_19
  · replace h := h.2 hc
    refine lv_iload_n hx hb dX8_put_7 rfl (lv_at hl 2 rfl) ?_
    refine lv_if_lt (tgt := 18) hx hb dX8_put_8 (by decide) (fun hc => ?_) (fun hc => ?_)
    · replace h := h.1 hc
      refine lv_iconst (v := (-1)) hx hb dX8_put_18 (by decide) ?_
      exact m_iret hx hb hr hlk hK hZ hA hV h dX8_put_19
    · replace h := h.2 hc
      refine lv_iload_n hx hb dX8_put_11 rfl (lv_at hl 2 rfl) ?_
      refine lv_sipush (v := 255) hx hb dX8_put_12 (by decide) ?_
      refine lv_icmp_le (tgt := 20) hx hb dX8_put_15 (by decide) (fun hc => ?_) (fun hc => ?_)
      · replace h := h.1 hc
        refine lv_aload_n hx hb dX8_put_20 rfl (lv_at hl 0 rfl) ?_
        obtain ⟨r_4, hr_4, h⟩ := h
        have tr_4 : Ty X n r_4 0 := hWT.r (c := 5) (j := 16) t0 rfl hr_4
        refine m_getr (C := RX8) (T := TX8) (N := 19) (ci := 5) hx hb hts iwX8 hown hK hV t0 rfl 16 (by decide) rfl rfl hr_4 (hts _ tw_3_107) (fun _ h9 => h9) dX8_put_21 ?_
        refine lv_sipush (v := 256) hx hb dX8_put_24 (by decide) ?_
        refine lv_iload_n hx hb dX8_put_27 rfl (lv_at hl 1 rfl) ?_
        refine lv_imul hx hb dX8_put_28 ?_
        refine lv_iload_n hx hb dX8_put_29 rfl (lv_at hl 2 rfl) ?_
        refine lv_iadd hx hb dX8_put_30 ?_
        refine lv_iload_n hx hb dX8_put_31 rfl (lv_at hl 3 rfl) ?_
        refine lv_i2l hx hb dX8_put_32 rfl ?_
        refine k_calli (va_runS (As := [.long x3.toInt64]) (rest := [.int ((256 * x1) + x2), .ref (ad r_4)]) ⟨hx, hb, hml, hown, hts⟩ (s_X8_ring l D X ad n A J hWT x3.toInt64 I_1 L_2 _ h) (va_cwS 1 hts (gS tw_4_7 tw_4_8 tw_1_9 tw_4_9) rfl rfl rfl (by decide +kernel) (by decide)) (k_preS hK hV hA hZ _) rfl rfl hl.1 rfl (lv_room (Nat.le_of_ble_eq_true rfl)) dX8_put_33 ⟨Nat.zero_le _, Nat.zero_le _⟩) hV (fun v_7 I_5 L_6 H locs h hV => ?_)
        obtain ⟨hi_8, h⟩ := h
        refine m_iast hx hb hK hV tr_4 hi_8 dX8_put_36 (fun H locs hV => ?_)
        obtain ⟨I_9, eI_9⟩ : ∃ y, y = ms I_5 r_4 ((256 * x1) + x2).toNatClampNeg v_7 := ⟨_, rfl⟩
        replace hV : Wd D X ad n A s.heap J I_9 L_6 H locs := by rw [eI_9]; exact hV
        replace h := h I_9 eI_9
        refine lv_aload_n hx hb dX8_put_37 rfl (lv_at hl 0 rfl) ?_
        refine m_getr (C := RX8) (T := TX8) (N := 19) (ci := 5) hx hb hts iwX8 hown hK hV t0 rfl 16 (by decide) rfl rfl hr_4 (hts _ tw_3_107) (fun _ h9 => h9) dX8_put_38 ?_
        refine lv_sipush (v := 256) hx hb dX8_put_41 (by decide) ?_
        refine lv_iload_n hx hb dX8_put_44 rfl (lv_at hl 1 rfl) ?_
        refine lv_imul hx hb dX8_put_45 ?_
        refine lv_iload_n hx hb dX8_put_46 rfl (lv_at hl 2 rfl) ?_
        refine lv_iadd hx hb dX8_put_47 ?_
        obtain ⟨hi_10, h⟩ := h
        refine m_iald hx hb hK hV tr_4 hi_10 dX8_put_48 ?_
        exact m_iret hx hb hr hlk hK hZ hA hV h dX8_put_49
      · replace h := h.2 hc
        refine lv_iconst (v := (-1)) hx hb dX8_put_18 (by decide) ?_
        exact m_iret hx hb hr hlk hK hZ hA hV h dX8_put_19
set_option maxHeartbeats 4000000 in
set_option maxRecDepth 100000 in
theorem n_X8_number_18 {p : Program} {l : Launch} {e : Env} {s : State} {m : MethodId} {below : List Frame} {meth : Method} {c : Code} {D : va_G} {X : XT} {ad : Nat → Nat} {n : Nat} {A : Nat → Prop} {J : MJ} {av : List Value} {R : Room} (hR : R = ({ frames := 1, cells := 0, slots := 0, locals := 20 } : Room)) (C0 : Cx p s m meth c cX8_number (some .int) 3 yX8_number av D X ad n A J) {q : Int32 → MI → ML → Prop}    {I : MI} {L : ML} {H : Heap} {locs : List Loc} {ls : Array Slot} (h : wj_X8_number_18 X J q    I L) (hV : Wd D X ad n A s.heap J I L H locs) (hl : lv_has ls 3 []) : W p l e R s m av.toArray below meth c H locs 0 0 (MQ below (QI D X ad n A J q) av.toArray s 0 0 A) (F0 m 18 ls []) := by
  obtain ⟨hx, hb, hr, hml, hown, hlk, hnm, hts, hK, hZ, hA, hWT⟩ := id C0
  subst hR
  unfold wj_X8_number_18 at h
  refine lv_iconst (v := (-1)) hx hb dX8_number_18 (by decide) ?_
  refine lv_goto (tgt := 34) hx hb dX8_number_19 (by decide) ?_
  exact m_iret hx hb hr hlk hK hZ hA hV h dX8_number_34
set_option maxHeartbeats 4000000 in
set_option maxRecDepth 100000 in
theorem s_X8_number (l : Launch) (D : va_G) (X : XT) (ad : Nat → Nat) (n : Nat) (A : Nat → Prop) (J : MJ) (hWT : WT X n J) (x0 : Nat) (t0 : Ty X n x0 9) (x1 : Int32) (x2 : Int32) (I : MI) (L : ML) (q : Int32 → MI → ML → Prop) (h : wp_X8_number X J x0 x1 x2 I L q) : Met l yX8_number (wz yX8_number cX8_number 3 (some .int)) ({ frames := 1, cells := 0, slots := 0, locals := 20 } : Room) (va_Pc [.ref (ad x0), .int x1, .int x2] (Pr D X ad n A J I L)) (QI D X ad n A J q) 0 0 A := by
  refine Met_go (by decide +kernel) (Nat.le_of_ble_eq_true rfl) (fun p e s m below meth c hx hb hr hml hown hlk hnm hts hK hZ hA hV ls hl => ?_)
  have C0 : Cx p s m meth c cX8_number (some .int) 3 yX8_number [.ref (ad x0), .int x1, .int x2] D X ad n A J := ⟨hx, hb, hr, hml, hown, hlk, hnm, hts, hK, hZ, hA, hWT⟩
  unfold wp_X8_number at h
  have hl : lv_has ls 3 [(0, .ref (ad x0)), (1, .int x1), (2, .int x2)] := hl
  refine lv_iload_n hx hb dX8_number_0 rfl (lv_at hl 1 rfl) ?_
  refine k_calli (va_runS (As := [.int x1]) (rest := []) ⟨hx, hb, hml, hown, hts⟩ (s_X8_isPol l D X ad n A J hWT x1 I L _ h) (va_cwS 1 hts (gS tw_4_110 tw_4_111 tw_1_9 tw_4_112) rfl rfl rfl (by decide +kernel) (by decide)) (k_preS hK hV hA hZ _) rfl rfl hl.1 rfl (lv_room (Nat.le_of_ble_eq_true rfl)) dX8_number_1 ⟨Nat.zero_le _, Nat.zero_le _⟩) hV (fun v_3 I_1 L_2 H locs h hV => ?_)
  refine lv_if_eq (tgt := 18) hx hb dX8_number_4 (by decide) (fun hc => ?_) (fun hc => ?_)
  · replace h := h.1 hc
    exact n_X8_number_18 rfl C0    h hV (lv_sub hl [] rfl)
  · replace h := h.2 hc
    refine lv_iload_n hx hb dX8_number_7 rfl (lv_at hl 2 rfl) ?_
    refine lv_if_lt (tgt := 18) hx hb dX8_number_8 (by decide) (fun hc => ?_) (fun hc => ?_)
    · replace h := h.1 hc
      exact n_X8_number_18 rfl C0    h hV (lv_sub hl [] rfl)
    · replace h := h.2 hc
      refine lv_iload_n hx hb dX8_number_11 rfl (lv_at hl 2 rfl) ?_
      refine lv_sipush (v := 255) hx hb dX8_number_12 (by decide) ?_
      refine lv_icmp_le (tgt := 22) hx hb dX8_number_15 (by decide) (fun hc => ?_) (fun hc => ?_)
      · replace h := h.1 hc
        refine lv_aload_n hx hb dX8_number_22 rfl (lv_at hl 0 rfl) ?_
        obtain ⟨r_4, hr_4, h⟩ := h
        have tr_4 : Ty X n r_4 0 := hWT.r (c := 5) (j := 16) t0 rfl hr_4
        refine m_getr (C := RX8) (T := TX8) (N := 19) (ci := 5) hx hb hts iwX8 hown hK hV t0 rfl 16 (by decide) rfl rfl hr_4 (hts _ tw_3_107) (fun _ h9 => h9) dX8_number_23 ?_
        refine lv_sipush (v := 256) hx hb dX8_number_26 (by decide) ?_
        refine lv_iload_n hx hb dX8_number_29 rfl (lv_at hl 1 rfl) ?_
        refine lv_imul hx hb dX8_number_30 ?_
        refine lv_iload_n hx hb dX8_number_31 rfl (lv_at hl 2 rfl) ?_
        refine lv_iadd hx hb dX8_number_32 ?_
        obtain ⟨hi_5, h⟩ := h
        refine m_iald hx hb hK hV tr_4 hi_5 dX8_number_33 ?_
        exact m_iret hx hb hr hlk hK hZ hA hV h dX8_number_34
      · replace h := h.2 hc
        exact n_X8_number_18 rfl C0    h hV (lv_sub hl [] rfl)
set_option maxHeartbeats 4000000 in
set_option maxRecDepth 100000 in
theorem s_X8_forward (l : Launch) (D : va_G) (X : XT) (ad : Nat → Nat) (n : Nat) (A : Nat → Prop) (J : MJ) (hWT : WT X n J) (x0 : Nat) (t0 : Ty X n x0 9) (x1 : Int32) (I : MI) (L : ML) (q : Int32 → MI → ML → Prop) (h : wp_X8_forward X J x0 x1 I L q) : Met l yX8_forward (wz yX8_forward cX8_forward 2 (some .boolean)) ({ frames := 2, cells := 0, slots := 0, locals := 52 } : Room) (va_Pc [.ref (ad x0), .int x1] (Pr D X ad n A J I L)) (QI D X ad n A J q) 0 0 A := by
  refine Met_go (by decide +kernel) (Nat.le_of_ble_eq_true rfl) (fun p e s m below meth c hx hb hr hml hown hlk hnm hts hK hZ hA hV ls hl => ?_)
  have C0 : Cx p s m meth c cX8_forward (some .boolean) 2 yX8_forward [.ref (ad x0), .int x1] D X ad n A J := ⟨hx, hb, hr, hml, hown, hlk, hnm, hts, hK, hZ, hA, hWT⟩
  unfold wp_X8_forward at h
  have hl : lv_has ls 2 [(0, .ref (ad x0)), (1, .int x1)] := hl
  refine lv_iload_n hx hb dX8_forward_0 rfl (lv_at hl 1 rfl) ?_
  refine k_calli (va_runS (As := [.int x1]) (rest := []) ⟨hx, hb, hml, hown, hts⟩ (s_X8_isPol l D X ad n A J hWT x1 I L _ h) (va_cwS 1 hts (gS tw_4_110 tw_4_111 tw_1_9 tw_4_112) rfl rfl rfl (by decide +kernel) (by decide)) (k_preS hK hV hA hZ _) rfl rfl hl.1 rfl (lv_room (Nat.le_of_ble_eq_true rfl)) dX8_forward_1 ⟨Nat.zero_le _, Nat.zero_le _⟩) hV (fun v_3 I_1 L_2 H locs h hV => ?_)
  refine lv_if_ne (tgt := 9) hx hb dX8_forward_4 (by decide) (fun hc => ?_) (fun hc => ?_)
  · replace h := h.1 hc
    refine lv_aload_n hx hb dX8_forward_9 rfl (lv_at hl 0 rfl) ?_
    refine lv_iload_n hx hb dX8_forward_10 rfl (lv_at hl 1 rfl) ?_
    refine k_callv (va_runV (As := [.int x1]) (rest := []) ⟨hx, hb, hml, hown, hts⟩ (s_X8_bringForward l D X ad n A J hWT x0 t0 x1 I_1 L_2 _ h) (cwV 1 hts (gV tw_4_11 tw_4_13 tw_0_29 tw_1_9 tw_4_14) rfl rfl rfl (by decide +kernel) (by decide)) (k_preV (ci := 5) hK hV hA hZ t0 rfl _) rfl rfl hl.1 rfl (lv_room (Nat.le_of_ble_eq_true rfl)) dX8_forward_11 ⟨Nat.zero_le _, Nat.zero_le _⟩) hV (fun I_4 L_5 H locs h hV => ?_)
    refine lv_iconst (v := 1) hx hb dX8_forward_14 (by decide) ?_
    exact m_zret hx hb hr hlk hK hZ hA hV (by decide) h dX8_forward_15
  · replace h := h.2 hc
    refine lv_iconst (v := 0) hx hb dX8_forward_7 (by decide) ?_
    exact m_zret hx hb hr hlk hK hZ hA hV (by decide) h dX8_forward_8
set_option maxHeartbeats 4000000 in
set_option maxRecDepth 100000 in
theorem s_X8_back (l : Launch) (D : va_G) (X : XT) (ad : Nat → Nat) (n : Nat) (A : Nat → Prop) (J : MJ) (hWT : WT X n J) (x0 : Nat) (t0 : Ty X n x0 9) (x1 : Int32) (I : MI) (L : ML) (q : Int32 → MI → ML → Prop) (h : wp_X8_back X J x0 x1 I L q) : Met l yX8_back (wz yX8_back cX8_back 2 (some .boolean)) ({ frames := 2, cells := 0, slots := 0, locals := 52 } : Room) (va_Pc [.ref (ad x0), .int x1] (Pr D X ad n A J I L)) (QI D X ad n A J q) 0 0 A := by
  refine Met_go (by decide +kernel) (Nat.le_of_ble_eq_true rfl) (fun p e s m below meth c hx hb hr hml hown hlk hnm hts hK hZ hA hV ls hl => ?_)
  have C0 : Cx p s m meth c cX8_back (some .boolean) 2 yX8_back [.ref (ad x0), .int x1] D X ad n A J := ⟨hx, hb, hr, hml, hown, hlk, hnm, hts, hK, hZ, hA, hWT⟩
  unfold wp_X8_back at h
  have hl : lv_has ls 2 [(0, .ref (ad x0)), (1, .int x1)] := hl
  refine lv_iload_n hx hb dX8_back_0 rfl (lv_at hl 1 rfl) ?_
  refine k_calli (va_runS (As := [.int x1]) (rest := []) ⟨hx, hb, hml, hown, hts⟩ (s_X8_isPol l D X ad n A J hWT x1 I L _ h) (va_cwS 1 hts (gS tw_4_110 tw_4_111 tw_1_9 tw_4_112) rfl rfl rfl (by decide +kernel) (by decide)) (k_preS hK hV hA hZ _) rfl rfl hl.1 rfl (lv_room (Nat.le_of_ble_eq_true rfl)) dX8_back_1 ⟨Nat.zero_le _, Nat.zero_le _⟩) hV (fun v_3 I_1 L_2 H locs h hV => ?_)
  refine lv_if_ne (tgt := 9) hx hb dX8_back_4 (by decide) (fun hc => ?_) (fun hc => ?_)
  · replace h := h.1 hc
    refine lv_aload_n hx hb dX8_back_9 rfl (lv_at hl 0 rfl) ?_
    refine lv_iload_n hx hb dX8_back_10 rfl (lv_at hl 1 rfl) ?_
    refine k_callv (va_runV (As := [.int x1]) (rest := []) ⟨hx, hb, hml, hown, hts⟩ (s_X8_bringBack l D X ad n A J hWT x0 t0 x1 I_1 L_2 _ h) (cwV 1 hts (gV tw_4_71 tw_4_73 tw_0_42 tw_1_9 tw_4_74) rfl rfl rfl (by decide +kernel) (by decide)) (k_preV (ci := 5) hK hV hA hZ t0 rfl _) rfl rfl hl.1 rfl (lv_room (Nat.le_of_ble_eq_true rfl)) dX8_back_11 ⟨Nat.zero_le _, Nat.zero_le _⟩) hV (fun I_4 L_5 H locs h hV => ?_)
    refine lv_iconst (v := 1) hx hb dX8_back_14 (by decide) ?_
    exact m_zret hx hb hr hlk hK hZ hA hV (by decide) h dX8_back_15
  · replace h := h.2 hc
    refine lv_iconst (v := 0) hx hb dX8_back_7 (by decide) ?_
    exact m_zret hx hb hr hlk hK hZ hA hV (by decide) h dX8_back_8
set_option maxHeartbeats 4000000 in
set_option maxRecDepth 100000 in
theorem s_X8_pairs (l : Launch) (D : va_G) (X : XT) (ad : Nat → Nat) (n : Nat) (A : Nat → Prop) (J : MJ) (hWT : WT X n J) (x0 : Nat) (t0 : Ty X n x0 9) (x1 : Int32) (x2 : Int32) (x3 : Int32) (I : MI) (L : ML) (q : Int32 → MI → ML → Prop) (h : wp_X8_pairs X J x0 x1 x2 x3 I L q) : Met l yX8_pairs (wz yX8_pairs cX8_pairs 4 (some .boolean)) ({ frames := 2, cells := 0, slots := 0, locals := 59 } : Room) (va_Pc [.ref (ad x0), .int x1, .int x2, .int x3] (Pr D X ad n A J I L)) (QI D X ad n A J q) 0 0 A := by
  refine Met_go (by decide +kernel) (Nat.le_of_ble_eq_true rfl) (fun p e s m below meth c hx hb hr hml hown hlk hnm hts hK hZ hA hV ls hl => ?_)
  have C0 : Cx p s m meth c cX8_pairs (some .boolean) 4 yX8_pairs [.ref (ad x0), .int x1, .int x2, .int x3] D X ad n A J := ⟨hx, hb, hr, hml, hown, hlk, hnm, hts, hK, hZ, hA, hWT⟩
  unfold wp_X8_pairs at h
  have hl : lv_has ls 4 [(0, .ref (ad x0)), (1, .int x1), (2, .int x2), (3, .int x3)] := hl
  refine lv_iload_n hx hb dX8_pairs_0 rfl (lv_at hl 1 rfl) ?_
  refine k_calli (va_runS (As := [.int x1]) (rest := []) ⟨hx, hb, hml, hown, hts⟩ (s_X8_isPol l D X ad n A J hWT x1 I L _ h) (va_cwS 1 hts (gS tw_4_110 tw_4_111 tw_1_9 tw_4_112) rfl rfl rfl (by decide +kernel) (by decide)) (k_preS hK hV hA hZ _) rfl rfl hl.1 rfl (lv_room (Nat.le_of_ble_eq_true rfl)) dX8_pairs_1 ⟨Nat.zero_le _, Nat.zero_le _⟩) hV (fun v_3 I_1 L_2 H locs h hV => ?_)
  refine lv_if_eq (tgt := 21) hx hb dX8_pairs_4 (by decide) (fun hc => ?_) (fun hc => ?_)
  · replace h := h.1 hc
    refine lv_iconst (v := 0) hx hb dX8_pairs_21 (by decide) ?_
    exact m_zret hx hb hr hlk hK hZ hA hV (by decide) h dX8_pairs_22
  · replace h := h.2 hc
    refine lv_iload_n hx hb dX8_pairs_7 rfl (lv_at hl 2 rfl) ?_
    refine k_calli (va_runS (As := [.int x2]) (rest := []) ⟨hx, hb, hml, hown, hts⟩ (s_X8_isPol l D X ad n A J hWT x2 I_1 L_2 _ h) (va_cwS 1 hts (gS tw_4_110 tw_4_111 tw_1_9 tw_4_112) rfl rfl rfl (by decide +kernel) (by decide)) (k_preS hK hV hA hZ _) rfl rfl hl.1 rfl (lv_room (Nat.le_of_ble_eq_true rfl)) dX8_pairs_8 ⟨Nat.zero_le _, Nat.zero_le _⟩) hV (fun v_6 I_4 L_5 H locs h hV => ?_)
    refine lv_if_eq (tgt := 21) hx hb dX8_pairs_11 (by decide) (fun hc => ?_) (fun hc => ?_)
    · replace h := h.1 hc
      refine lv_iconst (v := 0) hx hb dX8_pairs_21 (by decide) ?_
      exact m_zret hx hb hr hlk hK hZ hA hV (by decide) h dX8_pairs_22
    · replace h := h.2 hc
      refine lv_iload_n hx hb dX8_pairs_14 rfl (lv_at hl 3 rfl) ?_
      refine k_calli (va_runS (As := [.int x3]) (rest := []) ⟨hx, hb, hml, hown, hts⟩ (s_X8_isPol l D X ad n A J hWT x3 I_4 L_5 _ h) (va_cwS 1 hts (gS tw_4_110 tw_4_111 tw_1_9 tw_4_112) rfl rfl rfl (by decide +kernel) (by decide)) (k_preS hK hV hA hZ _) rfl rfl hl.1 rfl (lv_room (Nat.le_of_ble_eq_true rfl)) dX8_pairs_15 ⟨Nat.zero_le _, Nat.zero_le _⟩) hV (fun v_9 I_7 L_8 H locs h hV => ?_)
      refine lv_if_ne (tgt := 23) hx hb dX8_pairs_18 (by decide) (fun hc => ?_) (fun hc => ?_)
      · replace h := h.1 hc
        refine lv_aload_n hx hb dX8_pairs_23 rfl (lv_at hl 0 rfl) ?_
        refine lv_iload_n hx hb dX8_pairs_24 rfl (lv_at hl 1 rfl) ?_
        refine lv_iload_n hx hb dX8_pairs_25 rfl (lv_at hl 2 rfl) ?_
        refine lv_bipush (v := 17) hx hb dX8_pairs_26 (by decide) ?_
        refine lv_iconst (v := 0) hx hb dX8_pairs_28 (by decide) ?_
        refine k_callv (va_runV (As := [.int x1, .int x2, .int 17, .int 0]) (rest := []) ⟨hx, hb, hml, hown, hts⟩ (s_X8_product l D X ad n A J hWT x0 t0 x1 x2 17 0 I_7 L_8 _ h) (cwV 4 hts (gV tw_4_27 tw_4_29 tw_0_33 tw_1_9 tw_4_30) rfl rfl rfl (by decide +kernel) (by decide)) (k_preV (ci := 5) hK hV hA hZ t0 rfl _) rfl rfl hl.1 rfl (lv_room (Nat.le_of_ble_eq_true rfl)) dX8_pairs_29 ⟨Nat.zero_le _, Nat.zero_le _⟩) hV (fun I_10 L_11 H locs h hV => ?_)
        refine lv_aload_n hx hb dX8_pairs_32 rfl (lv_at hl 0 rfl) ?_
        refine lv_bipush (v := 17) hx hb dX8_pairs_33 (by decide) ?_
        refine lv_iload_n hx hb dX8_pairs_35 rfl (lv_at hl 3 rfl) ?_
        refine k_callv (va_runV (As := [.int 17, .int x3]) (rest := []) ⟨hx, hb, hml, hown, hts⟩ (s_X8_copyPol l D X ad n A J hWT x0 t0 17 x3 I_10 L_11 _ h) (cwV 2 hts (gV tw_4_15 tw_4_17 tw_0_30 tw_1_9 tw_4_18) rfl rfl rfl (by decide +kernel) (by decide)) (k_preV (ci := 5) hK hV hA hZ t0 rfl _) rfl rfl hl.1 rfl (lv_room (Nat.le_of_ble_eq_true rfl)) dX8_pairs_36 ⟨Nat.zero_le _, Nat.zero_le _⟩) hV (fun I_12 L_13 H locs h hV => ?_)
        refine lv_iconst (v := 1) hx hb dX8_pairs_39 (by decide) ?_
        exact m_zret hx hb hr hlk hK hZ hA hV (by decide) h dX8_pairs_40
      · replace h := h.2 hc
        refine lv_iconst (v := 0) hx hb dX8_pairs_21 (by decide) ?_
        exact m_zret hx hb hr hlk hK hZ hA hV (by decide) h dX8_pairs_22
set_option maxHeartbeats 4000000 in
set_option maxRecDepth 100000 in
theorem n_X8_add_26 {p : Program} {l : Launch} {e : Env} {s : State} {m : MethodId} {below : List Frame} {meth : Method} {c : Code} {D : va_G} {X : XT} {ad : Nat → Nat} {n : Nat} {A : Nat → Prop} {J : MJ} {av : List Value} {R : Room} (hR : R = ({ frames := 2, cells := 0, slots := 0, locals := 46 } : Room)) (C0 : Cx p s m meth c cX8_add (some .boolean) 4 yX8_add av D X ad n A J) {q : Int32 → MI → ML → Prop}  {x0 : Nat} {x1 : Int32} {x2 : Int32} {x3 : Int32}  {I : MI} {L : ML} {H : Heap} {locs : List Loc} {ls : Array Slot} (t0 : Ty X n x0 9) (h : wj_X8_add_26 X J q  x0 x1 x2 x3  I L) (hV : Wd D X ad n A s.heap J I L H locs) (hl : lv_has ls 4 [(0, .ref (ad x0)), (1, .int x1), (2, .int x2), (3, .int x3)]) : W p l e R s m av.toArray below meth c H locs 0 0 (MQ below (QI D X ad n A J q) av.toArray s 0 0 A) (F0 m 26 ls []) := by
  obtain ⟨hx, hb, hr, hml, hown, hlk, hnm, hts, hK, hZ, hA, hWT⟩ := id C0
  subst hR
  unfold wj_X8_add_26 at h
  refine lv_aload_n hx hb dX8_add_26 rfl (lv_at hl 0 rfl) ?_
  refine lv_iload_n hx hb dX8_add_27 rfl (lv_at hl 2 rfl) ?_
  refine lv_bipush (v := 17) hx hb dX8_add_28 (by decide) ?_
  refine k_callv (va_runV (As := [.int x2, .int 17]) (rest := []) ⟨hx, hb, hml, hown, hts⟩ (s_X8_copyPol l D X ad n A J hWT x0 t0 x2 17 I L _ h) (cwV 2 hts (gV tw_4_15 tw_4_17 tw_0_30 tw_1_9 tw_4_18) rfl rfl rfl (by decide +kernel) (by decide)) (k_preV (ci := 5) hK hV hA hZ t0 rfl _) rfl rfl hl.1 rfl (lv_room (Nat.le_of_ble_eq_true rfl)) dX8_add_30 ⟨Nat.zero_le _, Nat.zero_le _⟩) hV (fun I_7 L_8 H locs h hV => ?_)
  refine lv_aload_n hx hb dX8_add_33 rfl (lv_at hl 0 rfl) ?_
  refine lv_iload_n hx hb dX8_add_34 rfl (lv_at hl 1 rfl) ?_
  refine lv_bipush (v := 17) hx hb dX8_add_35 (by decide) ?_
  refine lv_iload_n hx hb dX8_add_37 rfl (lv_at hl 3 rfl) ?_
  refine k_callv (va_runV (As := [.int x1, .int 17, .int x3]) (rest := []) ⟨hx, hb, hml, hown, hts⟩ (s_X8_plus l D X ad n A J hWT x0 t0 x1 17 x3 I_7 L_8 _ h) (cwV 3 hts (gV tw_4_76 tw_4_78 tw_0_43 tw_1_9 tw_4_79) rfl rfl rfl (by decide +kernel) (by decide)) (k_preV (ci := 5) hK hV hA hZ t0 rfl _) rfl rfl hl.1 rfl (lv_room (Nat.le_of_ble_eq_true rfl)) dX8_add_38 ⟨Nat.zero_le _, Nat.zero_le _⟩) hV (fun I_9 L_10 H locs h hV => ?_)
  refine lv_iconst (v := 1) hx hb dX8_add_41 (by decide) ?_
  exact m_zret hx hb hr hlk hK hZ hA hV (by decide) h dX8_add_42
set_option maxHeartbeats 4000000 in
set_option maxRecDepth 100000 in
theorem s_X8_add (l : Launch) (D : va_G) (X : XT) (ad : Nat → Nat) (n : Nat) (A : Nat → Prop) (J : MJ) (hWT : WT X n J) (x0 : Nat) (t0 : Ty X n x0 9) (x1 : Int32) (x2 : Int32) (x3 : Int32) (I : MI) (L : ML) (q : Int32 → MI → ML → Prop) (h : wp_X8_add X J x0 x1 x2 x3 I L q) : Met l yX8_add (wz yX8_add cX8_add 4 (some .boolean)) ({ frames := 2, cells := 0, slots := 0, locals := 46 } : Room) (va_Pc [.ref (ad x0), .int x1, .int x2, .int x3] (Pr D X ad n A J I L)) (QI D X ad n A J q) 0 0 A := by
  refine Met_go (by decide +kernel) (Nat.le_of_ble_eq_true rfl) (fun p e s m below meth c hx hb hr hml hown hlk hnm hts hK hZ hA hV ls hl => ?_)
  have C0 : Cx p s m meth c cX8_add (some .boolean) 4 yX8_add [.ref (ad x0), .int x1, .int x2, .int x3] D X ad n A J := ⟨hx, hb, hr, hml, hown, hlk, hnm, hts, hK, hZ, hA, hWT⟩
  unfold wp_X8_add at h
  have hl : lv_has ls 4 [(0, .ref (ad x0)), (1, .int x1), (2, .int x2), (3, .int x3)] := hl
  refine lv_iload_n hx hb dX8_add_0 rfl (lv_at hl 1 rfl) ?_
  refine k_calli (va_runS (As := [.int x1]) (rest := []) ⟨hx, hb, hml, hown, hts⟩ (s_X8_isPol l D X ad n A J hWT x1 I L _ h) (va_cwS 1 hts (gS tw_4_110 tw_4_111 tw_1_9 tw_4_112) rfl rfl rfl (by decide +kernel) (by decide)) (k_preS hK hV hA hZ _) rfl rfl hl.1 rfl (lv_room (Nat.le_of_ble_eq_true rfl)) dX8_add_1 ⟨Nat.zero_le _, Nat.zero_le _⟩) hV (fun v_3 I_1 L_2 H locs h hV => ?_)
  refine lv_if_eq (tgt := 24) hx hb dX8_add_4 (by decide) (fun hc => ?_) (fun hc => ?_)
  · replace h := h.1 hc
    refine lv_iconst (v := 0) hx hb dX8_add_24 (by decide) ?_
    exact m_zret hx hb hr hlk hK hZ hA hV (by decide) h dX8_add_25
  · replace h := h.2 hc
    refine lv_iload_n hx hb dX8_add_7 rfl (lv_at hl 2 rfl) ?_
    refine k_calli (va_runS (As := [.int x2]) (rest := []) ⟨hx, hb, hml, hown, hts⟩ (s_X8_isPol l D X ad n A J hWT x2 I_1 L_2 _ h) (va_cwS 1 hts (gS tw_4_110 tw_4_111 tw_1_9 tw_4_112) rfl rfl rfl (by decide +kernel) (by decide)) (k_preS hK hV hA hZ _) rfl rfl hl.1 rfl (lv_room (Nat.le_of_ble_eq_true rfl)) dX8_add_8 ⟨Nat.zero_le _, Nat.zero_le _⟩) hV (fun v_6 I_4 L_5 H locs h hV => ?_)
    refine lv_if_eq (tgt := 24) hx hb dX8_add_11 (by decide) (fun hc => ?_) (fun hc => ?_)
    · replace h := h.1 hc
      refine lv_iconst (v := 0) hx hb dX8_add_24 (by decide) ?_
      exact m_zret hx hb hr hlk hK hZ hA hV (by decide) h dX8_add_25
    · replace h := h.2 hc
      refine lv_iload_n hx hb dX8_add_14 rfl (lv_at hl 3 rfl) ?_
      refine lv_iconst (v := 1) hx hb dX8_add_15 (by decide) ?_
      refine lv_icmp_eq (tgt := 26) hx hb dX8_add_16 (by decide) (fun hc => ?_) (fun hc => ?_)
      · replace h := h.1 hc
        exact n_X8_add_26 rfl C0 t0   h hV (lv_sub hl [0, 1, 2, 3] rfl)
      · replace h := h.2 hc
        refine lv_iload_n hx hb dX8_add_19 rfl (lv_at hl 3 rfl) ?_
        refine lv_iconst (v := (-1)) hx hb dX8_add_20 (by decide) ?_
        refine lv_icmp_eq (tgt := 26) hx hb dX8_add_21 (by decide) (fun hc => ?_) (fun hc => ?_)
        · replace h := h.1 hc
          exact n_X8_add_26 rfl C0 t0   h hV (lv_sub hl [0, 1, 2, 3] rfl)
        · replace h := h.2 hc
          refine lv_iconst (v := 0) hx hb dX8_add_24 (by decide) ?_
          exact m_zret hx hb hr hlk hK hZ hA hV (by decide) h dX8_add_25
set_option maxHeartbeats 4000000 in
set_option maxRecDepth 100000 in
theorem s_X8_press (l : Launch) (D : va_G) (X : XT) (ad : Nat → Nat) (n : Nat) (A : Nat → Prop) (J : MJ) (hWT : WT X n J) (x0 : Nat) (t0 : Ty X n x0 9) (x1 : Int32) (x2 : Int32) (I : MI) (L : ML) (q : Int32 → MI → ML → Prop) (h : wp_X8_press X J x0 x1 x2 I L q) : Met l yX8_press (wz yX8_press cX8_press 3 (some .boolean)) ({ frames := 1, cells := 0, slots := 0, locals := 25 } : Room) (va_Pc [.ref (ad x0), .int x1, .int x2] (Pr D X ad n A J I L)) (QI D X ad n A J q) 0 0 A := by
  refine Met_go (by decide +kernel) (Nat.le_of_ble_eq_true rfl) (fun p e s m below meth c hx hb hr hml hown hlk hnm hts hK hZ hA hV ls hl => ?_)
  have C0 : Cx p s m meth c cX8_press (some .boolean) 3 yX8_press [.ref (ad x0), .int x1, .int x2] D X ad n A J := ⟨hx, hb, hr, hml, hown, hlk, hnm, hts, hK, hZ, hA, hWT⟩
  unfold wp_X8_press at h
  have hl : lv_has ls 3 [(0, .ref (ad x0)), (1, .int x1), (2, .int x2)] := hl
  refine lv_iload_n hx hb dX8_press_0 rfl (lv_at hl 1 rfl) ?_
  refine k_calli (va_runS (As := [.int x1]) (rest := []) ⟨hx, hb, hml, hown, hts⟩ (s_X8_isPol l D X ad n A J hWT x1 I L _ h) (va_cwS 1 hts (gS tw_4_110 tw_4_111 tw_1_9 tw_4_112) rfl rfl rfl (by decide +kernel) (by decide)) (k_preS hK hV hA hZ _) rfl rfl hl.1 rfl (lv_room (Nat.le_of_ble_eq_true rfl)) dX8_press_1 ⟨Nat.zero_le _, Nat.zero_le _⟩) hV (fun v_3 I_1 L_2 H locs h hV => ?_)
  refine lv_if_eq (tgt := 18) hx hb dX8_press_4 (by decide) (fun hc => ?_) (fun hc => ?_)
  · replace h := h.1 hc
    refine lv_iconst (v := 0) hx hb dX8_press_18 (by decide) ?_
    exact m_zret hx hb hr hlk hK hZ hA hV (by decide) h dX8_press_19
  · replace h := h.2 hc
    refine lv_iload_n hx hb dX8_press_7 rfl (lv_at hl 2 rfl) ?_
    refine lv_iconst (v := 1) hx hb dX8_press_8 (by decide) ?_
    refine lv_icmp_lt (tgt := 18) hx hb dX8_press_9 (by decide) (fun hc => ?_) (fun hc => ?_)
    · replace h := h.1 hc
      refine lv_iconst (v := 0) hx hb dX8_press_18 (by decide) ?_
      exact m_zret hx hb hr hlk hK hZ hA hV (by decide) h dX8_press_19
    · replace h := h.2 hc
      refine lv_iload_n hx hb dX8_press_12 rfl (lv_at hl 2 rfl) ?_
      refine lv_bipush (v := 11) hx hb dX8_press_13 (by decide) ?_
      refine lv_icmp_le (tgt := 20) hx hb dX8_press_15 (by decide) (fun hc => ?_) (fun hc => ?_)
      · replace h := h.1 hc
        refine lv_aload_n hx hb dX8_press_20 rfl (lv_at hl 0 rfl) ?_
        refine lv_iload_n hx hb dX8_press_21 rfl (lv_at hl 1 rfl) ?_
        refine lv_iload_n hx hb dX8_press_22 rfl (lv_at hl 2 rfl) ?_
        refine k_callv (va_runV (As := [.int x1, .int x2]) (rest := []) ⟨hx, hb, hml, hown, hts⟩ (s_X8_pressed l D X ad n A J hWT x0 t0 x1 x2 I_1 L_2 _ h) (cwV 2 hts (gV tw_4_80 tw_4_82 tw_0_44 tw_1_9 tw_4_83) rfl rfl rfl (by decide +kernel) (by decide)) (k_preV (ci := 5) hK hV hA hZ t0 rfl _) rfl rfl hl.1 rfl (lv_room (Nat.le_of_ble_eq_true rfl)) dX8_press_23 ⟨Nat.zero_le _, Nat.zero_le _⟩) hV (fun I_4 L_5 H locs h hV => ?_)
        refine lv_iconst (v := 1) hx hb dX8_press_26 (by decide) ?_
        exact m_zret hx hb hr hlk hK hZ hA hV (by decide) h dX8_press_27
      · replace h := h.2 hc
        refine lv_iconst (v := 0) hx hb dX8_press_18 (by decide) ?_
        exact m_zret hx hb hr hlk hK hZ hA hV (by decide) h dX8_press_19
set_option maxHeartbeats 4000000 in
set_option maxRecDepth 100000 in
theorem s_X8_stretch (l : Launch) (D : va_G) (X : XT) (ad : Nat → Nat) (n : Nat) (A : Nat → Prop) (J : MJ) (hWT : WT X n J) (x0 : Nat) (t0 : Ty X n x0 9) (x1 : Int32) (x2 : Int32) (I : MI) (L : ML) (q : Int32 → MI → ML → Prop) (h : wp_X8_stretch X J x0 x1 x2 I L q) : Met l yX8_stretch (wz yX8_stretch cX8_stretch 3 (some .boolean)) ({ frames := 1, cells := 0, slots := 0, locals := 25 } : Room) (va_Pc [.ref (ad x0), .int x1, .int x2] (Pr D X ad n A J I L)) (QI D X ad n A J q) 0 0 A := by
  refine Met_go (by decide +kernel) (Nat.le_of_ble_eq_true rfl) (fun p e s m below meth c hx hb hr hml hown hlk hnm hts hK hZ hA hV ls hl => ?_)
  have C0 : Cx p s m meth c cX8_stretch (some .boolean) 3 yX8_stretch [.ref (ad x0), .int x1, .int x2] D X ad n A J := ⟨hx, hb, hr, hml, hown, hlk, hnm, hts, hK, hZ, hA, hWT⟩
  unfold wp_X8_stretch at h
  have hl : lv_has ls 3 [(0, .ref (ad x0)), (1, .int x1), (2, .int x2)] := hl
  refine lv_iload_n hx hb dX8_stretch_0 rfl (lv_at hl 1 rfl) ?_
  refine k_calli (va_runS (As := [.int x1]) (rest := []) ⟨hx, hb, hml, hown, hts⟩ (s_X8_isPol l D X ad n A J hWT x1 I L _ h) (va_cwS 1 hts (gS tw_4_110 tw_4_111 tw_1_9 tw_4_112) rfl rfl rfl (by decide +kernel) (by decide)) (k_preS hK hV hA hZ _) rfl rfl hl.1 rfl (lv_room (Nat.le_of_ble_eq_true rfl)) dX8_stretch_1 ⟨Nat.zero_le _, Nat.zero_le _⟩) hV (fun v_3 I_1 L_2 H locs h hV => ?_)
  refine lv_if_eq (tgt := 18) hx hb dX8_stretch_4 (by decide) (fun hc => ?_) (fun hc => ?_)
  · replace h := h.1 hc
    refine lv_iconst (v := 0) hx hb dX8_stretch_18 (by decide) ?_
    exact m_zret hx hb hr hlk hK hZ hA hV (by decide) h dX8_stretch_19
  · replace h := h.2 hc
    refine lv_iload_n hx hb dX8_stretch_7 rfl (lv_at hl 2 rfl) ?_
    refine lv_iconst (v := 1) hx hb dX8_stretch_8 (by decide) ?_
    refine lv_icmp_lt (tgt := 18) hx hb dX8_stretch_9 (by decide) (fun hc => ?_) (fun hc => ?_)
    · replace h := h.1 hc
      refine lv_iconst (v := 0) hx hb dX8_stretch_18 (by decide) ?_
      exact m_zret hx hb hr hlk hK hZ hA hV (by decide) h dX8_stretch_19
    · replace h := h.2 hc
      refine lv_iload_n hx hb dX8_stretch_12 rfl (lv_at hl 2 rfl) ?_
      refine lv_bipush (v := 11) hx hb dX8_stretch_13 (by decide) ?_
      refine lv_icmp_le (tgt := 20) hx hb dX8_stretch_15 (by decide) (fun hc => ?_) (fun hc => ?_)
      · replace h := h.1 hc
        refine lv_aload_n hx hb dX8_stretch_20 rfl (lv_at hl 0 rfl) ?_
        refine lv_iload_n hx hb dX8_stretch_21 rfl (lv_at hl 1 rfl) ?_
        refine lv_iload_n hx hb dX8_stretch_22 rfl (lv_at hl 2 rfl) ?_
        refine k_callv (va_runV (As := [.int x1, .int x2]) (rest := []) ⟨hx, hb, hml, hown, hts⟩ (s_X8_stretched l D X ad n A J hWT x0 t0 x1 x2 I_1 L_2 _ h) (cwV 2 hts (gV tw_4_90 tw_4_92 tw_0_46 tw_1_9 tw_4_93) rfl rfl rfl (by decide +kernel) (by decide)) (k_preV (ci := 5) hK hV hA hZ t0 rfl _) rfl rfl hl.1 rfl (lv_room (Nat.le_of_ble_eq_true rfl)) dX8_stretch_23 ⟨Nat.zero_le _, Nat.zero_le _⟩) hV (fun I_4 L_5 H locs h hV => ?_)
        refine lv_iconst (v := 1) hx hb dX8_stretch_26 (by decide) ?_
        exact m_zret hx hb hr hlk hK hZ hA hV (by decide) h dX8_stretch_27
      · replace h := h.2 hc
        refine lv_iconst (v := 0) hx hb dX8_stretch_18 (by decide) ?_
        exact m_zret hx hb hr hlk hK hZ hA hV (by decide) h dX8_stretch_19
set_option maxHeartbeats 4000000 in
set_option maxRecDepth 100000 in
theorem s_X8_encode (l : Launch) (D : va_G) (X : XT) (ad : Nat → Nat) (n : Nat) (A : Nat → Prop) (J : MJ) (hWT : WT X n J) (x0 : Nat) (t0 : Ty X n x0 9) (x1 : Int32) (x2 : Int32) (I : MI) (L : ML) (q : Int32 → MI → ML → Prop) (h : wp_X8_encode X J x0 x1 x2 I L q) : Met l yX8_encode (wz yX8_encode cX8_encode 3 (some .int)) ({ frames := 1, cells := 0, slots := 0, locals := 25 } : Room) (va_Pc [.ref (ad x0), .int x1, .int x2] (Pr D X ad n A J I L)) (QI D X ad n A J q) 0 0 A := by
  refine Met_go (by decide +kernel) (Nat.le_of_ble_eq_true rfl) (fun p e s m below meth c hx hb hr hml hown hlk hnm hts hK hZ hA hV ls hl => ?_)
  have C0 : Cx p s m meth c cX8_encode (some .int) 3 yX8_encode [.ref (ad x0), .int x1, .int x2] D X ad n A J := ⟨hx, hb, hr, hml, hown, hlk, hnm, hts, hK, hZ, hA, hWT⟩
  unfold wp_X8_encode at h
  have hl : lv_has ls 3 [(0, .ref (ad x0)), (1, .int x1), (2, .int x2)] := hl
  refine lv_iload_n hx hb dX8_encode_0 rfl (lv_at hl 1 rfl) ?_
  refine k_calli (va_runS (As := [.int x1]) (rest := []) ⟨hx, hb, hml, hown, hts⟩ (s_X8_isPol l D X ad n A J hWT x1 I L _ h) (va_cwS 1 hts (gS tw_4_110 tw_4_111 tw_1_9 tw_4_112) rfl rfl rfl (by decide +kernel) (by decide)) (k_preS hK hV hA hZ _) rfl rfl hl.1 rfl (lv_room (Nat.le_of_ble_eq_true rfl)) dX8_encode_1 ⟨Nat.zero_le _, Nat.zero_le _⟩) hV (fun v_3 I_1 L_2 H locs h hV => ?_)
  refine lv_if_eq (tgt := 18) hx hb dX8_encode_4 (by decide) (fun hc => ?_) (fun hc => ?_)
  · replace h := h.1 hc
    refine lv_iconst (v := (-1)) hx hb dX8_encode_18 (by decide) ?_
    exact m_iret hx hb hr hlk hK hZ hA hV h dX8_encode_19
  · replace h := h.2 hc
    refine lv_iload_n hx hb dX8_encode_7 rfl (lv_at hl 2 rfl) ?_
    refine lv_iconst (v := 1) hx hb dX8_encode_8 (by decide) ?_
    refine lv_icmp_lt (tgt := 18) hx hb dX8_encode_9 (by decide) (fun hc => ?_) (fun hc => ?_)
    · replace h := h.1 hc
      refine lv_iconst (v := (-1)) hx hb dX8_encode_18 (by decide) ?_
      exact m_iret hx hb hr hlk hK hZ hA hV h dX8_encode_19
    · replace h := h.2 hc
      refine lv_iload_n hx hb dX8_encode_12 rfl (lv_at hl 2 rfl) ?_
      refine lv_bipush (v := 12) hx hb dX8_encode_13 (by decide) ?_
      refine lv_icmp_le (tgt := 20) hx hb dX8_encode_15 (by decide) (fun hc => ?_) (fun hc => ?_)
      · replace h := h.1 hc
        refine lv_aload_n hx hb dX8_encode_20 rfl (lv_at hl 0 rfl) ?_
        refine lv_iload_n hx hb dX8_encode_21 rfl (lv_at hl 1 rfl) ?_
        refine lv_iload_n hx hb dX8_encode_22 rfl (lv_at hl 2 rfl) ?_
        refine lv_sipush (v := 10336) hx hb dX8_encode_23 (by decide) ?_
        refine k_callv (va_runV (As := [.int x1, .int x2, .int 10336]) (rest := []) ⟨hx, hb, hml, hown, hts⟩ (s_X8_written l D X ad n A J hWT x0 t0 x1 x2 10336 I_1 L_2 _ h) (cwV 3 hts (gV tw_4_31 tw_4_33 tw_0_34 tw_1_9 tw_4_34) rfl rfl rfl (by decide +kernel) (by decide)) (k_preV (ci := 5) hK hV hA hZ t0 rfl _) rfl rfl hl.1 rfl (lv_room (Nat.le_of_ble_eq_true rfl)) dX8_encode_26 ⟨Nat.zero_le _, Nat.zero_le _⟩) hV (fun I_4 L_5 H locs h hV => ?_)
        refine lv_aload_n hx hb dX8_encode_29 rfl (lv_at hl 0 rfl) ?_
        refine lv_bipush (v := 32) hx hb dX8_encode_30 (by decide) ?_
        refine lv_iload_n hx hb dX8_encode_32 rfl (lv_at hl 2 rfl) ?_
        refine lv_imul hx hb dX8_encode_33 ?_
        refine m_puti (C := RX8) (T := TX8) (N := 19) (ci := 5) (ty := .int) hx hb hts iwX8 hown hK hV tyX8 tyX8_ok nmX8 t0 rfl 6 (by decide) rfl rfl (hts _ tw_3_97) (fun _ h9 => h9) rfl (by decide +kernel) rfl rfl dX8_encode_34 (fun H locs hV => ?_)
        obtain ⟨I_6, eI_6⟩ : ∃ y, y = ms I_4 x0 6 (32 * x2) := ⟨_, rfl⟩
        replace hV : Wd D X ad n A s.heap J I_6 L_5 H locs := by rw [eI_6]; exact hV
        replace h := h I_6 eI_6
        refine lv_aload_n hx hb dX8_encode_37 rfl (lv_at hl 0 rfl) ?_
        refine m_geti (C := RX8) (T := TX8) (N := 19) (ci := 5) hx hb hts iwX8 hown hK hV t0 rfl 6 (by decide) rfl rfl (hts _ tw_3_97) (fun _ h9 => h9) dX8_encode_38 ?_
        exact m_iret hx hb hr hlk hK hZ hA hV h dX8_encode_41
      · replace h := h.2 hc
        refine lv_iconst (v := (-1)) hx hb dX8_encode_18 (by decide) ?_
        exact m_iret hx hb hr hlk hK hZ hA hV h dX8_encode_19
set_option maxHeartbeats 4000000 in
set_option maxRecDepth 100000 in
theorem s_X8_decode (l : Launch) (D : va_G) (X : XT) (ad : Nat → Nat) (n : Nat) (A : Nat → Prop) (J : MJ) (hWT : WT X n J) (x0 : Nat) (t0 : Ty X n x0 9) (x1 : Int32) (x2 : Int32) (I : MI) (L : ML) (q : Int32 → MI → ML → Prop) (h : wp_X8_decode X J x0 x1 x2 I L q) : Met l yX8_decode (wz yX8_decode cX8_decode 3 (some .int)) ({ frames := 3, cells := 0, slots := 0, locals := 71 } : Room) (va_Pc [.ref (ad x0), .int x1, .int x2] (Pr D X ad n A J I L)) (QI D X ad n A J q) 0 0 A := by
  refine Met_go (by decide +kernel) (Nat.le_of_ble_eq_true rfl) (fun p e s m below meth c hx hb hr hml hown hlk hnm hts hK hZ hA hV ls hl => ?_)
  have C0 : Cx p s m meth c cX8_decode (some .int) 3 yX8_decode [.ref (ad x0), .int x1, .int x2] D X ad n A J := ⟨hx, hb, hr, hml, hown, hlk, hnm, hts, hK, hZ, hA, hWT⟩
  unfold wp_X8_decode at h
  have hl : lv_has ls 3 [(0, .ref (ad x0)), (1, .int x1), (2, .int x2)] := hl
  refine lv_iload_n hx hb dX8_decode_0 rfl (lv_at hl 1 rfl) ?_
  refine k_calli (va_runS (As := [.int x1]) (rest := []) ⟨hx, hb, hml, hown, hts⟩ (s_X8_isPol l D X ad n A J hWT x1 I L _ h) (va_cwS 1 hts (gS tw_4_110 tw_4_111 tw_1_9 tw_4_112) rfl rfl rfl (by decide +kernel) (by decide)) (k_preS hK hV hA hZ _) rfl rfl hl.1 rfl (lv_room (Nat.le_of_ble_eq_true rfl)) dX8_decode_1 ⟨Nat.zero_le _, Nat.zero_le _⟩) hV (fun v_3 I_1 L_2 H locs h hV => ?_)
  refine lv_if_eq (tgt := 18) hx hb dX8_decode_4 (by decide) (fun hc => ?_) (fun hc => ?_)
  · replace h := h.1 hc
    refine lv_iconst (v := (-1)) hx hb dX8_decode_18 (by decide) ?_
    exact m_iret hx hb hr hlk hK hZ hA hV h dX8_decode_19
  · replace h := h.2 hc
    refine lv_iload_n hx hb dX8_decode_7 rfl (lv_at hl 2 rfl) ?_
    refine lv_iconst (v := 1) hx hb dX8_decode_8 (by decide) ?_
    refine lv_icmp_lt (tgt := 18) hx hb dX8_decode_9 (by decide) (fun hc => ?_) (fun hc => ?_)
    · replace h := h.1 hc
      refine lv_iconst (v := (-1)) hx hb dX8_decode_18 (by decide) ?_
      exact m_iret hx hb hr hlk hK hZ hA hV h dX8_decode_19
    · replace h := h.2 hc
      refine lv_iload_n hx hb dX8_decode_12 rfl (lv_at hl 2 rfl) ?_
      refine lv_bipush (v := 12) hx hb dX8_decode_13 (by decide) ?_
      refine lv_icmp_le (tgt := 20) hx hb dX8_decode_15 (by decide) (fun hc => ?_) (fun hc => ?_)
      · replace h := h.1 hc
        refine lv_aload_n hx hb dX8_decode_20 rfl (lv_at hl 0 rfl) ?_
        refine k_calli (va_runV (As := []) (rest := []) ⟨hx, hb, hml, hown, hts⟩ (s_X8_used l D X ad n A J hWT x0 t0 I_1 L_2 _ h) (cwV 0 hts (gV tw_3_199 tw_3_201 tw_0_17 tw_1_9 tw_3_202) rfl rfl rfl (by decide +kernel) (by decide)) (k_preV (ci := 5) hK hV hA hZ t0 rfl _) rfl rfl hl.1 rfl (lv_room (Nat.le_of_ble_eq_true rfl)) dX8_decode_21 ⟨Nat.zero_le _, Nat.zero_le _⟩) hV (fun v_6 I_4 L_5 H locs h hV => ?_)
        refine lv_bipush (v := 32) hx hb dX8_decode_24 (by decide) ?_
        refine lv_iload_n hx hb dX8_decode_26 rfl (lv_at hl 2 rfl) ?_
        refine lv_imul hx hb dX8_decode_27 ?_
        refine lv_icmp_eq (tgt := 33) hx hb dX8_decode_28 (by decide) (fun hc => ?_) (fun hc => ?_)
        · replace h := h.1 hc
          refine lv_aload_n hx hb dX8_decode_33 rfl (lv_at hl 0 rfl) ?_
          refine lv_iload_n hx hb dX8_decode_34 rfl (lv_at hl 1 rfl) ?_
          refine lv_iload_n hx hb dX8_decode_35 rfl (lv_at hl 2 rfl) ?_
          refine lv_iconst (v := 0) hx hb dX8_decode_36 (by decide) ?_
          refine k_callv (va_runV (As := [.int x1, .int x2, .int 0]) (rest := []) ⟨hx, hb, hml, hown, hts⟩ (s_X8_readPol l D X ad n A J hWT x0 t0 x1 x2 0 I_4 L_5 _ h) (cwV 3 hts (gV tw_4_86 tw_4_88 tw_0_45 tw_1_9 tw_4_89) rfl rfl rfl (by decide +kernel) (by decide)) (k_preV (ci := 5) hK hV hA hZ t0 rfl _) rfl rfl hl.1 rfl (lv_room (Nat.le_of_ble_eq_true rfl)) dX8_decode_37 ⟨Nat.zero_le _, Nat.zero_le _⟩) hV (fun I_7 L_8 H locs h hV => ?_)
          refine lv_sipush (v := 256) hx hb dX8_decode_40 (by decide) ?_
          exact m_iret hx hb hr hlk hK hZ hA hV h dX8_decode_43
        · replace h := h.2 hc
          refine lv_iconst (v := (-1)) hx hb dX8_decode_31 (by decide) ?_
          exact m_iret hx hb hr hlk hK hZ hA hV h dX8_decode_32
      · replace h := h.2 hc
        refine lv_iconst (v := (-1)) hx hb dX8_decode_18 (by decide) ?_
        exact m_iret hx hb hr hlk hK hZ hA hV h dX8_decode_19
set_option maxHeartbeats 4000000 in
set_option maxRecDepth 100000 in
theorem s_X8_sample (l : Launch) (D : va_G) (X : XT) (ad : Nat → Nat) (n : Nat) (A : Nat → Prop) (J : MJ) (hWT : WT X n J) (x0 : Nat) (t0 : Ty X n x0 9) (x1 : Int32) (x2 : Int32) (x3 : Int32) (I : MI) (L : ML) (q : Int32 → MI → ML → Prop) (h : wp_X8_sample X J x0 x1 x2 x3 I L q) : Met l yX8_sample (wz yX8_sample cX8_sample 5 (some .int)) ({ frames := 8, cells := 0, slots := 0, locals := 191 } : Room) (va_Pc [.ref (ad x0), .int x1, .int x2, .int x3] (Pr D X ad n A J I L)) (QI D X ad n A J q) 0 0 A := by
  refine Met_go (by decide +kernel) (Nat.le_of_ble_eq_true rfl) (fun p e s m below meth c hx hb hr hml hown hlk hnm hts hK hZ hA hV ls hl => ?_)
  have C0 : Cx p s m meth c cX8_sample (some .int) 5 yX8_sample [.ref (ad x0), .int x1, .int x2, .int x3] D X ad n A J := ⟨hx, hb, hr, hml, hown, hlk, hnm, hts, hK, hZ, hA, hWT⟩
  unfold wp_X8_sample at h
  have hl : lv_has ls 5 [(0, .ref (ad x0)), (1, .int x1), (2, .int x2), (3, .int x3)] := hl
  refine lv_iload_n hx hb dX8_sample_0 rfl (lv_at hl 1 rfl) ?_
  refine k_calli (va_runS (As := [.int x1]) (rest := []) ⟨hx, hb, hml, hown, hts⟩ (s_X8_isPol l D X ad n A J hWT x1 I L _ h) (va_cwS 1 hts (gS tw_4_110 tw_4_111 tw_1_9 tw_4_112) rfl rfl rfl (by decide +kernel) (by decide)) (k_preS hK hV hA hZ _) rfl rfl hl.1 rfl (lv_room (Nat.le_of_ble_eq_true rfl)) dX8_sample_1 ⟨Nat.zero_le _, Nat.zero_le _⟩) hV (fun v_3 I_1 L_2 H locs h hV => ?_)
  refine lv_if_ne (tgt := 9) hx hb dX8_sample_4 (by decide) (fun hc => ?_) (fun hc => ?_)
  · replace h := h.1 hc
    refine lv_aload_n hx hb dX8_sample_9 rfl (lv_at hl 0 rfl) ?_
    refine k_calli (va_runV (As := []) (rest := []) ⟨hx, hb, hml, hown, hts⟩ (s_X8_used l D X ad n A J hWT x0 t0 I_1 L_2 _ h) (cwV 0 hts (gV tw_3_199 tw_3_201 tw_0_17 tw_1_9 tw_3_202) rfl rfl rfl (by decide +kernel) (by decide)) (k_preV (ci := 5) hK hV hA hZ t0 rfl _) rfl rfl hl.1 rfl (lv_room (Nat.le_of_ble_eq_true rfl)) dX8_sample_10 ⟨Nat.zero_le _, Nat.zero_le _⟩) hV (fun v_6 I_4 L_5 H locs h hV => ?_)
    refine lv_bipush (v := 32) hx hb dX8_sample_13 (by decide) ?_
    refine lv_icmp_eq (tgt := 20) hx hb dX8_sample_15 (by decide) (fun hc => ?_) (fun hc => ?_)
    · replace h := h.1 hc
      refine lv_aload_n hx hb dX8_sample_20 rfl (lv_at hl 0 rfl) ?_
      refine lv_iconst (v := 0) hx hb dX8_sample_21 (by decide) ?_
      refine lv_iload_n hx hb dX8_sample_22 rfl (lv_at hl 3 rfl) ?_
      refine lv_iload_n hx hb dX8_sample_23 rfl (lv_at hl 2 rfl) ?_
      refine lv_iload_n hx hb dX8_sample_24 rfl (lv_at hl 1 rfl) ?_
      refine k_calli (va_runV (As := [.int 0, .int x3, .int x2, .int x1]) (rest := []) ⟨hx, hb, hml, hown, hts⟩ (s_X8_matrix l D X ad n A J hWT x0 t0 0 x3 x2 x1 I_4 L_5 _ h) (cwV 4 hts (gV tw_4_19 tw_4_21 tw_0_31 tw_1_9 tw_4_22) rfl rfl rfl (by decide +kernel) (by decide)) (k_preV (ci := 5) hK hV hA hZ t0 rfl _) rfl rfl hl.1 rfl (lv_room (Nat.le_of_ble_eq_true rfl)) dX8_sample_25 ⟨Nat.zero_le _, Nat.zero_le _⟩) hV (fun v_9 I_7 L_8 H locs h hV => ?_)
      refine lv_istore (lv' := [(4, .int v_9), (0, .ref (ad x0)), (1, .int x1), (2, .int x2), (3, .int x3)]) hx hb dX8_sample_28 hl (by decide) rfl (fun ls hl => ?_)
      refine lv_iload hx hb dX8_sample_30 (lv_at hl 0 rfl) ?_
      refine lv_iconst (v := (-1)) hx hb dX8_sample_32 (by decide) ?_
      refine lv_icmp_ne (tgt := 41) hx hb dX8_sample_33 (by decide) (fun hc => ?_) (fun hc => ?_)
      · replace h := h.1 hc
        refine lv_iload hx hb dX8_sample_41 (lv_at hl 0 rfl) ?_
        exact m_iret hx hb hr hlk hK hZ hA hV h dX8_sample_43
      · replace h := h.2 hc
        refine lv_bipush (v := (-2)) hx hb dX8_sample_36 (by decide) ?_
        refine lv_goto (tgt := 43) hx hb dX8_sample_38 (by decide) ?_
        exact m_iret hx hb hr hlk hK hZ hA hV h dX8_sample_43
    · replace h := h.2 hc
      refine lv_iconst (v := (-1)) hx hb dX8_sample_18 (by decide) ?_
      exact m_iret hx hb hr hlk hK hZ hA hV h dX8_sample_19
  · replace h := h.2 hc
    refine lv_iconst (v := (-1)) hx hb dX8_sample_7 (by decide) ?_
    exact m_iret hx hb hr hlk hK hZ hA hV h dX8_sample_8
set_option maxHeartbeats 4000000 in
set_option maxRecDepth 100000 in
theorem n_X8_noise_19 {p : Program} {l : Launch} {e : Env} {s : State} {m : MethodId} {below : List Frame} {meth : Method} {c : Code} {D : va_G} {X : XT} {ad : Nat → Nat} {n : Nat} {A : Nat → Prop} {J : MJ} {av : List Value} {R : Room} (hR : R = ({ frames := 7, cells := 0, slots := 0, locals := 168 } : Room)) (C0 : Cx p s m meth c cX8_noise (some .int) 4 yX8_noise av D X ad n A J) {q : Int32 → MI → ML → Prop}  {x0 : Nat} {x1 : Int32} {x2 : Int32} {x3 : Int32}  {I : MI} {L : ML} {H : Heap} {locs : List Loc} {ls : Array Slot} (t0 : Ty X n x0 9) (h : wj_X8_noise_19 X J q  x0 x1 x2 x3  I L) (hV : Wd D X ad n A s.heap J I L H locs) (hl : lv_has ls 4 [(0, .ref (ad x0)), (1, .int x1), (2, .int x2), (3, .int x3)]) : W p l e R s m av.toArray below meth c H locs 0 0 (MQ below (QI D X ad n A J q) av.toArray s 0 0 A) (F0 m 19 ls []) := by
  obtain ⟨hx, hb, hr, hml, hown, hlk, hnm, hts, hK, hZ, hA, hWT⟩ := id C0
  subst hR
  unfold wj_X8_noise_19 at h
  refine lv_aload_n hx hb dX8_noise_19 rfl (lv_at hl 0 rfl) ?_
  refine k_calli (va_runV (As := []) (rest := []) ⟨hx, hb, hml, hown, hts⟩ (s_X8_used l D X ad n A J hWT x0 t0 I L _ h) (cwV 0 hts (gV tw_3_199 tw_3_201 tw_0_17 tw_1_9 tw_3_202) rfl rfl rfl (by decide +kernel) (by decide)) (k_preV (ci := 5) hK hV hA hZ t0 rfl _) rfl rfl hl.1 rfl (lv_room (Nat.le_of_ble_eq_true rfl)) dX8_noise_20 ⟨Nat.zero_le _, Nat.zero_le _⟩) hV (fun v_6 I_4 L_5 H locs h hV => ?_)
  refine lv_bipush (v := 32) hx hb dX8_noise_23 (by decide) ?_
  refine lv_icmp_eq (tgt := 30) hx hb dX8_noise_25 (by decide) (fun hc => ?_) (fun hc => ?_)
  · replace h := h.1 hc
    refine lv_aload_n hx hb dX8_noise_30 rfl (lv_at hl 0 rfl) ?_
    refine lv_iconst (v := 0) hx hb dX8_noise_31 (by decide) ?_
    refine lv_iload_n hx hb dX8_noise_32 rfl (lv_at hl 3 rfl) ?_
    refine lv_iload_n hx hb dX8_noise_33 rfl (lv_at hl 2 rfl) ?_
    refine lv_iload_n hx hb dX8_noise_34 rfl (lv_at hl 1 rfl) ?_
    refine k_callv (va_runV (As := [.int 0, .int x3, .int x2, .int x1]) (rest := []) ⟨hx, hb, hml, hown, hts⟩ (s_X8_noised l D X ad n A J hWT x0 t0 0 x3 x2 x1 I_4 L_5 _ h) (cwV 4 hts (gV tw_4_3 tw_4_5 tw_0_28 tw_1_9 tw_4_6) rfl rfl rfl (by decide +kernel) (by decide)) (k_preV (ci := 5) hK hV hA hZ t0 rfl _) rfl rfl hl.1 rfl (lv_room (Nat.le_of_ble_eq_true rfl)) dX8_noise_35 ⟨Nat.zero_le _, Nat.zero_le _⟩) hV (fun I_7 L_8 H locs h hV => ?_)
    refine lv_sipush (v := 256) hx hb dX8_noise_38 (by decide) ?_
    exact m_iret hx hb hr hlk hK hZ hA hV h dX8_noise_41
  · replace h := h.2 hc
    refine lv_iconst (v := (-1)) hx hb dX8_noise_28 (by decide) ?_
    exact m_iret hx hb hr hlk hK hZ hA hV h dX8_noise_29
set_option maxHeartbeats 4000000 in
set_option maxRecDepth 100000 in
theorem s_X8_noise (l : Launch) (D : va_G) (X : XT) (ad : Nat → Nat) (n : Nat) (A : Nat → Prop) (J : MJ) (hWT : WT X n J) (x0 : Nat) (t0 : Ty X n x0 9) (x1 : Int32) (x2 : Int32) (x3 : Int32) (I : MI) (L : ML) (q : Int32 → MI → ML → Prop) (h : wp_X8_noise X J x0 x1 x2 x3 I L q) : Met l yX8_noise (wz yX8_noise cX8_noise 4 (some .int)) ({ frames := 7, cells := 0, slots := 0, locals := 168 } : Room) (va_Pc [.ref (ad x0), .int x1, .int x2, .int x3] (Pr D X ad n A J I L)) (QI D X ad n A J q) 0 0 A := by
  refine Met_go (by decide +kernel) (Nat.le_of_ble_eq_true rfl) (fun p e s m below meth c hx hb hr hml hown hlk hnm hts hK hZ hA hV ls hl => ?_)
  have C0 : Cx p s m meth c cX8_noise (some .int) 4 yX8_noise [.ref (ad x0), .int x1, .int x2, .int x3] D X ad n A J := ⟨hx, hb, hr, hml, hown, hlk, hnm, hts, hK, hZ, hA, hWT⟩
  unfold wp_X8_noise at h
  have hl : lv_has ls 4 [(0, .ref (ad x0)), (1, .int x1), (2, .int x2), (3, .int x3)] := hl
  refine lv_iload_n hx hb dX8_noise_0 rfl (lv_at hl 1 rfl) ?_
  refine k_calli (va_runS (As := [.int x1]) (rest := []) ⟨hx, hb, hml, hown, hts⟩ (s_X8_isPol l D X ad n A J hWT x1 I L _ h) (va_cwS 1 hts (gS tw_4_110 tw_4_111 tw_1_9 tw_4_112) rfl rfl rfl (by decide +kernel) (by decide)) (k_preS hK hV hA hZ _) rfl rfl hl.1 rfl (lv_room (Nat.le_of_ble_eq_true rfl)) dX8_noise_1 ⟨Nat.zero_le _, Nat.zero_le _⟩) hV (fun v_3 I_1 L_2 H locs h hV => ?_)
  refine lv_if_eq (tgt := 17) hx hb dX8_noise_4 (by decide) (fun hc => ?_) (fun hc => ?_)
  · replace h := h.1 hc
    refine lv_iconst (v := (-1)) hx hb dX8_noise_17 (by decide) ?_
    exact m_iret hx hb hr hlk hK hZ hA hV h dX8_noise_18
  · replace h := h.2 hc
    refine lv_iload_n hx hb dX8_noise_7 rfl (lv_at hl 2 rfl) ?_
    refine lv_iconst (v := 2) hx hb dX8_noise_8 (by decide) ?_
    refine lv_icmp_eq (tgt := 19) hx hb dX8_noise_9 (by decide) (fun hc => ?_) (fun hc => ?_)
    · replace h := h.1 hc
      exact n_X8_noise_19 rfl C0 t0   h hV (lv_sub hl [0, 1, 2, 3] rfl)
    · replace h := h.2 hc
      refine lv_iload_n hx hb dX8_noise_12 rfl (lv_at hl 2 rfl) ?_
      refine lv_iconst (v := 3) hx hb dX8_noise_13 (by decide) ?_
      refine lv_icmp_eq (tgt := 19) hx hb dX8_noise_14 (by decide) (fun hc => ?_) (fun hc => ?_)
      · replace h := h.1 hc
        exact n_X8_noise_19 rfl C0 t0   h hV (lv_sub hl [0, 1, 2, 3] rfl)
      · replace h := h.2 hc
        refine lv_iconst (v := (-1)) hx hb dX8_noise_17 (by decide) ?_
        exact m_iret hx hb hr hlk hK hZ hA hV h dX8_noise_18
