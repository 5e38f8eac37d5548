theorem tw_1_71 : Cond.fieldLink RX5 9 "LatticeVault$Sampler" "sponge" "LLatticeVault$Sponge;" ∈ gt := g1 71 (by decide +kernel) (by decide +kernel)
theorem tw_2_66 : Cond.methodLink RX5 15 yX6_begin ∈ gt := g2 66 (by decide +kernel) (by decide +kernel)
theorem tw_2_7 : Cond.instanceMethod yX6_begin ∈ gt := g2 7 (by decide +kernel) (by decide +kernel)
theorem tw_2_8 : Cond.selects RX6 yX6_begin yX6_begin ∈ gt := g2 8 (by decide +kernel) (by decide +kernel)
theorem tw_2_9 : Cond.code yX6_begin cX6_begin 2 none ∈ gt := g2 9 rfl (by rfl)
theorem tw_2_67 : Cond.methodLink RX5 21 yX6_absorb ∈ gt := g2 67 (by decide +kernel) (by decide +kernel)
theorem tw_2_16 : Cond.instanceMethod yX6_absorb ∈ gt := g2 16 (by decide +kernel) (by decide +kernel)
theorem tw_2_17 : Cond.selects RX6 yX6_absorb yX6_absorb ∈ gt := g2 17 (by decide +kernel) (by decide +kernel)
theorem tw_2_18 : Cond.code yX6_absorb cX6_absorb 5 none ∈ gt := g2 18 rfl (by rfl)
theorem tw_2_68 : Cond.methodLink RX5 25 yX6_absorbByte ∈ gt := g2 68 (by decide +kernel) (by decide +kernel)
theorem tw_2_69 : Cond.methodLink RX5 28 yX6_finish ∈ gt := g2 69 (by decide +kernel) (by decide +kernel)
theorem tw_2_45 : Cond.instanceMethod yX6_finish ∈ gt := g2 45 (by decide +kernel) (by decide +kernel)
theorem tw_2_46 : Cond.selects RX6 yX6_finish yX6_finish ∈ gt := g2 46 (by decide +kernel) (by decide +kernel)
theorem tw_2_47 : Cond.code yX6_finish cX6_finish 1 none ∈ gt := g2 47 rfl (by rfl)
theorem tw_2_70 : Cond.methodLink RX5 31 yX6_tellByte ∈ gt := g2 70 (by decide +kernel) (by decide +kernel)
theorem tw_2_93 : Cond.methodLink RX5 35 yX0_firstGroup ∈ gt := g2 93 (by decide +kernel) (by decide +kernel)
theorem tw_2_96 : Cond.methodLink RX5 41 yX5_keepIfSmall ∈ gt := g2 96 (by decide +kernel) (by decide +kernel)
theorem tw_2_97 : Cond.static yX5_keepIfSmall ∈ gt := g2 97 (by decide +kernel) (by decide +kernel)
theorem tw_1_5 : Cond.initialized RX5 ∈ gt := g1 5 (by decide +kernel) (by decide +kernel)
theorem tw_2_98 : Cond.code yX5_keepIfSmall cX5_keepIfSmall 3 (some .int) ∈ gt := g2 98 rfl (by rfl)
theorem tw_2_99 : Cond.methodLink RX5 45 yX0_secondGroup ∈ gt := g2 99 (by decide +kernel) (by decide +kernel)
theorem tw_2_71 : Cond.methodLink RX5 48 yJ6_bitCount_0f7a4 ∈ gt := g2 71 (by decide +kernel) (by decide +kernel)
theorem tw_2_72 : Cond.static yJ6_bitCount_0f7a4 ∈ gt := g2 72 (by decide +kernel) (by decide +kernel)
theorem tw_1_12 : Cond.initialized RJ6 ∈ gt := g1 12 (by decide +kernel) (by decide +kernel)
theorem tw_2_73 : Cond.code yJ6_bitCount_0f7a4 cJ6_bitCount_0f7a4 1 (some .int) ∈ gt := g2 73 rfl (by rfl)
def wp_X5_keepIfSmall (X : XT) (J : MJ) (x0 : Nat) (x1 : Int32) (x2 : Int32) (I : MI) (L : ML) (q : Int32 → MI → ML → Prop) : Prop := (((3329 ≤ x2) → q x1 I L) ∧ (¬ (3329 ≤ x2) → (((x1 < 256) → (vp_in x1 (sl X x0) ∧ ∀ I_2, I_2 = ms I x0 x1.toNatClampNeg x2 → q (x1 + 1) I_2 L)) ∧ (¬ (x1 < 256) → q x1 I L))))
def wl_X5_drawUniform_50 (X : XT) (J : MJ) (q : Int32 → MI → ML → Prop)  (x0 : Nat) (x1 : Nat) (x6 : Int32) : Nat → Int32 → Int32 → MI → ML → Prop
  | 0 => fun _ _ _ _ => False
  | fu + 1 => fun x7 x8 I L => (((x6 < x8) → q (-2) I L) ∧ (¬ (x6 < x8) → (∃ r_12 : Nat, J x0 0 = some r_12 ∧ (wp_X6_tellByte X J r_12 I L (fun v_15 I_13 L_14 => (wp_X6_tellByte X J r_12 I_13 L_14 (fun v_18 I_16 L_17 => (wp_X6_tellByte X J r_12 I_16 L_17 (fun v_21 I_19 L_20 => (wp_X0_firstGroup X J v_15 v_18 I_19 L_20 (fun v_24 I_22 L_23 => (wp_X5_keepIfSmall X J x1 x7 v_24 I_22 L_23 (fun v_27 I_25 L_26 => (wp_X0_secondGroup X J v_18 v_21 I_25 L_26 (fun v_30 I_28 L_29 => (wp_X5_keepIfSmall X J x1 v_27 v_30 I_28 L_29 (fun v_33 I_31 L_32 => ((¬ (v_33 = 256) → (∀ x8_34 : Int32, x8_34 = x8 + 1 → wl_X5_drawUniform_50 X J q  x0 x1 x6 fu v_33 x8_34 I_31 L_32)) ∧ ((v_33 = 256) → q x8 I_31 L_32)))))))))))))))))))
def wp_X5_drawUniform (X : XT) (J : MJ) (x0 : Nat) (x1 : Nat) (x2 : Nat) (x3 : Int32) (x4 : Int32) (x5 : Int32) (x6 : Int32) (I : MI) (L : ML) (q : Int32 → MI → ML → Prop) : Prop := (∃ r_1 : Nat, J x0 0 = some r_1 ∧ (wp_X6_begin X J r_1 2 I L (fun I_2 L_3 => (wp_X6_absorb X J r_1 x2 x3 32 I_2 L_3 (fun I_4 L_5 => (wp_X6_absorbByte X J r_1 x4 I_4 L_5 (fun I_6 L_7 => (wp_X6_absorbByte X J r_1 x5 I_6 L_7 (fun I_8 L_9 => (wp_X6_finish X J r_1 I_8 L_9 (fun I_10 L_11 => ∃ fu0 : Nat, wl_X5_drawUniform_50 X J q  x0 x1 x6 fu0 0 1 I_10 L_11)))))))))))
def wl_X5_drawNoise_60 (X : XT) (J : MJ) (q : MI → ML → Prop) (k52 : Int32 → Int32 → Int32 → MI → ML → Prop) (x0 : Nat) (x1 : Nat) (x4 : Int32) (x6 : Int32) (x9 : Int32) : Nat → Int32 → Int32 → MI → ML → Prop
  | 0 => fun _ _ _ _ => False
  | fu + 1 => fun x7 x8 I L => ((((2 * x4) ≤ x8) → (wp_J6_bitCount_0f7a4 X J (x7 &&& x6) I L (fun v_13 I_11 L_12 => (wp_J6_bitCount_0f7a4 X J ((jshr x7 x4) &&& x6) I_11 L_12 (fun v_16 I_14 L_15 => (vp_in x9 (sl X x1) ∧ ∀ I_18, I_18 = ms I_14 x1 x9.toNatClampNeg (jrem ((v_13 - v_16) + 3329) 3329) → (∀ x7_19 : Int32, x7_19 = jushr x7 (2 * x4) → (∀ x8_20 : Int32, x8_20 = x8 - (2 * x4) → (∀ x9_21 : Int32, x9_21 = x9 + 1 → k52 x7_19 x8_20 x9_21 I_18 L_15))))))))) ∧ (¬ ((2 * x4) ≤ x8) → (∃ r_22 : Nat, J x0 0 = some r_22 ∧ (wp_X6_tellByte X J r_22 I L (fun v_25 I_23 L_24 => (∀ x7_26 : Int32, x7_26 = x7 ||| (jshl v_25 x8) → (∀ x8_27 : Int32, x8_27 = x8 + 8 → wl_X5_drawNoise_60 X J q k52 x0 x1 x4 x6 x9 fu x7_26 x8_27 I_23 L_24)))))))
def wl_X5_drawNoise_52 (X : XT) (J : MJ) (q : MI → ML → Prop)  (x0 : Nat) (x1 : Nat) (x4 : Int32) (x6 : Int32) : Nat → Int32 → Int32 → Int32 → MI → ML → Prop
  | 0 => fun _ _ _ _ _ => False
  | fu + 1 => fun x7 x8 x9 I L => (((256 ≤ x9) → q I L) ∧ (¬ (256 ≤ x9) → ∃ fu0 : Nat, wl_X5_drawNoise_60 X J q (wl_X5_drawNoise_52 X J q  x0 x1 x4 x6 fu) x0 x1 x4 x6 x9 fu0 x7 x8 I L))
def wp_X5_drawNoise (X : XT) (J : MJ) (x0 : Nat) (x1 : Nat) (x2 : Nat) (x3 : Int32) (x4 : Int32) (x5 : Int32) (I : MI) (L : ML) (q : MI → ML → Prop) : Prop := (∃ r_1 : Nat, J x0 0 = some r_1 ∧ (wp_X6_begin X J r_1 3 I L (fun I_2 L_3 => (wp_X6_absorb X J r_1 x2 x3 32 I_2 L_3 (fun I_4 L_5 => (wp_X6_absorbByte X J r_1 x5 I_4 L_5 (fun I_6 L_7 => (wp_X6_finish X J r_1 I_6 L_7 (fun I_8 L_9 => (∀ x6_10 : Int32, x6_10 = (jshl 1 x4) - 1 → ∃ fu0 : Nat, wl_X5_drawNoise_52 X J q  x0 x1 x4 x6_10 fu0 0 0 0 I_8 L_9))))))))))
set_option maxHeartbeats 4000000 in
set_option maxRecDepth 100000 in
theorem s_X5_keepIfSmall (l : Launch) (D : va_G) (X : XT) (ad : Nat → Nat) (n : Nat) (A : Nat → Prop) (J : MJ) (hWT : WT X n J) (x0 : Nat) (t0 : Ty X n x0 0) (x1 : Int32) (x2 : Int32) (I : MI) (L : ML) (q : Int32 → MI → ML → Prop) (h : wp_X5_keepIfSmall X J x0 x1 x2 I L q) : Met l yX5_keepIfSmall (wz yX5_keepIfSmall cX5_keepIfSmall 3 (some .int)) ({ frames := 0, cells := 0, slots := 0, locals := 0 } : Room) (va_Pc [.ref (ad x0), .int x1, .int x2] (Pr D X ad n A J I L)) (QI D X ad n A J q) 0 0 A := by
  refine Met_go (by decide +kernel) (Nat.le_of_ble_eq_true rfl) (fun p e s m below meth c hx hb hr hml hown hlk hnm hts hK hZ hA hV ls hl => ?_)
  have C0 : Cx p s m meth c cX5_keepIfSmall (some .int) 3 yX5_keepIfSmall [.ref (ad x0), .int x1, .int x2] D X ad n A J := ⟨hx, hb, hr, hml, hown, hlk, hnm, hts, hK, hZ, hA, hWT⟩
  unfold wp_X5_keepIfSmall at h
  have hl : lv_has ls 3 [(0, .ref (ad x0)), (1, .int x1), (2, .int x2)] := hl
  refine lv_iload_n hx hb dX5_keepIfSmall_0 rfl (lv_at hl 2 rfl) ?_
  refine lv_sipush (v := 3329) hx hb dX5_keepIfSmall_1 (by decide) ?_
  refine lv_icmp_ge (tgt := 14) hx hb dX5_keepIfSmall_4 (by decide) (fun hc => ?_) (fun hc => ?_)
  · replace h := h.1 hc
    refine lv_iload_n hx hb dX5_keepIfSmall_14 rfl (lv_at hl 1 rfl) ?_
    exact m_iret hx hb hr hlk hK hZ hA hV h dX5_keepIfSmall_15
  · replace h := h.2 hc
    refine lv_iload_n hx hb dX5_keepIfSmall_7 rfl (lv_at hl 1 rfl) ?_
    refine lv_sipush (v := 256) hx hb dX5_keepIfSmall_8 (by decide) ?_
    refine lv_icmp_lt (tgt := 16) hx hb dX5_keepIfSmall_11 (by decide) (fun hc => ?_) (fun hc => ?_)
    · replace h := h.1 hc
      refine lv_aload_n hx hb dX5_keepIfSmall_16 rfl (lv_at hl 0 rfl) ?_
      refine lv_iload_n hx hb dX5_keepIfSmall_17 rfl (lv_at hl 1 rfl) ?_
      refine lv_iload_n hx hb dX5_keepIfSmall_18 rfl (lv_at hl 2 rfl) ?_
      obtain ⟨hi_1, h⟩ := h
      refine m_iast hx hb hK hV t0 hi_1 dX5_keepIfSmall_19 (fun H locs hV => ?_)
      obtain ⟨I_2, eI_2⟩ : ∃ y, y = ms I x0 x1.toNatClampNeg x2 := ⟨_, rfl⟩
      replace hV : Wd D X ad n A s.heap J I_2 L H locs := by rw [eI_2]; exact hV
      replace h := h I_2 eI_2
      refine lv_iload_n hx hb dX5_keepIfSmall_20 rfl (lv_at hl 1 rfl) ?_
      refine lv_iconst (v := 1) hx hb dX5_keepIfSmall_21 (by decide) ?_
      refine lv_iadd hx hb dX5_keepIfSmall_22 ?_
      exact m_iret hx hb hr hlk hK hZ hA hV h dX5_keepIfSmall_23
    · replace h := h.2 hc
      refine lv_iload_n hx hb dX5_keepIfSmall_14 rfl (lv_at hl 1 rfl) ?_
      exact m_iret hx hb hr hlk hK hZ hA hV h dX5_keepIfSmall_15
set_option maxHeartbeats 4000000 in
set_option maxRecDepth 100000 in
theorem n_X5_drawUniform_50 {p : Program} {l : Launch} {e : Env} {s : State} {m : MethodId} {below : List Frame} {meth : Method} {c : Code} {D : va_G} {X : XT} {ad : Nat → Nat} {n : Nat} {A : Nat → Prop} {J : MJ} {av : List Value} {R : Room} (hR : R = ({ frames := 3, cells := 0, slots := 0, locals := 100 } : Room)) (C0 : Cx p s m meth c cX5_drawUniform (some .int) 12 yX5_drawUniform av D X ad n A J) {q : Int32 → MI → ML → Prop}  {x0 : Nat} {x1 : Nat} {x6 : Int32} (t0 : Ty X n x0 6) (t1 : Ty X n x1 0) : ∀ (fu : Nat) (x7 : Int32) (x8 : Int32) (I : MI) (L : ML) (H : Heap) (locs : List Loc) (ls : Array Slot), wl_X5_drawUniform_50 X J q  x0 x1 x6 fu x7 x8 I L → Wd D X ad n A s.heap J I L H locs → lv_has ls 12 [(0, .ref (ad x0)), (1, .ref (ad x1)), (6, .int x6), (7, .int x7), (8, .int x8)] → W p l e R s m av.toArray below meth c H locs 0 0 (MQ below (QI D X ad n A J q) av.toArray s 0 0 A) (F0 m 50 ls []) := by
  obtain ⟨hx, hb, hr, hml, hown, hlk, hnm, hts, hK, hZ, hA, hWT⟩ := id C0
  subst hR
  intro fu
  induction fu with
  | zero => intro x7 x8 I L H locs ls h; exact absurd h (fun h => h)
  | succ fu ih =>
    intro x7 x8 I L H locs ls h hV hl
    refine lv_iload hx hb dX5_drawUniform_50 (lv_at hl 4 rfl) ?_
    refine lv_iload hx hb dX5_drawUniform_52 (lv_at hl 2 rfl) ?_
    refine lv_icmp_gt (tgt := 131) hx hb dX5_drawUniform_54 (by decide) (fun hc => ?_) (fun hc => ?_)
    · replace h := h.1 hc
      refine lv_bipush (v := (-2)) hx hb dX5_drawUniform_131 (by decide) ?_
      exact m_iret hx hb hr hlk hK hZ hA hV h dX5_drawUniform_133
    · replace h := h.2 hc
      refine lv_aload_n hx hb dX5_drawUniform_57 rfl (lv_at hl 0 rfl) ?_
      obtain ⟨r_12, hr_12, h⟩ := h
      have tr_12 : Ty X n r_12 7 := hWT.r (c := 2) (j := 0) t0 rfl hr_12
      refine m_getr (C := RX5) (T := TX5) (N := 1) (ci := 2) hx hb hts iwX5 hown hK hV t0 rfl 0 (by decide) rfl rfl hr_12 (hts _ tw_1_71) (fun _ h9 => h9) dX5_drawUniform_58 ?_
      refine k_calli (va_runV (As := []) (rest := []) ⟨hx, hb, hml, hown, hts⟩ (s_X6_tellByte l D X ad n A J hWT r_12 tr_12 I L _ h) (cwV 0 hts (gV tw_2_70 tw_2_54 tw_2_55 tw_1_4 tw_2_56) rfl rfl rfl (by decide +kernel) (by decide)) (k_preV (ci := 3) hK hV hA hZ tr_12 rfl _) rfl rfl hl.1 rfl (lv_room (Nat.le_of_ble_eq_true rfl)) dX5_drawUniform_61 ⟨Nat.zero_le _, Nat.zero_le _⟩) hV (fun v_15 I_13 L_14 H locs h hV => ?_)
      refine lv_istore (lv' := [(9, .int v_15), (0, .ref (ad x0)), (1, .ref (ad x1)), (6, .int x6), (7, .int x7), (8, .int x8)]) hx hb dX5_drawUniform_64 hl (by decide) rfl (fun ls hl => ?_)
      refine lv_aload_n hx hb dX5_drawUniform_66 rfl (lv_at hl 1 rfl) ?_
      refine m_getr (C := RX5) (T := TX5) (N := 1) (ci := 2) hx hb hts iwX5 hown hK hV t0 rfl 0 (by decide) rfl rfl hr_12 (hts _ tw_1_71) (fun _ h9 => h9) dX5_drawUniform_67 ?_
      refine k_calli (va_runV (As := []) (rest := []) ⟨hx, hb, hml, hown, hts⟩ (s_X6_tellByte l D X ad n A J hWT r_12 tr_12 I_13 L_14 _ h) (cwV 0 hts (gV tw_2_70 tw_2_54 tw_2_55 tw_1_4 tw_2_56) rfl rfl rfl (by decide +kernel) (by decide)) (k_preV (ci := 3) hK hV hA hZ tr_12 rfl _) rfl rfl hl.1 rfl (lv_room (Nat.le_of_ble_eq_true rfl)) dX5_drawUniform_70 ⟨Nat.zero_le _, Nat.zero_le _⟩) hV (fun v_18 I_16 L_17 H locs h hV => ?_)
      refine lv_istore (lv' := [(10, .int v_18), (9, .int v_15), (0, .ref (ad x0)), (1, .ref (ad x1)), (6, .int x6), (7, .int x7), (8, .int x8)]) hx hb dX5_drawUniform_73 hl (by decide) rfl (fun ls hl => ?_)
      refine lv_aload_n hx hb dX5_drawUniform_75 rfl (lv_at hl 2 rfl) ?_
      refine m_getr (C := RX5) (T := TX5) (N := 1) (ci := 2) hx hb hts iwX5 hown hK hV t0 rfl 0 (by decide) rfl rfl hr_12 (hts _ tw_1_71) (fun _ h9 => h9) dX5_drawUniform_76 ?_
      refine k_calli (va_runV (As := []) (rest := []) ⟨hx, hb, hml, hown, hts⟩ (s_X6_tellByte l D X ad n A J hWT r_12 tr_12 I_16 L_17 _ h) (cwV 0 hts (gV tw_2_70 tw_2_54 tw_2_55 tw_1_4 tw_2_56) rfl rfl rfl (by decide +kernel) (by decide)) (k_preV (ci := 3) hK hV hA hZ tr_12 rfl _) rfl rfl hl.1 rfl (lv_room (Nat.le_of_ble_eq_true rfl)) dX5_drawUniform_79 ⟨Nat.zero_le _, Nat.zero_le _⟩) hV (fun v_21 I_19 L_20 H locs h hV => ?_)
      refine lv_istore (lv' := [(11, .int v_21), (10, .int v_18), (9, .int v_15), (0, .ref (ad x0)), (1, .ref (ad x1)), (6, .int x6), (7, .int x7), (8, .int x8)]) hx hb dX5_drawUniform_82 hl (by decide) rfl (fun ls hl => ?_)
      refine lv_aload_n hx hb dX5_drawUniform_84 rfl (lv_at hl 4 rfl) ?_
      refine lv_iload hx hb dX5_drawUniform_85 (lv_at hl 6 rfl) ?_
      refine lv_iload hx hb dX5_drawUniform_87 (lv_at hl 2 rfl) ?_
      refine lv_iload hx hb dX5_drawUniform_89 (lv_at hl 1 rfl) ?_
      refine k_calli (va_runS (As := [.int v_15, .int v_18]) (rest := [.int x7, .ref (ad x1)]) ⟨hx, hb, hml, hown, hts⟩ (s_X0_firstGroup l D X ad n A J hWT v_15 v_18 I_19 L_20 _ h) (va_cwS 2 hts (gS tw_2_93 tw_2_94 tw_1_14 tw_2_95) rfl rfl rfl (by decide +kernel) (by decide)) (k_preS hK hV hA hZ _) rfl rfl hl.1 rfl (lv_room (Nat.le_of_ble_eq_true rfl)) dX5_drawUniform_91 ⟨Nat.zero_le _, Nat.zero_le _⟩) hV (fun v_24 I_22 L_23 H locs h hV => ?_)
      refine k_calli (va_runS (As := [.ref (ad x1), .int x7, .int v_24]) (rest := []) ⟨hx, hb, hml, hown, hts⟩ (s_X5_keepIfSmall l D X ad n A J hWT x1 t1 x7 v_24 I_22 L_23 _ h) (va_cwS 3 hts (gS tw_2_96 tw_2_97 tw_1_5 tw_2_98) rfl rfl rfl (by decide +kernel) (by decide)) (k_preS hK hV hA hZ _) rfl rfl hl.1 rfl (lv_room (Nat.le_of_ble_eq_true rfl)) dX5_drawUniform_94 ⟨Nat.zero_le _, Nat.zero_le _⟩) hV (fun v_27 I_25 L_26 H locs h hV => ?_)
      refine lv_istore (lv' := [(7, .int v_27), (11, .int v_21), (10, .int v_18), (9, .int v_15), (0, .ref (ad x0)), (1, .ref (ad x1)), (6, .int x6), (8, .int x8)]) hx hb dX5_drawUniform_97 hl (by decide) rfl (fun ls hl => ?_)
      refine lv_aload_n hx hb dX5_drawUniform_99 rfl (lv_at hl 5 rfl) ?_
      refine lv_iload hx hb dX5_drawUniform_100 (lv_at hl 0 rfl) ?_
      refine lv_iload hx hb dX5_drawUniform_102 (lv_at hl 2 rfl) ?_
      refine lv_iload hx hb dX5_drawUniform_104 (lv_at hl 1 rfl) ?_
      refine k_calli (va_runS (As := [.int v_18, .int v_21]) (rest := [.int v_27, .ref (ad x1)]) ⟨hx, hb, hml, hown, hts⟩ (s_X0_secondGroup l D X ad n A J hWT v_18 v_21 I_25 L_26 _ h) (va_cwS 2 hts (gS tw_2_99 tw_2_100 tw_1_14 tw_2_101) rfl rfl rfl (by decide +kernel) (by decide)) (k_preS hK hV hA hZ _) rfl rfl hl.1 rfl (lv_room (Nat.le_of_ble_eq_true rfl)) dX5_drawUniform_106 ⟨Nat.zero_le _, Nat.zero_le _⟩) hV (fun v_30 I_28 L_29 H locs h hV => ?_)
      refine k_calli (va_runS (As := [.ref (ad x1), .int v_27, .int v_30]) (rest := []) ⟨hx, hb, hml, hown, hts⟩ (s_X5_keepIfSmall l D X ad n A J hWT x1 t1 v_27 v_30 I_28 L_29 _ h) (va_cwS 3 hts (gS tw_2_96 tw_2_97 tw_1_5 tw_2_98) rfl rfl rfl (by decide +kernel) (by decide)) (k_preS hK hV hA hZ _) rfl rfl hl.1 rfl (lv_room (Nat.le_of_ble_eq_true rfl)) dX5_drawUniform_109 ⟨Nat.zero_le _, Nat.zero_le _⟩) hV (fun v_33 I_31 L_32 H locs h hV => ?_)
      refine lv_istore (lv' := [(7, .int v_33), (11, .int v_21), (10, .int v_18), (9, .int v_15), (0, .ref (ad x0)), (1, .ref (ad x1)), (6, .int x6), (8, .int x8)]) hx hb dX5_drawUniform_112 hl (by decide) rfl (fun ls hl => ?_)
      refine lv_iload hx hb dX5_drawUniform_114 (lv_at hl 0 rfl) ?_
      refine lv_sipush (v := 256) hx hb dX5_drawUniform_116 (by decide) ?_
      refine lv_icmp_ne (tgt := 125) hx hb dX5_drawUniform_119 (by decide) (fun hc => ?_) (fun hc => ?_)
      · replace h := h.1 hc
        obtain ⟨x8_34, ex8_34⟩ : ∃ y : Int32, y = x8 + 1 := ⟨_, rfl⟩
        replace h := h x8_34 ex8_34
        refine lv_iinc (v := x8_34) (lv' := [(8, .int x8_34), (7, .int v_33), (11, .int v_21), (10, .int v_18), (9, .int v_15), (0, .ref (ad x0)), (1, .ref (ad x1)), (6, .int x6)]) hx hb dX5_drawUniform_125 hl (k := 7) rfl (by rw [ex8_34]; rfl) (by decide) rfl (fun ls hl => ?_)
        refine lv_goto (tgt := 50) hx hb dX5_drawUniform_128 (by decide) ?_
        exact ih v_33 x8_34 _ _ _ _ _ h hV (lv_sub hl [5, 6, 7, 1, 0] rfl)
      · replace h := h.2 hc
        refine lv_iload hx hb dX5_drawUniform_122 (lv_at hl 7 rfl) ?_
        exact m_iret hx hb hr hlk hK hZ hA hV h dX5_drawUniform_124
set_option maxHeartbeats 4000000 in
set_option maxRecDepth 100000 in
theorem s_X5_drawUniform (l : Launch) (D : va_G) (X : XT) (ad : Nat → Nat) (n : Nat) (A : Nat → Prop) (J : MJ) (hWT : WT X n J) (x0 : Nat) (t0 : Ty X n x0 6) (x1 : Nat) (t1 : Ty X n x1 0) (x2 : Nat) (t2 : Ty X n x2 5) (x3 : Int32) (x4 : Int32) (x5 : Int32) (x6 : Int32) (I : MI) (L : ML) (q : Int32 → MI → ML → Prop) (h : wp_X5_drawUniform X J x0 x1 x2 x3 x4 x5 x6 I L q) : Met l yX5_drawUniform (wz yX5_drawUniform cX5_drawUniform 12 (some .int)) ({ frames := 3, cells := 0, slots := 0, locals := 100 } : Room) (va_Pc [.ref (ad x0), .ref (ad x1), .ref (ad x2), .int x3, .int x4, .int x5, .int x6] (Pr D X ad n A J I L)) (QI D X ad n A J q) 0 0 A := by
  refine Met_go (by decide +kernel) (Nat.le_of_ble_eq_true rfl) (fun p e s m below meth c hx hb hr hml hown hlk hnm hts hK hZ hA hV ls hl => ?_)
  have C0 : Cx p s m meth c cX5_drawUniform (some .int) 12 yX5_drawUniform [.ref (ad x0), .ref (ad x1), .ref (ad x2), .int x3, .int x4, .int x5, .int x6] D X ad n A J := ⟨hx, hb, hr, hml, hown, hlk, hnm, hts, hK, hZ, hA, hWT⟩
  unfold wp_X5_drawUniform at h
  have hl : lv_has ls 12 [(0, .ref (ad x0)), (1, .ref (ad x1)), (2, .ref (ad x2)), (3, .int x3), (4, .int x4), (5, .int x5), (6, .int x6)] := hl
  refine lv_aload_n hx hb dX5_drawUniform_0 rfl (lv_at hl 0 rfl) ?_
  obtain ⟨r_1, hr_1, h⟩ := h
  have tr_1 : Ty X n r_1 7 := hWT.r (c := 2) (j := 0) t0 rfl hr_1
  refine m_getr (C := RX5) (T := TX5) (N := 1) (ci := 2) hx hb hts iwX5 hown hK hV t0 rfl 0 (by decide) rfl rfl hr_1 (hts _ tw_1_71) (fun _ h9 => h9) dX5_drawUniform_1 ?_
  refine lv_iconst (v := 2) hx hb dX5_drawUniform_4 (by decide) ?_
  refine k_callv (va_runV (As := [.int 2]) (rest := []) ⟨hx, hb, hml, hown, hts⟩ (s_X6_begin l D X ad n A J hWT r_1 tr_1 2 I L _ h) (cwV 1 hts (gV tw_2_66 tw_2_7 tw_2_8 tw_1_4 tw_2_9) rfl rfl rfl (by decide +kernel) (by decide)) (k_preV (ci := 3) hK hV hA hZ tr_1 rfl _) rfl rfl hl.1 rfl (lv_room (Nat.le_of_ble_eq_true rfl)) dX5_drawUniform_5 ⟨Nat.zero_le _, Nat.zero_le _⟩) hV (fun I_2 L_3 H locs h hV => ?_)
  refine lv_aload_n hx hb dX5_drawUniform_8 rfl (lv_at hl 0 rfl) ?_
  refine m_getr (C := RX5) (T := TX5) (N := 1) (ci := 2) hx hb hts iwX5 hown hK hV t0 rfl 0 (by decide) rfl rfl hr_1 (hts _ tw_1_71) (fun _ h9 => h9) dX5_drawUniform_9 ?_
  refine lv_aload_n hx hb dX5_drawUniform_12 rfl (lv_at hl 2 rfl) ?_
  refine lv_iload_n hx hb dX5_drawUniform_13 rfl (lv_at hl 3 rfl) ?_
  refine lv_bipush (v := 32) hx hb dX5_drawUniform_14 (by decide) ?_
  refine k_callv (va_runV (As := [.ref (ad x2), .int x3, .int 32]) (rest := []) ⟨hx, hb, hml, hown, hts⟩ (s_X6_absorb l D X ad n A J hWT r_1 tr_1 x2 t2 x3 32 I_2 L_3 _ h) (cwV 3 hts (gV tw_2_67 tw_2_16 tw_2_17 tw_1_4 tw_2_18) rfl rfl rfl (by decide +kernel) (by decide)) (k_preV (ci := 3) hK hV hA hZ tr_1 rfl _) rfl rfl hl.1 rfl (lv_room (Nat.le_of_ble_eq_true rfl)) dX5_drawUniform_16 ⟨Nat.zero_le _, Nat.zero_le _⟩) hV (fun I_4 L_5 H locs h hV => ?_)
  refine lv_aload_n hx hb dX5_drawUniform_19 rfl (lv_at hl 0 rfl) ?_
  refine m_getr (C := RX5) (T := TX5) (N := 1) (ci := 2) hx hb hts iwX5 hown hK hV t0 rfl 0 (by decide) rfl rfl hr_1 (hts _ tw_1_71) (fun _ h9 => h9) dX5_drawUniform_20 ?_
  refine lv_iload hx hb dX5_drawUniform_23 (lv_at hl 4 rfl) ?_
  refine k_callv (va_runV (As := [.int x4]) (rest := []) ⟨hx, hb, hml, hown, hts⟩ (s_X6_absorbByte l D X ad n A J hWT r_1 tr_1 x4 I_4 L_5 _ h) (cwV 1 hts (gV tw_2_68 tw_2_21 tw_2_22 tw_1_4 tw_2_23) rfl rfl rfl (by decide +kernel) (by decide)) (k_preV (ci := 3) hK hV hA hZ tr_1 rfl _) rfl rfl hl.1 rfl (lv_room (Nat.le_of_ble_eq_true rfl)) dX5_drawUniform_25 ⟨Nat.zero_le _, Nat.zero_le _⟩) hV (fun I_6 L_7 H locs h hV => ?_)
  refine lv_aload_n hx hb dX5_drawUniform_28 rfl (lv_at hl 0 rfl) ?_
  refine m_getr (C := RX5) (T := TX5) (N := 1) (ci := 2) hx hb hts iwX5 hown hK hV t0 rfl 0 (by decide) rfl rfl hr_1 (hts _ tw_1_71) (fun _ h9 => h9) dX5_drawUniform_29 ?_
  refine lv_iload hx hb dX5_drawUniform_32 (lv_at hl 5 rfl) ?_
  refine k_callv (va_runV (As := [.int x5]) (rest := []) ⟨hx, hb, hml, hown, hts⟩ (s_X6_absorbByte l D X ad n A J hWT r_1 tr_1 x5 I_6 L_7 _ h) (cwV 1 hts (gV tw_2_68 tw_2_21 tw_2_22 tw_1_4 tw_2_23) rfl rfl rfl (by decide +kernel) (by decide)) (k_preV (ci := 3) hK hV hA hZ tr_1 rfl _) rfl rfl hl.1 rfl (lv_room (Nat.le_of_ble_eq_true rfl)) dX5_drawUniform_34 ⟨Nat.zero_le _, Nat.zero_le _⟩) hV (fun I_8 L_9 H locs h hV => ?_)
  refine lv_aload_n hx hb dX5_drawUniform_37 rfl (lv_at hl 0 rfl) ?_
  refine m_getr (C := RX5) (T := TX5) (N := 1) (ci := 2) hx hb hts iwX5 hown hK hV t0 rfl 0 (by decide) rfl rfl hr_1 (hts _ tw_1_71) (fun _ h9 => h9) dX5_drawUniform_38 ?_
  refine k_callv (va_runV (As := []) (rest := []) ⟨hx, hb, hml, hown, hts⟩ (s_X6_finish l D X ad n A J hWT r_1 tr_1 I_8 L_9 _ h) (cwV 0 hts (gV tw_2_69 tw_2_45 tw_2_46 tw_1_4 tw_2_47) rfl rfl rfl (by decide +kernel) (by decide)) (k_preV (ci := 3) hK hV hA hZ tr_1 rfl _) rfl rfl hl.1 rfl (lv_room (Nat.le_of_ble_eq_true rfl)) dX5_drawUniform_41 ⟨Nat.zero_le _, Nat.zero_le _⟩) hV (fun I_10 L_11 H locs h hV => ?_)
  refine lv_iconst (v := 0) hx hb dX5_drawUniform_44 (by decide) ?_
  refine lv_istore (lv' := [(7, .int 0), (0, .ref (ad x0)), (1, .ref (ad x1)), (2, .ref (ad x2)), (3, .int x3), (4, .int x4), (5, .int x5), (6, .int x6)]) hx hb dX5_drawUniform_45 hl (by decide) rfl (fun ls hl => ?_)
  refine lv_iconst (v := 1) hx hb dX5_drawUniform_47 (by decide) ?_
  refine lv_istore (lv' := [(8, .int 1), (7, .int 0), (0, .ref (ad x0)), (1, .ref (ad x1)), (2, .ref (ad x2)), (3, .int x3), (4, .int x4), (5, .int x5), (6, .int x6)]) hx hb dX5_drawUniform_48 hl (by decide) rfl (fun ls hl => ?_)
  obtain ⟨fu0, h⟩ := h
  exact n_X5_drawUniform_50 rfl C0 t0 t1   fu0 0 1 _ _ _ _ _ h hV (lv_sub hl [2, 3, 8, 1, 0] rfl)
set_option maxHeartbeats 4000000 in
set_option maxRecDepth 100000 in
theorem n_X5_drawNoise_60 {p : Program} {l : Launch} {e : Env} {s : State} {m : MethodId} {below : List Frame} {meth : Method} {c : Code} {D : va_G} {X : XT} {ad : Nat → Nat} {n : Nat} {A : Nat → Prop} {J : MJ} {av : List Value} {R : Room} (hR : R = ({ frames := 3, cells := 0, slots := 0, locals := 100 } : Room)) (C0 : Cx p s m meth c cX5_drawNoise none 12 yX5_drawNoise av D X ad n A J) {q : MI → ML → Prop} {k52 : Int32 → Int32 → Int32 → MI → ML → Prop} {x0 : Nat} {x1 : Nat} {x4 : Int32} {x6 : Int32} {x9 : Int32} (t0 : Ty X n x0 6) (t1 : Ty X n x1 0)
    (hk52 : ∀ (x7 : Int32) (x8 : Int32) (x9 : Int32) (I : MI) (L : ML) (H : Heap) (locs : List Loc) (ls : Array Slot), k52 x7 x8 x9 I L → Wd D X ad n A s.heap J I L H locs → lv_has ls 12 [(0, .ref (ad x0)), (1, .ref (ad x1)), (4, .int x4), (6, .int x6), (7, .int x7), (8, .int x8), (9, .int x9)] → W p l e R s m av.toArray below meth c H locs 0 0 (MQ below (QV D X ad n A J q) av.toArray s 0 0 A) (F0 m 52 ls [])) : ∀ (fu : Nat) (x7 : Int32) (x8 : Int32) (I : MI) (L : ML) (H : Heap) (locs : List Loc) (ls : Array Slot), wl_X5_drawNoise_60 X J q k52 x0 x1 x4 x6 x9 fu x7 x8 I L → Wd D X ad n A s.heap J I L H locs → lv_has ls 12 [(0, .ref (ad x0)), (1, .ref (ad x1)), (4, .int x4), (6, .int x6), (7, .int x7), (8, .int x8), (9, .int x9)] → W p l e R s m av.toArray below meth c H locs 0 0 (MQ below (QV D X ad n A J q) av.toArray s 0 0 A) (F0 m 60 ls []) := by
  obtain ⟨hx, hb, hr, hml, hown, hlk, hnm, hts, hK, hZ, hA, hWT⟩ := id C0
  subst hR
  intro fu
  induction fu with
  | zero => intro x7 x8 I L H locs ls h; exact absurd h (fun h => h)
  | succ fu ih =>
    intro x7 x8 I L H locs ls h hV hl
    refine lv_iload hx hb dX5_drawNoise_60 (lv_at hl 5 rfl) ?_
    refine lv_iconst (v := 2) hx hb dX5_drawNoise_62 (by decide) ?_
    refine lv_iload hx hb dX5_drawNoise_63 (lv_at hl 2 rfl) ?_
    refine lv_imul hx hb dX5_drawNoise_65 ?_
    refine lv_icmp_ge (tgt := 90) hx hb dX5_drawNoise_66 (by decide) (fun hc => ?_) (fun hc => ?_)
    · replace h := h.1 hc
      refine lv_iload hx hb dX5_drawNoise_90 (lv_at hl 4 rfl) ?_
      refine lv_iload hx hb dX5_drawNoise_92 (lv_at hl 3 rfl) ?_
      refine lv_iand hx hb dX5_drawNoise_94 ?_
      refine k_calli (va_runS (As := [.int (x7 &&& x6)]) (rest := []) ⟨hx, hb, hml, hown, hts⟩ (s_J6_bitCount_0f7a4 l D X ad n A J hWT (x7 &&& x6) I L _ h) (va_cwS 1 hts (gS tw_2_71 tw_2_72 tw_1_12 tw_2_73) rfl rfl rfl (by decide +kernel) (by decide)) (k_preS hK hV hA hZ _) rfl rfl hl.1 rfl (lv_room (Nat.le_of_ble_eq_true rfl)) dX5_drawNoise_95 ⟨Nat.zero_le _, Nat.zero_le _⟩) hV (fun v_13 I_11 L_12 H locs h hV => ?_)
      refine lv_istore (lv' := [(10, .int v_13), (0, .ref (ad x0)), (1, .ref (ad x1)), (4, .int x4), (6, .int x6), (7, .int x7), (8, .int x8), (9, .int x9)]) hx hb dX5_drawNoise_98 hl (by decide) rfl (fun ls hl => ?_)
      refine lv_iload hx hb dX5_drawNoise_100 (lv_at hl 5 rfl) ?_
      refine lv_iload hx hb dX5_drawNoise_102 (lv_at hl 3 rfl) ?_
      refine lv_ishr hx hb dX5_drawNoise_104 ?_
      refine lv_iload hx hb dX5_drawNoise_105 (lv_at hl 4 rfl) ?_
      refine lv_iand hx hb dX5_drawNoise_107 ?_
      refine k_calli (va_runS (As := [.int ((jshr x7 x4) &&& x6)]) (rest := []) ⟨hx, hb, hml, hown, hts⟩ (s_J6_bitCount_0f7a4 l D X ad n A J hWT ((jshr x7 x4) &&& x6) I_11 L_12 _ h) (va_cwS 1 hts (gS tw_2_71 tw_2_72 tw_1_12 tw_2_73) rfl rfl rfl (by decide +kernel) (by decide)) (k_preS hK hV hA hZ _) rfl rfl hl.1 rfl (lv_room (Nat.le_of_ble_eq_true rfl)) dX5_drawNoise_108 ⟨Nat.zero_le _, Nat.zero_le _⟩) hV (fun v_16 I_14 L_15 H locs h hV => ?_)
      refine lv_istore (lv' := [(11, .int v_16), (10, .int v_13), (0, .ref (ad x0)), (1, .ref (ad x1)), (4, .int x4), (6, .int x6), (7, .int x7), (8, .int x8), (9, .int x9)]) hx hb dX5_drawNoise_111 hl (by decide) rfl (fun ls hl => ?_)
      refine lv_aload_n hx hb dX5_drawNoise_113 rfl (lv_at hl 3 rfl) ?_
      refine lv_iload hx hb dX5_drawNoise_114 (lv_at hl 8 rfl) ?_
      refine lv_iload hx hb dX5_drawNoise_116 (lv_at hl 1 rfl) ?_
      refine lv_iload hx hb dX5_drawNoise_118 (lv_at hl 0 rfl) ?_
      refine lv_isub hx hb dX5_drawNoise_120 ?_
      refine lv_sipush (v := 3329) hx hb dX5_drawNoise_121 (by decide) ?_
      refine lv_iadd hx hb dX5_drawNoise_124 ?_
      refine lv_sipush (v := 3329) hx hb dX5_drawNoise_125 (by decide) ?_
      refine lv_irem hx hb dX5_drawNoise_128 (by decide) ?_
      obtain ⟨hi_17, h⟩ := h
      refine m_iast hx hb hK hV t1 hi_17 dX5_drawNoise_129 (fun H locs hV => ?_)
      obtain ⟨I_18, eI_18⟩ : ∃ y, y = ms I_14 x1 x9.toNatClampNeg (jrem ((v_13 - v_16) + 3329) 3329) := ⟨_, rfl⟩
      replace hV : Wd D X ad n A s.heap J I_18 L_15 H locs := by rw [eI_18]; exact hV
      replace h := h I_18 eI_18
      refine lv_iload hx hb dX5_drawNoise_130 (lv_at hl 6 rfl) ?_
      refine lv_iconst (v := 2) hx hb dX5_drawNoise_132 (by decide) ?_
      refine lv_iload hx hb dX5_drawNoise_133 (lv_at hl 4 rfl) ?_
      refine lv_imul hx hb dX5_drawNoise_135 ?_
      refine lv_iushr hx hb dX5_drawNoise_136 rfl ?_
      refine lv_topi (fun x7_19 ex7_19 => ?_)
      replace h := h x7_19 ex7_19
      refine lv_istore (lv' := [(7, .int x7_19), (11, .int v_16), (10, .int v_13), (0, .ref (ad x0)), (1, .ref (ad x1)), (4, .int x4), (6, .int x6), (8, .int x8), (9, .int x9)]) hx hb dX5_drawNoise_137 hl (by decide) rfl (fun ls hl => ?_)
      refine lv_iload hx hb dX5_drawNoise_139 (lv_at hl 7 rfl) ?_
      refine lv_iconst (v := 2) hx hb dX5_drawNoise_141 (by decide) ?_
      refine lv_iload hx hb dX5_drawNoise_142 (lv_at hl 5 rfl) ?_
      refine lv_imul hx hb dX5_drawNoise_144 ?_
      refine lv_isub hx hb dX5_drawNoise_145 ?_
      refine lv_topi (fun x8_20 ex8_20 => ?_)
      replace h := h x8_20 ex8_20
      refine lv_istore (lv' := [(8, .int x8_20), (7, .int x7_19), (11, .int v_16), (10, .int v_13), (0, .ref (ad x0)), (1, .ref (ad x1)), (4, .int x4), (6, .int x6), (9, .int x9)]) hx hb dX5_drawNoise_146 hl (by decide) rfl (fun ls hl => ?_)
      obtain ⟨x9_21, ex9_21⟩ : ∃ y : Int32, y = x9 + 1 := ⟨_, rfl⟩
      replace h := h x9_21 ex9_21
      refine lv_iinc (v := x9_21) (lv' := [(9, .int x9_21), (8, .int x8_20), (7, .int x7_19), (11, .int v_16), (10, .int v_13), (0, .ref (ad x0)), (1, .ref (ad x1)), (4, .int x4), (6, .int x6)]) hx hb dX5_drawNoise_148 hl (k := 8) rfl (by rw [ex9_21]; rfl) (by decide) rfl (fun ls hl => ?_)
      refine lv_goto (tgt := 52) hx hb dX5_drawNoise_151 (by decide) ?_
      exact hk52 x7_19 x8_20 x9_21 _ _ _ _ _ h hV (lv_sub hl [5, 6, 7, 8, 2, 1, 0] rfl)
    · replace h := h.2 hc
      refine lv_iload hx hb dX5_drawNoise_69 (lv_at hl 4 rfl) ?_
      refine lv_aload_n hx hb dX5_drawNoise_71 rfl (lv_at hl 0 rfl) ?_
      obtain ⟨r_22, hr_22, h⟩ := h
      have tr_22 : Ty X n r_22 7 := hWT.r (c := 2) (j := 0) t0 rfl hr_22
      refine m_getr (C := RX5) (T := TX5) (N := 1) (ci := 2) hx hb hts iwX5 hown hK hV t0 rfl 0 (by decide) rfl rfl hr_22 (hts _ tw_1_71) (fun _ h9 => h9) dX5_drawNoise_72 ?_
      refine k_calli (va_runV (As := []) (rest := [.int x7]) ⟨hx, hb, hml, hown, hts⟩ (s_X6_tellByte l D X ad n A J hWT r_22 tr_22 I L _ h) (cwV 0 hts (gV tw_2_70 tw_2_54 tw_2_55 tw_1_4 tw_2_56) rfl rfl rfl (by decide +kernel) (by decide)) (k_preV (ci := 3) hK hV hA hZ tr_22 rfl _) rfl rfl hl.1 rfl (lv_room (Nat.le_of_ble_eq_true rfl)) dX5_drawNoise_75 ⟨Nat.zero_le _, Nat.zero_le _⟩) hV (fun v_25 I_23 L_24 H locs h hV => ?_)
      refine lv_iload hx hb dX5_drawNoise_78 (lv_at hl 5 rfl) ?_
      refine lv_ishl hx hb dX5_drawNoise_80 ?_
      refine lv_ior hx hb dX5_drawNoise_81 ?_
      refine lv_topi (fun x7_26 ex7_26 => ?_)
      replace h := h x7_26 ex7_26
      refine lv_istore (lv' := [(7, .int x7_26), (0, .ref (ad x0)), (1, .ref (ad x1)), (4, .int x4), (6, .int x6), (8, .int x8), (9, .int x9)]) hx hb dX5_drawNoise_82 hl (by decide) rfl (fun ls hl => ?_)
      obtain ⟨x8_27, ex8_27⟩ : ∃ y : Int32, y = x8 + 8 := ⟨_, rfl⟩
      replace h := h x8_27 ex8_27
      refine lv_iinc (v := x8_27) (lv' := [(8, .int x8_27), (7, .int x7_26), (0, .ref (ad x0)), (1, .ref (ad x1)), (4, .int x4), (6, .int x6), (9, .int x9)]) hx hb dX5_drawNoise_84 hl (k := 5) rfl (by rw [ex8_27]; rfl) (by decide) rfl (fun ls hl => ?_)
      refine lv_goto (tgt := 60) hx hb dX5_drawNoise_87 (by decide) ?_
      exact ih x7_26 x8_27 _ _ _ _ _ h hV (lv_sub hl [2, 3, 4, 5, 1, 0, 6] rfl)
set_option maxHeartbeats 4000000 in
set_option maxRecDepth 100000 in
theorem n_X5_drawNoise_52 {p : Program} {l : Launch} {e : Env} {s : State} {m : MethodId} {below : List Frame} {meth : Method} {c : Code} {D : va_G} {X : XT} {ad : Nat → Nat} {n : Nat} {A : Nat → Prop} {J : MJ} {av : List Value} {R : Room} (hR : R = ({ frames := 3, cells := 0, slots := 0, locals := 100 } : Room)) (C0 : Cx p s m meth c cX5_drawNoise none 12 yX5_drawNoise av D X ad n A J) {q : MI → ML → Prop}  {x0 : Nat} {x1 : Nat} {x4 : Int32} {x6 : Int32} (t0 : Ty X n x0 6) (t1 : Ty X n x1 0) : ∀ (fu : Nat) (x7 : Int32) (x8 : Int32) (x9 : Int32) (I : MI) (L : ML) (H : Heap) (locs : List Loc) (ls : Array Slot), wl_X5_drawNoise_52 X J q  x0 x1 x4 x6 fu x7 x8 x9 I L → Wd D X ad n A s.heap J I L H locs → lv_has ls 12 [(0, .ref (ad x0)), (1, .ref (ad x1)), (4, .int x4), (6, .int x6), (7, .int x7), (8, .int x8), (9, .int x9)] → W p l e R s m av.toArray below meth c H locs 0 0 (MQ below (QV D X ad n A J q) av.toArray s 0 0 A) (F0 m 52 ls []) := by
  obtain ⟨hx, hb, hr, hml, hown, hlk, hnm, hts, hK, hZ, hA, hWT⟩ := id C0
  subst hR
  intro fu
  induction fu with
  | zero => intro x7 x8 x9 I L H locs ls h; exact absurd h (fun h => h)
  | succ fu ih =>
    intro x7 x8 x9 I L H locs ls h hV hl
    refine lv_iload hx hb dX5_drawNoise_52 (lv_at hl 6 rfl) ?_
    refine lv_sipush (v := 256) hx hb dX5_drawNoise_54 (by decide) ?_
    refine lv_icmp_ge (tgt := 154) hx hb dX5_drawNoise_57 (by decide) (fun hc => ?_) (fun hc => ?_)
    · replace h := h.1 hc
      exact m_vret hx hb hr hlk hK hZ hA hV h dX5_drawNoise_154
    · replace h := h.2 hc
      obtain ⟨fu0, h⟩ := h
      exact n_X5_drawNoise_60 rfl C0 t0 t1  (fun y7 y8 y9 I L H locs ls h hV hl => ih y7 y8 y9 I L H locs ls h hV (lv_sub hl [0, 1, 2, 3, 4, 5, 6] rfl)) fu0 x7 x8 _ _ _ _ _ h hV (lv_sub hl [0, 1, 2, 3, 4, 5, 6] rfl)
set_option maxHeartbeats 4000000 in
set_option maxRecDepth 100000 in
theorem s_X5_drawNoise (l : Launch) (D : va_G) (X : XT) (ad : Nat → Nat) (n : Nat) (A : Nat → Prop) (J : MJ) (hWT : WT X n J) (x0 : Nat) (t0 : Ty X n x0 6) (x1 : Nat) (t1 : Ty X n x1 0) (x2 : Nat) (t2 : Ty X n x2 5) (x3 : Int32) (x4 : Int32) (x5 : Int32) (I : MI) (L : ML) (q : MI → ML → Prop) (h : wp_X5_drawNoise X J x0 x1 x2 x3 x4 x5 I L q) : Met l yX5_drawNoise (wz yX5_drawNoise cX5_drawNoise 12 none) ({ frames := 3, cells := 0, slots := 0, locals := 100 } : Room) (va_Pc [.ref (ad x0), .ref (ad x1), .ref (ad x2), .int x3, .int x4, .int x5] (Pr D X ad n A J I L)) (QV D X ad n A J q) 0 0 A := by
  refine Met_go (by decide +kernel) (Nat.le_of_ble_eq_true rfl) (fun p e s m below meth c hx hb hr hml hown hlk hnm hts hK hZ hA hV ls hl => ?_)
  have C0 : Cx p s m meth c cX5_drawNoise none 12 yX5_drawNoise [.ref (ad x0), .ref (ad x1), .ref (ad x2), .int x3, .int x4, .int x5] D X ad n A J := ⟨hx, hb, hr, hml, hown, hlk, hnm, hts, hK, hZ, hA, hWT⟩
  unfold wp_X5_drawNoise at h
  have hl : lv_has ls 12 [(0, .ref (ad x0)), (1, .ref (ad x1)), (2, .ref (ad x2)), (3, .int x3), (4, .int x4), (5, .int x5)] := hl
  refine lv_aload_n hx hb dX5_drawNoise_0 rfl (lv_at hl 0 rfl) ?_
  obtain ⟨r_1, hr_1, h⟩ := h
  have tr_1 : Ty X n r_1 7 := hWT.r (c := 2) (j := 0) t0 rfl hr_1
  refine m_getr (C := RX5) (T := TX5) (N := 1) (ci := 2) hx hb hts iwX5 hown hK hV t0 rfl 0 (by decide) rfl rfl hr_1 (hts _ tw_1_71) (fun _ h9 => h9) dX5_drawNoise_1 ?_
  refine lv_iconst (v := 3) hx hb dX5_drawNoise_4 (by decide) ?_
  refine k_callv (va_runV (As := [.int 3]) (rest := []) ⟨hx, hb, hml, hown, hts⟩ (s_X6_begin l D X ad n A J hWT r_1 tr_1 3 I L _ h) (cwV 1 hts (gV tw_2_66 tw_2_7 tw_2_8 tw_1_4 tw_2_9) rfl rfl rfl (by decide +kernel) (by decide)) (k_preV (ci := 3) hK hV hA hZ tr_1 rfl _) rfl rfl hl.1 rfl (lv_room (Nat.le_of_ble_eq_true rfl)) dX5_drawNoise_5 ⟨Nat.zero_le _, Nat.zero_le _⟩) hV (fun I_2 L_3 H locs h hV => ?_)
  refine lv_aload_n hx hb dX5_drawNoise_8 rfl (lv_at hl 0 rfl) ?_
  refine m_getr (C := RX5) (T := TX5) (N := 1) (ci := 2) hx hb hts iwX5 hown hK hV t0 rfl 0 (by decide) rfl rfl hr_1 (hts _ tw_1_71) (fun _ h9 => h9) dX5_drawNoise_9 ?_
  refine lv_aload_n hx hb dX5_drawNoise_12 rfl (lv_at hl 2 rfl) ?_
  refine lv_iload_n hx hb dX5_drawNoise_13 rfl (lv_at hl 3 rfl) ?_
  refine lv_bipush (v := 32) hx hb dX5_drawNoise_14 (by decide) ?_
  refine k_callv (va_runV (As := [.ref (ad x2), .int x3, .int 32]) (rest := []) ⟨hx, hb, hml, hown, hts⟩ (s_X6_absorb l D X ad n A J hWT r_1 tr_1 x2 t2 x3 32 I_2 L_3 _ h) (cwV 3 hts (gV tw_2_67 tw_2_16 tw_2_17 tw_1_4 tw_2_18) rfl rfl rfl (by decide +kernel) (by decide)) (k_preV (ci := 3) hK hV hA hZ tr_1 rfl _) rfl rfl hl.1 rfl (lv_room (Nat.le_of_ble_eq_true rfl)) dX5_drawNoise_16 ⟨Nat.zero_le _, Nat.zero_le _⟩) hV (fun I_4 L_5 H locs h hV => ?_)
  refine lv_aload_n hx hb dX5_drawNoise_19 rfl (lv_at hl 0 rfl) ?_
  refine m_getr (C := RX5) (T := TX5) (N := 1) (ci := 2) hx hb hts iwX5 hown hK hV t0 rfl 0 (by decide) rfl rfl hr_1 (hts _ tw_1_71) (fun _ h9 => h9) dX5_drawNoise_20 ?_
  refine lv_iload hx hb dX5_drawNoise_23 (lv_at hl 5 rfl) ?_
  refine k_callv (va_runV (As := [.int x5]) (rest := []) ⟨hx, hb, hml, hown, hts⟩ (s_X6_absorbByte l D X ad n A J hWT r_1 tr_1 x5 I_4 L_5 _ h) (cwV 1 hts (gV tw_2_68 tw_2_21 tw_2_22 tw_1_4 tw_2_23) rfl rfl rfl (by decide +kernel) (by decide)) (k_preV (ci := 3) hK hV hA hZ tr_1 rfl _) rfl rfl hl.1 rfl (lv_room (Nat.le_of_ble_eq_true rfl)) dX5_drawNoise_25 ⟨Nat.zero_le _, Nat.zero_le _⟩) hV (fun I_6 L_7 H locs h hV => ?_)
  refine lv_aload_n hx hb dX5_drawNoise_28 rfl (lv_at hl 0 rfl) ?_
  refine m_getr (C := RX5) (T := TX5) (N := 1) (ci := 2) hx hb hts iwX5 hown hK hV t0 rfl 0 (by decide) rfl rfl hr_1 (hts _ tw_1_71) (fun _ h9 => h9) dX5_drawNoise_29 ?_
  refine k_callv (va_runV (As := []) (rest := []) ⟨hx, hb, hml, hown, hts⟩ (s_X6_finish l D X ad n A J hWT r_1 tr_1 I_6 L_7 _ h) (cwV 0 hts (gV tw_2_69 tw_2_45 tw_2_46 tw_1_4 tw_2_47) rfl rfl rfl (by decide +kernel) (by decide)) (k_preV (ci := 3) hK hV hA hZ tr_1 rfl _) rfl rfl hl.1 rfl (lv_room (Nat.le_of_ble_eq_true rfl)) dX5_drawNoise_32 ⟨Nat.zero_le _, Nat.zero_le _⟩) hV (fun I_8 L_9 H locs h hV => ?_)
  refine lv_iconst (v := 1) hx hb dX5_drawNoise_35 (by decide) ?_
  refine lv_iload hx hb dX5_drawNoise_36 (lv_at hl 4 rfl) ?_
  refine lv_ishl hx hb dX5_drawNoise_38 ?_
  refine lv_iconst (v := 1) hx hb dX5_drawNoise_39 (by decide) ?_
  refine lv_isub hx hb dX5_drawNoise_40 ?_
  refine lv_topi (fun x6_10 ex6_10 => ?_)
  replace h := h x6_10 ex6_10
  refine lv_istore (lv' := [(6, .int x6_10), (0, .ref (ad x0)), (1, .ref (ad x1)), (2, .ref (ad x2)), (3, .int x3), (4, .int x4), (5, .int x5)]) hx hb dX5_drawNoise_41 hl (by decide) rfl (fun ls hl => ?_)
  refine lv_iconst (v := 0) hx hb dX5_drawNoise_43 (by decide) ?_
  refine lv_istore (lv' := [(7, .int 0), (6, .int x6_10), (0, .ref (ad x0)), (1, .ref (ad x1)), (2, .ref (ad x2)), (3, .int x3), (4, .int x4), (5, .int x5)]) hx hb dX5_drawNoise_44 hl (by decide) rfl (fun ls hl => ?_)
  refine lv_iconst (v := 0) hx hb dX5_drawNoise_46 (by decide) ?_
  refine lv_istore (lv' := [(8, .int 0), (7, .int 0), (6, .int x6_10), (0, .ref (ad x0)), (1, .ref (ad x1)), (2, .ref (ad x2)), (3, .int x3), (4, .int x4), (5, .int x5)]) hx hb dX5_drawNoise_47 hl (by decide) rfl (fun ls hl => ?_)
  refine lv_iconst (v := 0) hx hb dX5_drawNoise_49 (by decide) ?_
  refine lv_istore (lv' := [(9, .int 0), (8, .int 0), (7, .int 0), (6, .int x6_10), (0, .ref (ad x0)), (1, .ref (ad x1)), (2, .ref (ad x2)), (3, .int x3), (4, .int x4), (5, .int x5)]) hx hb dX5_drawNoise_50 hl (by decide) rfl (fun ls hl => ?_)
  obtain ⟨fu0, h⟩ := h
  exact n_X5_drawNoise_52 rfl C0 t0 t1   fu0 0 0 0 _ _ _ _ _ h hV (lv_sub hl [4, 5, 8, 3, 2, 1, 0] rfl)
