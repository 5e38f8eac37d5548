theorem tw_2_74 : Cond.constant RJ6 265 (1431655765) ∈ gt := g2 74 (by decide +kernel) (by decide +kernel)
theorem tw_2_75 : Cond.constant RJ6 266 (858993459) ∈ gt := g2 75 (by decide +kernel) (by decide +kernel)
theorem tw_2_76 : Cond.constant RJ6 267 (252645135) ∈ gt := g2 76 (by decide +kernel) (by decide +kernel)
theorem tw_1_209 : Cond.fieldLink RX2 5 "LatticeVault$ParameterSet" "SMALL" "LLatticeVault$ParameterSet;" ∈ gt := g1 209 (by decide +kernel) (by decide +kernel)
theorem tw_1_211 : Cond.fieldLink RX2 9 "LatticeVault$ParameterSet" "MIDDLE" "LLatticeVault$ParameterSet;" ∈ gt := g1 211 (by decide +kernel) (by decide +kernel)
theorem tw_1_212 : Cond.fieldLink RX2 12 "LatticeVault$ParameterSet" "LARGE" "LLatticeVault$ParameterSet;" ∈ gt := g1 212 (by decide +kernel) (by decide +kernel)
theorem tw_4_157 : Cond.fieldLink RX2 34 "LatticeVault$ParameterSet" "rank" "I" ∈ gt := g4 157 (by decide +kernel) (by decide +kernel)
theorem tw_4_160 : Cond.fieldLink RX2 44 "LatticeVault$ParameterSet" "du" "I" ∈ gt := g4 160 (by decide +kernel) (by decide +kernel)
theorem tw_4_161 : Cond.fieldLink RX2 47 "LatticeVault$ParameterSet" "dv" "I" ∈ gt := g4 161 (by decide +kernel) (by decide +kernel)
def wp_J6_bitCount_0f7a4 (X : XT) (J : MJ) (x0 : Int32) (I : MI) (L : ML) (q : Int32 → MI → ML → Prop) : Prop := (∀ x0_1 : Int32, x0_1 = x0 - ((jushr x0 1) &&& 1431655765) → (∀ x0_2 : Int32, x0_2 = (x0_1 &&& 858993459) + ((jushr x0_1 2) &&& 858993459) → (∀ x0_3 : Int32, x0_3 = (x0_2 + (jushr x0_2 4)) &&& 252645135 → (∀ x0_4 : Int32, x0_4 = x0_3 + (jushr x0_3 8) → (∀ x0_5 : Int32, x0_5 = x0_4 + (jushr x0_4 16) → q (x0_5 &&& 63) I L)))))
def wp_J9_floorMod_7cf53 (X : XT) (J : MJ) (x0 : Int32) (x1 : Int32) (I : MI) (L : ML) (q : Int32 → MI → ML → Prop) : Prop := (¬ x1 = 0 ∧ (∀ x2_2 : Int32, x2_2 = jrem x0 x1 → (((0 ≤ (x0 ^^^ x1)) → q x2_2 I L) ∧ (¬ (0 ≤ (x0 ^^^ x1)) → (((x2_2 = 0) → q x2_2 I L) ∧ (¬ (x2_2 = 0) → q (x2_2 + x1) I L))))))
def wl_J7_fill_d0a16_6 (X : XT) (J : MJ) (q : MI → ML → Prop)  (x0 : Nat) (x1 : Int64) (x4 : Int32) : Nat → Int32 → MI → ML → Prop
  | 0 => fun _ _ _ => False
  | fu + 1 => fun x3 I L => (((x4 ≤ x3) → q I L) ∧ (¬ (x4 ≤ x3) → (vp_in x3 (sl X x0) ∧ ∀ L_3, L_3 = ms L x0 x3.toNatClampNeg x1 → (∀ x3_4 : Int32, x3_4 = x3 + 1 → wl_J7_fill_d0a16_6 X J q  x0 x1 x4 fu x3_4 I L_3))))
def wp_J7_fill_d0a16 (X : XT) (J : MJ) (x0 : Nat) (x1 : Int64) (I : MI) (L : ML) (q : MI → ML → Prop) : Prop := (∀ x4_1 : Int32, x4_1 = nI (sl X x0) → ∃ fu0 : Nat, wl_J7_fill_d0a16_6 X J q  x0 x1 x4_1 fu0 0 I L)
def wl_J7_fill_53178_5 (X : XT) (J : MJ) (q : MI → ML → Prop)  (x0 : Nat) (x1 : Int32) (x3 : Int32) : Nat → Int32 → MI → ML → Prop
  | 0 => fun _ _ _ => False
  | fu + 1 => fun x2 I L => (((x3 ≤ x2) → q I L) ∧ (¬ (x3 ≤ x2) → (vp_in x2 (sl X x0) ∧ ∀ I_3, I_3 = ms I x0 x2.toNatClampNeg x1 → (∀ x2_4 : Int32, x2_4 = x2 + 1 → wl_J7_fill_53178_5 X J q  x0 x1 x3 fu x2_4 I_3 L))))
def wp_J7_fill_53178 (X : XT) (J : MJ) (x0 : Nat) (x1 : Int32) (I : MI) (L : ML) (q : MI → ML → Prop) : Prop := (∀ x3_1 : Int32, x3_1 = nI (sl X x0) → ∃ fu0 : Nat, wl_J7_fill_53178_5 X J q  x0 x1 x3_1 fu0 0 I L)
def wp_X2_ofRank (X : XT) (J : MJ) (x0 : Int32) (I : MI) (L : ML) (q : Option Nat → MI → ML → Prop) : Prop := ((x0.toInt < 2 ∨ 4 < x0.toInt → q none I L) ∧ ((x0 = nI 2 → q (some 0) I L) ∧ ((x0 = nI 3 → q (some 1) I L) ∧ (x0 = nI 4 → q (some 2) I L))))
def wp_X2_innerLength (X : XT) (J : MJ) (x0 : Nat) (I : MI) (L : ML) (q : Int32 → MI → ML → Prop) : Prop := q (384 * (enI 0 x0)) I L
def wp_X2_publicLength (X : XT) (J : MJ) (x0 : Nat) (I : MI) (L : ML) (q : Int32 → MI → ML → Prop) : Prop := q ((384 * (enI 0 x0)) + 32) I L
def wp_X2_privateLength (X : XT) (J : MJ) (x0 : Nat) (I : MI) (L : ML) (q : Int32 → MI → ML → Prop) : Prop := q ((768 * (enI 0 x0)) + 96) I L
def wp_X2_textLength (X : XT) (J : MJ) (x0 : Nat) (I : MI) (L : ML) (q : Int32 → MI → ML → Prop) : Prop := q (32 * (((enI 3 x0) * (enI 0 x0)) + (enI 4 x0))) I L
set_option maxHeartbeats 4000000 in
set_option maxRecDepth 100000 in
theorem s_J6_bitCount_0f7a4 (l : Launch) (D : va_G) (X : XT) (ad : Nat → Nat) (n : Nat) (A : Nat → Prop) (J : MJ) (hWT : WT X n J) (x0 : Int32) (I : MI) (L : ML) (q : Int32 → MI → ML → Prop) (h : wp_J6_bitCount_0f7a4 X J x0 I L q) : Met l yJ6_bitCount_0f7a4 (wz yJ6_bitCount_0f7a4 cJ6_bitCount_0f7a4 1 (some .int)) ({ frames := 0, cells := 0, slots := 0, locals := 0 } : Room) (va_Pc [.int x0] (Pr D X ad n A J I L)) (QI D X ad n A J q) 0 0 A := by
  refine Met_go (by decide +kernel) (Nat.le_of_ble_eq_true rfl) (fun p e s m below meth c hx hb hr hml hown hlk hnm hts hK hZ hA hV ls hl => ?_)
  have C0 : Cx p s m meth c cJ6_bitCount_0f7a4 (some .int) 1 yJ6_bitCount_0f7a4 [.int x0] D X ad n A J := ⟨hx, hb, hr, hml, hown, hlk, hnm, hts, hK, hZ, hA, hWT⟩
  unfold wp_J6_bitCount_0f7a4 at h
  have hl : lv_has ls 1 [(0, .int x0)] := hl
  refine lv_iload_n hx hb dJ6_bitCount_0f7a4_0 rfl (lv_at hl 0 rfl) ?_
  refine lv_iload_n hx hb dJ6_bitCount_0f7a4_1 rfl (lv_at hl 0 rfl) ?_
  refine lv_iconst (v := 1) hx hb dJ6_bitCount_0f7a4_2 (by decide) ?_
  refine lv_iushr hx hb dJ6_bitCount_0f7a4_3 rfl ?_
  refine lv_ldcw (v := 1431655765) hx hb hown (hts _ tw_2_74) dJ6_bitCount_0f7a4_4 ?_
  refine lv_iand hx hb dJ6_bitCount_0f7a4_7 ?_
  refine lv_isub hx hb dJ6_bitCount_0f7a4_8 ?_
  refine lv_topi (fun x0_1 ex0_1 => ?_)
  replace h := h x0_1 ex0_1
  refine lv_istore_n (lv' := [(0, .int x0_1)]) hx hb dJ6_bitCount_0f7a4_9 rfl hl (by decide) rfl (fun ls hl => ?_)
  refine lv_iload_n hx hb dJ6_bitCount_0f7a4_10 rfl (lv_at hl 0 rfl) ?_
  refine lv_ldcw (v := 858993459) hx hb hown (hts _ tw_2_75) dJ6_bitCount_0f7a4_11 ?_
  refine lv_iand hx hb dJ6_bitCount_0f7a4_14 ?_
  refine lv_iload_n hx hb dJ6_bitCount_0f7a4_15 rfl (lv_at hl 0 rfl) ?_
  refine lv_iconst (v := 2) hx hb dJ6_bitCount_0f7a4_16 (by decide) ?_
  refine lv_iushr hx hb dJ6_bitCount_0f7a4_17 rfl ?_
  refine lv_ldcw (v := 858993459) hx hb hown (hts _ tw_2_75) dJ6_bitCount_0f7a4_18 ?_
  refine lv_iand hx hb dJ6_bitCount_0f7a4_21 ?_
  refine lv_iadd hx hb dJ6_bitCount_0f7a4_22 ?_
  refine lv_topi (fun x0_2 ex0_2 => ?_)
  replace h := h x0_2 ex0_2
  refine lv_istore_n (lv' := [(0, .int x0_2)]) hx hb dJ6_bitCount_0f7a4_23 rfl hl (by decide) rfl (fun ls hl => ?_)
  refine lv_iload_n hx hb dJ6_bitCount_0f7a4_24 rfl (lv_at hl 0 rfl) ?_
  refine lv_iload_n hx hb dJ6_bitCount_0f7a4_25 rfl (lv_at hl 0 rfl) ?_
  refine lv_iconst (v := 4) hx hb dJ6_bitCount_0f7a4_26 (by decide) ?_
  refine lv_iushr hx hb dJ6_bitCount_0f7a4_27 rfl ?_
  refine lv_iadd hx hb dJ6_bitCount_0f7a4_28 ?_
  refine lv_ldcw (v := 252645135) hx hb hown (hts _ tw_2_76) dJ6_bitCount_0f7a4_29 ?_
  refine lv_iand hx hb dJ6_bitCount_0f7a4_32 ?_
  refine lv_topi (fun x0_3 ex0_3 => ?_)
  replace h := h x0_3 ex0_3
  refine lv_istore_n (lv' := [(0, .int x0_3)]) hx hb dJ6_bitCount_0f7a4_33 rfl hl (by decide) rfl (fun ls hl => ?_)
  refine lv_iload_n hx hb dJ6_bitCount_0f7a4_34 rfl (lv_at hl 0 rfl) ?_
  refine lv_iload_n hx hb dJ6_bitCount_0f7a4_35 rfl (lv_at hl 0 rfl) ?_
  refine lv_bipush (v := 8) hx hb dJ6_bitCount_0f7a4_36 (by decide) ?_
  refine lv_iushr hx hb dJ6_bitCount_0f7a4_38 rfl ?_
  refine lv_iadd hx hb dJ6_bitCount_0f7a4_39 ?_
  refine lv_topi (fun x0_4 ex0_4 => ?_)
  replace h := h x0_4 ex0_4
  refine lv_istore_n (lv' := [(0, .int x0_4)]) hx hb dJ6_bitCount_0f7a4_40 rfl hl (by decide) rfl (fun ls hl => ?_)
  refine lv_iload_n hx hb dJ6_bitCount_0f7a4_41 rfl (lv_at hl 0 rfl) ?_
  refine lv_iload_n hx hb dJ6_bitCount_0f7a4_42 rfl (lv_at hl 0 rfl) ?_
  refine lv_bipush (v := 16) hx hb dJ6_bitCount_0f7a4_43 (by decide) ?_
  refine lv_iushr hx hb dJ6_bitCount_0f7a4_45 rfl ?_
  refine lv_iadd hx hb dJ6_bitCount_0f7a4_46 ?_
  refine lv_topi (fun x0_5 ex0_5 => ?_)
  replace h := h x0_5 ex0_5
  refine lv_istore_n (lv' := [(0, .int x0_5)]) hx hb dJ6_bitCount_0f7a4_47 rfl hl (by decide) rfl (fun ls hl => ?_)
  refine lv_iload_n hx hb dJ6_bitCount_0f7a4_48 rfl (lv_at hl 0 rfl) ?_
  refine lv_bipush (v := 63) hx hb dJ6_bitCount_0f7a4_49 (by decide) ?_
  refine lv_iand hx hb dJ6_bitCount_0f7a4_51 ?_
  exact m_iret hx hb hr hlk hK hZ hA hV h dJ6_bitCount_0f7a4_52
set_option maxHeartbeats 4000000 in
set_option maxRecDepth 100000 in
theorem s_J9_floorMod_7cf53 (l : Launch) (D : va_G) (X : XT) (ad : Nat → Nat) (n : Nat) (A : Nat → Prop) (J : MJ) (hWT : WT X n J) (x0 : Int32) (x1 : Int32) (I : MI) (L : ML) (q : Int32 → MI → ML → Prop) (h : wp_J9_floorMod_7cf53 X J x0 x1 I L q) : Met l yJ9_floorMod_7cf53 (wz yJ9_floorMod_7cf53 cJ9_floorMod_7cf53 3 (some .int)) ({ frames := 0, cells := 0, slots := 0, locals := 0 } : Room) (va_Pc [.int x0, .int x1] (Pr D X ad n A J I L)) (QI D X ad n A J q) 0 0 A := by
  refine Met_go (by decide +kernel) (Nat.le_of_ble_eq_true rfl) (fun p e s m below meth c hx hb hr hml hown hlk hnm hts hK hZ hA hV ls hl => ?_)
  have C0 : Cx p s m meth c cJ9_floorMod_7cf53 (some .int) 3 yJ9_floorMod_7cf53 [.int x0, .int x1] D X ad n A J := ⟨hx, hb, hr, hml, hown, hlk, hnm, hts, hK, hZ, hA, hWT⟩
  unfold wp_J9_floorMod_7cf53 at h
  have hl : lv_has ls 3 [(0, .int x0), (1, .int x1)] := hl
  refine lv_iload_n hx hb dJ9_floorMod_7cf53_0 rfl (lv_at hl 0 rfl) ?_
  refine lv_iload_n hx hb dJ9_floorMod_7cf53_1 rfl (lv_at hl 1 rfl) ?_
  obtain ⟨hn_1, h⟩ := h
  refine lv_irem hx hb dJ9_floorMod_7cf53_2 hn_1 ?_
  refine lv_topi (fun x2_2 ex2_2 => ?_)
  replace h := h x2_2 ex2_2
  refine lv_istore_n (lv' := [(2, .int x2_2), (0, .int x0), (1, .int x1)]) hx hb dJ9_floorMod_7cf53_3 rfl hl (by decide) rfl (fun ls hl => ?_)
  refine lv_iload_n hx hb dJ9_floorMod_7cf53_4 rfl (lv_at hl 1 rfl) ?_
  refine lv_iload_n hx hb dJ9_floorMod_7cf53_5 rfl (lv_at hl 2 rfl) ?_
  refine lv_ixor hx hb dJ9_floorMod_7cf53_6 ?_
  refine lv_if_ge (tgt := 18) hx hb dJ9_floorMod_7cf53_7 (by decide) (fun hc => ?_) (fun hc => ?_)
  · replace h := h.1 hc
    refine lv_iload_n hx hb dJ9_floorMod_7cf53_18 rfl (lv_at hl 0 rfl) ?_
    exact m_iret hx hb hr hlk hK hZ hA hV h dJ9_floorMod_7cf53_19
  · replace h := h.2 hc
    refine lv_iload_n hx hb dJ9_floorMod_7cf53_10 rfl (lv_at hl 0 rfl) ?_
    refine lv_if_eq (tgt := 18) hx hb dJ9_floorMod_7cf53_11 (by decide) (fun hc => ?_) (fun hc => ?_)
    · replace h := h.1 hc
      refine lv_iload_n hx hb dJ9_floorMod_7cf53_18 rfl (lv_at hl 0 rfl) ?_
      exact m_iret hx hb hr hlk hK hZ hA hV h dJ9_floorMod_7cf53_19
    · replace h := h.2 hc
      refine lv_iload_n hx hb dJ9_floorMod_7cf53_14 rfl (lv_at hl 0 rfl) ?_
      refine lv_iload_n hx hb dJ9_floorMod_7cf53_15 rfl (lv_at hl 2 rfl) ?_
      refine lv_iadd hx hb dJ9_floorMod_7cf53_16 ?_
      exact m_iret hx hb hr hlk hK hZ hA hV h dJ9_floorMod_7cf53_17
set_option maxHeartbeats 4000000 in
set_option maxRecDepth 100000 in
theorem n_J7_fill_d0a16_6 {p : Program} {l : Launch} {e : Env} {s : State} {m : MethodId} {below : List Frame} {meth : Method} {c : Code} {D : va_G} {X : XT} {ad : Nat → Nat} {n : Nat} {A : Nat → Prop} {J : MJ} {av : List Value} {R : Room} (hR : R = ({ frames := 0, cells := 0, slots := 0, locals := 0 } : Room)) (C0 : Cx p s m meth c cJ7_fill_d0a16 none 5 yJ7_fill_d0a16 av D X ad n A J) {q : MI → ML → Prop}  {x0 : Nat} {x1 : Int64} {x4 : Int32} (t0 : Ty X n x0 2) : ∀ (fu : Nat) (x3 : Int32) (I : MI) (L : ML) (H : Heap) (locs : List Loc) (ls : Array Slot), wl_J7_fill_d0a16_6 X J q  x0 x1 x4 fu x3 I L → Wd D X ad n A s.heap J I L H locs → lv_has ls 5 [(0, .ref (ad x0)), (1, .long x1), (3, .int x3), (4, .int x4)] → W p l e R s m av.toArray below meth c H locs 0 0 (MQ below (QV D X ad n A J q) av.toArray s 0 0 A) (F0 m 6 ls []) := by
  obtain ⟨hx, hb, hr, hml, hown, hlk, hnm, hts, hK, hZ, hA, hWT⟩ := id C0
  subst hR
  intro fu
  induction fu with
  | zero => intro x3 I L H locs ls h; exact absurd h (fun h => h)
  | succ fu ih =>
    intro x3 I L H locs ls h hV hl
    refine lv_iload_n hx hb dJ7_fill_d0a16_6 rfl (lv_at hl 2 rfl) ?_
    refine lv_iload hx hb dJ7_fill_d0a16_7 (lv_at hl 3 rfl) ?_
    refine lv_icmp_ge (tgt := 22) hx hb dJ7_fill_d0a16_9 (by decide) (fun hc => ?_) (fun hc => ?_)
    · replace h := h.1 hc
      exact m_vret hx hb hr hlk hK hZ hA hV h dJ7_fill_d0a16_22
    · replace h := h.2 hc
      refine lv_aload_n hx hb dJ7_fill_d0a16_12 rfl (lv_at hl 0 rfl) ?_
      refine lv_iload_n hx hb dJ7_fill_d0a16_13 rfl (lv_at hl 2 rfl) ?_
      refine lv_lload_n hx hb dJ7_fill_d0a16_14 rfl (lv_at hl 1 rfl) ?_
      obtain ⟨hi_2, h⟩ := h
      refine m_last hx hb hK hV t0 hi_2 dJ7_fill_d0a16_15 (fun H locs hV => ?_)
      obtain ⟨L_3, eL_3⟩ : ∃ y, y = ms L x0 x3.toNatClampNeg x1 := ⟨_, rfl⟩
      replace hV : Wd D X ad n A s.heap J I L_3 H locs := by rw [eL_3]; exact hV
      replace h := h L_3 eL_3
      obtain ⟨x3_4, ex3_4⟩ : ∃ y : Int32, y = x3 + 1 := ⟨_, rfl⟩
      replace h := h x3_4 ex3_4
      refine lv_iinc (v := x3_4) (lv' := [(3, .int x3_4), (0, .ref (ad x0)), (1, .long x1), (4, .int x4)]) hx hb dJ7_fill_d0a16_16 hl (k := 2) rfl (by rw [ex3_4]; rfl) (by decide) rfl (fun ls hl => ?_)
      refine lv_goto (tgt := 6) hx hb dJ7_fill_d0a16_19 (by decide) ?_
      exact ih x3_4 _ _ _ _ _ h hV (lv_sub hl [1, 2, 0, 3] rfl)
set_option maxHeartbeats 4000000 in
set_option maxRecDepth 100000 in
theorem s_J7_fill_d0a16 (l : Launch) (D : va_G) (X : XT) (ad : Nat → Nat) (n : Nat) (A : Nat → Prop) (J : MJ) (hWT : WT X n J) (x0 : Nat) (t0 : Ty X n x0 2) (x1 : Int64) (I : MI) (L : ML) (q : MI → ML → Prop) (h : wp_J7_fill_d0a16 X J x0 x1 I L q) : Met l yJ7_fill_d0a16 (wz yJ7_fill_d0a16 cJ7_fill_d0a16 5 none) ({ frames := 0, cells := 0, slots := 0, locals := 0 } : Room) (va_Pc [.ref (ad x0), .long x1] (Pr D X ad n A J I L)) (QV D X ad n A J q) 0 0 A := by
  refine Met_go (by decide +kernel) (Nat.le_of_ble_eq_true rfl) (fun p e s m below meth c hx hb hr hml hown hlk hnm hts hK hZ hA hV ls hl => ?_)
  have C0 : Cx p s m meth c cJ7_fill_d0a16 none 5 yJ7_fill_d0a16 [.ref (ad x0), .long x1] D X ad n A J := ⟨hx, hb, hr, hml, hown, hlk, hnm, hts, hK, hZ, hA, hWT⟩
  unfold wp_J7_fill_d0a16 at h
  have hl : lv_has ls 5 [(0, .ref (ad x0)), (1, .long x1)] := hl
  refine lv_iconst (v := 0) hx hb dJ7_fill_d0a16_0 (by decide) ?_
  refine lv_istore_n (lv' := [(3, .int 0), (0, .ref (ad x0)), (1, .long x1)]) hx hb dJ7_fill_d0a16_1 rfl hl (by decide) rfl (fun ls hl => ?_)
  refine lv_aload_n hx hb dJ7_fill_d0a16_2 rfl (lv_at hl 1 rfl) ?_
  refine m_alenL hx hb hK hV t0 dJ7_fill_d0a16_3 ?_
  refine lv_topi (fun x4_1 ex4_1 => ?_)
  replace h := h x4_1 ex4_1
  refine lv_istore (lv' := [(4, .int x4_1), (3, .int 0), (0, .ref (ad x0)), (1, .long x1)]) hx hb dJ7_fill_d0a16_4 hl (by decide) rfl (fun ls hl => ?_)
  obtain ⟨fu0, h⟩ := h
  exact n_J7_fill_d0a16_6 rfl C0 t0   fu0 0 _ _ _ _ _ h hV (lv_sub hl [2, 3, 1, 0] rfl)
set_option maxHeartbeats 4000000 in
set_option maxRecDepth 100000 in
theorem n_J7_fill_53178_5 {p : Program} {l : Launch} {e : Env} {s : State} {m : MethodId} {below : List Frame} {meth : Method} {c : Code} {D : va_G} {X : XT} {ad : Nat → Nat} {n : Nat} {A : Nat → Prop} {J : MJ} {av : List Value} {R : Room} (hR : R = ({ frames := 0, cells := 0, slots := 0, locals := 0 } : Room)) (C0 : Cx p s m meth c cJ7_fill_53178 none 4 yJ7_fill_53178 av D X ad n A J) {q : MI → ML → Prop}  {x0 : Nat} {x1 : Int32} {x3 : Int32} (t0 : Ty X n x0 0) : ∀ (fu : Nat) (x2 : Int32) (I : MI) (L : ML) (H : Heap) (locs : List Loc) (ls : Array Slot), wl_J7_fill_53178_5 X J q  x0 x1 x3 fu x2 I L → Wd D X ad n A s.heap J I L H locs → lv_has ls 4 [(0, .ref (ad x0)), (1, .int x1), (2, .int x2), (3, .int x3)] → W p l e R s m av.toArray below meth c H locs 0 0 (MQ below (QV D X ad n A J q) av.toArray s 0 0 A) (F0 m 5 ls []) := by
  obtain ⟨hx, hb, hr, hml, hown, hlk, hnm, hts, hK, hZ, hA, hWT⟩ := id C0
  subst hR
  intro fu
  induction fu with
  | zero => intro x2 I L H locs ls h; exact absurd h (fun h => h)
  | succ fu ih =>
    intro x2 I L H locs ls h hV hl
    refine lv_iload_n hx hb dJ7_fill_53178_5 rfl (lv_at hl 2 rfl) ?_
    refine lv_iload_n hx hb dJ7_fill_53178_6 rfl (lv_at hl 3 rfl) ?_
    refine lv_icmp_ge (tgt := 20) hx hb dJ7_fill_53178_7 (by decide) (fun hc => ?_) (fun hc => ?_)
    · replace h := h.1 hc
      exact m_vret hx hb hr hlk hK hZ hA hV h dJ7_fill_53178_20
    · replace h := h.2 hc
      refine lv_aload_n hx hb dJ7_fill_53178_10 rfl (lv_at hl 0 rfl) ?_
      refine lv_iload_n hx hb dJ7_fill_53178_11 rfl (lv_at hl 2 rfl) ?_
      refine lv_iload_n hx hb dJ7_fill_53178_12 rfl (lv_at hl 1 rfl) ?_
      obtain ⟨hi_2, h⟩ := h
      refine m_iast hx hb hK hV t0 hi_2 dJ7_fill_53178_13 (fun H locs hV => ?_)
      obtain ⟨I_3, eI_3⟩ : ∃ y, y = ms I x0 x2.toNatClampNeg x1 := ⟨_, rfl⟩
      replace hV : Wd D X ad n A s.heap J I_3 L H locs := by rw [eI_3]; exact hV
      replace h := h I_3 eI_3
      obtain ⟨x2_4, ex2_4⟩ : ∃ y : Int32, y = x2 + 1 := ⟨_, rfl⟩
      replace h := h x2_4 ex2_4
      refine lv_iinc (v := x2_4) (lv' := [(2, .int x2_4), (0, .ref (ad x0)), (1, .int x1), (3, .int x3)]) hx hb dJ7_fill_53178_14 hl (k := 2) rfl (by rw [ex2_4]; rfl) (by decide) rfl (fun ls hl => ?_)
      refine lv_goto (tgt := 5) hx hb dJ7_fill_53178_17 (by decide) ?_
      exact ih x2_4 _ _ _ _ _ h hV (lv_sub hl [1, 2, 0, 3] rfl)
set_option maxHeartbeats 4000000 in
set_option maxRecDepth 100000 in
theorem s_J7_fill_53178 (l : Launch) (D : va_G) (X : XT) (ad : Nat → Nat) (n : Nat) (A : Nat → Prop) (J : MJ) (hWT : WT X n J) (x0 : Nat) (t0 : Ty X n x0 0) (x1 : Int32) (I : MI) (L : ML) (q : MI → ML → Prop) (h : wp_J7_fill_53178 X J x0 x1 I L q) : Met l yJ7_fill_53178 (wz yJ7_fill_53178 cJ7_fill_53178 4 none) ({ frames := 0, cells := 0, slots := 0, locals := 0 } : Room) (va_Pc [.ref (ad x0), .int x1] (Pr D X ad n A J I L)) (QV D X ad n A J q) 0 0 A := by
  refine Met_go (by decide +kernel) (Nat.le_of_ble_eq_true rfl) (fun p e s m below meth c hx hb hr hml hown hlk hnm hts hK hZ hA hV ls hl => ?_)
  have C0 : Cx p s m meth c cJ7_fill_53178 none 4 yJ7_fill_53178 [.ref (ad x0), .int x1] D X ad n A J := ⟨hx, hb, hr, hml, hown, hlk, hnm, hts, hK, hZ, hA, hWT⟩
  unfold wp_J7_fill_53178 at h
  have hl : lv_has ls 4 [(0, .ref (ad x0)), (1, .int x1)] := hl
  refine lv_iconst (v := 0) hx hb dJ7_fill_53178_0 (by decide) ?_
  refine lv_istore_n (lv' := [(2, .int 0), (0, .ref (ad x0)), (1, .int x1)]) hx hb dJ7_fill_53178_1 rfl hl (by decide) rfl (fun ls hl => ?_)
  refine lv_aload_n hx hb dJ7_fill_53178_2 rfl (lv_at hl 1 rfl) ?_
  refine m_alen hx hb hK hV t0 dJ7_fill_53178_3 ?_
  refine lv_topi (fun x3_1 ex3_1 => ?_)
  replace h := h x3_1 ex3_1
  refine lv_istore_n (lv' := [(3, .int x3_1), (2, .int 0), (0, .ref (ad x0)), (1, .int x1)]) hx hb dJ7_fill_53178_4 rfl hl (by decide) rfl (fun ls hl => ?_)
  obtain ⟨fu0, h⟩ := h
  exact n_J7_fill_53178_5 rfl C0 t0   fu0 0 _ _ _ _ _ h hV (lv_sub hl [2, 3, 1, 0] rfl)
set_option maxHeartbeats 4000000 in
set_option maxRecDepth 100000 in
theorem s_X2_ofRank (l : Launch) (D : va_G) (X : XT) (ad : Nat → Nat) (n : Nat) (A : Nat → Prop) (J : MJ) (hWT : WT X n J) (x0 : Int32) (I : MI) (L : ML) (q : Option Nat → MI → ML → Prop) (h : wp_X2_ofRank X J x0 I L q) : Met l yX2_ofRank (wz yX2_ofRank cX2_ofRank 1 (some (.object "LatticeVault$ParameterSet"))) ({ frames := 0, cells := 0, slots := 0, locals := 0 } : Room) (va_Pc [.int x0] (Pr D X ad n A J I L)) (QE X.2.1 (fun k => k < 3) D X ad n A J q) 0 0 A := by
  refine Met_go (by decide +kernel) (Nat.le_of_ble_eq_true rfl) (fun p e s m below meth c hx hb hr hml hown hlk hnm hts hK hZ hA hV ls hl => ?_)
  have C0 : Cx p s m meth c cX2_ofRank (some (.object "LatticeVault$ParameterSet")) 1 yX2_ofRank [.int x0] D X ad n A J := ⟨hx, hb, hr, hml, hown, hlk, hnm, hts, hK, hZ, hA, hWT⟩
  unfold wp_X2_ofRank at h
  have hl : lv_has ls 1 [(0, .int x0)] := hl
  refine lv_iload_n hx hb dX2_ofRank_0 rfl (lv_at hl 0 rfl) ?_
  by_cases hsw : x0.toInt < 2 ∨ 4 < x0.toInt
  · replace h := h.1 hsw
    refine lv_tableOut (tgt := 40) hx hb dX2_ofRank_1 hsw (by decide) ?_
    refine lv_null hx hb dX2_ofRank_40 ?_
    exact m_eret hx hb hr (Or.inl ⟨_, rfl⟩) hlk hK hZ hA hV none rfl h (fun _ z => by cases z) dX2_ofRank_41
  · replace h := h.2
    obtain ⟨jsw, hjsw, ejsw⟩ := sw_in 2 2 (by decide) (by decide) (by decide) (fun z => hsw (Or.inl z)) (fun z => hsw (Or.inr z))
    rcases (show jsw = 0 ∨ jsw = 1 ∨ jsw = 2 by omega) with rfl | rfl | rfl
    · replace h := h.1 ejsw
      refine lv_tableIn (off := 27) (tgt := 28) hx hb dX2_ofRank_1 (fun z => hsw (Or.inl z)) (fun z => hsw (Or.inr z)) (by rw [ejsw]; decide +kernel) (by decide) ?_
      refine va_gets (v := .ref (X.2.1 0)) hx hb (hZ.1.1 0 (by decide)).1 hV.2.2 hown (hts _ tw_1_209) (fun _ h9 => h9) dX2_ofRank_28 ?_
      exact m_eret hx hb hr (Or.inl ⟨_, rfl⟩) hlk hK hZ hA hV (some 0) rfl h (fun _ z => by cases z; exact (by decide : 0 < 3)) dX2_ofRank_31
    · replace h := h.2.1 ejsw
      refine lv_tableIn (off := 31) (tgt := 32) hx hb dX2_ofRank_1 (fun z => hsw (Or.inl z)) (fun z => hsw (Or.inr z)) (by rw [ejsw]; decide +kernel) (by decide) ?_
      refine va_gets (v := .ref (X.2.1 1)) hx hb (hZ.1.1 1 (by decide)).1 hV.2.2 hown (hts _ tw_1_211) (fun _ h9 => h9) dX2_ofRank_32 ?_
      exact m_eret hx hb hr (Or.inl ⟨_, rfl⟩) hlk hK hZ hA hV (some 1) rfl h (fun _ z => by cases z; exact (by decide : 1 < 3)) dX2_ofRank_35
    · replace h := h.2.2 ejsw
      refine lv_tableIn (off := 35) (tgt := 36) hx hb dX2_ofRank_1 (fun z => hsw (Or.inl z)) (fun z => hsw (Or.inr z)) (by rw [ejsw]; decide +kernel) (by decide) ?_
      refine va_gets (v := .ref (X.2.1 2)) hx hb (hZ.1.1 2 (by decide)).1 hV.2.2 hown (hts _ tw_1_212) (fun _ h9 => h9) dX2_ofRank_36 ?_
      exact m_eret hx hb hr (Or.inl ⟨_, rfl⟩) hlk hK hZ hA hV (some 2) rfl h (fun _ z => by cases z; exact (by decide : 2 < 3)) dX2_ofRank_39
set_option maxHeartbeats 4000000 in
set_option maxRecDepth 100000 in
theorem s_X2_innerLength (l : Launch) (D : va_G) (X : XT) (ad : Nat → Nat) (n : Nat) (A : Nat → Prop) (J : MJ) (hWT : WT X n J) (x0 : Nat) (t0 : x0 < 3) (I : MI) (L : ML) (q : Int32 → MI → ML → Prop) (h : wp_X2_innerLength X J x0 I L q) : Met l yX2_innerLength (wz yX2_innerLength cX2_innerLength 1 (some .int)) ({ frames := 0, cells := 0, slots := 0, locals := 0 } : Room) (va_Pc [.ref (X.2.1 x0)] (Pr D X ad n A J I L)) (QI D X ad n A J q) 0 0 A := by
  refine Met_go (by decide +kernel) (Nat.le_of_ble_eq_true rfl) (fun p e s m below meth c hx hb hr hml hown hlk hnm hts hK hZ hA hV ls hl => ?_)
  have C0 : Cx p s m meth c cX2_innerLength (some .int) 1 yX2_innerLength [.ref (X.2.1 x0)] D X ad n A J := ⟨hx, hb, hr, hml, hown, hlk, hnm, hts, hK, hZ, hA, hWT⟩
  unfold wp_X2_innerLength at h
  have hl : lv_has ls 1 [(0, .ref (X.2.1 x0))] := hl
  refine lv_sipush (v := 384) hx hb dX2_innerLength_0 (by decide) ?_
  refine lv_aload_n hx hb dX2_innerLength_3 rfl (lv_at hl 0 rfl) ?_
  refine va_getE (q := enF.getD 0 ("", "", "", [])) hx hb hZ.1 t0 hV.2.2 hown (by decide) (hts _ tw_4_157) (fun _ h9 => h9) dX2_innerLength_4 ?_
  refine lv_imul hx hb dX2_innerLength_7 ?_
  exact m_iret hx hb hr hlk hK hZ hA hV h dX2_innerLength_8
set_option maxHeartbeats 4000000 in
set_option maxRecDepth 100000 in
theorem s_X2_publicLength (l : Launch) (D : va_G) (X : XT) (ad : Nat → Nat) (n : Nat) (A : Nat → Prop) (J : MJ) (hWT : WT X n J) (x0 : Nat) (t0 : x0 < 3) (I : MI) (L : ML) (q : Int32 → MI → ML → Prop) (h : wp_X2_publicLength X J x0 I L q) : Met l yX2_publicLength (wz yX2_publicLength cX2_publicLength 1 (some .int)) ({ frames := 0, cells := 0, slots := 0, locals := 0 } : Room) (va_Pc [.ref (X.2.1 x0)] (Pr D X ad n A J I L)) (QI D X ad n A J q) 0 0 A := by
  refine Met_go (by decide +kernel) (Nat.le_of_ble_eq_true rfl) (fun p e s m below meth c hx hb hr hml hown hlk hnm hts hK hZ hA hV ls hl => ?_)
  have C0 : Cx p s m meth c cX2_publicLength (some .int) 1 yX2_publicLength [.ref (X.2.1 x0)] D X ad n A J := ⟨hx, hb, hr, hml, hown, hlk, hnm, hts, hK, hZ, hA, hWT⟩
  unfold wp_X2_publicLength at h
  have hl : lv_has ls 1 [(0, .ref (X.2.1 x0))] := hl
  refine lv_sipush (v := 384) hx hb dX2_publicLength_0 (by decide) ?_
  refine lv_aload_n hx hb dX2_publicLength_3 rfl (lv_at hl 0 rfl) ?_
  refine va_getE (q := enF.getD 0 ("", "", "", [])) hx hb hZ.1 t0 hV.2.2 hown (by decide) (hts _ tw_4_157) (fun _ h9 => h9) dX2_publicLength_4 ?_
  refine lv_imul hx hb dX2_publicLength_7 ?_
  refine lv_bipush (v := 32) hx hb dX2_publicLength_8 (by decide) ?_
  refine lv_iadd hx hb dX2_publicLength_10 ?_
  exact m_iret hx hb hr hlk hK hZ hA hV h dX2_publicLength_11
set_option maxHeartbeats 4000000 in
set_option maxRecDepth 100000 in
theorem s_X2_privateLength (l : Launch) (D : va_G) (X : XT) (ad : Nat → Nat) (n : Nat) (A : Nat → Prop) (J : MJ) (hWT : WT X n J) (x0 : Nat) (t0 : x0 < 3) (I : MI) (L : ML) (q : Int32 → MI → ML → Prop) (h : wp_X2_privateLength X J x0 I L q) : Met l yX2_privateLength (wz yX2_privateLength cX2_privateLength 1 (some .int)) ({ frames := 0, cells := 0, slots := 0, locals := 0 } : Room) (va_Pc [.ref (X.2.1 x0)] (Pr D X ad n A J I L)) (QI D X ad n A J q) 0 0 A := by
  refine Met_go (by decide +kernel) (Nat.le_of_ble_eq_true rfl) (fun p e s m below meth c hx hb hr hml hown hlk hnm hts hK hZ hA hV ls hl => ?_)
  have C0 : Cx p s m meth c cX2_privateLength (some .int) 1 yX2_privateLength [.ref (X.2.1 x0)] D X ad n A J := ⟨hx, hb, hr, hml, hown, hlk, hnm, hts, hK, hZ, hA, hWT⟩
  unfold wp_X2_privateLength at h
  have hl : lv_has ls 1 [(0, .ref (X.2.1 x0))] := hl
  refine lv_sipush (v := 768) hx hb dX2_privateLength_0 (by decide) ?_
  refine lv_aload_n hx hb dX2_privateLength_3 rfl (lv_at hl 0 rfl) ?_
  refine va_getE (q := enF.getD 0 ("", "", "", [])) hx hb hZ.1 t0 hV.2.2 hown (by decide) (hts _ tw_4_157) (fun _ h9 => h9) dX2_privateLength_4 ?_
  refine lv_imul hx hb dX2_privateLength_7 ?_
  refine lv_bipush (v := 96) hx hb dX2_privateLength_8 (by decide) ?_
  refine lv_iadd hx hb dX2_privateLength_10 ?_
  exact m_iret hx hb hr hlk hK hZ hA hV h dX2_privateLength_11
set_option maxHeartbeats 4000000 in
set_option maxRecDepth 100000 in
theorem s_X2_textLength (l : Launch) (D : va_G) (X : XT) (ad : Nat → Nat) (n : Nat) (A : Nat → Prop) (J : MJ) (hWT : WT X n J) (x0 : Nat) (t0 : x0 < 3) (I : MI) (L : ML) (q : Int32 → MI → ML → Prop) (h : wp_X2_textLength X J x0 I L q) : Met l yX2_textLength (wz yX2_textLength cX2_textLength 1 (some .int)) ({ frames := 0, cells := 0, slots := 0, locals := 0 } : Room) (va_Pc [.ref (X.2.1 x0)] (Pr D X ad n A J I L)) (QI D X ad n A J q) 0 0 A := by
  refine Met_go (by decide +kernel) (Nat.le_of_ble_eq_true rfl) (fun p e s m below meth c hx hb hr hml hown hlk hnm hts hK hZ hA hV ls hl => ?_)
  have C0 : Cx p s m meth c cX2_textLength (some .int) 1 yX2_textLength [.ref (X.2.1 x0)] D X ad n A J := ⟨hx, hb, hr, hml, hown, hlk, hnm, hts, hK, hZ, hA, hWT⟩
  unfold wp_X2_textLength at h
  have hl : lv_has ls 1 [(0, .ref (X.2.1 x0))] := hl
  refine lv_bipush (v := 32) hx hb dX2_textLength_0 (by decide) ?_
  refine lv_aload_n hx hb dX2_textLength_2 rfl (lv_at hl 0 rfl) ?_
  refine va_getE (q := enF.getD 3 ("", "", "", [])) hx hb hZ.1 t0 hV.2.2 hown (by decide) (hts _ tw_4_160) (fun _ h9 => h9) dX2_textLength_3 ?_
  refine lv_aload_n hx hb dX2_textLength_6 rfl (lv_at hl 0 rfl) ?_
  refine va_getE (q := enF.getD 0 ("", "", "", [])) hx hb hZ.1 t0 hV.2.2 hown (by decide) (hts _ tw_4_157) (fun _ h9 => h9) dX2_textLength_7 ?_
  refine lv_imul hx hb dX2_textLength_10 ?_
  refine lv_aload_n hx hb dX2_textLength_11 rfl (lv_at hl 0 rfl) ?_
  refine va_getE (q := enF.getD 4 ("", "", "", [])) hx hb hZ.1 t0 hV.2.2 hown (by decide) (hts _ tw_4_161) (fun _ h9 => h9) dX2_textLength_12 ?_
  refine lv_iadd hx hb dX2_textLength_15 ?_
  refine lv_imul hx hb dX2_textLength_16 ?_
  exact m_iret hx hb hr hlk hK hZ hA hV h dX2_textLength_17
