theorem tw_1_34 : Cond.fieldLink RX4 25 "LatticeVault$Row" "size" "I" ∈ gt := g1 34 (by decide +kernel) (by decide +kernel)
theorem tw_1_32 : Cond.fieldLink RX4 21 "LatticeVault$Row" "words" "[I" ∈ gt := g1 32 (by decide +kernel) (by decide +kernel)
theorem tw_1_33 : Cond.fieldLink RX4 15 "LatticeVault$Row" "room" "I" ∈ gt := g1 33 (by decide +kernel) (by decide +kernel)
theorem tw_1_170 : Cond.methodLink RX4 28 yX4_replace ∈ gt := g1 170 (by decide +kernel) (by decide +kernel)
theorem tw_1_171 : Cond.instanceMethod yX4_replace ∈ gt := g1 171 (by decide +kernel) (by decide +kernel)
theorem tw_1_172 : Cond.selects RX4 yX4_replace yX4_replace ∈ gt := g1 172 (by decide +kernel) (by decide +kernel)
theorem tw_1_2 : Cond.initialized RX4 ∈ gt := g1 2 (by decide +kernel) (by decide +kernel)
theorem tw_1_173 : Cond.code yX4_replace cX4_replace 4 (some .boolean) ∈ gt := g1 173 rfl (by rfl)
theorem tw_1_166 : Cond.methodLink RX4 32 yX4_append ∈ gt := g1 166 (by decide +kernel) (by decide +kernel)
theorem tw_1_167 : Cond.instanceMethod yX4_append ∈ gt := g1 167 (by decide +kernel) (by decide +kernel)
theorem tw_1_168 : Cond.selects RX4 yX4_append yX4_append ∈ gt := g1 168 (by decide +kernel) (by decide +kernel)
theorem tw_1_169 : Cond.code yX4_append cX4_append 2 none ∈ gt := g1 169 rfl (by rfl)
theorem tw_2_119 : Cond.methodLink RX4 36 yX4_byteAt ∈ gt := g2 119 (by decide +kernel) (by decide +kernel)
theorem tw_1_235 : Cond.instanceMethod yX4_byteAt ∈ gt := g1 235 (by decide +kernel) (by decide +kernel)
theorem tw_1_236 : Cond.selects RX4 yX4_byteAt yX4_byteAt ∈ gt := g1 236 (by decide +kernel) (by decide +kernel)
theorem tw_1_237 : Cond.code yX4_byteAt cX4_byteAt 2 (some .int) ∈ gt := g1 237 rfl (by rfl)
theorem tw_1_194 : Cond.methodLink RX4 40 arraycopyName ∈ gt := g1 194 (by decide +kernel) (by decide +kernel)
theorem tw_1_196 : Cond.native arraycopyName ∈ gt := g1 196 (by decide +kernel) (by decide +kernel)
theorem tw_1_195 : Cond.static arraycopyName ∈ gt := g1 195 (by decide +kernel) (by decide +kernel)
theorem tw_1_10 : Cond.initialized "java/lang/System" ∈ gt := g1 10 (by decide +kernel) (by decide +kernel)
theorem tw_2_227 : Cond.methodLink RX4 46 yX4_partIsSame ∈ gt := g2 227 (by decide +kernel) (by decide +kernel)
theorem tw_2_158 : Cond.instanceMethod yX4_partIsSame ∈ gt := g2 158 (by decide +kernel) (by decide +kernel)
theorem tw_2_159 : Cond.selects RX4 yX4_partIsSame yX4_partIsSame ∈ gt := g2 159 (by decide +kernel) (by decide +kernel)
theorem tw_2_160 : Cond.code yX4_partIsSame cX4_partIsSame 6 (some .boolean) ∈ gt := g2 160 rfl (by rfl)
def wp_X4_size (X : XT) (J : MJ) (x0 : Nat) (I : MI) (L : ML) (q : Int32 → MI → ML → Prop) : Prop := q (I x0 2) I L
def wp_X4_clear (X : XT) (J : MJ) (x0 : Nat) (I : MI) (L : ML) (q : MI → ML → Prop) : Prop := (∀ I_1, I_1 = ms I x0 2 0 → q I_1 L)
def wp_X4_cutTo (X : XT) (J : MJ) (x0 : Nat) (x1 : Int32) (I : MI) (L : ML) (q : MI → ML → Prop) : Prop := (((x1 < 0) → q I L) ∧ (¬ (x1 < 0) → ((((I x0 2) ≤ x1) → q I L) ∧ (¬ ((I x0 2) ≤ x1) → (∀ I_1, I_1 = ms I x0 2 x1 → q I_1 L)))))
def wp_X4_byteAt (X : XT) (J : MJ) (x0 : Nat) (x1 : Int32) (I : MI) (L : ML) (q : Int32 → MI → ML → Prop) : Prop := (((x1 < 0) → q (-1) I L) ∧ (¬ (x1 < 0) → (((x1 < (I x0 2)) → (∃ r_1 : Nat, J x0 0 = some r_1 ∧ (vp_in (jshr x1 2) (sl X r_1) ∧ q ((jushr (I r_1 (jshr x1 2).toNatClampNeg) (jshl (x1 &&& 3) 3)) &&& 255) I L))) ∧ (¬ (x1 < (I x0 2)) → q (-1) I L))))
def wp_X4_replace (X : XT) (J : MJ) (x0 : Nat) (x1 : Int32) (x2 : Int32) (I : MI) (L : ML) (q : Int32 → MI → ML → Prop) : Prop := (((x1 < 0) → q 0 I L) ∧ (¬ (x1 < 0) → (((x1 < (I x0 2)) → (∀ x3_1 : Int32, x3_1 = jshl (x1 &&& 3) 3 → (∃ r_2 : Nat, J x0 0 = some r_2 ∧ (vp_in (jshr x1 2) (sl X r_2) ∧ (vp_in (jshr x1 2) (sl X r_2) ∧ ∀ I_5, I_5 = ms I r_2 (jshr x1 2).toNatClampNeg (((I r_2 (jshr x1 2).toNatClampNeg) &&& ((jshl 255 x3_1) ^^^ (-1))) ||| (jshl (x2 &&& 255) x3_1)) → q 1 I_5 L))))) ∧ (¬ (x1 < (I x0 2)) → q 0 I L))))
def wp_X4_append (X : XT) (J : MJ) (x0 : Nat) (x1 : Int32) (I : MI) (L : ML) (q : MI → ML → Prop) : Prop := ((((I x0 1) ≤ (I x0 2)) → q I L) ∧ (¬ ((I x0 1) ≤ (I x0 2)) → (∀ I_1, I_1 = ms I x0 2 ((I x0 2) + 1) → (wp_X4_replace X J x0 ((I_1 x0 2) - 1) x1 I_1 L (fun v_4 I_2 L_3 => q I_2 L_3)))))
def wp_X4_appendWord (X : XT) (J : MJ) (x0 : Nat) (x1 : Int32) (I : MI) (L : ML) (q : MI → ML → Prop) : Prop := (wp_X4_append X J x0 (jushr x1 24) I L (fun I_1 L_2 => (wp_X4_append X J x0 (jushr x1 16) I_1 L_2 (fun I_3 L_4 => (wp_X4_append X J x0 (jushr x1 8) I_3 L_4 (fun I_5 L_6 => (wp_X4_append X J x0 x1 I_5 L_6 (fun I_7 L_8 => q I_7 L_8))))))))
def wl_X4_appendPart_3 (X : XT) (J : MJ) (q : MI → ML → Prop)  (x0 : Nat) (x1 : Nat) (x2 : Int32) (x3 : Int32) : Nat → Int32 → MI → ML → Prop
  | 0 => fun _ _ _ => False
  | fu + 1 => fun x4 I L => (((x3 ≤ x4) → q I L) ∧ (¬ (x3 ≤ x4) → (wp_X4_byteAt X J x1 (x2 + x4) I L (fun v_3 I_1 L_2 => (wp_X4_append X J x0 v_3 I_1 L_2 (fun I_4 L_5 => (∀ x4_6 : Int32, x4_6 = x4 + 1 → wl_X4_appendPart_3 X J q  x0 x1 x2 x3 fu x4_6 I_4 L_5)))))))
def wp_X4_appendPart (X : XT) (J : MJ) (x0 : Nat) (x1 : Nat) (x2 : Int32) (x3 : Int32) (I : MI) (L : ML) (q : MI → ML → Prop) : Prop := ∃ fu0 : Nat, wl_X4_appendPart_3 X J q  x0 x1 x2 x3 fu0 0 I L
def wp_X4_become (X : XT) (J : MJ) (x0 : Nat) (x1 : Nat) (I : MI) (L : ML) (q : MI → ML → Prop) : Prop := ((((I x1 2) ≤ (I x0 1)) → (∃ r_1 : Nat, J x1 0 = some r_1 ∧ (∃ r_2 : Nat, J x0 0 = some r_2 ∧ (¬ (0 : Int32) < 0 ∧ ¬ (0 : Int32) < 0 ∧ ¬ (((I x1 2) + 3) / 4 : Int32) < 0 ∧ (0 : Int32).toNatClampNeg + (((I x1 2) + 3) / 4).toNatClampNeg ≤ sl X r_1 ∧ (0 : Int32).toNatClampNeg + (((I x1 2) + 3) / 4).toNatClampNeg ≤ sl X r_2 ∧ ∀ I_4, I_4 = va_up I r_2 (va_cpy (I r_1) (I r_2) (0 : Int32).toNatClampNeg (0 : Int32).toNatClampNeg (((I x1 2) + 3) / 4).toNatClampNeg) → (∀ I_5, I_5 = ms I_4 x0 2 (I_4 x1 2) → q I_5 L))))) ∧ (¬ ((I x1 2) ≤ (I x0 1)) → q I L))
def wl_X4_partIsSame_3 (X : XT) (J : MJ) (q : Int32 → MI → ML → Prop)  (x0 : Nat) (x1 : Int32) (x2 : Nat) (x3 : Int32) (x4 : Int32) : Nat → Int32 → MI → ML → Prop
  | 0 => fun _ _ _ => False
  | fu + 1 => fun x5 I L => (((x4 ≤ x5) → q 1 I L) ∧ (¬ (x4 ≤ x5) → (wp_X4_byteAt X J x0 (x1 + x5) I L (fun v_3 I_1 L_2 => (wp_X4_byteAt X J x2 (x3 + x5) I_1 L_2 (fun v_6 I_4 L_5 => (((v_3 = v_6) → (∀ x5_7 : Int32, x5_7 = x5 + 1 → wl_X4_partIsSame_3 X J q  x0 x1 x2 x3 x4 fu x5_7 I_4 L_5)) ∧ (¬ (v_3 = v_6) → q 0 I_4 L_5))))))))
def wp_X4_partIsSame (X : XT) (J : MJ) (x0 : Nat) (x1 : Int32) (x2 : Nat) (x3 : Int32) (x4 : Int32) (I : MI) (L : ML) (q : Int32 → MI → ML → Prop) : Prop := ∃ fu0 : Nat, wl_X4_partIsSame_3 X J q  x0 x1 x2 x3 x4 fu0 0 I L
def wp_X4_sameAs (X : XT) (J : MJ) (x0 : Nat) (x1 : Nat) (I : MI) (L : ML) (q : Int32 → MI → ML → Prop) : Prop := ((¬ ((I x0 2) = (I x1 2)) → q 0 I L) ∧ (((I x0 2) = (I x1 2)) → (wp_X4_partIsSame X J x0 0 x1 0 (I x0 2) I L (fun v_3 I_1 L_2 => (((v_3 = 0) → q 0 I_1 L_2) ∧ (¬ (v_3 = 0) → q 1 I_1 L_2))))))
set_option maxHeartbeats 4000000 in
set_option maxRecDepth 100000 in
theorem s_X4_size (l : Launch) (D : va_G) (X : XT) (ad : Nat → Nat) (n : Nat) (A : Nat → Prop) (J : MJ) (hWT : WT X n J) (x0 : Nat) (t0 : Ty X n x0 5) (I : MI) (L : ML) (q : Int32 → MI → ML → Prop) (h : wp_X4_size X J x0 I L q) : Met l yX4_size (wz yX4_size cX4_size 1 (some .int)) ({ frames := 0, cells := 0, slots := 0, locals := 0 } : Room) (va_Pc [.ref (ad x0)] (Pr D X ad n A J I L)) (QI D X ad n A J q) 0 0 A := by
  refine Met_go (by decide +kernel) (Nat.le_of_ble_eq_true rfl) (fun p e s m below meth c hx hb hr hml hown hlk hnm hts hK hZ hA hV ls hl => ?_)
  have C0 : Cx p s m meth c cX4_size (some .int) 1 yX4_size [.ref (ad x0)] D X ad n A J := ⟨hx, hb, hr, hml, hown, hlk, hnm, hts, hK, hZ, hA, hWT⟩
  unfold wp_X4_size at h
  have hl : lv_has ls 1 [(0, .ref (ad x0))] := hl
  refine lv_aload_n hx hb dX4_size_0 rfl (lv_at hl 0 rfl) ?_
  refine m_geti (C := RX4) (T := TX4) (N := 3) (ci := 1) hx hb hts iwX4 hown hK hV t0 rfl 2 (by decide) rfl rfl (hts _ tw_1_34) (fun _ h9 => h9) dX4_size_1 ?_
  exact m_iret hx hb hr hlk hK hZ hA hV h dX4_size_4
set_option maxHeartbeats 4000000 in
set_option maxRecDepth 100000 in
theorem s_X4_clear (l : Launch) (D : va_G) (X : XT) (ad : Nat → Nat) (n : Nat) (A : Nat → Prop) (J : MJ) (hWT : WT X n J) (x0 : Nat) (t0 : Ty X n x0 5) (I : MI) (L : ML) (q : MI → ML → Prop) (h : wp_X4_clear X J x0 I L q) : Met l yX4_clear (wz yX4_clear cX4_clear 1 none) ({ frames := 0, cells := 0, slots := 0, locals := 0 } : Room) (va_Pc [.ref (ad x0)] (Pr D X ad n A J I L)) (QV D X ad n A J q) 0 0 A := by
  refine Met_go (by decide +kernel) (Nat.le_of_ble_eq_true rfl) (fun p e s m below meth c hx hb hr hml hown hlk hnm hts hK hZ hA hV ls hl => ?_)
  have C0 : Cx p s m meth c cX4_clear none 1 yX4_clear [.ref (ad x0)] D X ad n A J := ⟨hx, hb, hr, hml, hown, hlk, hnm, hts, hK, hZ, hA, hWT⟩
  unfold wp_X4_clear at h
  have hl : lv_has ls 1 [(0, .ref (ad x0))] := hl
  refine lv_aload_n hx hb dX4_clear_0 rfl (lv_at hl 0 rfl) ?_
  refine lv_iconst (v := 0) hx hb dX4_clear_1 (by decide) ?_
  refine m_puti (C := RX4) (T := TX4) (N := 3) (ci := 1) (ty := .int) hx hb hts iwX4 hown hK hV tyX4 tyX4_ok nmX4 t0 rfl 2 (by decide) rfl rfl (hts _ tw_1_34) (fun _ h9 => h9) rfl (by decide +kernel) rfl rfl dX4_clear_2 (fun H locs hV => ?_)
  obtain ⟨I_1, eI_1⟩ : ∃ y, y = ms I x0 2 0 := ⟨_, rfl⟩
  replace hV : Wd D X ad n A s.heap J I_1 L H locs := by rw [eI_1]; exact hV
  replace h := h I_1 eI_1
  exact m_vret hx hb hr hlk hK hZ hA hV h dX4_clear_5
set_option maxHeartbeats 4000000 in
set_option maxRecDepth 100000 in
theorem s_X4_cutTo (l : Launch) (D : va_G) (X : XT) (ad : Nat → Nat) (n : Nat) (A : Nat → Prop) (J : MJ) (hWT : WT X n J) (x0 : Nat) (t0 : Ty X n x0 5) (x1 : Int32) (I : MI) (L : ML) (q : MI → ML → Prop) (h : wp_X4_cutTo X J x0 x1 I L q) : Met l yX4_cutTo (wz yX4_cutTo cX4_cutTo 2 none) ({ frames := 0, cells := 0, slots := 0, locals := 0 } : Room) (va_Pc [.ref (ad x0), .int x1] (Pr D X ad n A J I L)) (QV D X ad n A J q) 0 0 A := by
  refine Met_go (by decide +kernel) (Nat.le_of_ble_eq_true rfl) (fun p e s m below meth c hx hb hr hml hown hlk hnm hts hK hZ hA hV ls hl => ?_)
  have C0 : Cx p s m meth c cX4_cutTo none 2 yX4_cutTo [.ref (ad x0), .int x1] D X ad n A J := ⟨hx, hb, hr, hml, hown, hlk, hnm, hts, hK, hZ, hA, hWT⟩
  unfold wp_X4_cutTo at h
  have hl : lv_has ls 2 [(0, .ref (ad x0)), (1, .int x1)] := hl
  refine lv_iload_n hx hb dX4_cutTo_0 rfl (lv_at hl 1 rfl) ?_
  refine lv_if_lt (tgt := 17) hx hb dX4_cutTo_1 (by decide) (fun hc => ?_) (fun hc => ?_)
  · replace h := h.1 hc
    exact m_vret hx hb hr hlk hK hZ hA hV h dX4_cutTo_17
  · replace h := h.2 hc
    refine lv_iload_n hx hb dX4_cutTo_4 rfl (lv_at hl 1 rfl) ?_
    refine lv_aload_n hx hb dX4_cutTo_5 rfl (lv_at hl 0 rfl) ?_
    refine m_geti (C := RX4) (T := TX4) (N := 3) (ci := 1) hx hb hts iwX4 hown hK hV t0 rfl 2 (by decide) rfl rfl (hts _ tw_1_34) (fun _ h9 => h9) dX4_cutTo_6 ?_
    refine lv_icmp_ge (tgt := 17) hx hb dX4_cutTo_9 (by decide) (fun hc => ?_) (fun hc => ?_)
    · replace h := h.1 hc
      exact m_vret hx hb hr hlk hK hZ hA hV h dX4_cutTo_17
    · replace h := h.2 hc
      refine lv_aload_n hx hb dX4_cutTo_12 rfl (lv_at hl 0 rfl) ?_
      refine lv_iload_n hx hb dX4_cutTo_13 rfl (lv_at hl 1 rfl) ?_
      refine m_puti (C := RX4) (T := TX4) (N := 3) (ci := 1) (ty := .int) hx hb hts iwX4 hown hK hV tyX4 tyX4_ok nmX4 t0 rfl 2 (by decide) rfl rfl (hts _ tw_1_34) (fun _ h9 => h9) rfl (by decide +kernel) rfl rfl dX4_cutTo_14 (fun H locs hV => ?_)
      obtain ⟨I_1, eI_1⟩ : ∃ y, y = ms I x0 2 x1 := ⟨_, rfl⟩
      replace hV : Wd D X ad n A s.heap J I_1 L H locs := by rw [eI_1]; exact hV
      replace h := h I_1 eI_1
      exact m_vret hx hb hr hlk hK hZ hA hV h dX4_cutTo_17
set_option maxHeartbeats 4000000 in
set_option maxRecDepth 100000 in
theorem s_X4_byteAt (l : Launch) (D : va_G) (X : XT) (ad : Nat → Nat) (n : Nat) (A : Nat → Prop) (J : MJ) (hWT : WT X n J) (x0 : Nat) (t0 : Ty X n x0 5) (x1 : Int32) (I : MI) (L : ML) (q : Int32 → MI → ML → Prop) (h : wp_X4_byteAt X J x0 x1 I L q) : Met l yX4_byteAt (wz yX4_byteAt cX4_byteAt 2 (some .int)) ({ frames := 0, cells := 0, slots := 0, locals := 0 } : Room) (va_Pc [.ref (ad x0), .int x1] (Pr D X ad n A J I L)) (QI D X ad n A J q) 0 0 A := by
  refine Met_go (by decide +kernel) (Nat.le_of_ble_eq_true rfl) (fun p e s m below meth c hx hb hr hml hown hlk hnm hts hK hZ hA hV ls hl => ?_)
  have C0 : Cx p s m meth c cX4_byteAt (some .int) 2 yX4_byteAt [.ref (ad x0), .int x1] D X ad n A J := ⟨hx, hb, hr, hml, hown, hlk, hnm, hts, hK, hZ, hA, hWT⟩
  unfold wp_X4_byteAt at h
  have hl : lv_has ls 2 [(0, .ref (ad x0)), (1, .int x1)] := hl
  refine lv_iload_n hx hb dX4_byteAt_0 rfl (lv_at hl 1 rfl) ?_
  refine lv_if_lt (tgt := 12) hx hb dX4_byteAt_1 (by decide) (fun hc => ?_) (fun hc => ?_)
  · replace h := h.1 hc
    refine lv_iconst (v := (-1)) hx hb dX4_byteAt_12 (by decide) ?_
    exact m_iret hx hb hr hlk hK hZ hA hV h dX4_byteAt_13
  · replace h := h.2 hc
    refine lv_iload_n hx hb dX4_byteAt_4 rfl (lv_at hl 1 rfl) ?_
    refine lv_aload_n hx hb dX4_byteAt_5 rfl (lv_at hl 0 rfl) ?_
    refine m_geti (C := RX4) (T := TX4) (N := 3) (ci := 1) hx hb hts iwX4 hown hK hV t0 rfl 2 (by decide) rfl rfl (hts _ tw_1_34) (fun _ h9 => h9) dX4_byteAt_6 ?_
    refine lv_icmp_lt (tgt := 14) hx hb dX4_byteAt_9 (by decide) (fun hc => ?_) (fun hc => ?_)
    · replace h := h.1 hc
      refine lv_aload_n hx hb dX4_byteAt_14 rfl (lv_at hl 0 rfl) ?_
      obtain ⟨r_1, hr_1, h⟩ := h
      have tr_1 : Ty X n r_1 0 := hWT.r (c := 1) (j := 0) t0 rfl hr_1
      refine m_getr (C := RX4) (T := TX4) (N := 3) (ci := 1) hx hb hts iwX4 hown hK hV t0 rfl 0 (by decide) rfl rfl hr_1 (hts _ tw_1_32) (fun _ h9 => h9) dX4_byteAt_15 ?_
      refine lv_iload_n hx hb dX4_byteAt_18 rfl (lv_at hl 1 rfl) ?_
      refine lv_iconst (v := 2) hx hb dX4_byteAt_19 (by decide) ?_
      refine lv_ishr hx hb dX4_byteAt_20 ?_
      obtain ⟨hi_2, h⟩ := h
      refine m_iald hx hb hK hV tr_1 hi_2 dX4_byteAt_21 ?_
      refine lv_iload_n hx hb dX4_byteAt_22 rfl (lv_at hl 1 rfl) ?_
      refine lv_iconst (v := 3) hx hb dX4_byteAt_23 (by decide) ?_
      refine lv_iand hx hb dX4_byteAt_24 ?_
      refine lv_iconst (v := 3) hx hb dX4_byteAt_25 (by decide) ?_
      refine lv_ishl hx hb dX4_byteAt_26 ?_
      refine lv_iushr hx hb dX4_byteAt_27 rfl ?_
      refine lv_sipush (v := 255) hx hb dX4_byteAt_28 (by decide) ?_
      refine lv_iand hx hb dX4_byteAt_31 ?_
      exact m_iret hx hb hr hlk hK hZ hA hV h dX4_byteAt_32
    · replace h := h.2 hc
      refine lv_iconst (v := (-1)) hx hb dX4_byteAt_12 (by decide) ?_
      exact m_iret hx hb hr hlk hK hZ hA hV h dX4_byteAt_13
set_option maxHeartbeats 4000000 in
set_option maxRecDepth 100000 in
theorem s_X4_replace (l : Launch) (D : va_G) (X : XT) (ad : Nat → Nat) (n : Nat) (A : Nat → Prop) (J : MJ) (hWT : WT X n J) (x0 : Nat) (t0 : Ty X n x0 5) (x1 : Int32) (x2 : Int32) (I : MI) (L : ML) (q : Int32 → MI → ML → Prop) (h : wp_X4_replace X J x0 x1 x2 I L q) : Met l yX4_replace (wz yX4_replace cX4_replace 4 (some .boolean)) ({ frames := 0, cells := 0, slots := 0, locals := 0 } : Room) (va_Pc [.ref (ad x0), .int x1, .int x2] (Pr D X ad n A J I L)) (QI D X ad n A J q) 0 0 A := by
  refine Met_go (by decide +kernel) (Nat.le_of_ble_eq_true rfl) (fun p e s m below meth c hx hb hr hml hown hlk hnm hts hK hZ hA hV ls hl => ?_)
  have C0 : Cx p s m meth c cX4_replace (some .boolean) 4 yX4_replace [.ref (ad x0), .int x1, .int x2] D X ad n A J := ⟨hx, hb, hr, hml, hown, hlk, hnm, hts, hK, hZ, hA, hWT⟩
  unfold wp_X4_replace at h
  have hl : lv_has ls 4 [(0, .ref (ad x0)), (1, .int x1), (2, .int x2)] := hl
  refine lv_iload_n hx hb dX4_replace_0 rfl (lv_at hl 1 rfl) ?_
  refine lv_if_lt (tgt := 12) hx hb dX4_replace_1 (by decide) (fun hc => ?_) (fun hc => ?_)
  · replace h := h.1 hc
    refine lv_iconst (v := 0) hx hb dX4_replace_12 (by decide) ?_
    exact m_zret hx hb hr hlk hK hZ hA hV (by decide) h dX4_replace_13
  · replace h := h.2 hc
    refine lv_iload_n hx hb dX4_replace_4 rfl (lv_at hl 1 rfl) ?_
    refine lv_aload_n hx hb dX4_replace_5 rfl (lv_at hl 0 rfl) ?_
    refine m_geti (C := RX4) (T := TX4) (N := 3) (ci := 1) hx hb hts iwX4 hown hK hV t0 rfl 2 (by decide) rfl rfl (hts _ tw_1_34) (fun _ h9 => h9) dX4_replace_6 ?_
    refine lv_icmp_lt (tgt := 14) hx hb dX4_replace_9 (by decide) (fun hc => ?_) (fun hc => ?_)
    · replace h := h.1 hc
      refine lv_iload_n hx hb dX4_replace_14 rfl (lv_at hl 1 rfl) ?_
      refine lv_iconst (v := 3) hx hb dX4_replace_15 (by decide) ?_
      refine lv_iand hx hb dX4_replace_16 ?_
      refine lv_iconst (v := 3) hx hb dX4_replace_17 (by decide) ?_
      refine lv_ishl hx hb dX4_replace_18 ?_
      refine lv_topi (fun x3_1 ex3_1 => ?_)
      replace h := h x3_1 ex3_1
      refine lv_istore_n (lv' := [(3, .int x3_1), (0, .ref (ad x0)), (1, .int x1), (2, .int x2)]) hx hb dX4_replace_19 rfl hl (by decide) rfl (fun ls hl => ?_)
      refine lv_aload_n hx hb dX4_replace_20 rfl (lv_at hl 1 rfl) ?_
      obtain ⟨r_2, hr_2, h⟩ := h
      have tr_2 : Ty X n r_2 0 := hWT.r (c := 1) (j := 0) t0 rfl hr_2
      refine m_getr (C := RX4) (T := TX4) (N := 3) (ci := 1) hx hb hts iwX4 hown hK hV t0 rfl 0 (by decide) rfl rfl hr_2 (hts _ tw_1_32) (fun _ h9 => h9) dX4_replace_21 ?_
      refine lv_iload_n hx hb dX4_replace_24 rfl (lv_at hl 2 rfl) ?_
      refine lv_iconst (v := 2) hx hb dX4_replace_25 (by decide) ?_
      refine lv_ishr hx hb dX4_replace_26 ?_
      refine lv_aload_n hx hb dX4_replace_27 rfl (lv_at hl 1 rfl) ?_
      refine m_getr (C := RX4) (T := TX4) (N := 3) (ci := 1) hx hb hts iwX4 hown hK hV t0 rfl 0 (by decide) rfl rfl hr_2 (hts _ tw_1_32) (fun _ h9 => h9) dX4_replace_28 ?_
      refine lv_iload_n hx hb dX4_replace_31 rfl (lv_at hl 2 rfl) ?_
      refine lv_iconst (v := 2) hx hb dX4_replace_32 (by decide) ?_
      refine lv_ishr hx hb dX4_replace_33 ?_
      obtain ⟨hi_3, h⟩ := h
      refine m_iald hx hb hK hV tr_2 hi_3 dX4_replace_34 ?_
      refine lv_sipush (v := 255) hx hb dX4_replace_35 (by decide) ?_
      refine lv_iload_n hx hb dX4_replace_38 rfl (lv_at hl 0 rfl) ?_
      refine lv_ishl hx hb dX4_replace_39 ?_
      refine lv_iconst (v := (-1)) hx hb dX4_replace_40 (by decide) ?_
      refine lv_ixor hx hb dX4_replace_41 ?_
      refine lv_iand hx hb dX4_replace_42 ?_
      refine lv_iload_n hx hb dX4_replace_43 rfl (lv_at hl 3 rfl) ?_
      refine lv_sipush (v := 255) hx hb dX4_replace_44 (by decide) ?_
      refine lv_iand hx hb dX4_replace_47 ?_
      refine lv_iload_n hx hb dX4_replace_48 rfl (lv_at hl 0 rfl) ?_
      refine lv_ishl hx hb dX4_replace_49 ?_
      refine lv_ior hx hb dX4_replace_50 ?_
      obtain ⟨hi_4, h⟩ := h
      refine m_iast hx hb hK hV tr_2 hi_4 dX4_replace_51 (fun H locs hV => ?_)
      obtain ⟨I_5, eI_5⟩ : ∃ y, y = ms I r_2 (jshr x1 2).toNatClampNeg (((I r_2 (jshr x1 2).toNatClampNeg) &&& ((jshl 255 x3_1) ^^^ (-1))) ||| (jshl (x2 &&& 255) x3_1)) := ⟨_, rfl⟩
      replace hV : Wd D X ad n A s.heap J I_5 L H locs := by rw [eI_5]; exact hV
      replace h := h I_5 eI_5
      refine lv_iconst (v := 1) hx hb dX4_replace_52 (by decide) ?_
      exact m_zret hx hb hr hlk hK hZ hA hV (by decide) h dX4_replace_53
    · replace h := h.2 hc
      refine lv_iconst (v := 0) hx hb dX4_replace_12 (by decide) ?_
      exact m_zret hx hb hr hlk hK hZ hA hV (by decide) h dX4_replace_13
set_option maxHeartbeats 4000000 in
set_option maxRecDepth 100000 in
theorem s_X4_append (l : Launch) (D : va_G) (X : XT) (ad : Nat → Nat) (n : Nat) (A : Nat → Prop) (J : MJ) (hWT : WT X n J) (x0 : Nat) (t0 : Ty X n x0 5) (x1 : Int32) (I : MI) (L : ML) (q : MI → ML → Prop) (h : wp_X4_append X J x0 x1 I L q) : Met l yX4_append (wz yX4_append cX4_append 2 none) ({ frames := 1, cells := 0, slots := 0, locals := 23 } : Room) (va_Pc [.ref (ad x0), .int x1] (Pr D X ad n A J I L)) (QV D X ad n A J q) 0 0 A := by
  refine Met_go (by decide +kernel) (Nat.le_of_ble_eq_true rfl) (fun p e s m below meth c hx hb hr hml hown hlk hnm hts hK hZ hA hV ls hl => ?_)
  have C0 : Cx p s m meth c cX4_append none 2 yX4_append [.ref (ad x0), .int x1] D X ad n A J := ⟨hx, hb, hr, hml, hown, hlk, hnm, hts, hK, hZ, hA, hWT⟩
  unfold wp_X4_append at h
  have hl : lv_has ls 2 [(0, .ref (ad x0)), (1, .int x1)] := hl
  refine lv_aload_n hx hb dX4_append_0 rfl (lv_at hl 0 rfl) ?_
  refine m_geti (C := RX4) (T := TX4) (N := 3) (ci := 1) hx hb hts iwX4 hown hK hV t0 rfl 2 (by decide) rfl rfl (hts _ tw_1_34) (fun _ h9 => h9) dX4_append_1 ?_
  refine lv_aload_n hx hb dX4_append_4 rfl (lv_at hl 0 rfl) ?_
  refine m_geti (C := RX4) (T := TX4) (N := 3) (ci := 1) hx hb hts iwX4 hown hK hV t0 rfl 1 (by decide) rfl rfl (hts _ tw_1_33) (fun _ h9 => h9) dX4_append_5 ?_
  refine lv_icmp_ge (tgt := 33) hx hb dX4_append_8 (by decide) (fun hc => ?_) (fun hc => ?_)
  · replace h := h.1 hc
    exact m_vret hx hb hr hlk hK hZ hA hV h dX4_append_33
  · replace h := h.2 hc
    refine lv_aload_n hx hb dX4_append_11 rfl (lv_at hl 0 rfl) ?_
    refine lv_dup hx hb dX4_append_12 rfl ?_
    refine m_geti (C := RX4) (T := TX4) (N := 3) (ci := 1) hx hb hts iwX4 hown hK hV t0 rfl 2 (by decide) rfl rfl (hts _ tw_1_34) (fun _ h9 => h9) dX4_append_13 ?_
    refine lv_iconst (v := 1) hx hb dX4_append_16 (by decide) ?_
    refine lv_iadd hx hb dX4_append_17 ?_
    refine m_puti (C := RX4) (T := TX4) (N := 3) (ci := 1) (ty := .int) hx hb hts iwX4 hown hK hV tyX4 tyX4_ok nmX4 t0 rfl 2 (by decide) rfl rfl (hts _ tw_1_34) (fun _ h9 => h9) rfl (by decide +kernel) rfl rfl dX4_append_18 (fun H locs hV => ?_)
    obtain ⟨I_1, eI_1⟩ : ∃ y, y = ms I x0 2 ((I x0 2) + 1) := ⟨_, rfl⟩
    replace hV : Wd D X ad n A s.heap J I_1 L H locs := by rw [eI_1]; exact hV
    replace h := h I_1 eI_1
    refine lv_aload_n hx hb dX4_append_21 rfl (lv_at hl 0 rfl) ?_
    refine lv_aload_n hx hb dX4_append_22 rfl (lv_at hl 0 rfl) ?_
    refine m_geti (C := RX4) (T := TX4) (N := 3) (ci := 1) hx hb hts iwX4 hown hK hV t0 rfl 2 (by decide) rfl rfl (hts _ tw_1_34) (fun _ h9 => h9) dX4_append_23 ?_
    refine lv_iconst (v := 1) hx hb dX4_append_26 (by decide) ?_
    refine lv_isub hx hb dX4_append_27 ?_
    refine lv_iload_n hx hb dX4_append_28 rfl (lv_at hl 1 rfl) ?_
    refine k_calli (va_runV (As := [.int ((I_1 x0 2) - 1), .int x1]) (rest := []) ⟨hx, hb, hml, hown, hts⟩ (s_X4_replace l D X ad n A J hWT x0 t0 ((I_1 x0 2) - 1) x1 I_1 L _ h) (cwV 2 hts (gV tw_1_170 tw_1_171 tw_1_172 tw_1_2 tw_1_173) rfl rfl rfl (by decide +kernel) (by decide)) (k_preV (ci := 1) hK hV hA hZ t0 rfl _) rfl rfl hl.1 rfl (lv_room (Nat.le_of_ble_eq_true rfl)) dX4_append_29 ⟨Nat.zero_le _, Nat.zero_le _⟩) hV (fun v_4 I_2 L_3 H locs h hV => ?_)
    refine lv_pop hx hb dX4_append_32 rfl ?_
    exact m_vret hx hb hr hlk hK hZ hA hV h dX4_append_33
set_option maxHeartbeats 4000000 in
set_option maxRecDepth 100000 in
theorem s_X4_appendWord (l : Launch) (D : va_G) (X : XT) (ad : Nat → Nat) (n : Nat) (A : Nat → Prop) (J : MJ) (hWT : WT X n J) (x0 : Nat) (t0 : Ty X n x0 5) (x1 : Int32) (I : MI) (L : ML) (q : MI → ML → Prop) (h : wp_X4_appendWord X J x0 x1 I L q) : Met l yX4_appendWord (wz yX4_appendWord cX4_appendWord 2 none) ({ frames := 2, cells := 0, slots := 0, locals := 44 } : Room) (va_Pc [.ref (ad x0), .int x1] (Pr D X ad n A J I L)) (QV D X ad n A J q) 0 0 A := by
  refine Met_go (by decide +kernel) (Nat.le_of_ble_eq_true rfl) (fun p e s m below meth c hx hb hr hml hown hlk hnm hts hK hZ hA hV ls hl => ?_)
  have C0 : Cx p s m meth c cX4_appendWord none 2 yX4_appendWord [.ref (ad x0), .int x1] D X ad n A J := ⟨hx, hb, hr, hml, hown, hlk, hnm, hts, hK, hZ, hA, hWT⟩
  unfold wp_X4_appendWord at h
  have hl : lv_has ls 2 [(0, .ref (ad x0)), (1, .int x1)] := hl
  refine lv_aload_n hx hb dX4_appendWord_0 rfl (lv_at hl 0 rfl) ?_
  refine lv_iload_n hx hb dX4_appendWord_1 rfl (lv_at hl 1 rfl) ?_
  refine lv_bipush (v := 24) hx hb dX4_appendWord_2 (by decide) ?_
  refine lv_iushr hx hb dX4_appendWord_4 rfl ?_
  refine k_callv (va_runV (As := [.int (jushr x1 24)]) (rest := []) ⟨hx, hb, hml, hown, hts⟩ (s_X4_append l D X ad n A J hWT x0 t0 (jushr x1 24) I L _ h) (cwV 1 hts (gV tw_1_166 tw_1_167 tw_1_168 tw_1_2 tw_1_169) rfl rfl rfl (by decide +kernel) (by decide)) (k_preV (ci := 1) hK hV hA hZ t0 rfl _) rfl rfl hl.1 rfl (lv_room (Nat.le_of_ble_eq_true rfl)) dX4_appendWord_5 ⟨Nat.zero_le _, Nat.zero_le _⟩) hV (fun I_1 L_2 H locs h hV => ?_)
  refine lv_aload_n hx hb dX4_appendWord_8 rfl (lv_at hl 0 rfl) ?_
  refine lv_iload_n hx hb dX4_appendWord_9 rfl (lv_at hl 1 rfl) ?_
  refine lv_bipush (v := 16) hx hb dX4_appendWord_10 (by decide) ?_
  refine lv_iushr hx hb dX4_appendWord_12 rfl ?_
  refine k_callv (va_runV (As := [.int (jushr x1 16)]) (rest := []) ⟨hx, hb, hml, hown, hts⟩ (s_X4_append l D X ad n A J hWT x0 t0 (jushr x1 16) I_1 L_2 _ h) (cwV 1 hts (gV tw_1_166 tw_1_167 tw_1_168 tw_1_2 tw_1_169) rfl rfl rfl (by decide +kernel) (by decide)) (k_preV (ci := 1) hK hV hA hZ t0 rfl _) rfl rfl hl.1 rfl (lv_room (Nat.le_of_ble_eq_true rfl)) dX4_appendWord_13 ⟨Nat.zero_le _, Nat.zero_le _⟩) hV (fun I_3 L_4 H locs h hV => ?_)
  refine lv_aload_n hx hb dX4_appendWord_16 rfl (lv_at hl 0 rfl) ?_
  refine lv_iload_n hx hb dX4_appendWord_17 rfl (lv_at hl 1 rfl) ?_
  refine lv_bipush (v := 8) hx hb dX4_appendWord_18 (by decide) ?_
  refine lv_iushr hx hb dX4_appendWord_20 rfl ?_
  refine k_callv (va_runV (As := [.int (jushr x1 8)]) (rest := []) ⟨hx, hb, hml, hown, hts⟩ (s_X4_append l D X ad n A J hWT x0 t0 (jushr x1 8) I_3 L_4 _ h) (cwV 1 hts (gV tw_1_166 tw_1_167 tw_1_168 tw_1_2 tw_1_169) rfl rfl rfl (by decide +kernel) (by decide)) (k_preV (ci := 1) hK hV hA hZ t0 rfl _) rfl rfl hl.1 rfl (lv_room (Nat.le_of_ble_eq_true rfl)) dX4_appendWord_21 ⟨Nat.zero_le _, Nat.zero_le _⟩) hV (fun I_5 L_6 H locs h hV => ?_)
  refine lv_aload_n hx hb dX4_appendWord_24 rfl (lv_at hl 0 rfl) ?_
  refine lv_iload_n hx hb dX4_appendWord_25 rfl (lv_at hl 1 rfl) ?_
  refine k_callv (va_runV (As := [.int x1]) (rest := []) ⟨hx, hb, hml, hown, hts⟩ (s_X4_append l D X ad n A J hWT x0 t0 x1 I_5 L_6 _ h) (cwV 1 hts (gV tw_1_166 tw_1_167 tw_1_168 tw_1_2 tw_1_169) rfl rfl rfl (by decide +kernel) (by decide)) (k_preV (ci := 1) hK hV hA hZ t0 rfl _) rfl rfl hl.1 rfl (lv_room (Nat.le_of_ble_eq_true rfl)) dX4_appendWord_26 ⟨Nat.zero_le _, Nat.zero_le _⟩) hV (fun I_7 L_8 H locs h hV => ?_)
  exact m_vret hx hb hr hlk hK hZ hA hV h dX4_appendWord_29
set_option maxHeartbeats 4000000 in
set_option maxRecDepth 100000 in
theorem n_X4_appendPart_3 {p : Program} {l : Launch} {e : Env} {s : State} {m : MethodId} {below : List Frame} {meth : Method} {c : Code} {D : va_G} {X : XT} {ad : Nat → Nat} {n : Nat} {A : Nat → Prop} {J : MJ} {av : List Value} {R : Room} (hR : R = ({ frames := 2, cells := 0, slots := 0, locals := 44 } : Room)) (C0 : Cx p s m meth c cX4_appendPart none 5 yX4_appendPart av D X ad n A J) {q : MI → ML → Prop}  {x0 : Nat} {x1 : Nat} {x2 : Int32} {x3 : Int32} (t0 : Ty X n x0 5) (t1 : Ty X n x1 5) : ∀ (fu : Nat) (x4 : Int32) (I : MI) (L : ML) (H : Heap) (locs : List Loc) (ls : Array Slot), wl_X4_appendPart_3 X J q  x0 x1 x2 x3 fu x4 I L → Wd D X ad n A s.heap J I L H locs → lv_has ls 5 [(0, .ref (ad x0)), (1, .ref (ad x1)), (2, .int x2), (3, .int x3), (4, .int x4)] → W p l e R s m av.toArray below meth c H locs 0 0 (MQ below (QV D X ad n A J q) av.toArray s 0 0 A) (F0 m 3 ls []) := by
  obtain ⟨hx, hb, hr, hml, hown, hlk, hnm, hts, hK, hZ, hA, hWT⟩ := id C0
  subst hR
  intro fu
  induction fu with
  | zero => intro x4 I L H locs ls h; exact absurd h (fun h => h)
  | succ fu ih =>
    intro x4 I L H locs ls h hV hl
    refine lv_iload hx hb dX4_appendPart_3 (lv_at hl 4 rfl) ?_
    refine lv_iload_n hx hb dX4_appendPart_5 rfl (lv_at hl 3 rfl) ?_
    refine lv_icmp_ge (tgt := 27) hx hb dX4_appendPart_6 (by decide) (fun hc => ?_) (fun hc => ?_)
    · replace h := h.1 hc
      exact m_vret hx hb hr hlk hK hZ hA hV h dX4_appendPart_27
    · replace h := h.2 hc
      refine lv_aload_n hx hb dX4_appendPart_9 rfl (lv_at hl 0 rfl) ?_
      refine lv_aload_n hx hb dX4_appendPart_10 rfl (lv_at hl 1 rfl) ?_
      refine lv_iload_n hx hb dX4_appendPart_11 rfl (lv_at hl 2 rfl) ?_
      refine lv_iload hx hb dX4_appendPart_12 (lv_at hl 4 rfl) ?_
      refine lv_iadd hx hb dX4_appendPart_14 ?_
      refine k_calli (va_runV (As := [.int (x2 + x4)]) (rest := [.ref (ad x0)]) ⟨hx, hb, hml, hown, hts⟩ (s_X4_byteAt l D X ad n A J hWT x1 t1 (x2 + x4) I L _ h) (cwV 1 hts (gV tw_2_119 tw_1_235 tw_1_236 tw_1_2 tw_1_237) rfl rfl rfl (by decide +kernel) (by decide)) (k_preV (ci := 1) hK hV hA hZ t1 rfl _) rfl rfl hl.1 rfl (lv_room (Nat.le_of_ble_eq_true rfl)) dX4_appendPart_15 ⟨Nat.zero_le _, Nat.zero_le _⟩) hV (fun v_3 I_1 L_2 H locs h hV => ?_)
      refine k_callv (va_runV (As := [.int v_3]) (rest := []) ⟨hx, hb, hml, hown, hts⟩ (s_X4_append l D X ad n A J hWT x0 t0 v_3 I_1 L_2 _ h) (cwV 1 hts (gV tw_1_166 tw_1_167 tw_1_168 tw_1_2 tw_1_169) rfl rfl rfl (by decide +kernel) (by decide)) (k_preV (ci := 1) hK hV hA hZ t0 rfl _) rfl rfl hl.1 rfl (lv_room (Nat.le_of_ble_eq_true rfl)) dX4_appendPart_18 ⟨Nat.zero_le _, Nat.zero_le _⟩) hV (fun I_4 L_5 H locs h hV => ?_)
      obtain ⟨x4_6, ex4_6⟩ : ∃ y : Int32, y = x4 + 1 := ⟨_, rfl⟩
      replace h := h x4_6 ex4_6
      refine lv_iinc (v := x4_6) (lv' := [(4, .int x4_6), (0, .ref (ad x0)), (1, .ref (ad x1)), (2, .int x2), (3, .int x3)]) hx hb dX4_appendPart_21 hl (k := 4) rfl (by rw [ex4_6]; rfl) (by decide) rfl (fun ls hl => ?_)
      refine lv_goto (tgt := 3) hx hb dX4_appendPart_24 (by decide) ?_
      exact ih x4_6 _ _ _ _ _ h hV (lv_sub hl [1, 2, 3, 4, 0] rfl)
set_option maxHeartbeats 4000000 in
set_option maxRecDepth 100000 in
theorem s_X4_appendPart (l : Launch) (D : va_G) (X : XT) (ad : Nat → Nat) (n : Nat) (A : Nat → Prop) (J : MJ) (hWT : WT X n J) (x0 : Nat) (t0 : Ty X n x0 5) (x1 : Nat) (t1 : Ty X n x1 5) (x2 : Int32) (x3 : Int32) (I : MI) (L : ML) (q : MI → ML → Prop) (h : wp_X4_appendPart X J x0 x1 x2 x3 I L q) : Met l yX4_appendPart (wz yX4_appendPart cX4_appendPart 5 none) ({ frames := 2, cells := 0, slots := 0, locals := 44 } : Room) (va_Pc [.ref (ad x0), .ref (ad x1), .int x2, .int x3] (Pr D X ad n A J I L)) (QV D X ad n A J q) 0 0 A := by
  refine Met_go (by decide +kernel) (Nat.le_of_ble_eq_true rfl) (fun p e s m below meth c hx hb hr hml hown hlk hnm hts hK hZ hA hV ls hl => ?_)
  have C0 : Cx p s m meth c cX4_appendPart none 5 yX4_appendPart [.ref (ad x0), .ref (ad x1), .int x2, .int x3] D X ad n A J := ⟨hx, hb, hr, hml, hown, hlk, hnm, hts, hK, hZ, hA, hWT⟩
  unfold wp_X4_appendPart at h
  have hl : lv_has ls 5 [(0, .ref (ad x0)), (1, .ref (ad x1)), (2, .int x2), (3, .int x3)] := hl
  refine lv_iconst (v := 0) hx hb dX4_appendPart_0 (by decide) ?_
  refine lv_istore (lv' := [(4, .int 0), (0, .ref (ad x0)), (1, .ref (ad x1)), (2, .int x2), (3, .int x3)]) hx hb dX4_appendPart_1 hl (by decide) rfl (fun ls hl => ?_)
  obtain ⟨fu0, h⟩ := h
  exact n_X4_appendPart_3 rfl C0 t0 t1   fu0 0 _ _ _ _ _ h hV (lv_sub hl [1, 2, 3, 4, 0] rfl)
set_option maxHeartbeats 4000000 in
set_option maxRecDepth 100000 in
theorem s_X4_become (l : Launch) (D : va_G) (X : XT) (ad : Nat → Nat) (n : Nat) (A : Nat → Prop) (J : MJ) (hWT : WT X n J) (x0 : Nat) (t0 : Ty X n x0 5) (x1 : Nat) (t1 : Ty X n x1 5) (I : MI) (L : ML) (q : MI → ML → Prop) (h : wp_X4_become X J x0 x1 I L q) : Met l yX4_become (wz yX4_become cX4_become 2 none) ({ frames := 1, cells := 0, slots := 0, locals := 40 } : Room) (va_Pc [.ref (ad x0), .ref (ad x1)] (Pr D X ad n A J I L)) (QV D X ad n A J q) 0 0 A := by
  refine Met_go (by decide +kernel) (Nat.le_of_ble_eq_true rfl) (fun p e s m below meth c hx hb hr hml hown hlk hnm hts hK hZ hA hV ls hl => ?_)
  have C0 : Cx p s m meth c cX4_become none 2 yX4_become [.ref (ad x0), .ref (ad x1)] D X ad n A J := ⟨hx, hb, hr, hml, hown, hlk, hnm, hts, hK, hZ, hA, hWT⟩
  unfold wp_X4_become at h
  have hl : lv_has ls 2 [(0, .ref (ad x0)), (1, .ref (ad x1))] := hl
  refine lv_aload_n hx hb dX4_become_0 rfl (lv_at hl 1 rfl) ?_
  refine m_geti (C := RX4) (T := TX4) (N := 3) (ci := 1) hx hb hts iwX4 hown hK hV t1 rfl 2 (by decide) rfl rfl (hts _ tw_1_34) (fun _ h9 => h9) dX4_become_1 ?_
  refine lv_aload_n hx hb dX4_become_4 rfl (lv_at hl 0 rfl) ?_
  refine m_geti (C := RX4) (T := TX4) (N := 3) (ci := 1) hx hb hts iwX4 hown hK hV t0 rfl 1 (by decide) rfl rfl (hts _ tw_1_33) (fun _ h9 => h9) dX4_become_5 ?_
  refine lv_icmp_le (tgt := 12) hx hb dX4_become_8 (by decide) (fun hc => ?_) (fun hc => ?_)
  · replace h := h.1 hc
    refine lv_aload_n hx hb dX4_become_12 rfl (lv_at hl 1 rfl) ?_
    obtain ⟨r_1, hr_1, h⟩ := h
    have tr_1 : Ty X n r_1 0 := hWT.r (c := 1) (j := 0) t1 rfl hr_1
    refine m_getr (C := RX4) (T := TX4) (N := 3) (ci := 1) hx hb hts iwX4 hown hK hV t1 rfl 0 (by decide) rfl rfl hr_1 (hts _ tw_1_32) (fun _ h9 => h9) dX4_become_13 ?_
    refine lv_iconst (v := 0) hx hb dX4_become_16 (by decide) ?_
    refine lv_aload_n hx hb dX4_become_17 rfl (lv_at hl 0 rfl) ?_
    obtain ⟨r_2, hr_2, h⟩ := h
    have tr_2 : Ty X n r_2 0 := hWT.r (c := 1) (j := 0) t0 rfl hr_2
    refine m_getr (C := RX4) (T := TX4) (N := 3) (ci := 1) hx hb hts iwX4 hown hK hV t0 rfl 0 (by decide) rfl rfl hr_2 (hts _ tw_1_32) (fun _ h9 => h9) dX4_become_18 ?_
    refine lv_iconst (v := 0) hx hb dX4_become_21 (by decide) ?_
    refine lv_aload_n hx hb dX4_become_22 rfl (lv_at hl 1 rfl) ?_
    refine m_geti (C := RX4) (T := TX4) (N := 3) (ci := 1) hx hb hts iwX4 hown hK hV t1 rfl 2 (by decide) rfl rfl (hts _ tw_1_34) (fun _ h9 => h9) dX4_become_23 ?_
    refine lv_iconst (v := 3) hx hb dX4_become_26 (by decide) ?_
    refine lv_iadd hx hb dX4_become_27 ?_
    refine lv_iconst (v := 4) hx hb dX4_become_28 (by decide) ?_
    refine lv_idiv hx hb dX4_become_29 (by decide) ?_
    obtain ⟨hc_3a, hc_3b, hc_3c, hc_3d, hc_3e, h⟩ := h
    refine m_copyi hx hb (hml.trans hl.1.symm) hown (hts _ tw_1_194) (hts _ tw_1_196) (hts _ tw_1_195) (hts _ tw_1_10) hK hV tr_1 tr_2 hc_3a hc_3b hc_3c hc_3d hc_3e (by decide) (by decide) dX4_become_30 (fun H locs hV => ?_)
    obtain ⟨I_4, eI_4⟩ : ∃ y, y = va_up I r_2 (va_cpy (I r_1) (I r_2) (0 : Int32).toNatClampNeg (0 : Int32).toNatClampNeg (((I x1 2) + 3) / 4).toNatClampNeg) := ⟨_, rfl⟩
    replace hV : Wd D X ad n A s.heap J I_4 L H locs := by rw [eI_4]; exact hV
    replace h := h I_4 eI_4
    refine lv_aload_n hx hb dX4_become_33 rfl (lv_at hl 0 rfl) ?_
    refine lv_aload_n hx hb dX4_become_34 rfl (lv_at hl 1 rfl) ?_
    refine m_geti (C := RX4) (T := TX4) (N := 3) (ci := 1) hx hb hts iwX4 hown hK hV t1 rfl 2 (by decide) rfl rfl (hts _ tw_1_34) (fun _ h9 => h9) dX4_become_35 ?_
    refine m_puti (C := RX4) (T := TX4) (N := 3) (ci := 1) (ty := .int) hx hb hts iwX4 hown hK hV tyX4 tyX4_ok nmX4 t0 rfl 2 (by decide) rfl rfl (hts _ tw_1_34) (fun _ h9 => h9) rfl (by decide +kernel) rfl rfl dX4_become_38 (fun H locs hV => ?_)
    obtain ⟨I_5, eI_5⟩ : ∃ y, y = ms I_4 x0 2 (I_4 x1 2) := ⟨_, rfl⟩
    replace hV : Wd D X ad n A s.heap J I_5 L H locs := by rw [eI_5]; exact hV
    replace h := h I_5 eI_5
    exact m_vret hx hb hr hlk hK hZ hA hV h dX4_become_41
  · replace h := h.2 hc
    exact m_vret hx hb hr hlk hK hZ hA hV h dX4_become_11
set_option maxHeartbeats 4000000 in
set_option maxRecDepth 100000 in
theorem n_X4_partIsSame_3 {p : Program} {l : Launch} {e : Env} {s : State} {m : MethodId} {below : List Frame} {meth : Method} {c : Code} {D : va_G} {X : XT} {ad : Nat → Nat} {n : Nat} {A : Nat → Prop} {J : MJ} {av : List Value} {R : Room} (hR : R = ({ frames := 1, cells := 0, slots := 0, locals := 21 } : Room)) (C0 : Cx p s m meth c cX4_partIsSame (some .boolean) 6 yX4_partIsSame av D X ad n A J) {q : Int32 → MI → ML → Prop}  {x0 : Nat} {x1 : Int32} {x2 : Nat} {x3 : Int32} {x4 : Int32} (t0 : Ty X n x0 5) (t2 : Ty X n x2 5) : ∀ (fu : Nat) (x5 : Int32) (I : MI) (L : ML) (H : Heap) (locs : List Loc) (ls : Array Slot), wl_X4_partIsSame_3 X J q  x0 x1 x2 x3 x4 fu x5 I L → Wd D X ad n A s.heap J I L H locs → lv_has ls 6 [(0, .ref (ad x0)), (1, .int x1), (2, .ref (ad x2)), (3, .int x3), (4, .int x4), (5, .int x5)] → W p l e R s m av.toArray below meth c H locs 0 0 (MQ below (QI D X ad n A J q) av.toArray s 0 0 A) (F0 m 3 ls []) := by
  obtain ⟨hx, hb, hr, hml, hown, hlk, hnm, hts, hK, hZ, hA, hWT⟩ := id C0
  subst hR
  intro fu
  induction fu with
  | zero => intro x5 I L H locs ls h; exact absurd h (fun h => h)
  | succ fu ih =>
    intro x5 I L H locs ls h hV hl
    refine lv_iload hx hb dX4_partIsSame_3 (lv_at hl 5 rfl) ?_
    refine lv_iload hx hb dX4_partIsSame_5 (lv_at hl 4 rfl) ?_
    refine lv_icmp_ge (tgt := 37) hx hb dX4_partIsSame_7 (by decide) (fun hc => ?_) (fun hc => ?_)
    · replace h := h.1 hc
      refine lv_iconst (v := 1) hx hb dX4_partIsSame_37 (by decide) ?_
      exact m_zret hx hb hr hlk hK hZ hA hV (by decide) h dX4_partIsSame_38
    · replace h := h.2 hc
      refine lv_aload_n hx hb dX4_partIsSame_10 rfl (lv_at hl 0 rfl) ?_
      refine lv_iload_n hx hb dX4_partIsSame_11 rfl (lv_at hl 1 rfl) ?_
      refine lv_iload hx hb dX4_partIsSame_12 (lv_at hl 5 rfl) ?_
      refine lv_iadd hx hb dX4_partIsSame_14 ?_
      refine k_calli (va_runV (As := [.int (x1 + x5)]) (rest := []) ⟨hx, hb, hml, hown, hts⟩ (s_X4_byteAt l D X ad n A J hWT x0 t0 (x1 + x5) I L _ h) (cwV 1 hts (gV tw_2_119 tw_1_235 tw_1_236 tw_1_2 tw_1_237) rfl rfl rfl (by decide +kernel) (by decide)) (k_preV (ci := 1) hK hV hA hZ t0 rfl _) rfl rfl hl.1 rfl (lv_room (Nat.le_of_ble_eq_true rfl)) dX4_partIsSame_15 ⟨Nat.zero_le _, Nat.zero_le _⟩) hV (fun v_3 I_1 L_2 H locs h hV => ?_)
      refine lv_aload_n hx hb dX4_partIsSame_18 rfl (lv_at hl 2 rfl) ?_
      refine lv_iload_n hx hb dX4_partIsSame_19 rfl (lv_at hl 3 rfl) ?_
      refine lv_iload hx hb dX4_partIsSame_20 (lv_at hl 5 rfl) ?_
      refine lv_iadd hx hb dX4_partIsSame_22 ?_
      refine k_calli (va_runV (As := [.int (x3 + x5)]) (rest := [.int v_3]) ⟨hx, hb, hml, hown, hts⟩ (s_X4_byteAt l D X ad n A J hWT x2 t2 (x3 + x5) I_1 L_2 _ h) (cwV 1 hts (gV tw_2_119 tw_1_235 tw_1_236 tw_1_2 tw_1_237) rfl rfl rfl (by decide +kernel) (by decide)) (k_preV (ci := 1) hK hV hA hZ t2 rfl _) rfl rfl hl.1 rfl (lv_room (Nat.le_of_ble_eq_true rfl)) dX4_partIsSame_23 ⟨Nat.zero_le _, Nat.zero_le _⟩) hV (fun v_6 I_4 L_5 H locs h hV => ?_)
      refine lv_icmp_eq (tgt := 31) hx hb dX4_partIsSame_26 (by decide) (fun hc => ?_) (fun hc => ?_)
      · replace h := h.1 hc
        obtain ⟨x5_7, ex5_7⟩ : ∃ y : Int32, y = x5 + 1 := ⟨_, rfl⟩
        replace h := h x5_7 ex5_7
        refine lv_iinc (v := x5_7) (lv' := [(5, .int x5_7), (0, .ref (ad x0)), (1, .int x1), (2, .ref (ad x2)), (3, .int x3), (4, .int x4)]) hx hb dX4_partIsSame_31 hl (k := 5) rfl (by rw [ex5_7]; rfl) (by decide) rfl (fun ls hl => ?_)
        refine lv_goto (tgt := 3) hx hb dX4_partIsSame_34 (by decide) ?_
        exact ih x5_7 _ _ _ _ _ h hV (lv_sub hl [1, 2, 3, 4, 5, 0] rfl)
      · replace h := h.2 hc
        refine lv_iconst (v := 0) hx hb dX4_partIsSame_29 (by decide) ?_
        exact m_zret hx hb hr hlk hK hZ hA hV (by decide) h dX4_partIsSame_30
set_option maxHeartbeats 4000000 in
set_option maxRecDepth 100000 in
theorem s_X4_partIsSame (l : Launch) (D : va_G) (X : XT) (ad : Nat → Nat) (n : Nat) (A : Nat → Prop) (J : MJ) (hWT : WT X n J) (x0 : Nat) (t0 : Ty X n x0 5) (x1 : Int32) (x2 : Nat) (t2 : Ty X n x2 5) (x3 : Int32) (x4 : Int32) (I : MI) (L : ML) (q : Int32 → MI → ML → Prop) (h : wp_X4_partIsSame X J x0 x1 x2 x3 x4 I L q) : Met l yX4_partIsSame (wz yX4_partIsSame cX4_partIsSame 6 (some .boolean)) ({ frames := 1, cells := 0, slots := 0, locals := 21 } : Room) (va_Pc [.ref (ad x0), .int x1, .ref (ad x2), .int x3, .int x4] (Pr D X ad n A J I L)) (QI D X ad n A J q) 0 0 A := by
  refine Met_go (by decide +kernel) (Nat.le_of_ble_eq_true rfl) (fun p e s m below meth c hx hb hr hml hown hlk hnm hts hK hZ hA hV ls hl => ?_)
  have C0 : Cx p s m meth c cX4_partIsSame (some .boolean) 6 yX4_partIsSame [.ref (ad x0), .int x1, .ref (ad x2), .int x3, .int x4] D X ad n A J := ⟨hx, hb, hr, hml, hown, hlk, hnm, hts, hK, hZ, hA, hWT⟩
  unfold wp_X4_partIsSame at h
  have hl : lv_has ls 6 [(0, .ref (ad x0)), (1, .int x1), (2, .ref (ad x2)), (3, .int x3), (4, .int x4)] := hl
  refine lv_iconst (v := 0) hx hb dX4_partIsSame_0 (by decide) ?_
  refine lv_istore (lv' := [(5, .int 0), (0, .ref (ad x0)), (1, .int x1), (2, .ref (ad x2)), (3, .int x3), (4, .int x4)]) hx hb dX4_partIsSame_1 hl (by decide) rfl (fun ls hl => ?_)
  obtain ⟨fu0, h⟩ := h
  exact n_X4_partIsSame_3 rfl C0 t0 t2   fu0 0 _ _ _ _ _ h hV (lv_sub hl [1, 2, 3, 4, 5, 0] rfl)
set_option maxHeartbeats 4000000 in
set_option maxRecDepth 100000 in
theorem s_X4_sameAs (l : Launch) (D : va_G) (X : XT) (ad : Nat → Nat) (n : Nat) (A : Nat → Prop) (J : MJ) (hWT : WT X n J) (x0 : Nat) (t0 : Ty X n x0 5) (x1 : Nat) (t1 : Ty X n x1 5) (I : MI) (L : ML) (q : Int32 → MI → ML → Prop) (h : wp_X4_sameAs X J x0 x1 I L q) : Met l yX4_sameAs (wz yX4_sameAs cX4_sameAs 2 (some .boolean)) ({ frames := 2, cells := 0, slots := 0, locals := 46 } : Room) (va_Pc [.ref (ad x0), .ref (ad x1)] (Pr D X ad n A J I L)) (QI D X ad n A J q) 0 0 A := by
  refine Met_go (by decide +kernel) (Nat.le_of_ble_eq_true rfl) (fun p e s m below meth c hx hb hr hml hown hlk hnm hts hK hZ hA hV ls hl => ?_)
  have C0 : Cx p s m meth c cX4_sameAs (some .boolean) 2 yX4_sameAs [.ref (ad x0), .ref (ad x1)] D X ad n A J := ⟨hx, hb, hr, hml, hown, hlk, hnm, hts, hK, hZ, hA, hWT⟩
  unfold wp_X4_sameAs at h
  have hl : lv_has ls 2 [(0, .ref (ad x0)), (1, .ref (ad x1))] := hl
  refine lv_aload_n hx hb dX4_sameAs_0 rfl (lv_at hl 0 rfl) ?_
  refine m_geti (C := RX4) (T := TX4) (N := 3) (ci := 1) hx hb hts iwX4 hown hK hV t0 rfl 2 (by decide) rfl rfl (hts _ tw_1_34) (fun _ h9 => h9) dX4_sameAs_1 ?_
  refine lv_aload_n hx hb dX4_sameAs_4 rfl (lv_at hl 1 rfl) ?_
  refine m_geti (C := RX4) (T := TX4) (N := 3) (ci := 1) hx hb hts iwX4 hown hK hV t1 rfl 2 (by decide) rfl rfl (hts _ tw_1_34) (fun _ h9 => h9) dX4_sameAs_5 ?_
  refine lv_icmp_ne (tgt := 29) hx hb dX4_sameAs_8 (by decide) (fun hc => ?_) (fun hc => ?_)
  · replace h := h.1 hc
    refine lv_iconst (v := 0) hx hb dX4_sameAs_29 (by decide) ?_
    exact m_zret hx hb hr hlk hK hZ hA hV (by decide) h dX4_sameAs_30
  · replace h := h.2 hc
    refine lv_aload_n hx hb dX4_sameAs_11 rfl (lv_at hl 0 rfl) ?_
    refine lv_iconst (v := 0) hx hb dX4_sameAs_12 (by decide) ?_
    refine lv_aload_n hx hb dX4_sameAs_13 rfl (lv_at hl 1 rfl) ?_
    refine lv_iconst (v := 0) hx hb dX4_sameAs_14 (by decide) ?_
    refine lv_aload_n hx hb dX4_sameAs_15 rfl (lv_at hl 0 rfl) ?_
    refine m_geti (C := RX4) (T := TX4) (N := 3) (ci := 1) hx hb hts iwX4 hown hK hV t0 rfl 2 (by decide) rfl rfl (hts _ tw_1_34) (fun _ h9 => h9) dX4_sameAs_16 ?_
    refine k_calli (va_runV (As := [.int 0, .ref (ad x1), .int 0, .int (I x0 2)]) (rest := []) ⟨hx, hb, hml, hown, hts⟩ (s_X4_partIsSame l D X ad n A J hWT x0 t0 0 x1 t1 0 (I x0 2) I L _ h) (cwV 4 hts (gV tw_2_227 tw_2_158 tw_2_159 tw_1_2 tw_2_160) rfl rfl rfl (by decide +kernel) (by decide)) (k_preV (ci := 1) hK hV hA hZ t0 rfl _) rfl rfl hl.1 rfl (lv_room (Nat.le_of_ble_eq_true rfl)) dX4_sameAs_19 ⟨Nat.zero_le _, Nat.zero_le _⟩) hV (fun v_3 I_1 L_2 H locs h hV => ?_)
    refine lv_if_eq (tgt := 29) hx hb dX4_sameAs_22 (by decide) (fun hc => ?_) (fun hc => ?_)
    · replace h := h.1 hc
      refine lv_iconst (v := 0) hx hb dX4_sameAs_29 (by decide) ?_
      exact m_zret hx hb hr hlk hK hZ hA hV (by decide) h dX4_sameAs_30
    · replace h := h.2 hc
      refine lv_iconst (v := 1) hx hb dX4_sameAs_25 (by decide) ?_
      refine lv_goto (tgt := 30) hx hb dX4_sameAs_26 (by decide) ?_
      exact m_zret hx hb hr hlk hK hZ hA hV (by decide) h dX4_sameAs_30
