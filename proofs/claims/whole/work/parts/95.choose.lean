/-! ===== choose: the one call that changes a reference ===== -/
abbrev QJ (D : va_G) (X : XT) (ad : Nat → Nat) (n : Nat) (A : Nat → Prop) (q : Int32 → MJ → MI → ML → Prop) : Array Value → State → Outcome → State → Prop := va_Qi (fun (r : Int32) (u : MJ × MI × ML) => q r u.1 u.2.1 u.2.2) (fun u t => Pr D X ad n A u.1 u.2.1 u.2.2 t) A
section CH
variable {p : Program} {l : Launch} {e : Env} {R : Room} {s : State} {m : MethodId} {args : Array Value} {below : List Frame} {meth : Method} {c : Code} {H : Heap} {locs : List Loc} {cells slots : Nat} {Q : State → Prop}
variable {cc : ByteArray} {pc : Nat} {ls : Array Slot} {rest st0 : List Value} {D : va_G} {X : XT} {ad : Nat → Nat} {n : Nat} {A : Nat → Prop} {J : MJ} {I : MI} {L : ML} {a : Array Value}
theorem m_iretJ (hx : p.tables.exec = Jvm.exec) (hb : c.code = cc) (hr : meth.sig.returnType = some .int) (hlk : meth.locks = false) (hK : va_K D vwCl (tyl X) s) (hZ : ZZ X A s s.heap) (hA : ∀ q, s.heap.size ≤ q → A q) (hV : Wd D X ad n A s.heap J I L H locs) {q : Int32 → MJ → MI → ML → Prop} {v : Int32} (h : q v J I L) (hdg : decode cc pc = .ok (.ireturn, 1)) :
    W p l e R s m args below meth c H locs cells slots (MQ below (QJ D X ad n A q) args s cells slots A) (F0 m pc ls [.int v]) :=
  W.iret hx hb hr (fun t ht hW => ⟨⟨v, (J, I, L), rfl, h, Pr.here hK hV hA hZ ht hW.alike⟩, hV.2.2.F ht⟩) hV.2.2.2.2 hdg hlk
theorem k_callj {q : Int32 → MJ → MI → ML → Prop} (hr : va_Run p l e R s m args below meth c H locs cells slots 0 0 (F0 m pc ls st0) rest (QJ D X ad n A q a) A) (hV : Wd D X ad n A s.heap J I L H locs)
    (kk : ∀ (r : Int32) (J : MJ) (I : MI) (L : ML) (H : Heap) (locs : List Loc), q r J I L → Wd D X ad n A s.heap J I L H locs → W p l e R s m args below meth c H locs cells slots Q (F0 m (pc + 3) ls (.int r :: rest))) : W p l e R s m args below meth c H locs cells slots Q (F0 m pc ls st0) :=
  va_calli hr hV.2.2 (fun _ _ h => h) (fun _ h => h) (fun r u _ H1 locs1 ht _ hq hB _ _ hS => kk r u.1 u.2.1 u.2.2 H1 locs1 hq ⟨by rw [← ht]; exact hB.1, hB.2.2.1, hS⟩)
end CH
theorem WT.set {X : XT} {n : Nat} {J : MJ} (h : WT X n J) {k c j r : Nat} (hk : Ty X n k (c + 4)) (hf : fkd c j = 2) (hr : r < 3) : WT X n (ms J k j (some r)) := by
  intro k' j' r' hk' e
  by_cases z : k' = k
  · rw [z, ms_eq] at e
    by_cases y : j' = j
    · rw [y, va_up_self] at e
      cases e
      rw [z]
      refine ⟨fun q => absurd (hk.2.symm.trans q) (by omega), fun c' q => ?_⟩
      have ec : c = c' := by have := hk.2.symm.trans q; omega
      subst ec
      rw [y]
      exact ⟨fun q2 => absurd (hf.symm.trans q2) (by decide), fun _ => hr⟩
    · rw [va_up_ne _ _ y] at e
      rw [z]
      exact h k j' r' hk.1 e
  · rw [ms_ne z] at e
    exact h k' j' r' hk' e
def wp_choose (J : MJ) (x : Int32) (I : MI) (L : ML) (q : Int32 → MJ → MI → ML → Prop) : Prop := ((x.toInt < 2 ∨ 4 < x.toInt) → q (-1) J I L) ∧ ∀ e, e < 3 → x = nI (e + 2) → ∀ I', I' = ms (ms (ms (ms I 3 2 0) 5 2 0) 7 2 0) 9 2 0 → q ((384 * enI 0 e) + 32) (ms J 0 11 (some e)) I' L
theorem tw_1_206 : Cond.methodLink RX7 102 yX2_ofRank ∈ gt := g1 206 (by decide +kernel) (by decide +kernel)
theorem tw_1_207 : Cond.static yX2_ofRank ∈ gt := g1 207 (by decide +kernel) (by decide +kernel)
theorem tw_1_208 : Cond.code yX2_ofRank cX2_ofRank 1 (some (.object "LatticeVault$ParameterSet")) ∈ gt := g1 208 rfl (by rfl)
set_option maxHeartbeats 4000000 in
set_option maxRecDepth 100000 in
theorem s_X7_choose (l : Launch) (D : va_G) (X : XT) (ad : Nat → Nat) (A : Nat → Prop) (J : MJ) (hX : ∀ k, X.2.2.1 k = shT k) (hWT : WT X 48 J) (hJ : J 0 1 = some 3 ∧ J 0 2 = some 5 ∧ J 0 3 = some 7 ∧ J 0 4 = some 9) (t0 : Ty X 48 0 8) (x : Int32) (I : MI) (L : ML) (q : Int32 → MJ → MI → ML → Prop) (h : wp_choose J x I L q) : Met l yX7_choose (wz yX7_choose cX7_choose 3 (some .int)) ({ frames := 1, cells := 0, slots := 0, locals := 40 } : Room) (va_Pc [.ref (ad 0), .int x] (Pr D X ad 48 A J I L)) (QJ D X ad 48 A q) 0 0 A := by
  refine Met_go (by decide +kernel) (Nat.le_of_ble_eq_true rfl) (fun p e s m below meth c hx hb hr hml hown hlk hnm hts hK hZ hA hV ls hl => ?_)
  have hl : lv_has ls 3 [(0, .ref (ad 0)), (1, .int x)] := hl
  refine lv_iload_n hx hb dX7_choose_0 rfl (lv_at hl 1 rfl) ?_
  have hof : wp_X2_ofRank X J x I L (fun o I1 L1 => (I1 = I ∧ L1 = L) ∧ ((o = none ∧ (x.toInt < 2 ∨ 4 < x.toInt)) ∨ ∃ e, e < 3 ∧ o = some e ∧ x = nI (e + 2))) := ⟨fun z => ⟨⟨rfl, rfl⟩, Or.inl ⟨rfl, z⟩⟩, fun z => ⟨⟨rfl, rfl⟩, Or.inr ⟨0, by decide, rfl, z⟩⟩, fun z => ⟨⟨rfl, rfl⟩, Or.inr ⟨1, by decide, rfl, z⟩⟩, fun z => ⟨⟨rfl, rfl⟩, Or.inr ⟨2, by decide, rfl, z⟩⟩⟩
  refine k_calle (va_runS (As := [.int x]) (rest := []) ⟨hx, hb, hml, hown, hts⟩ (s_X2_ofRank l D X ad 48 A J hWT x I L _ hof) (va_cwS 1 hts (gS tw_1_206 tw_1_207 tw_1_8 tw_1_208) rfl rfl rfl (by decide +kernel) (by decide)) (k_preS hK hV hA hZ _) rfl rfl hl.1 rfl (lv_room (Nat.le_of_ble_eq_true rfl)) dX7_choose_1 ⟨Nat.zero_le _, Nat.zero_le _⟩) hV (fun o I1 L1 H locs hq ho hV => ?_)
  obtain ⟨⟨e1, e2⟩, hq⟩ := hq
  rw [e1, e2] at hV
  rcases hq with ⟨eo, hz⟩ | ⟨k, hk, eo, hz⟩
  · rw [eo]
    refine lv_astore_nN (lv' := [(2, .null), (0, .ref (ad 0)), (1, .int x)]) hx hb dX7_choose_4 rfl hl (by decide) rfl (fun ls hl => ?_)
    refine lv_aload_nN hx hb dX7_choose_5 rfl (lv_at hl 0 rfl) ?_
    refine lv_ifnonnullN hx hb dX7_choose_6 ?_
    refine lv_iconst (v := (-1)) hx hb dX7_choose_9 (by decide) ?_
    exact m_iretJ hx hb hr hlk hK hZ hA hV (h.1 hz) dX7_choose_10
  · rw [eo]
    replace h := h.2 k hk hz _ rfl
    refine lv_astore_n (lv' := [(2, .ref (X.2.1 k)), (0, .ref (ad 0)), (1, .int x)]) hx hb dX7_choose_4 rfl hl (by decide) rfl (fun ls hl => ?_)
    refine lv_aload_n hx hb dX7_choose_5 rfl (lv_at hl 0 rfl) ?_
    refine lv_ifnonnull (tgt := 11) hx hb dX7_choose_6 (by decide) ?_
    refine lv_aload_n hx hb dX7_choose_11 rfl (lv_at hl 1 rfl) ?_
    refine lv_aload_n hx hb dX7_choose_12 rfl (lv_at hl 0 rfl) ?_
    refine m_pute (C := RX7) (T := TX7) (N := 13) (ci := 4) (ty := .object "LatticeVault$ParameterSet") (r := k) hx hb hts iwX7 hown hK hV tyX7 tyX7_ok nmX7 t0 rfl 11 (by decide) rfl rfl (hts _ tw_1_125) (fun _ h9 => h9) rfl (by decide +kernel) rfl rfl dX7_choose_13 (fun H locs hV => ?_)
    have hWT2 : WT X 48 (ms J 0 11 (some k)) := hWT.set (c := 4) t0 rfl hk
    obtain ⟨J2, eJ2⟩ : ∃ y, y = ms J 0 11 (some k) := ⟨_, rfl⟩
    rw [← eJ2] at hV hWT2 h
    refine lv_aload_n hx hb dX7_choose_16 rfl (lv_at hl 1 rfl) ?_
    refine m_getr (C := RX7) (T := TX7) (N := 13) (ci := 4) (r := 3) hx hb hts iwX7 hown hK hV t0 rfl 1 (by decide) rfl rfl (by rw [eJ2]; exact hJ.1) (hts _ tw_1_115) (fun _ h9 => h9) dX7_choose_17 ?_
    refine k_callv (va_runV (As := []) (rest := []) ⟨hx, hb, hml, hown, hts⟩ (s_X4_clear l D X ad 48 A J2 hWT2 3 (tyX hX rfl rfl) I L (fun I9 L9 => I9 = ms I 3 2 0 ∧ L9 = L) (fun _ e9 => ⟨e9, rfl⟩)) (cwV 0 hts (gV tw_1_214 tw_1_215 tw_1_216 tw_1_2 tw_1_217) rfl rfl rfl (by decide +kernel) (by decide)) (k_preV (ci := 1) hK hV hA hZ (tyX hX rfl rfl) rfl _) rfl rfl hl.1 rfl (lv_room (Nat.le_of_ble_eq_true rfl)) dX7_choose_20 ⟨Nat.zero_le _, Nat.zero_le _⟩) hV (fun K0 M0 H locs hq hV => ?_)
    obtain ⟨eK0, eM0⟩ := hq
    rw [eM0] at hV
    refine lv_aload_n hx hb dX7_choose_23 rfl (lv_at hl 1 rfl) ?_
    refine m_getr (C := RX7) (T := TX7) (N := 13) (ci := 4) (r := 5) hx hb hts iwX7 hown hK hV t0 rfl 2 (by decide) rfl rfl (by rw [eJ2]; exact hJ.2.1) (hts _ tw_1_116) (fun _ h9 => h9) dX7_choose_24 ?_
    refine k_callv (va_runV (As := []) (rest := []) ⟨hx, hb, hml, hown, hts⟩ (s_X4_clear l D X ad 48 A J2 hWT2 5 (tyX hX rfl rfl) K0 L (fun I9 L9 => I9 = ms K0 5 2 0 ∧ L9 = L) (fun _ e9 => ⟨e9, rfl⟩)) (cwV 0 hts (gV tw_1_214 tw_1_215 tw_1_216 tw_1_2 tw_1_217) rfl rfl rfl (by decide +kernel) (by decide)) (k_preV (ci := 1) hK hV hA hZ (tyX hX rfl rfl) rfl _) rfl rfl hl.1 rfl (lv_room (Nat.le_of_ble_eq_true rfl)) dX7_choose_27 ⟨Nat.zero_le _, Nat.zero_le _⟩) hV (fun K1 M1 H locs hq hV => ?_)
    obtain ⟨eK1, eM1⟩ := hq
    rw [eM1] at hV
    refine lv_aload_n hx hb dX7_choose_30 rfl (lv_at hl 1 rfl) ?_
    refine m_getr (C := RX7) (T := TX7) (N := 13) (ci := 4) (r := 7) hx hb hts iwX7 hown hK hV t0 rfl 3 (by decide) rfl rfl (by rw [eJ2]; exact hJ.2.2.1) (hts _ tw_1_117) (fun _ h9 => h9) dX7_choose_31 ?_
    refine k_callv (va_runV (As := []) (rest := []) ⟨hx, hb, hml, hown, hts⟩ (s_X4_clear l D X ad 48 A J2 hWT2 7 (tyX hX rfl rfl) K1 L (fun I9 L9 => I9 = ms K1 7 2 0 ∧ L9 = L) (fun _ e9 => ⟨e9, rfl⟩)) (cwV 0 hts (gV tw_1_214 tw_1_215 tw_1_216 tw_1_2 tw_1_217) rfl rfl rfl (by decide +kernel) (by decide)) (k_preV (ci := 1) hK hV hA hZ (tyX hX rfl rfl) rfl _) rfl rfl hl.1 rfl (lv_room (Nat.le_of_ble_eq_true rfl)) dX7_choose_34 ⟨Nat.zero_le _, Nat.zero_le _⟩) hV (fun K2 M2 H locs hq hV => ?_)
    obtain ⟨eK2, eM2⟩ := hq
    rw [eM2] at hV
    refine lv_aload_n hx hb dX7_choose_37 rfl (lv_at hl 1 rfl) ?_
    refine m_getr (C := RX7) (T := TX7) (N := 13) (ci := 4) (r := 9) hx hb hts iwX7 hown hK hV t0 rfl 4 (by decide) rfl rfl (by rw [eJ2]; exact hJ.2.2.2) (hts _ tw_1_118) (fun _ h9 => h9) dX7_choose_38 ?_
    refine k_callv (va_runV (As := []) (rest := []) ⟨hx, hb, hml, hown, hts⟩ (s_X4_clear l D X ad 48 A J2 hWT2 9 (tyX hX rfl rfl) K2 L (fun I9 L9 => I9 = ms K2 9 2 0 ∧ L9 = L) (fun _ e9 => ⟨e9, rfl⟩)) (cwV 0 hts (gV tw_1_214 tw_1_215 tw_1_216 tw_1_2 tw_1_217) rfl rfl rfl (by decide +kernel) (by decide)) (k_preV (ci := 1) hK hV hA hZ (tyX hX rfl rfl) rfl _) rfl rfl hl.1 rfl (lv_room (Nat.le_of_ble_eq_true rfl)) dX7_choose_41 ⟨Nat.zero_le _, Nat.zero_le _⟩) hV (fun K3 M3 H locs hq hV => ?_)
    obtain ⟨eK3, eM3⟩ := hq
    rw [eM3] at hV
    refine lv_aload_n hx hb dX7_choose_44 rfl (lv_at hl 1 rfl) ?_
    refine m_gete (C := RX7) (T := TX7) (N := 13) (ci := 4) (r := k) hx hb hts iwX7 hown hK hV t0 rfl 11 (by decide) rfl rfl (by rw [eJ2]; rfl) (hts _ tw_1_125) (fun _ h9 => h9) dX7_choose_45 ?_
    refine k_calli (va_runV (As := []) (rest := []) ⟨hx, hb, hml, hown, hts⟩ (s_X2_publicLength l D X ad 48 A J2 hWT2 k hk K3 L (fun r9 I9 L9 => r9 = (384 * enI 0 k) + 32 ∧ I9 = K3 ∧ L9 = L) ⟨rfl, rfl, rfl⟩) (cwV 0 hts (gV tw_1_218 tw_1_219 tw_1_220 tw_1_8 tw_1_221) rfl rfl rfl (by decide +kernel) (by decide)) (k_preE hK hV hA hZ hk _) rfl rfl hl.1 rfl (lv_room (Nat.le_of_ble_eq_true rfl)) dX7_choose_48 ⟨Nat.zero_le _, Nat.zero_le _⟩) hV (fun r9 I9 L9 H locs hq hV => ?_)
    obtain ⟨e7, e8, e9⟩ := hq
    rw [e8, e9] at hV
    rw [e7]
    refine m_iretJ hx hb hr hlk hK hZ hA hV ?_ dX7_choose_51
    rw [eK3, eK2, eK1, eK0]
    exact h
section JC
variable {X : XT} {J : MJ} {I : MI} {L : ML} {e : Nat} {S : VS}
theorem Rw.j {J' : MJ} {r w m n : Nat} (hj : J' r = J r) (h : Rw X J I r w m n) : Rw X J' I r w m n := ⟨by rw [hj]; exact h.1, h.2⟩
theorem VJ.se {e' : Nat} (h : VJ X J e) : VJ X (ms J 0 11 (some e')) e' := by
  obtain ⟨⟨hl1, hl2, hl3, hl4, hl5⟩, hM, ⟨v0, v1, v2, v3, v4, v5, v6, v7, v8, v9, v10, v11⟩, h4⟩ := h
  have o : ∀ k, k ≠ 0 → ms J 0 11 (some e') k = J k := fun k hk => ms_ne hk
  have f : ∀ j, j ≠ 11 → ms J 0 11 (some e') 0 j = J 0 j := fun j hj => by rw [ms_eq, va_up_ne _ _ hj]
  refine ⟨⟨?_, ?_, ?_, ?_, hl5⟩, ⟨?_, hM.2⟩, ⟨?_, ?_, ?_, ?_, ?_, ?_, ?_, ?_, ?_, ?_, ?_, by rw [ms_eq, va_up_self]⟩, fun p hp => by rw [o 13 (by decide)]; exact h4.1 p hp, h4.2⟩
  · rw [o 21 (by decide)]; exact hl1
  · rw [o 20 (by decide)]; exact hl2
  · unfold Spj at *; rw [o 18 (by decide)]; exact hl3
  · intro i hi; rw [o 30 (by decide)]; exact hl4 i hi
  · rw [o mo (by decide)]; exact hM.1
  all_goals (rw [f _ (by decide)]; assumption)
theorem Cv.j {J' : MJ} (o : ∀ k, k ≠ 0 → J' k = J k) (h : Cv X J I S) : Cv X J' I S := by
  obtain ⟨h1, h2, h3, ⟨n1, s1⟩, ⟨n2, s2⟩, ⟨n3, s3⟩, n4, s4⟩ := h
  exact ⟨fun w hw => ⟨(h1 w hw).1.j (o _ (by have := cw_b w hw; omega)), (h1 w hw).2⟩, h2, h3, ⟨n1, s1.j (o _ (by decide))⟩, ⟨n2, s2.j (o _ (by decide))⟩, ⟨n3, s3.j (o _ (by decide))⟩, n4, s4.j (o _ (by decide))⟩
theorem RC.z {r m n : Nat} {f : Nat → Nat} {I' : MI} (h : RC X J I r m n f) (e1 : I' r 1 = I r 1) (e2 : I' r 2 = 0) : RC X J I' r m 0 f := ⟨⟨h.1.1, h.1.2.1, by rw [e1]; exact h.1.2.2.1, by rw [e2]; rfl, Nat.zero_le _, h.1.2.2.2.2.2⟩, fun i hi => absurd hi (by omega)⟩
def S4 (e : Nat) (S : VS) : VS := (fun w => if w < 4 then 0 else S.1 w, S.2.1, S.2.2.1, e + 2, S.2.2.2.2)
theorem j_choose (hV : VJ X J e) (h : Iv X J e S I) (x : Int32) : wp_choose J x I L (fun r J' I' L' => ∃ e', VJ X J' e' ∧ (∀ k, k ≠ 0 → J' k = J k) ∧ (∃ k, k < 3 ∧ J' = ms J 0 11 (some k) ∨ J' = J) ∧ wp_X8_choose X J' mo x I' L' (fun r' I'' _ => Po X J' e' r r' I'')) := by
  refine ⟨fun z => ⟨e, hV, fun _ _ => rfl, ⟨0, Or.inr rfl⟩, ?_⟩, fun k hk ex I' eI => ⟨k, hV.se, fun _ hk => ms_ne hk, ⟨k, Or.inl ⟨hk, rfl⟩⟩, ?_⟩⟩
  · refine ⟨fun _ => same h, fun a => ⟨fun b => ?_, fun _ => same h⟩⟩
    rw [Int32.lt_iff_toInt_lt] at a
    rw [Int32.le_iff_toInt_le] at b
    have e2 : (2 : Int32).toInt = 2 := by decide
    have e4 : (4 : Int32).toInt = 4 := by decide
    omega
  · subst ex
    refine ⟨fun a => absurd a (nI_nlt (b := 2) (by omega) (by omega)), fun _ => ⟨fun _ I1 e1 I2 e2 I3 e3 I4 e4 I5 e5 => ?_, fun b => absurd (nI_le (b := 4) (by omega) (by decide)) b⟩⟩
    have hm : ∀ c, c ≠ 0 → ms J 0 11 (some k) c = J c := fun c hc => ms_ne hc
    have fI : ∀ c, c ≠ 3 → c ≠ 5 → c ≠ 7 → c ≠ 9 → I' c = I c := fun c a b d f => by rw [eI, ms_ne f, ms_ne d, ms_ne b, ms_ne a]
    have g3 : I' 3 = va_up (I 3) 2 0 := by rw [eI, ms_ne (by decide), ms_ne (by decide), ms_ne (by decide), ms_eq]
    have g5 : I' 5 = va_up (I 5) 2 0 := by rw [eI, ms_ne (by decide), ms_ne (by decide), ms_eq, ms_ne (by decide)]
    have g7 : I' 7 = va_up (I 7) 2 0 := by rw [eI, ms_ne (by decide), ms_eq, ms_ne (by decide), ms_ne (by decide)]
    have g9 : I' 9 = va_up (I 9) 2 0 := by rw [eI, ms_eq, ms_ne (by decide), ms_ne (by decide), ms_ne (by decide)]
    have hrow : ∀ w, w < 4 → I' (cw w) = va_up (I (cw w)) 2 0 := by
      intro w hw
      rcases (show w = 0 ∨ w = 1 ∨ w = 2 ∨ w = 3 by omega) with rfl | rfl | rfl | rfl
      · exact g3
      · exact g5
      · exact g7
      · exact g9
    have cw4 : ∀ w, w < 6 → ¬ w < 4 → (cw w ≠ 3 ∧ cw w ≠ 5 ∧ cw w ≠ 7 ∧ cw w ≠ 9) ∧ (cw w + 1 ≠ 3 ∧ cw w + 1 ≠ 5 ∧ cw w + 1 ≠ 7 ∧ cw w + 1 ≠ 9) := by decide
    have c1 : Cv X J I' (S4 k S) := by
      refine ⟨fun w hw => ?_, fun p hp => (h.1.2.1 p hp).f (fI _ (by omega) (by omega) (by omega) (by omega)), by rw [fI 0 (by decide) (by decide) (by decide) (by decide)]; exact h.1.2.2.1, h.1.2.2.2.f (fun k hk => fI k (by omega) (by omega) (by omega) (by omega))⟩
      show RC X J I' (cw w) (rmW w) (if w < 4 then 0 else S.1 w) (S.2.1 w)
      by_cases z : w < 4
      · rw [if_pos z]
        exact (h.1.1 w hw).z (by rw [hrow w z, va_up_ne _ _ (by decide)]) (by rw [hrow w z, va_up_self])
      · rw [if_neg z]
        have := cw4 w hw z
        exact (h.1.1 w hw).f (fI _ this.1.1 this.1.2.1 this.1.2.2.1 this.1.2.2.2) (fI _ this.2.1 this.2.2.1 this.2.2.2.1 this.2.2.2.2)
    have q1 := h.r (I' := I') (fun c hc => fI c (by omega) (by omega) (by omega) (by omega))
    have o5 : ∀ c, c ≠ mo → I5 c = I' c := fun c hc => by rw [e5, ms_ne hc, e4, ms_ne hc, e3, ms_ne hc, e2, ms_ne hc, e1, ms_ne hc]
    have m5 : I5 mo = va_up (va_up (va_up (va_up (va_up (I' mo) 7 (nI (k + 2))) 2 0) 3 0) 4 0) 5 0 := by rw [e5, ms_eq, e4, ms_eq, e3, ms_eq, e2, ms_eq, e1, ms_eq]
    have x5 : RX I' I5 (fun _ => False) (fun j => j = 7 ∨ j = 2 ∨ j = 3 ∨ j = 4 ∨ j = 5) (fun _ => False) := by
      refine ⟨fun c _ _ _ d _ _ => o5 c d, fun j _ _ hz => ?_, fun i _ => by rw [o5 me (by decide)], fun i c => cy_eq (o5 me (by decide)) c, fun p _ j _ => by rw [o5 po (by decide)]⟩
      rw [m5, va_up_ne _ _ (fun z => hz (by omega)), va_up_ne _ _ (fun z => hz (by omega)), va_up_ne _ _ (fun z => hz (by omega)), va_up_ne _ _ (fun z => hz (by omega)), va_up_ne _ _ (fun z => hz (by omega))]
    have r5 : Rv I5 (S4 k S) := by
      refine Rv_end q1 x5 (fun w hw => ?_) (fun p hp => Or.inl ⟨rfl, fun z => z⟩) (Or.inr ?_) (Or.inl ⟨rfl, by decide⟩)
      · by_cases z : w < 4
        · refine Or.inr ?_
          show I5 mo (sfW w) = nI (if w < 4 then 0 else S.1 w) ∧ Mb I5 (mbs w) (if w < 4 then 0 else S.1 w) (S.2.1 w)
          rw [if_pos z]
          refine ⟨?_, fun i hi => absurd hi (by omega)⟩
          rw [m5]
          rcases (show w = 0 ∨ w = 1 ∨ w = 2 ∨ w = 3 by omega) with rfl | rfl | rfl | rfl <;> rfl
        · refine Or.inl ⟨if_neg z, rfl, fun _ _ y => y, ?_⟩
          rcases (show w = 4 ∨ w = 5 by omega) with rfl | rfl <;> decide
      · rw [m5]; rfl
    have hWF := h.2.2
    have wf : WF k (S4 k S) := ⟨hk, rfl, hWF.2.2.1, hWF.2.2.2.1, Or.inl rfl, Or.inl rfl, Or.inl rfl⟩
    have k7 : I5 mo 7 = nI (k + 2) := r5.2.2.1
    have c5 : Cv X (ms J 0 11 (some k)) I5 (S4 k S) := Cv.j hm (Cv_fr c1 x5.c)
    show Po X (ms J 0 11 (some k)) k ((384 * enI 0 k) + 32) ((384 * I5 mo 7) + 32) I5
    refine ⟨?_, S4 k S, c5, r5, wf⟩
    rw [k7]
    rcases (show k = 0 ∨ k = 1 ∨ k = 2 by omega) with rfl | rfl | rfl <;> decide
end JC
