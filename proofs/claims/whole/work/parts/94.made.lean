/-! ===== the constructors that make many ===== -/
theorem tyX {X : XT} (hX : ∀ k, X.2.2.1 k = shT k) {n k t : Nat} (h1 : Nat.blt k n = true) (h2 : (shT k).1 = t) : Ty X n k t := ⟨by simpa [Nat.blt_eq] using h1, by rw [hX]; exact h2⟩
theorem dvX1 : ∀ j, j < 9 → defaultValue (tyX1 j) = if fkd 0 j = 0 then .int 0 else .null := by
  intro j hj
  rcases (show j = 0 ∨ j = 1 ∨ j = 2 ∨ j = 3 ∨ j = 4 ∨ j = 5 ∨ j = 6 ∨ j = 7 ∨ j = 8 by omega) with rfl | rfl | rfl | rfl | rfl | rfl | rfl | rfl | rfl <;> rfl
theorem dvX4 : ∀ j, j < 3 → defaultValue (tyX4 j) = if fkd 1 j = 0 then .int 0 else .null := by
  intro j hj
  rcases (show j = 0 ∨ j = 1 ∨ j = 2 by omega) with rfl | rfl | rfl <;> rfl
theorem dvX5 : ∀ j, j < 1 → defaultValue (tyX5 j) = if fkd 2 j = 0 then .int 0 else .null := by
  intro j hj
  rcases (show j = 0 by omega) with rfl <;> rfl
theorem dvX6 : ∀ j, j < 4 → defaultValue (tyX6 j) = if fkd 3 j = 0 then .int 0 else .null := by
  intro j hj
  rcases (show j = 0 ∨ j = 1 ∨ j = 2 ∨ j = 3 by omega) with rfl | rfl | rfl | rfl <;> rfl
theorem dvX7 : ∀ j, j < 13 → defaultValue (tyX7 j) = if fkd 4 j = 0 then .int 0 else .null := by
  intro j hj
  rcases (show j = 0 ∨ j = 1 ∨ j = 2 ∨ j = 3 ∨ j = 4 ∨ j = 5 ∨ j = 6 ∨ j = 7 ∨ j = 8 ∨ j = 9 ∨ j = 10 ∨ j = 11 ∨ j = 12 by omega) with rfl | rfl | rfl | rfl | rfl | rfl | rfl | rfl | rfl | rfl | rfl | rfl | rfl <;> rfl
theorem dvX8 : ∀ j, j < 19 → defaultValue (tyX8 j) = if fkd 5 j = 0 then .int 0 else .null := by
  intro j hj
  rcases (show j = 0 ∨ j = 1 ∨ j = 2 ∨ j = 3 ∨ j = 4 ∨ j = 5 ∨ j = 6 ∨ j = 7 ∨ j = 8 ∨ j = 9 ∨ j = 10 ∨ j = 11 ∨ j = 12 ∨ j = 13 ∨ j = 14 ∨ j = 15 ∨ j = 16 ∨ j = 17 ∨ j = 18 by omega) with rfl | rfl | rfl | rfl | rfl | rfl | rfl | rfl | rfl | rfl | rfl | rfl | rfl | rfl | rfl | rfl | rfl | rfl | rfl <;> rfl
theorem tw_1_80 : Cond.methodLink RX1 3 objectInit ∈ gt := g1 80 (by decide +kernel) (by decide +kernel)
theorem tw_1_81 : Cond.classLink RX1 9 RX4 ∈ gt := g1 81 (by decide +kernel) (by decide +kernel)
theorem tw_1_24 : Cond.instantiable RX4 3 ∈ gt := g1 24 (by decide +kernel) (by decide +kernel)
theorem tw_1_27 : Cond.code yX4_init cX4_init 2 none ∈ gt := g1 27 rfl (by rfl)
theorem tw_1_82 : Cond.methodLink RX1 11 yX4_init ∈ gt := g1 82 (by decide +kernel) (by decide +kernel)
theorem tw_1_26 : Cond.instanceMethod yX4_init ∈ gt := g1 26 (by decide +kernel) (by decide +kernel)
theorem tw_1_83 : Cond.classLink RX1 29 "[[I" ∈ gt := g1 83 (by decide +kernel) (by decide +kernel)
theorem tw_1_20 : Cond.methodLink RX7 1 objectInit ∈ gt := g1 20 (by decide +kernel) (by decide +kernel)
theorem tw_1_23 : Cond.classLink RX7 7 RX4 ∈ gt := g1 23 (by decide +kernel) (by decide +kernel)
theorem tw_1_25 : Cond.methodLink RX7 11 yX4_init ∈ gt := g1 25 (by decide +kernel) (by decide +kernel)
theorem tw_1_43 : Cond.classLink RX7 33 "[[I" ∈ gt := g1 43 (by decide +kernel) (by decide +kernel)
theorem tw_1_45 : Cond.classLink RX7 38 RX6 ∈ gt := g1 45 (by decide +kernel) (by decide +kernel)
theorem tw_1_46 : Cond.instantiable RX6 4 ∈ gt := g1 46 (by decide +kernel) (by decide +kernel)
theorem tw_1_49 : Cond.code yX6_init cX6_init 1 none ∈ gt := g1 49 rfl (by rfl)
theorem tw_1_48 : Cond.instanceMethod yX6_init ∈ gt := g1 48 (by decide +kernel) (by decide +kernel)
theorem tw_1_65 : Cond.classLink RX7 45 RX5 ∈ gt := g1 65 (by decide +kernel) (by decide +kernel)
theorem tw_1_66 : Cond.instantiable RX5 1 ∈ gt := g1 66 (by decide +kernel) (by decide +kernel)
theorem tw_1_69 : Cond.code yX5_init cX5_init 2 none ∈ gt := g1 69 rfl (by rfl)
theorem tw_1_67 : Cond.methodLink RX7 47 yX5_init ∈ gt := g1 67 (by decide +kernel) (by decide +kernel)
theorem tw_1_68 : Cond.instanceMethod yX5_init ∈ gt := g1 68 (by decide +kernel) (by decide +kernel)
theorem tw_1_75 : Cond.classLink RX7 54 RX1 ∈ gt := g1 75 (by decide +kernel) (by decide +kernel)
theorem tw_1_76 : Cond.instantiable RX1 9 ∈ gt := g1 76 (by decide +kernel) (by decide +kernel)
theorem tw_1_79 : Cond.code yX1_init cX1_init 3 none ∈ gt := g1 79 rfl (by rfl)
theorem tw_1_77 : Cond.methodLink RX7 56 yX1_init ∈ gt := g1 77 (by decide +kernel) (by decide +kernel)
theorem tw_1_78 : Cond.instanceMethod yX1_init ∈ gt := g1 78 (by decide +kernel) (by decide +kernel)
theorem tw_1_112 : Cond.fieldLink RX7 67 "LatticeVault$ParameterSet" "MIDDLE" "LLatticeVault$ParameterSet;" ∈ gt := g1 112 (by decide +kernel) (by decide +kernel)
theorem tw_3_75 : Cond.methodLink RX8 1 objectInit ∈ gt := g3 75 (by decide +kernel) (by decide +kernel)
theorem tw_3_76 : Cond.methodLink RX8 45 yX8_turns ∈ gt := g3 76 (by decide +kernel) (by decide +kernel)
theorem tw_3_78 : Cond.instanceMethod yX8_turns ∈ gt := g3 78 (by decide +kernel) (by decide +kernel)
theorem tw_0_11 : Cond.selects RX8 yX8_turns yX8_turns ∈ gt := g0 11 (by decide +kernel) (by decide +kernel)
theorem tw_3_79 : Cond.code yX8_turns cX8_turns 6 none ∈ gt := g3 79 rfl (by rfl)
theorem tw_3_83 : Cond.methodLink RX8 48 yX8_constants ∈ gt := g3 83 (by decide +kernel) (by decide +kernel)
theorem tw_3_85 : Cond.instanceMethod yX8_constants ∈ gt := g3 85 (by decide +kernel) (by decide +kernel)
theorem tw_0_12 : Cond.selects RX8 yX8_constants yX8_constants ∈ gt := g0 12 (by decide +kernel) (by decide +kernel)
theorem tw_3_86 : Cond.code yX8_constants cX8_constants 3 none ∈ gt := g3 86 rfl (by rfl)
theorem tw_3_87 : Cond.methodLink RX8 51 yX8_powers ∈ gt := g3 87 (by decide +kernel) (by decide +kernel)
theorem tw_3_89 : Cond.instanceMethod yX8_powers ∈ gt := g3 89 (by decide +kernel) (by decide +kernel)
theorem tw_0_13 : Cond.selects RX8 yX8_powers yX8_powers ∈ gt := g0 13 (by decide +kernel) (by decide +kernel)
theorem tw_3_90 : Cond.code yX8_powers cX8_powers 4 none ∈ gt := g3 90 rfl (by rfl)
def jX1 (J : MJ) : MJ := ms (ms (ms (ms (ms (mj (ms (ms (ms (ms (ms (ms (ms (ms (J) 22 0 (some 23)) 21 2 (some 22)) 24 0 (some 25)) 21 3 (some 24)) 26 0 (some 27)) 21 4 (some 26)) 28 0 (some 29)) 21 5 (some 28)) 30) 21 6 (some 30)) 21 7 (some 35)) 21 8 (some 36)) 21 0 (some 18)) 21 1 (some 20)
def iX1 (I : MI) : MI := ms (ms (ms (ms (I) 22 1 (nI 3168)) 24 1 (nI 64)) 26 1 (nI 32)) 28 1 (nI 32)
set_option maxHeartbeats 8000000 in
set_option maxRecDepth 100000 in
theorem n_X1_init (l : Launch) (D : va_G) (X : XT) (ad : Nat → Nat) (A : Nat → Prop) (J : MJ) (I : MI) (L : ML) (hX : ∀ k, X.2.2.1 k = shT k) (hG : GJ X 22 J I L) : Met l yX1_init (wz yX1_init cX1_init 3 none) ({ frames := 2, cells := 15, slots := 2376, locals := 53 } : Room) (va_Pc [.ref (ad 21), .ref (ad 18), .ref (ad 20)] (PE D X ad 22 A J I L)) (QN D X ad 22 37 A (fun J' I' L' => J' = jX1 J ∧ I' = iX1 I ∧ L' = L ∧ GJ X 37 J' I' L')) 15 2376 A := by
  refine Met_goE (by decide +kernel) (Nat.le_of_ble_eq_true rfl) (fun p e s m below meth c hx hb hr hml hown hlk hnm hts hK hZ hE hA hV ls hl => ?_)
  replace hl : lv_has ls 3 [(0, .ref (ad 21)), (1, .ref (ad 18)), (2, .ref (ad 20))] := hl
  refine lv_aload_n hx hb dX1_init_0 rfl (lv_at hl 0 rfl) ?_
  refine W.objInit hx hb hown (hts _ tw_1_80) (hts _ tw_1_21) (hts _ tw_1_22) rfl (by rw [hml]; exact hl.1) rfl dX1_init_1 (Nat.le_of_ble_eq_true rfl) (Nat.le_of_ble_eq_true rfl) ?_
  refine W.eq (g2 := F0 m 4 ls []) rfl ?_
  refine lv_aload_n hx hb dX1_init_4 rfl (lv_at hl 0 rfl) ?_
  refine m_new (C := RX4) (T := TX4) (N := 3) (ci := 1) hx hb hts iwX4 tyX4 tyX4_ok hown (hts _ tw_1_81) (hts _ tw_1_24) (hts _ tw_1_2) hK hV hA rfl rfl hG (by rw [hX]; rfl) dvX4 (Nat.le_of_ble_eq_true rfl) (Nat.le_of_ble_eq_true rfl) dX1_init_5 (fun ad1 H hs1 hV => ?_)
  replace hG := hG.s
  refine m_st (st2 := [.ref (ad1 22), .ref (ad1 21)]) (by rw [hs1 21 (by decide)]) ?_
  replace hl : lv_has ls 3 [(0, .ref (ad1 21)), (1, .ref (ad1 18)), (2, .ref (ad1 20))] := by rw [hs1 18 (by decide), hs1 20 (by decide), hs1 21 (by decide)]; exact hl
  refine lv_dup hx hb dX1_init_8 rfl ?_
  refine lv_sipush (v := 3168) hx hb dX1_init_9 (by decide) ?_
  refine m_st (st2 := .int (nI 3168) :: .ref (ad1 22) :: [.ref (ad1 22), .ref (ad1 21)]) rfl ?_
  refine k_calln (va_runI (As := [.int (nI 3168)]) (rest := [.ref (ad1 22), .ref (ad1 21)]) ⟨hx, hb, hml, hown, hts⟩ (n_X4_init l D X ad1 A J I L 22 3168 (tyX hX (n := 23) (k := 22) (t := 5) rfl rfl) (by rw [hX]; rfl) (by decide) hG) (cwI 1 hts (gw tw_1_27) rfl rfl rfl (hts _ tw_1_2) (hts _ tw_1_82) (hts _ tw_1_26) rfl (by decide +kernel) (by decide)) (k_preI hK hV hA hZ hE _) rfl rfl hl.1 rfl (lv_room (Nat.le_of_ble_eq_true rfl)) dX1_init_12 ⟨(Nat.le_of_ble_eq_true rfl), (Nat.le_of_ble_eq_true rfl)⟩) hV (fun ad2 J1 I1 L1 H locs hs2 hq hV => ?_)
  obtain ⟨eJ1, eI1, eL1⟩ := hq
  rw [eL1] at hV
  replace hG : GJ X 24 J1 I1 L := by rw [eJ1, eI1]; exact ((hG.s).r (c := 1) (j := 0) (tyX hX (n := 24) (k := 22) (t := 5) rfl rfl) rfl (tyX hX (n := 24) (k := 23) (t := 0) rfl rfl)).i (by decide)
  refine m_st (st2 := [.ref (ad2 22), .ref (ad2 21)]) (by rw [hs2 21 (by decide), hs2 22 (by decide)]) ?_
  replace hl : lv_has ls 3 [(0, .ref (ad2 21)), (1, .ref (ad2 18)), (2, .ref (ad2 20))] := by rw [hs2 18 (by decide), hs2 20 (by decide), hs2 21 (by decide)]; exact hl
  refine m_putrF (C := RX1) (T := TX1) (N := 9) (ci := 0) (ty := .object "LatticeVault$Row") (r := 22) hx hb hts iwX1 hown hK hV tyX1 tyX1_ok nmX1 (tyX hX (n := 24) (k := 21) (t := 4) rfl rfl) rfl 2 (by decide) rfl rfl (hts _ tw_1_86) (fun _ h9 => h9) rfl hnm rfl (by decide +kernel) rfl rfl dX1_init_15 (fun H locs hV => ?_)
  obtain ⟨J2, eJ2⟩ : ∃ y, y = ms J1 21 2 (some 22) := ⟨_, rfl⟩
  replace hV : Wd D X ad2 24 A s.heap J2 I1 L H locs := by rw [eJ2]; exact hV
  replace hG : GJ X 24 J2 I1 L := by rw [eJ2]; exact hG.r (c := 0) (j := 2) (tyX hX (n := 24) (k := 21) (t := 4) rfl rfl) rfl (tyX hX (n := 24) (k := 22) (t := 5) rfl rfl)
  refine lv_aload_n hx hb dX1_init_18 rfl (lv_at hl 0 rfl) ?_
  refine m_new (C := RX4) (T := TX4) (N := 3) (ci := 1) hx hb hts iwX4 tyX4 tyX4_ok hown (hts _ tw_1_81) (hts _ tw_1_24) (hts _ tw_1_2) hK hV hA rfl rfl hG (by rw [hX]; rfl) dvX4 (Nat.le_of_ble_eq_true rfl) (Nat.le_of_ble_eq_true rfl) dX1_init_19 (fun ad3 H hs3 hV => ?_)
  replace hG := hG.s
  refine m_st (st2 := [.ref (ad3 24), .ref (ad3 21)]) (by rw [hs3 21 (by decide)]) ?_
  replace hl : lv_has ls 3 [(0, .ref (ad3 21)), (1, .ref (ad3 18)), (2, .ref (ad3 20))] := by rw [hs3 18 (by decide), hs3 20 (by decide), hs3 21 (by decide)]; exact hl
  refine lv_dup hx hb dX1_init_22 rfl ?_
  refine lv_bipush (v := 64) hx hb dX1_init_23 (by decide) ?_
  refine m_st (st2 := .int (nI 64) :: .ref (ad3 24) :: [.ref (ad3 24), .ref (ad3 21)]) rfl ?_
  refine k_calln (va_runI (As := [.int (nI 64)]) (rest := [.ref (ad3 24), .ref (ad3 21)]) ⟨hx, hb, hml, hown, hts⟩ (n_X4_init l D X ad3 A J2 I1 L 24 64 (tyX hX (n := 25) (k := 24) (t := 5) rfl rfl) (by rw [hX]; rfl) (by decide) hG) (cwI 1 hts (gw tw_1_27) rfl rfl rfl (hts _ tw_1_2) (hts _ tw_1_82) (hts _ tw_1_26) rfl (by decide +kernel) (by decide)) (k_preI hK hV hA hZ hE _) rfl rfl hl.1 rfl (lv_room (Nat.le_of_ble_eq_true rfl)) dX1_init_25 ⟨(Nat.le_of_ble_eq_true rfl), (Nat.le_of_ble_eq_true rfl)⟩) hV (fun ad4 J3 I2 L3 H locs hs4 hq hV => ?_)
  obtain ⟨eJ3, eI2, eL3⟩ := hq
  rw [eL3] at hV
  replace hG : GJ X 26 J3 I2 L := by rw [eJ3, eI2]; exact ((hG.s).r (c := 1) (j := 0) (tyX hX (n := 26) (k := 24) (t := 5) rfl rfl) rfl (tyX hX (n := 26) (k := 25) (t := 0) rfl rfl)).i (by decide)
  refine m_st (st2 := [.ref (ad4 24), .ref (ad4 21)]) (by rw [hs4 21 (by decide), hs4 24 (by decide)]) ?_
  replace hl : lv_has ls 3 [(0, .ref (ad4 21)), (1, .ref (ad4 18)), (2, .ref (ad4 20))] := by rw [hs4 18 (by decide), hs4 20 (by decide), hs4 21 (by decide)]; exact hl
  refine m_putrF (C := RX1) (T := TX1) (N := 9) (ci := 0) (ty := .object "LatticeVault$Row") (r := 24) hx hb hts iwX1 hown hK hV tyX1 tyX1_ok nmX1 (tyX hX (n := 26) (k := 21) (t := 4) rfl rfl) rfl 3 (by decide) rfl rfl (hts _ tw_1_87) (fun _ h9 => h9) rfl hnm rfl (by decide +kernel) rfl rfl dX1_init_28 (fun H locs hV => ?_)
  obtain ⟨J4, eJ4⟩ : ∃ y, y = ms J3 21 3 (some 24) := ⟨_, rfl⟩
  replace hV : Wd D X ad4 26 A s.heap J4 I2 L H locs := by rw [eJ4]; exact hV
  replace hG : GJ X 26 J4 I2 L := by rw [eJ4]; exact hG.r (c := 0) (j := 3) (tyX hX (n := 26) (k := 21) (t := 4) rfl rfl) rfl (tyX hX (n := 26) (k := 24) (t := 5) rfl rfl)
  refine lv_aload_n hx hb dX1_init_31 rfl (lv_at hl 0 rfl) ?_
  refine m_new (C := RX4) (T := TX4) (N := 3) (ci := 1) hx hb hts iwX4 tyX4 tyX4_ok hown (hts _ tw_1_81) (hts _ tw_1_24) (hts _ tw_1_2) hK hV hA rfl rfl hG (by rw [hX]; rfl) dvX4 (Nat.le_of_ble_eq_true rfl) (Nat.le_of_ble_eq_true rfl) dX1_init_32 (fun ad5 H hs5 hV => ?_)
  replace hG := hG.s
  refine m_st (st2 := [.ref (ad5 26), .ref (ad5 21)]) (by rw [hs5 21 (by decide)]) ?_
  replace hl : lv_has ls 3 [(0, .ref (ad5 21)), (1, .ref (ad5 18)), (2, .ref (ad5 20))] := by rw [hs5 18 (by decide), hs5 20 (by decide), hs5 21 (by decide)]; exact hl
  refine lv_dup hx hb dX1_init_35 rfl ?_
  refine lv_bipush (v := 32) hx hb dX1_init_36 (by decide) ?_
  refine m_st (st2 := .int (nI 32) :: .ref (ad5 26) :: [.ref (ad5 26), .ref (ad5 21)]) rfl ?_
  refine k_calln (va_runI (As := [.int (nI 32)]) (rest := [.ref (ad5 26), .ref (ad5 21)]) ⟨hx, hb, hml, hown, hts⟩ (n_X4_init l D X ad5 A J4 I2 L 26 32 (tyX hX (n := 27) (k := 26) (t := 5) rfl rfl) (by rw [hX]; rfl) (by decide) hG) (cwI 1 hts (gw tw_1_27) rfl rfl rfl (hts _ tw_1_2) (hts _ tw_1_82) (hts _ tw_1_26) rfl (by decide +kernel) (by decide)) (k_preI hK hV hA hZ hE _) rfl rfl hl.1 rfl (lv_room (Nat.le_of_ble_eq_true rfl)) dX1_init_38 ⟨(Nat.le_of_ble_eq_true rfl), (Nat.le_of_ble_eq_true rfl)⟩) hV (fun ad6 J5 I3 L5 H locs hs6 hq hV => ?_)
  obtain ⟨eJ5, eI3, eL5⟩ := hq
  rw [eL5] at hV
  replace hG : GJ X 28 J5 I3 L := by rw [eJ5, eI3]; exact ((hG.s).r (c := 1) (j := 0) (tyX hX (n := 28) (k := 26) (t := 5) rfl rfl) rfl (tyX hX (n := 28) (k := 27) (t := 0) rfl rfl)).i (by decide)
  refine m_st (st2 := [.ref (ad6 26), .ref (ad6 21)]) (by rw [hs6 21 (by decide), hs6 26 (by decide)]) ?_
  replace hl : lv_has ls 3 [(0, .ref (ad6 21)), (1, .ref (ad6 18)), (2, .ref (ad6 20))] := by rw [hs6 18 (by decide), hs6 20 (by decide), hs6 21 (by decide)]; exact hl
  refine m_putrF (C := RX1) (T := TX1) (N := 9) (ci := 0) (ty := .object "LatticeVault$Row") (r := 26) hx hb hts iwX1 hown hK hV tyX1 tyX1_ok nmX1 (tyX hX (n := 28) (k := 21) (t := 4) rfl rfl) rfl 4 (by decide) rfl rfl (hts _ tw_1_88) (fun _ h9 => h9) rfl hnm rfl (by decide +kernel) rfl rfl dX1_init_41 (fun H locs hV => ?_)
  obtain ⟨J6, eJ6⟩ : ∃ y, y = ms J5 21 4 (some 26) := ⟨_, rfl⟩
  replace hV : Wd D X ad6 28 A s.heap J6 I3 L H locs := by rw [eJ6]; exact hV
  replace hG : GJ X 28 J6 I3 L := by rw [eJ6]; exact hG.r (c := 0) (j := 4) (tyX hX (n := 28) (k := 21) (t := 4) rfl rfl) rfl (tyX hX (n := 28) (k := 26) (t := 5) rfl rfl)
  refine lv_aload_n hx hb dX1_init_44 rfl (lv_at hl 0 rfl) ?_
  refine m_new (C := RX4) (T := TX4) (N := 3) (ci := 1) hx hb hts iwX4 tyX4 tyX4_ok hown (hts _ tw_1_81) (hts _ tw_1_24) (hts _ tw_1_2) hK hV hA rfl rfl hG (by rw [hX]; rfl) dvX4 (Nat.le_of_ble_eq_true rfl) (Nat.le_of_ble_eq_true rfl) dX1_init_45 (fun ad7 H hs7 hV => ?_)
  replace hG := hG.s
  refine m_st (st2 := [.ref (ad7 28), .ref (ad7 21)]) (by rw [hs7 21 (by decide)]) ?_
  replace hl : lv_has ls 3 [(0, .ref (ad7 21)), (1, .ref (ad7 18)), (2, .ref (ad7 20))] := by rw [hs7 18 (by decide), hs7 20 (by decide), hs7 21 (by decide)]; exact hl
  refine lv_dup hx hb dX1_init_48 rfl ?_
  refine lv_bipush (v := 32) hx hb dX1_init_49 (by decide) ?_
  refine m_st (st2 := .int (nI 32) :: .ref (ad7 28) :: [.ref (ad7 28), .ref (ad7 21)]) rfl ?_
  refine k_calln (va_runI (As := [.int (nI 32)]) (rest := [.ref (ad7 28), .ref (ad7 21)]) ⟨hx, hb, hml, hown, hts⟩ (n_X4_init l D X ad7 A J6 I3 L 28 32 (tyX hX (n := 29) (k := 28) (t := 5) rfl rfl) (by rw [hX]; rfl) (by decide) hG) (cwI 1 hts (gw tw_1_27) rfl rfl rfl (hts _ tw_1_2) (hts _ tw_1_82) (hts _ tw_1_26) rfl (by decide +kernel) (by decide)) (k_preI hK hV hA hZ hE _) rfl rfl hl.1 rfl (lv_room (Nat.le_of_ble_eq_true rfl)) dX1_init_51 ⟨(Nat.le_of_ble_eq_true rfl), (Nat.le_of_ble_eq_true rfl)⟩) hV (fun ad8 J7 I4 L7 H locs hs8 hq hV => ?_)
  obtain ⟨eJ7, eI4, eL7⟩ := hq
  rw [eL7] at hV
  replace hG : GJ X 30 J7 I4 L := by rw [eJ7, eI4]; exact ((hG.s).r (c := 1) (j := 0) (tyX hX (n := 30) (k := 28) (t := 5) rfl rfl) rfl (tyX hX (n := 30) (k := 29) (t := 0) rfl rfl)).i (by decide)
  refine m_st (st2 := [.ref (ad8 28), .ref (ad8 21)]) (by rw [hs8 21 (by decide), hs8 28 (by decide)]) ?_
  replace hl : lv_has ls 3 [(0, .ref (ad8 21)), (1, .ref (ad8 18)), (2, .ref (ad8 20))] := by rw [hs8 18 (by decide), hs8 20 (by decide), hs8 21 (by decide)]; exact hl
  refine m_putrF (C := RX1) (T := TX1) (N := 9) (ci := 0) (ty := .object "LatticeVault$Row") (r := 28) hx hb hts iwX1 hown hK hV tyX1 tyX1_ok nmX1 (tyX hX (n := 30) (k := 21) (t := 4) rfl rfl) rfl 5 (by decide) rfl rfl (hts _ tw_1_89) (fun _ h9 => h9) rfl hnm rfl (by decide +kernel) rfl rfl dX1_init_54 (fun H locs hV => ?_)
  obtain ⟨J8, eJ8⟩ : ∃ y, y = ms J7 21 5 (some 28) := ⟨_, rfl⟩
  replace hV : Wd D X ad8 30 A s.heap J8 I4 L H locs := by rw [eJ8]; exact hV
  replace hG : GJ X 30 J8 I4 L := by rw [eJ8]; exact hG.r (c := 0) (j := 5) (tyX hX (n := 30) (k := 21) (t := 4) rfl rfl) rfl (tyX hX (n := 30) (k := 28) (t := 5) rfl rfl)
  refine lv_aload_n hx hb dX1_init_57 rfl (lv_at hl 0 rfl) ?_
  refine lv_iconst (v := 4) hx hb dX1_init_58 (by decide) ?_
  refine lv_sipush (v := 256) hx hb dX1_init_59 (by decide) ?_
  refine m_mna hx hb hown (by rw [show ("[" ++ (FieldType.array .int).toString) = "[[I" from by decide +kernel]; exact hts _ tw_1_83) (hE.ao _) (hts _ tw_1_42) hK hV hA hG (by rw [hX]; rfl) (fun i hi => by rw [hX]; exact (by decide : ∀ i, i < 4 → shT (30 + 1 + i) = (0, 256)) i hi) (Nat.le_of_ble_eq_true rfl) (Nat.le_of_ble_eq_true rfl) dX1_init_62 (fun ad9 H hs9 hV => ?_)
  refine m_st (st2 := [.ref (ad9 30), .ref (ad9 21)]) (by rw [hs9 21 (by decide)]) ?_
  replace hl : lv_has ls 3 [(0, .ref (ad9 21)), (1, .ref (ad9 18)), (2, .ref (ad9 20))] := by rw [hs9 18 (by decide), hs9 20 (by decide), hs9 21 (by decide)]; exact hl
  obtain ⟨J9, eJ9⟩ : ∃ y, y = mj J8 30 := ⟨_, rfl⟩
  replace hV : Wd D X ad9 35 A s.heap J9 I4 L H locs := by rw [eJ9]; exact hV
  replace hG : GJ X 35 J9 I4 L := by rw [eJ9]; exact hG.m (by rw [hX]; rfl) (fun i hi => by rw [hX]; exact (by decide : ∀ i, i < 4 → (shT (30 + 1 + i)).1 = 0) i hi)
  refine m_putrF (C := RX1) (T := TX1) (N := 9) (ci := 0) (ty := .array (.array .int)) (r := 30) hx hb hts iwX1 hown hK hV tyX1 tyX1_ok nmX1 (tyX hX (n := 35) (k := 21) (t := 4) rfl rfl) rfl 6 (by decide) rfl rfl (hts _ tw_1_90) (fun _ h9 => h9) rfl hnm rfl (by decide +kernel) rfl rfl dX1_init_66 (fun H locs hV => ?_)
  obtain ⟨J10, eJ10⟩ : ∃ y, y = ms J9 21 6 (some 30) := ⟨_, rfl⟩
  replace hV : Wd D X ad9 35 A s.heap J10 I4 L H locs := by rw [eJ10]; exact hV
  replace hG : GJ X 35 J10 I4 L := by rw [eJ10]; exact hG.r (c := 0) (j := 6) (tyX hX (n := 35) (k := 21) (t := 4) rfl rfl) rfl (tyX hX (n := 35) (k := 30) (t := 3) rfl rfl)
  refine lv_aload_n hx hb dX1_init_69 rfl (lv_at hl 0 rfl) ?_
  refine lv_sipush (v := 256) hx hb dX1_init_70 (by decide) ?_
  refine m_newi (N' := 256) hx hb (hts _ tw_1_42) hK hV hA hG (by rw [hX]; rfl) (by decide) (by decide) (by decide) (Nat.le_of_ble_eq_true rfl) (Nat.le_of_ble_eq_true rfl) dX1_init_73 (fun ad10 H hs10 hV => ?_)
  replace hG := hG.s
  refine m_st (st2 := [.ref (ad10 35), .ref (ad10 21)]) (by rw [hs10 21 (by decide)]) ?_
  replace hl : lv_has ls 3 [(0, .ref (ad10 21)), (1, .ref (ad10 18)), (2, .ref (ad10 20))] := by rw [hs10 18 (by decide), hs10 20 (by decide), hs10 21 (by decide)]; exact hl
  refine m_putrF (C := RX1) (T := TX1) (N := 9) (ci := 0) (ty := .array .int) (r := 35) hx hb hts iwX1 hown hK hV tyX1 tyX1_ok nmX1 (tyX hX (n := 36) (k := 21) (t := 4) rfl rfl) rfl 7 (by decide) rfl rfl (hts _ tw_1_91) (fun _ h9 => h9) rfl hnm rfl (by decide +kernel) rfl rfl dX1_init_75 (fun H locs hV => ?_)
  obtain ⟨J11, eJ11⟩ : ∃ y, y = ms J10 21 7 (some 35) := ⟨_, rfl⟩
  replace hV : Wd D X ad10 36 A s.heap J11 I4 L H locs := by rw [eJ11]; exact hV
  replace hG : GJ X 36 J11 I4 L := by rw [eJ11]; exact hG.r (c := 0) (j := 7) (tyX hX (n := 36) (k := 21) (t := 4) rfl rfl) rfl (tyX hX (n := 36) (k := 35) (t := 0) rfl rfl)
  refine lv_aload_n hx hb dX1_init_78 rfl (lv_at hl 0 rfl) ?_
  refine lv_sipush (v := 256) hx hb dX1_init_79 (by decide) ?_
  refine m_newi (N' := 256) hx hb (hts _ tw_1_42) hK hV hA hG (by rw [hX]; rfl) (by decide) (by decide) (by decide) (Nat.le_of_ble_eq_true rfl) (Nat.le_of_ble_eq_true rfl) dX1_init_82 (fun ad11 H hs11 hV => ?_)
  replace hG := hG.s
  refine m_st (st2 := [.ref (ad11 36), .ref (ad11 21)]) (by rw [hs11 21 (by decide)]) ?_
  replace hl : lv_has ls 3 [(0, .ref (ad11 21)), (1, .ref (ad11 18)), (2, .ref (ad11 20))] := by rw [hs11 18 (by decide), hs11 20 (by decide), hs11 21 (by decide)]; exact hl
  refine m_putrF (C := RX1) (T := TX1) (N := 9) (ci := 0) (ty := .array .int) (r := 36) hx hb hts iwX1 hown hK hV tyX1 tyX1_ok nmX1 (tyX hX (n := 37) (k := 21) (t := 4) rfl rfl) rfl 8 (by decide) rfl rfl (hts _ tw_1_92) (fun _ h9 => h9) rfl hnm rfl (by decide +kernel) rfl rfl dX1_init_84 (fun H locs hV => ?_)
  obtain ⟨J12, eJ12⟩ : ∃ y, y = ms J11 21 8 (some 36) := ⟨_, rfl⟩
  replace hV : Wd D X ad11 37 A s.heap J12 I4 L H locs := by rw [eJ12]; exact hV
  replace hG : GJ X 37 J12 I4 L := by rw [eJ12]; exact hG.r (c := 0) (j := 8) (tyX hX (n := 37) (k := 21) (t := 4) rfl rfl) rfl (tyX hX (n := 37) (k := 36) (t := 0) rfl rfl)
  refine lv_aload_n hx hb dX1_init_87 rfl (lv_at hl 0 rfl) ?_
  refine lv_aload_n hx hb dX1_init_88 rfl (lv_at hl 1 rfl) ?_
  refine m_putrF (C := RX1) (T := TX1) (N := 9) (ci := 0) (ty := .object "LatticeVault$Sponge") (r := 18) hx hb hts iwX1 hown hK hV tyX1 tyX1_ok nmX1 (tyX hX (n := 37) (k := 21) (t := 4) rfl rfl) rfl 0 (by decide) rfl rfl (hts _ tw_1_84) (fun _ h9 => h9) rfl hnm rfl (by decide +kernel) rfl rfl dX1_init_89 (fun H locs hV => ?_)
  obtain ⟨J13, eJ13⟩ : ∃ y, y = ms J12 21 0 (some 18) := ⟨_, rfl⟩
  replace hV : Wd D X ad11 37 A s.heap J13 I4 L H locs := by rw [eJ13]; exact hV
  replace hG : GJ X 37 J13 I4 L := by rw [eJ13]; exact hG.r (c := 0) (j := 0) (tyX hX (n := 37) (k := 21) (t := 4) rfl rfl) rfl (tyX hX (n := 37) (k := 18) (t := 7) rfl rfl)
  refine lv_aload_n hx hb dX1_init_92 rfl (lv_at hl 0 rfl) ?_
  refine lv_aload_n hx hb dX1_init_93 rfl (lv_at hl 2 rfl) ?_
  refine m_putrF (C := RX1) (T := TX1) (N := 9) (ci := 0) (ty := .object "LatticeVault$Sampler") (r := 20) hx hb hts iwX1 hown hK hV tyX1 tyX1_ok nmX1 (tyX hX (n := 37) (k := 21) (t := 4) rfl rfl) rfl 1 (by decide) rfl rfl (hts _ tw_1_85) (fun _ h9 => h9) rfl hnm rfl (by decide +kernel) rfl rfl dX1_init_94 (fun H locs hV => ?_)
  obtain ⟨J14, eJ14⟩ : ∃ y, y = ms J13 21 1 (some 20) := ⟨_, rfl⟩
  replace hV : Wd D X ad11 37 A s.heap J14 I4 L H locs := by rw [eJ14]; exact hV
  replace hG : GJ X 37 J14 I4 L := by rw [eJ14]; exact hG.r (c := 0) (j := 1) (tyX hX (n := 37) (k := 21) (t := 4) rfl rfl) rfl (tyX hX (n := 37) (k := 20) (t := 6) rfl rfl)
  refine W.widen (k := 15) (n := 2376) (Nat.le_of_ble_eq_true rfl) (Nat.le_of_ble_eq_true rfl) ?_
  have eJ : J14 = jX1 J := by rw [eJ14, eJ13, eJ12, eJ11, eJ10, eJ9, eJ8, eJ7, eJ6, eJ5, eJ4, eJ3, eJ2, eJ1]; rfl
  have eI : I4 = iX1 I := by rw [eI4, eI3, eI2, eI1]; rfl
  exact m_vretN hx hb hr hlk hK hZ hA hV (fun i hi => by rw [hs11 i (by omega), hs10 i (by omega), hs9 i (by omega), hs8 i (by omega), hs7 i (by omega), hs6 i (by omega), hs5 i (by omega), hs4 i (by omega), hs3 i (by omega), hs2 i (by omega), hs1 i (by omega)]) ⟨eJ, eI, rfl, hG⟩ dX1_init_97
def jX7 (J : MJ) : MJ := ms (ms (ms (jX1 (ms (ms (ms (ms (ms (mj (ms (ms (ms (ms (ms (ms (ms (ms (ms (ms (ms (ms (J) 1 0 (some 2)) 0 0 (some 1)) 3 0 (some 4)) 0 1 (some 3)) 5 0 (some 6)) 0 2 (some 5)) 7 0 (some 8)) 0 3 (some 7)) 9 0 (some 10)) 0 4 (some 9)) 11 0 (some 12)) 0 5 (some 11)) 13) 0 6 (some 13)) 18 0 (some 19)) 0 7 (some 18)) 20 0 (some 18)) 0 8 (some 20))) 0 9 (some 21)) 0 10 (some 37)) 0 11 (some 1)
def iX7 (I : MI) : MI := ms (iX1 (ms (ms (ms (ms (ms (ms (ms (I) 1 1 (nI 4000)) 3 1 (nI 1568)) 5 1 (nI 3168)) 7 1 (nI 1568)) 9 1 (nI 32)) 11 1 (nI 1000)) 18 1 136)) 0 12 280
set_option maxHeartbeats 8000000 in
set_option maxRecDepth 100000 in
theorem n_X7_init (l : Launch) (D : va_G) (X : XT) (ad : Nat → Nat) (A : Nat → Prop) (J : MJ) (I : MI) (L : ML) (hX : ∀ k, X.2.2.1 k = shT k) (hG : GJ X 1 J I L) : Met l yX7_init (wz yX7_init cX7_init 1 none) ({ frames := 3, cells := 37, slots := 6551, locals := 75 } : Room) (va_Pc [.ref (ad 0)] (PE D X ad 1 A J I L)) (QN D X ad 1 38 A (fun J' I' L' => J' = jX7 J ∧ I' = iX7 I ∧ L' = L ∧ GJ X 38 J' I' L')) 37 6551 A := by
  refine Met_goE (by decide +kernel) (Nat.le_of_ble_eq_true rfl) (fun p e s m below meth c hx hb hr hml hown hlk hnm hts hK hZ hE hA hV ls hl => ?_)
  replace hl : lv_has ls 1 [(0, .ref (ad 0))] := hl
  refine lv_aload_n hx hb dX7_init_0 rfl (lv_at hl 0 rfl) ?_
  refine W.objInit hx hb hown (hts _ tw_1_20) (hts _ tw_1_21) (hts _ tw_1_22) rfl (by rw [hml]; exact hl.1) rfl dX7_init_1 (Nat.le_of_ble_eq_true rfl) (Nat.le_of_ble_eq_true rfl) ?_
  refine W.eq (g2 := F0 m 4 ls []) rfl ?_
  refine lv_aload_n hx hb dX7_init_4 rfl (lv_at hl 0 rfl) ?_
  refine m_new (C := RX4) (T := TX4) (N := 3) (ci := 1) hx hb hts iwX4 tyX4 tyX4_ok hown (hts _ tw_1_23) (hts _ tw_1_24) (hts _ tw_1_2) hK hV hA rfl rfl hG (by rw [hX]; rfl) dvX4 (Nat.le_of_ble_eq_true rfl) (Nat.le_of_ble_eq_true rfl) dX7_init_5 (fun ad1 H hs1 hV => ?_)
  replace hG := hG.s
  refine m_st (st2 := [.ref (ad1 1), .ref (ad1 0)]) (by rw [hs1 0 (by decide)]) ?_
  replace hl : lv_has ls 1 [(0, .ref (ad1 0))] := by rw [hs1 0 (by decide)]; exact hl
  refine lv_dup hx hb dX7_init_8 rfl ?_
  refine lv_sipush (v := 4000) hx hb dX7_init_9 (by decide) ?_
  refine m_st (st2 := .int (nI 4000) :: .ref (ad1 1) :: [.ref (ad1 1), .ref (ad1 0)]) rfl ?_
  refine k_calln (va_runI (As := [.int (nI 4000)]) (rest := [.ref (ad1 1), .ref (ad1 0)]) ⟨hx, hb, hml, hown, hts⟩ (n_X4_init l D X ad1 A J I L 1 4000 (tyX hX (n := 2) (k := 1) (t := 5) rfl rfl) (by rw [hX]; rfl) (by decide) hG) (cwI 1 hts (gw tw_1_27) rfl rfl rfl (hts _ tw_1_2) (hts _ tw_1_25) (hts _ tw_1_26) rfl (by decide +kernel) (by decide)) (k_preI hK hV hA hZ hE _) rfl rfl hl.1 rfl (lv_room (Nat.le_of_ble_eq_true rfl)) dX7_init_12 ⟨(Nat.le_of_ble_eq_true rfl), (Nat.le_of_ble_eq_true rfl)⟩) hV (fun ad2 J1 I1 L1 H locs hs2 hq hV => ?_)
  obtain ⟨eJ1, eI1, eL1⟩ := hq
  rw [eL1] at hV
  replace hG : GJ X 3 J1 I1 L := by rw [eJ1, eI1]; exact ((hG.s).r (c := 1) (j := 0) (tyX hX (n := 3) (k := 1) (t := 5) rfl rfl) rfl (tyX hX (n := 3) (k := 2) (t := 0) rfl rfl)).i (by decide)
  refine m_st (st2 := [.ref (ad2 1), .ref (ad2 0)]) (by rw [hs2 0 (by decide), hs2 1 (by decide)]) ?_
  replace hl : lv_has ls 1 [(0, .ref (ad2 0))] := by rw [hs2 0 (by decide)]; exact hl
  refine m_putrF (C := RX7) (T := TX7) (N := 13) (ci := 4) (ty := .object "LatticeVault$Row") (r := 1) hx hb hts iwX7 hown hK hV tyX7 tyX7_ok nmX7 (tyX hX (n := 3) (k := 0) (t := 8) rfl rfl) rfl 0 (by decide) rfl rfl (hts _ tw_1_114) (fun _ h9 => h9) rfl hnm rfl (by decide +kernel) rfl rfl dX7_init_15 (fun H locs hV => ?_)
  obtain ⟨J2, eJ2⟩ : ∃ y, y = ms J1 0 0 (some 1) := ⟨_, rfl⟩
  replace hV : Wd D X ad2 3 A s.heap J2 I1 L H locs := by rw [eJ2]; exact hV
  replace hG : GJ X 3 J2 I1 L := by rw [eJ2]; exact hG.r (c := 4) (j := 0) (tyX hX (n := 3) (k := 0) (t := 8) rfl rfl) rfl (tyX hX (n := 3) (k := 1) (t := 5) rfl rfl)
  refine lv_aload_n hx hb dX7_init_18 rfl (lv_at hl 0 rfl) ?_
  refine m_new (C := RX4) (T := TX4) (N := 3) (ci := 1) hx hb hts iwX4 tyX4 tyX4_ok hown (hts _ tw_1_23) (hts _ tw_1_24) (hts _ tw_1_2) hK hV hA rfl rfl hG (by rw [hX]; rfl) dvX4 (Nat.le_of_ble_eq_true rfl) (Nat.le_of_ble_eq_true rfl) dX7_init_19 (fun ad3 H hs3 hV => ?_)
  replace hG := hG.s
  refine m_st (st2 := [.ref (ad3 3), .ref (ad3 0)]) (by rw [hs3 0 (by decide)]) ?_
  replace hl : lv_has ls 1 [(0, .ref (ad3 0))] := by rw [hs3 0 (by decide)]; exact hl
  refine lv_dup hx hb dX7_init_22 rfl ?_
  refine lv_sipush (v := 1568) hx hb dX7_init_23 (by decide) ?_
  refine m_st (st2 := .int (nI 1568) :: .ref (ad3 3) :: [.ref (ad3 3), .ref (ad3 0)]) rfl ?_
  refine k_calln (va_runI (As := [.int (nI 1568)]) (rest := [.ref (ad3 3), .ref (ad3 0)]) ⟨hx, hb, hml, hown, hts⟩ (n_X4_init l D X ad3 A J2 I1 L 3 1568 (tyX hX (n := 4) (k := 3) (t := 5) rfl rfl) (by rw [hX]; rfl) (by decide) hG) (cwI 1 hts (gw tw_1_27) rfl rfl rfl (hts _ tw_1_2) (hts _ tw_1_25) (hts _ tw_1_26) rfl (by decide +kernel) (by decide)) (k_preI hK hV hA hZ hE _) rfl rfl hl.1 rfl (lv_room (Nat.le_of_ble_eq_true rfl)) dX7_init_26 ⟨(Nat.le_of_ble_eq_true rfl), (Nat.le_of_ble_eq_true rfl)⟩) hV (fun ad4 J3 I2 L3 H locs hs4 hq hV => ?_)
  obtain ⟨eJ3, eI2, eL3⟩ := hq
  rw [eL3] at hV
  replace hG : GJ X 5 J3 I2 L := by rw [eJ3, eI2]; exact ((hG.s).r (c := 1) (j := 0) (tyX hX (n := 5) (k := 3) (t := 5) rfl rfl) rfl (tyX hX (n := 5) (k := 4) (t := 0) rfl rfl)).i (by decide)
  refine m_st (st2 := [.ref (ad4 3), .ref (ad4 0)]) (by rw [hs4 0 (by decide), hs4 3 (by decide)]) ?_
  replace hl : lv_has ls 1 [(0, .ref (ad4 0))] := by rw [hs4 0 (by decide)]; exact hl
  refine m_putrF (C := RX7) (T := TX7) (N := 13) (ci := 4) (ty := .object "LatticeVault$Row") (r := 3) hx hb hts iwX7 hown hK hV tyX7 tyX7_ok nmX7 (tyX hX (n := 5) (k := 0) (t := 8) rfl rfl) rfl 1 (by decide) rfl rfl (hts _ tw_1_115) (fun _ h9 => h9) rfl hnm rfl (by decide +kernel) rfl rfl dX7_init_29 (fun H locs hV => ?_)
  obtain ⟨J4, eJ4⟩ : ∃ y, y = ms J3 0 1 (some 3) := ⟨_, rfl⟩
  replace hV : Wd D X ad4 5 A s.heap J4 I2 L H locs := by rw [eJ4]; exact hV
  replace hG : GJ X 5 J4 I2 L := by rw [eJ4]; exact hG.r (c := 4) (j := 1) (tyX hX (n := 5) (k := 0) (t := 8) rfl rfl) rfl (tyX hX (n := 5) (k := 3) (t := 5) rfl rfl)
  refine lv_aload_n hx hb dX7_init_32 rfl (lv_at hl 0 rfl) ?_
  refine m_new (C := RX4) (T := TX4) (N := 3) (ci := 1) hx hb hts iwX4 tyX4 tyX4_ok hown (hts _ tw_1_23) (hts _ tw_1_24) (hts _ tw_1_2) hK hV hA rfl rfl hG (by rw [hX]; rfl) dvX4 (Nat.le_of_ble_eq_true rfl) (Nat.le_of_ble_eq_true rfl) dX7_init_33 (fun ad5 H hs5 hV => ?_)
  replace hG := hG.s
  refine m_st (st2 := [.ref (ad5 5), .ref (ad5 0)]) (by rw [hs5 0 (by decide)]) ?_
  replace hl : lv_has ls 1 [(0, .ref (ad5 0))] := by rw [hs5 0 (by decide)]; exact hl
  refine lv_dup hx hb dX7_init_36 rfl ?_
  refine lv_sipush (v := 3168) hx hb dX7_init_37 (by decide) ?_
  refine m_st (st2 := .int (nI 3168) :: .ref (ad5 5) :: [.ref (ad5 5), .ref (ad5 0)]) rfl ?_
  refine k_calln (va_runI (As := [.int (nI 3168)]) (rest := [.ref (ad5 5), .ref (ad5 0)]) ⟨hx, hb, hml, hown, hts⟩ (n_X4_init l D X ad5 A J4 I2 L 5 3168 (tyX hX (n := 6) (k := 5) (t := 5) rfl rfl) (by rw [hX]; rfl) (by decide) hG) (cwI 1 hts (gw tw_1_27) rfl rfl rfl (hts _ tw_1_2) (hts _ tw_1_25) (hts _ tw_1_26) rfl (by decide +kernel) (by decide)) (k_preI hK hV hA hZ hE _) rfl rfl hl.1 rfl (lv_room (Nat.le_of_ble_eq_true rfl)) dX7_init_40 ⟨(Nat.le_of_ble_eq_true rfl), (Nat.le_of_ble_eq_true rfl)⟩) hV (fun ad6 J5 I3 L5 H locs hs6 hq hV => ?_)
  obtain ⟨eJ5, eI3, eL5⟩ := hq
  rw [eL5] at hV
  replace hG : GJ X 7 J5 I3 L := by rw [eJ5, eI3]; exact ((hG.s).r (c := 1) (j := 0) (tyX hX (n := 7) (k := 5) (t := 5) rfl rfl) rfl (tyX hX (n := 7) (k := 6) (t := 0) rfl rfl)).i (by decide)
  refine m_st (st2 := [.ref (ad6 5), .ref (ad6 0)]) (by rw [hs6 0 (by decide), hs6 5 (by decide)]) ?_
  replace hl : lv_has ls 1 [(0, .ref (ad6 0))] := by rw [hs6 0 (by decide)]; exact hl
  refine m_putrF (C := RX7) (T := TX7) (N := 13) (ci := 4) (ty := .object "LatticeVault$Row") (r := 5) hx hb hts iwX7 hown hK hV tyX7 tyX7_ok nmX7 (tyX hX (n := 7) (k := 0) (t := 8) rfl rfl) rfl 2 (by decide) rfl rfl (hts _ tw_1_116) (fun _ h9 => h9) rfl hnm rfl (by decide +kernel) rfl rfl dX7_init_43 (fun H locs hV => ?_)
  obtain ⟨J6, eJ6⟩ : ∃ y, y = ms J5 0 2 (some 5) := ⟨_, rfl⟩
  replace hV : Wd D X ad6 7 A s.heap J6 I3 L H locs := by rw [eJ6]; exact hV
  replace hG : GJ X 7 J6 I3 L := by rw [eJ6]; exact hG.r (c := 4) (j := 2) (tyX hX (n := 7) (k := 0) (t := 8) rfl rfl) rfl (tyX hX (n := 7) (k := 5) (t := 5) rfl rfl)
  refine lv_aload_n hx hb dX7_init_46 rfl (lv_at hl 0 rfl) ?_
  refine m_new (C := RX4) (T := TX4) (N := 3) (ci := 1) hx hb hts iwX4 tyX4 tyX4_ok hown (hts _ tw_1_23) (hts _ tw_1_24) (hts _ tw_1_2) hK hV hA rfl rfl hG (by rw [hX]; rfl) dvX4 (Nat.le_of_ble_eq_true rfl) (Nat.le_of_ble_eq_true rfl) dX7_init_47 (fun ad7 H hs7 hV => ?_)
  replace hG := hG.s
  refine m_st (st2 := [.ref (ad7 7), .ref (ad7 0)]) (by rw [hs7 0 (by decide)]) ?_
  replace hl : lv_has ls 1 [(0, .ref (ad7 0))] := by rw [hs7 0 (by decide)]; exact hl
  refine lv_dup hx hb dX7_init_50 rfl ?_
  refine lv_sipush (v := 1568) hx hb dX7_init_51 (by decide) ?_
  refine m_st (st2 := .int (nI 1568) :: .ref (ad7 7) :: [.ref (ad7 7), .ref (ad7 0)]) rfl ?_
  refine k_calln (va_runI (As := [.int (nI 1568)]) (rest := [.ref (ad7 7), .ref (ad7 0)]) ⟨hx, hb, hml, hown, hts⟩ (n_X4_init l D X ad7 A J6 I3 L 7 1568 (tyX hX (n := 8) (k := 7) (t := 5) rfl rfl) (by rw [hX]; rfl) (by decide) hG) (cwI 1 hts (gw tw_1_27) rfl rfl rfl (hts _ tw_1_2) (hts _ tw_1_25) (hts _ tw_1_26) rfl (by decide +kernel) (by decide)) (k_preI hK hV hA hZ hE _) rfl rfl hl.1 rfl (lv_room (Nat.le_of_ble_eq_true rfl)) dX7_init_54 ⟨(Nat.le_of_ble_eq_true rfl), (Nat.le_of_ble_eq_true rfl)⟩) hV (fun ad8 J7 I4 L7 H locs hs8 hq hV => ?_)
  obtain ⟨eJ7, eI4, eL7⟩ := hq
  rw [eL7] at hV
  replace hG : GJ X 9 J7 I4 L := by rw [eJ7, eI4]; exact ((hG.s).r (c := 1) (j := 0) (tyX hX (n := 9) (k := 7) (t := 5) rfl rfl) rfl (tyX hX (n := 9) (k := 8) (t := 0) rfl rfl)).i (by decide)
  refine m_st (st2 := [.ref (ad8 7), .ref (ad8 0)]) (by rw [hs8 0 (by decide), hs8 7 (by decide)]) ?_
  replace hl : lv_has ls 1 [(0, .ref (ad8 0))] := by rw [hs8 0 (by decide)]; exact hl
  refine m_putrF (C := RX7) (T := TX7) (N := 13) (ci := 4) (ty := .object "LatticeVault$Row") (r := 7) hx hb hts iwX7 hown hK hV tyX7 tyX7_ok nmX7 (tyX hX (n := 9) (k := 0) (t := 8) rfl rfl) rfl 3 (by decide) rfl rfl (hts _ tw_1_117) (fun _ h9 => h9) rfl hnm rfl (by decide +kernel) rfl rfl dX7_init_57 (fun H locs hV => ?_)
  obtain ⟨J8, eJ8⟩ : ∃ y, y = ms J7 0 3 (some 7) := ⟨_, rfl⟩
  replace hV : Wd D X ad8 9 A s.heap J8 I4 L H locs := by rw [eJ8]; exact hV
  replace hG : GJ X 9 J8 I4 L := by rw [eJ8]; exact hG.r (c := 4) (j := 3) (tyX hX (n := 9) (k := 0) (t := 8) rfl rfl) rfl (tyX hX (n := 9) (k := 7) (t := 5) rfl rfl)
  refine lv_aload_n hx hb dX7_init_60 rfl (lv_at hl 0 rfl) ?_
  refine m_new (C := RX4) (T := TX4) (N := 3) (ci := 1) hx hb hts iwX4 tyX4 tyX4_ok hown (hts _ tw_1_23) (hts _ tw_1_24) (hts _ tw_1_2) hK hV hA rfl rfl hG (by rw [hX]; rfl) dvX4 (Nat.le_of_ble_eq_true rfl) (Nat.le_of_ble_eq_true rfl) dX7_init_61 (fun ad9 H hs9 hV => ?_)
  replace hG := hG.s
  refine m_st (st2 := [.ref (ad9 9), .ref (ad9 0)]) (by rw [hs9 0 (by decide)]) ?_
  replace hl : lv_has ls 1 [(0, .ref (ad9 0))] := by rw [hs9 0 (by decide)]; exact hl
  refine lv_dup hx hb dX7_init_64 rfl ?_
  refine lv_bipush (v := 32) hx hb dX7_init_65 (by decide) ?_
  refine m_st (st2 := .int (nI 32) :: .ref (ad9 9) :: [.ref (ad9 9), .ref (ad9 0)]) rfl ?_
  refine k_calln (va_runI (As := [.int (nI 32)]) (rest := [.ref (ad9 9), .ref (ad9 0)]) ⟨hx, hb, hml, hown, hts⟩ (n_X4_init l D X ad9 A J8 I4 L 9 32 (tyX hX (n := 10) (k := 9) (t := 5) rfl rfl) (by rw [hX]; rfl) (by decide) hG) (cwI 1 hts (gw tw_1_27) rfl rfl rfl (hts _ tw_1_2) (hts _ tw_1_25) (hts _ tw_1_26) rfl (by decide +kernel) (by decide)) (k_preI hK hV hA hZ hE _) rfl rfl hl.1 rfl (lv_room (Nat.le_of_ble_eq_true rfl)) dX7_init_67 ⟨(Nat.le_of_ble_eq_true rfl), (Nat.le_of_ble_eq_true rfl)⟩) hV (fun ad10 J9 I5 L9 H locs hs10 hq hV => ?_)
  obtain ⟨eJ9, eI5, eL9⟩ := hq
  rw [eL9] at hV
  replace hG : GJ X 11 J9 I5 L := by rw [eJ9, eI5]; exact ((hG.s).r (c := 1) (j := 0) (tyX hX (n := 11) (k := 9) (t := 5) rfl rfl) rfl (tyX hX (n := 11) (k := 10) (t := 0) rfl rfl)).i (by decide)
  refine m_st (st2 := [.ref (ad10 9), .ref (ad10 0)]) (by rw [hs10 0 (by decide), hs10 9 (by decide)]) ?_
  replace hl : lv_has ls 1 [(0, .ref (ad10 0))] := by rw [hs10 0 (by decide)]; exact hl
  refine m_putrF (C := RX7) (T := TX7) (N := 13) (ci := 4) (ty := .object "LatticeVault$Row") (r := 9) hx hb hts iwX7 hown hK hV tyX7 tyX7_ok nmX7 (tyX hX (n := 11) (k := 0) (t := 8) rfl rfl) rfl 4 (by decide) rfl rfl (hts _ tw_1_118) (fun _ h9 => h9) rfl hnm rfl (by decide +kernel) rfl rfl dX7_init_70 (fun H locs hV => ?_)
  obtain ⟨J10, eJ10⟩ : ∃ y, y = ms J9 0 4 (some 9) := ⟨_, rfl⟩
  replace hV : Wd D X ad10 11 A s.heap J10 I5 L H locs := by rw [eJ10]; exact hV
  replace hG : GJ X 11 J10 I5 L := by rw [eJ10]; exact hG.r (c := 4) (j := 4) (tyX hX (n := 11) (k := 0) (t := 8) rfl rfl) rfl (tyX hX (n := 11) (k := 9) (t := 5) rfl rfl)
  refine lv_aload_n hx hb dX7_init_73 rfl (lv_at hl 0 rfl) ?_
  refine m_new (C := RX4) (T := TX4) (N := 3) (ci := 1) hx hb hts iwX4 tyX4 tyX4_ok hown (hts _ tw_1_23) (hts _ tw_1_24) (hts _ tw_1_2) hK hV hA rfl rfl hG (by rw [hX]; rfl) dvX4 (Nat.le_of_ble_eq_true rfl) (Nat.le_of_ble_eq_true rfl) dX7_init_74 (fun ad11 H hs11 hV => ?_)
  replace hG := hG.s
  refine m_st (st2 := [.ref (ad11 11), .ref (ad11 0)]) (by rw [hs11 0 (by decide)]) ?_
  replace hl : lv_has ls 1 [(0, .ref (ad11 0))] := by rw [hs11 0 (by decide)]; exact hl
  refine lv_dup hx hb dX7_init_77 rfl ?_
  refine lv_sipush (v := 1000) hx hb dX7_init_78 (by decide) ?_
  refine m_st (st2 := .int (nI 1000) :: .ref (ad11 11) :: [.ref (ad11 11), .ref (ad11 0)]) rfl ?_
  refine k_calln (va_runI (As := [.int (nI 1000)]) (rest := [.ref (ad11 11), .ref (ad11 0)]) ⟨hx, hb, hml, hown, hts⟩ (n_X4_init l D X ad11 A J10 I5 L 11 1000 (tyX hX (n := 12) (k := 11) (t := 5) rfl rfl) (by rw [hX]; rfl) (by decide) hG) (cwI 1 hts (gw tw_1_27) rfl rfl rfl (hts _ tw_1_2) (hts _ tw_1_25) (hts _ tw_1_26) rfl (by decide +kernel) (by decide)) (k_preI hK hV hA hZ hE _) rfl rfl hl.1 rfl (lv_room (Nat.le_of_ble_eq_true rfl)) dX7_init_81 ⟨(Nat.le_of_ble_eq_true rfl), (Nat.le_of_ble_eq_true rfl)⟩) hV (fun ad12 J11 I6 L11 H locs hs12 hq hV => ?_)
  obtain ⟨eJ11, eI6, eL11⟩ := hq
  rw [eL11] at hV
  replace hG : GJ X 13 J11 I6 L := by rw [eJ11, eI6]; exact ((hG.s).r (c := 1) (j := 0) (tyX hX (n := 13) (k := 11) (t := 5) rfl rfl) rfl (tyX hX (n := 13) (k := 12) (t := 0) rfl rfl)).i (by decide)
  refine m_st (st2 := [.ref (ad12 11), .ref (ad12 0)]) (by rw [hs12 0 (by decide), hs12 11 (by decide)]) ?_
  replace hl : lv_has ls 1 [(0, .ref (ad12 0))] := by rw [hs12 0 (by decide)]; exact hl
  refine m_putrF (C := RX7) (T := TX7) (N := 13) (ci := 4) (ty := .object "LatticeVault$Row") (r := 11) hx hb hts iwX7 hown hK hV tyX7 tyX7_ok nmX7 (tyX hX (n := 13) (k := 0) (t := 8) rfl rfl) rfl 5 (by decide) rfl rfl (hts _ tw_1_119) (fun _ h9 => h9) rfl hnm rfl (by decide +kernel) rfl rfl dX7_init_84 (fun H locs hV => ?_)
  obtain ⟨J12, eJ12⟩ : ∃ y, y = ms J11 0 5 (some 11) := ⟨_, rfl⟩
  replace hV : Wd D X ad12 13 A s.heap J12 I6 L H locs := by rw [eJ12]; exact hV
  replace hG : GJ X 13 J12 I6 L := by rw [eJ12]; exact hG.r (c := 4) (j := 5) (tyX hX (n := 13) (k := 0) (t := 8) rfl rfl) rfl (tyX hX (n := 13) (k := 11) (t := 5) rfl rfl)
  refine lv_aload_n hx hb dX7_init_87 rfl (lv_at hl 0 rfl) ?_
  refine lv_iconst (v := 4) hx hb dX7_init_88 (by decide) ?_
  refine lv_sipush (v := 256) hx hb dX7_init_89 (by decide) ?_
  refine m_mna hx hb hown (by rw [show ("[" ++ (FieldType.array .int).toString) = "[[I" from by decide +kernel]; exact hts _ tw_1_43) (hE.ao _) (hts _ tw_1_42) hK hV hA hG (by rw [hX]; rfl) (fun i hi => by rw [hX]; exact (by decide : ∀ i, i < 4 → shT (13 + 1 + i) = (0, 256)) i hi) (Nat.le_of_ble_eq_true rfl) (Nat.le_of_ble_eq_true rfl) dX7_init_92 (fun ad13 H hs13 hV => ?_)
  refine m_st (st2 := [.ref (ad13 13), .ref (ad13 0)]) (by rw [hs13 0 (by decide)]) ?_
  replace hl : lv_has ls 1 [(0, .ref (ad13 0))] := by rw [hs13 0 (by decide)]; exact hl
  obtain ⟨J13, eJ13⟩ : ∃ y, y = mj J12 13 := ⟨_, rfl⟩
  replace hV : Wd D X ad13 18 A s.heap J13 I6 L H locs := by rw [eJ13]; exact hV
  replace hG : GJ X 18 J13 I6 L := by rw [eJ13]; exact hG.m (by rw [hX]; rfl) (fun i hi => by rw [hX]; exact (by decide : ∀ i, i < 4 → (shT (13 + 1 + i)).1 = 0) i hi)
  refine m_putrF (C := RX7) (T := TX7) (N := 13) (ci := 4) (ty := .array (.array .int)) (r := 13) hx hb hts iwX7 hown hK hV tyX7 tyX7_ok nmX7 (tyX hX (n := 18) (k := 0) (t := 8) rfl rfl) rfl 6 (by decide) rfl rfl (hts _ tw_1_120) (fun _ h9 => h9) rfl hnm rfl (by decide +kernel) rfl rfl dX7_init_96 (fun H locs hV => ?_)
  obtain ⟨J14, eJ14⟩ : ∃ y, y = ms J13 0 6 (some 13) := ⟨_, rfl⟩
  replace hV : Wd D X ad13 18 A s.heap J14 I6 L H locs := by rw [eJ14]; exact hV
  replace hG : GJ X 18 J14 I6 L := by rw [eJ14]; exact hG.r (c := 4) (j := 6) (tyX hX (n := 18) (k := 0) (t := 8) rfl rfl) rfl (tyX hX (n := 18) (k := 13) (t := 3) rfl rfl)
  refine lv_aload_n hx hb dX7_init_99 rfl (lv_at hl 0 rfl) ?_
  refine m_new (C := RX6) (T := TX6) (N := 4) (ci := 3) hx hb hts iwX6 tyX6 tyX6_ok hown (hts _ tw_1_45) (hts _ tw_1_46) (hts _ tw_1_4) hK hV hA rfl rfl hG (by rw [hX]; rfl) dvX6 (Nat.le_of_ble_eq_true rfl) (Nat.le_of_ble_eq_true rfl) dX7_init_100 (fun ad14 H hs14 hV => ?_)
  replace hG := hG.s
  refine m_st (st2 := [.ref (ad14 18), .ref (ad14 0)]) (by rw [hs14 0 (by decide)]) ?_
  replace hl : lv_has ls 1 [(0, .ref (ad14 0))] := by rw [hs14 0 (by decide)]; exact hl
  refine lv_dup hx hb dX7_init_103 rfl ?_
  refine k_calln (va_runIN (As := []) (rest := [.ref (ad14 18), .ref (ad14 0)]) ⟨hx, hb, hml, hown, hts⟩ (n_X6_init l D X ad14 A J14 I6 L 18 (tyX hX (n := 19) (k := 18) (t := 7) rfl rfl) (by rw [hX]; rfl) hG) ⟨va_cnB 0 hts (gw tw_1_49) rfl rfl rfl hE.1 (hts _ tw_1_4) (by decide +kernel) (by decide), rfl, hts _ tw_1_48⟩ (k_preI hK hV hA hZ hE _) rfl rfl hl.1 rfl (lv_room (Nat.le_of_ble_eq_true rfl)) dX7_init_104 ⟨(Nat.le_of_ble_eq_true rfl), (Nat.le_of_ble_eq_true rfl)⟩) hV (fun ad15 J15 I7 L15 H locs hs15 hq hV => ?_)
  obtain ⟨eJ15, eI7, eL15⟩ := hq
  rw [eL15] at hV
  replace hG : GJ X 20 J15 I7 L := by rw [eJ15, eI7]; exact ((hG.s).r (c := 3) (j := 0) (tyX hX (n := 20) (k := 18) (t := 7) rfl rfl) rfl (tyX hX (n := 20) (k := 19) (t := 2) rfl rfl)).i (by decide)
  refine m_st (st2 := [.ref (ad15 18), .ref (ad15 0)]) (by rw [hs15 0 (by decide), hs15 18 (by decide)]) ?_
  replace hl : lv_has ls 1 [(0, .ref (ad15 0))] := by rw [hs15 0 (by decide)]; exact hl
  refine m_putrF (C := RX7) (T := TX7) (N := 13) (ci := 4) (ty := .object "LatticeVault$Sponge") (r := 18) hx hb hts iwX7 hown hK hV tyX7 tyX7_ok nmX7 (tyX hX (n := 20) (k := 0) (t := 8) rfl rfl) rfl 7 (by decide) rfl rfl (hts _ tw_1_121) (fun _ h9 => h9) rfl hnm rfl (by decide +kernel) rfl rfl dX7_init_107 (fun H locs hV => ?_)
  obtain ⟨J16, eJ16⟩ : ∃ y, y = ms J15 0 7 (some 18) := ⟨_, rfl⟩
  replace hV : Wd D X ad15 20 A s.heap J16 I7 L H locs := by rw [eJ16]; exact hV
  replace hG : GJ X 20 J16 I7 L := by rw [eJ16]; exact hG.r (c := 4) (j := 7) (tyX hX (n := 20) (k := 0) (t := 8) rfl rfl) rfl (tyX hX (n := 20) (k := 18) (t := 7) rfl rfl)
  refine lv_aload_n hx hb dX7_init_110 rfl (lv_at hl 0 rfl) ?_
  refine m_new (C := RX5) (T := TX5) (N := 1) (ci := 2) hx hb hts iwX5 tyX5 tyX5_ok hown (hts _ tw_1_65) (hts _ tw_1_66) (hts _ tw_1_5) hK hV hA rfl rfl hG (by rw [hX]; rfl) dvX5 (Nat.le_of_ble_eq_true rfl) (Nat.le_of_ble_eq_true rfl) dX7_init_111 (fun ad16 H hs16 hV => ?_)
  replace hG := hG.s
  refine m_st (st2 := [.ref (ad16 20), .ref (ad16 0)]) (by rw [hs16 0 (by decide)]) ?_
  replace hl : lv_has ls 1 [(0, .ref (ad16 0))] := by rw [hs16 0 (by decide)]; exact hl
  refine lv_dup hx hb dX7_init_114 rfl ?_
  refine lv_aload_n hx hb dX7_init_115 rfl (lv_at hl 0 rfl) ?_
  refine m_getr (C := RX7) (T := TX7) (N := 13) (ci := 4) (r := 18) hx hb hts iwX7 hown hK hV (tyX hX (n := 21) (k := 0) (t := 8) rfl rfl) rfl 7 (by decide) rfl rfl (by rw [eJ16, eJ15, eJ14, eJ13, eJ12, eJ11]; rfl) (hts _ tw_1_121) (fun _ h9 => h9) dX7_init_116 ?_
  refine k_calln (va_runI (As := [.ref (ad16 18)]) (rest := [.ref (ad16 20), .ref (ad16 0)]) ⟨hx, hb, hml, hown, hts⟩ (n_X5_init l D X ad16 21 A J16 I7 L 20 18 (tyX hX (n := 21) (k := 20) (t := 6) rfl rfl) (tyX hX (n := 21) (k := 18) (t := 7) rfl rfl)) (cwI 1 hts (gw tw_1_69) rfl rfl rfl (hts _ tw_1_5) (hts _ tw_1_67) (hts _ tw_1_68) rfl (by decide +kernel) (by decide)) (k_preI hK hV hA hZ hE _) rfl rfl hl.1 rfl (lv_room (Nat.le_of_ble_eq_true rfl)) dX7_init_119 ⟨(Nat.le_of_ble_eq_true rfl), (Nat.le_of_ble_eq_true rfl)⟩) hV (fun ad17 J17 I8 L17 H locs hs17 hq hV => ?_)
  obtain ⟨eJ17, eI8, eL17⟩ := hq
  rw [eL17] at hV
  rw [eI8] at hV
  replace hG : GJ X 21 J17 I7 L := by rw [eJ17]; exact hG.r (c := 2) (j := 0) (tyX hX (n := 21) (k := 20) (t := 6) rfl rfl) rfl (tyX hX (n := 21) (k := 18) (t := 7) rfl rfl)
  refine m_st (st2 := [.ref (ad17 20), .ref (ad17 0)]) (by rw [hs17 0 (by decide), hs17 20 (by decide)]) ?_
  replace hl : lv_has ls 1 [(0, .ref (ad17 0))] := by rw [hs17 0 (by decide)]; exact hl
  refine m_putrF (C := RX7) (T := TX7) (N := 13) (ci := 4) (ty := .object "LatticeVault$Sampler") (r := 20) hx hb hts iwX7 hown hK hV tyX7 tyX7_ok nmX7 (tyX hX (n := 21) (k := 0) (t := 8) rfl rfl) rfl 8 (by decide) rfl rfl (hts _ tw_1_122) (fun _ h9 => h9) rfl hnm rfl (by decide +kernel) rfl rfl dX7_init_122 (fun H locs hV => ?_)
  obtain ⟨J18, eJ18⟩ : ∃ y, y = ms J17 0 8 (some 20) := ⟨_, rfl⟩
  replace hV : Wd D X ad17 21 A s.heap J18 I7 L H locs := by rw [eJ18]; exact hV
  replace hG : GJ X 21 J18 I7 L := by rw [eJ18]; exact hG.r (c := 4) (j := 8) (tyX hX (n := 21) (k := 0) (t := 8) rfl rfl) rfl (tyX hX (n := 21) (k := 20) (t := 6) rfl rfl)
  refine lv_aload_n hx hb dX7_init_125 rfl (lv_at hl 0 rfl) ?_
  refine m_new (C := RX1) (T := TX1) (N := 9) (ci := 0) hx hb hts iwX1 tyX1 tyX1_ok hown (hts _ tw_1_75) (hts _ tw_1_76) (hts _ tw_1_6) hK hV hA rfl rfl hG (by rw [hX]; rfl) dvX1 (Nat.le_of_ble_eq_true rfl) (Nat.le_of_ble_eq_true rfl) dX7_init_126 (fun ad18 H hs18 hV => ?_)
  replace hG := hG.s
  refine m_st (st2 := [.ref (ad18 21), .ref (ad18 0)]) (by rw [hs18 0 (by decide)]) ?_
  replace hl : lv_has ls 1 [(0, .ref (ad18 0))] := by rw [hs18 0 (by decide)]; exact hl
  refine lv_dup hx hb dX7_init_129 rfl ?_
  refine lv_aload_n hx hb dX7_init_130 rfl (lv_at hl 0 rfl) ?_
  refine m_getr (C := RX7) (T := TX7) (N := 13) (ci := 4) (r := 18) hx hb hts iwX7 hown hK hV (tyX hX (n := 22) (k := 0) (t := 8) rfl rfl) rfl 7 (by decide) rfl rfl (by rw [eJ18, eJ17, eJ16, eJ15, eJ14, eJ13]; rfl) (hts _ tw_1_121) (fun _ h9 => h9) dX7_init_131 ?_
  refine lv_aload_n hx hb dX7_init_134 rfl (lv_at hl 0 rfl) ?_
  refine m_getr (C := RX7) (T := TX7) (N := 13) (ci := 4) (r := 20) hx hb hts iwX7 hown hK hV (tyX hX (n := 22) (k := 0) (t := 8) rfl rfl) rfl 8 (by decide) rfl rfl (by rw [eJ18, eJ17, eJ16, eJ15, eJ14, eJ13]; rfl) (hts _ tw_1_122) (fun _ h9 => h9) dX7_init_135 ?_
  refine k_calln (va_runI (As := [.ref (ad18 18), .ref (ad18 20)]) (rest := [.ref (ad18 21), .ref (ad18 0)]) ⟨hx, hb, hml, hown, hts⟩ (n_X1_init l D X ad18 A J18 I7 L hX hG) (cwI 2 hts (gw tw_1_79) rfl rfl rfl (hts _ tw_1_6) (hts _ tw_1_77) (hts _ tw_1_78) rfl (by decide +kernel) (by decide)) (k_preI hK hV hA hZ hE _) rfl rfl hl.1 rfl (lv_room (Nat.le_of_ble_eq_true rfl)) dX7_init_138 ⟨(Nat.le_of_ble_eq_true rfl), (Nat.le_of_ble_eq_true rfl)⟩) hV (fun ad19 J19 I8 L19 H locs hs19 hq hV => ?_)
  obtain ⟨eJ19, eI8, eL19, hG2⟩ := hq
  rw [eL19] at hV hG2
  replace hG := hG2
  refine m_st (st2 := [.ref (ad19 21), .ref (ad19 0)]) (by rw [hs19 0 (by decide), hs19 21 (by decide)]) ?_
  replace hl : lv_has ls 1 [(0, .ref (ad19 0))] := by rw [hs19 0 (by decide)]; exact hl
  refine m_putrF (C := RX7) (T := TX7) (N := 13) (ci := 4) (ty := .object "LatticeVault$Locksmith") (r := 21) hx hb hts iwX7 hown hK hV tyX7 tyX7_ok nmX7 (tyX hX (n := 37) (k := 0) (t := 8) rfl rfl) rfl 9 (by decide) rfl rfl (hts _ tw_1_123) (fun _ h9 => h9) rfl hnm rfl (by decide +kernel) rfl rfl dX7_init_141 (fun H locs hV => ?_)
  obtain ⟨J20, eJ20⟩ : ∃ y, y = ms J19 0 9 (some 21) := ⟨_, rfl⟩
  replace hV : Wd D X ad19 37 A s.heap J20 I8 L H locs := by rw [eJ20]; exact hV
  replace hG : GJ X 37 J20 I8 L := by rw [eJ20]; exact hG.r (c := 4) (j := 9) (tyX hX (n := 37) (k := 0) (t := 8) rfl rfl) rfl (tyX hX (n := 37) (k := 21) (t := 4) rfl rfl)
  refine lv_aload_n hx hb dX7_init_144 rfl (lv_at hl 0 rfl) ?_
  refine lv_sipush (v := 256) hx hb dX7_init_145 (by decide) ?_
  refine m_newi (N' := 256) hx hb (hts _ tw_1_42) hK hV hA hG (by rw [hX]; rfl) (by decide) (by decide) (by decide) (Nat.le_of_ble_eq_true rfl) (Nat.le_of_ble_eq_true rfl) dX7_init_148 (fun ad20 H hs20 hV => ?_)
  replace hG := hG.s
  refine m_st (st2 := [.ref (ad20 37), .ref (ad20 0)]) (by rw [hs20 0 (by decide)]) ?_
  replace hl : lv_has ls 1 [(0, .ref (ad20 0))] := by rw [hs20 0 (by decide)]; exact hl
  refine m_putrF (C := RX7) (T := TX7) (N := 13) (ci := 4) (ty := .array .int) (r := 37) hx hb hts iwX7 hown hK hV tyX7 tyX7_ok nmX7 (tyX hX (n := 38) (k := 0) (t := 8) rfl rfl) rfl 10 (by decide) rfl rfl (hts _ tw_1_124) (fun _ h9 => h9) rfl hnm rfl (by decide +kernel) rfl rfl dX7_init_150 (fun H locs hV => ?_)
  obtain ⟨J21, eJ21⟩ : ∃ y, y = ms J20 0 10 (some 37) := ⟨_, rfl⟩
  replace hV : Wd D X ad20 38 A s.heap J21 I8 L H locs := by rw [eJ21]; exact hV
  replace hG : GJ X 38 J21 I8 L := by rw [eJ21]; exact hG.r (c := 4) (j := 10) (tyX hX (n := 38) (k := 0) (t := 8) rfl rfl) rfl (tyX hX (n := 38) (k := 37) (t := 0) rfl rfl)
  refine lv_aload_n hx hb dX7_init_153 rfl (lv_at hl 0 rfl) ?_
  refine va_gets (v := .ref (X.2.1 1)) hx hb (hZ.1.1 1 (by decide)).1 hV.2.2 hown (hts _ tw_1_112) (fun _ h9 => h9) dX7_init_154 ?_
  refine m_pute (C := RX7) (T := TX7) (N := 13) (ci := 4) (ty := .object "LatticeVault$ParameterSet") (r := 1) hx hb hts iwX7 hown hK hV tyX7 tyX7_ok nmX7 (tyX hX (n := 38) (k := 0) (t := 8) rfl rfl) rfl 11 (by decide) rfl rfl (hts _ tw_1_125) (fun _ h9 => h9) rfl (by decide +kernel) rfl rfl dX7_init_157 (fun H locs hV => ?_)
  obtain ⟨J22, eJ22⟩ : ∃ y, y = ms J21 0 11 (some 1) := ⟨_, rfl⟩
  replace hV : Wd D X ad20 38 A s.heap J22 I8 L H locs := by rw [eJ22]; exact hV
  replace hG : GJ X 38 J22 I8 L := by rw [eJ22]; exact hG.e (c := 4) (j := 11) (tyX hX (n := 38) (k := 0) (t := 8) rfl rfl) rfl (by decide) (by decide)
  refine lv_aload_n hx hb dX7_init_160 rfl (lv_at hl 0 rfl) ?_
  refine lv_sipush (v := 280) hx hb dX7_init_161 (by decide) ?_
  refine m_puti (C := RX7) (T := TX7) (N := 13) (ci := 4) (ty := .int) hx hb hts iwX7 hown hK hV tyX7 tyX7_ok nmX7 (tyX hX (n := 38) (k := 0) (t := 8) rfl rfl) rfl 12 (by decide) rfl rfl (hts _ tw_1_126) (fun _ h9 => h9) rfl (by decide +kernel) rfl rfl dX7_init_164 (fun H locs hV => ?_)
  obtain ⟨I9, eI9⟩ : ∃ y, y = ms I8 0 12 280 := ⟨_, rfl⟩
  replace hV : Wd D X ad20 38 A s.heap J22 I9 L H locs := by rw [eI9]; exact hV
  replace hG : GJ X 38 J22 I9 L := by rw [eI9]; exact hG.i (by decide)
  refine W.widen (k := 37) (n := 6551) (Nat.le_of_ble_eq_true rfl) (Nat.le_of_ble_eq_true rfl) ?_
  have eJ : J22 = jX7 J := by rw [eJ22, eJ21, eJ20, eJ19, eJ18, eJ17, eJ16, eJ15, eJ14, eJ13, eJ12, eJ11, eJ10, eJ9, eJ8, eJ7, eJ6, eJ5, eJ4, eJ3, eJ2, eJ1]; rfl
  have eI : I9 = iX7 I := by rw [eI9, eI8, eI7, eI6, eI5, eI4, eI3, eI2, eI1]; rfl
  exact m_vretN hx hb hr hlk hK hZ hA hV (fun i hi => by rw [hs20 i (by omega), hs19 i (by omega), hs18 i (by omega), hs17 i (by omega), hs16 i (by omega), hs15 i (by omega), hs14 i (by omega), hs13 i (by omega), hs12 i (by omega), hs11 i (by omega), hs10 i (by omega), hs9 i (by omega), hs8 i (by omega), hs7 i (by omega), hs6 i (by omega), hs5 i (by omega), hs4 i (by omega), hs3 i (by omega), hs2 i (by omega), hs1 i (by omega)]) ⟨eJ, eI, rfl, hG⟩ dX7_init_167
def jX8 (J : MJ) : MJ := ms (ms (ms (ms (ms (ms (ms (ms (ms (J) 38 0 (some 39)) 38 9 (some 40)) 38 10 (some 41)) 38 11 (some 42)) 38 12 (some 43)) 38 13 (some 44)) 38 16 (some 45)) 38 17 (some 46)) 38 18 (some 47)
def iX8 (I : MI) : MI := ms (ms (I) 38 7 3) 38 8 280
theorem mcX8 {X : XT} (hX : ∀ k, X.2.2.1 k = shT k) (J : MJ) : MC X (jX8 J) := by
  have hs : ∀ k, sl X k = (shT k).2 := fun k => by unfold sl; rw [hX]
  exact ⟨⟨rfl, rfl, rfl, rfl, rfl, rfl, rfl, rfl, rfl⟩, hs me, hs st, hs wo, hs co, hs so, hs cn, hs po, hs pw, hs od⟩
set_option maxHeartbeats 8000000 in
set_option maxRecDepth 100000 in
theorem n_X8_init (l : Launch) (D : va_G) (X : XT) (ad : Nat → Nat) (A : Nat → Prop) (J : MJ) (I : MI) (L : ML) (hX : ∀ k, X.2.2.1 k = shT k) (hG : GJ X 39 J I L) : Met l yX8_init (wz yX8_init cX8_init 1 none) ({ frames := 2, cells := 9, slots := 30792, locals := 47 } : Room) (va_Pc [.ref (ad 38)] (PE D X ad 39 A J I L)) (QN D X ad 39 48 A (fun J' I' L' => J' = jX8 J ∧ L' = L ∧ (∀ c, c ≠ so → c ≠ cn → c ≠ pw → c ≠ od → I' c = iX8 I c) ∧ MT I' ∧ WT X 48 J')) 9 30792 A := by
  refine Met_goE (by decide +kernel) (Nat.le_of_ble_eq_true rfl) (fun p e s m below meth c hx hb hr hml hown hlk hnm hts hK hZ hE hA hV ls hl => ?_)
  replace hl : lv_has ls 1 [(0, .ref (ad 38))] := hl
  refine lv_aload_n hx hb dX8_init_0 rfl (lv_at hl 0 rfl) ?_
  refine W.objInit hx hb hown (hts _ tw_3_75) (hts _ tw_1_21) (hts _ tw_1_22) rfl (by rw [hml]; exact hl.1) rfl dX8_init_1 (Nat.le_of_ble_eq_true rfl) (Nat.le_of_ble_eq_true rfl) ?_
  refine W.eq (g2 := F0 m 4 ls []) rfl ?_
  refine lv_aload_n hx hb dX8_init_4 rfl (lv_at hl 0 rfl) ?_
  refine lv_sipush (v := 20000) hx hb dX8_init_5 (by decide) ?_
  refine m_newb (N' := 20000) hx hb (hts _ tw_3_149) hK hV hA hG (by rw [hX]; rfl) (by decide) (by decide) (by decide) (Nat.le_of_ble_eq_true rfl) (Nat.le_of_ble_eq_true rfl) dX8_init_8 (fun ad1 H hs1 hV => ?_)
  replace hG := hG.s
  refine m_st (st2 := [.ref (ad1 39), .ref (ad1 38)]) (by rw [hs1 38 (by decide)]) ?_
  replace hl : lv_has ls 1 [(0, .ref (ad1 38))] := by rw [hs1 38 (by decide)]; exact hl
  refine m_putrF (C := RX8) (T := TX8) (N := 19) (ci := 5) (ty := .array .byte) (r := 39) hx hb hts iwX8 hown hK hV tyX8 tyX8_ok nmX8 (tyX hX (n := 40) (k := 38) (t := 9) rfl rfl) rfl 0 (by decide) rfl rfl (hts _ tw_3_91) (fun _ h9 => h9) rfl hnm rfl (by decide +kernel) rfl rfl dX8_init_10 (fun H locs hV => ?_)
  obtain ⟨J1, eJ1⟩ : ∃ y, y = ms J 38 0 (some 39) := ⟨_, rfl⟩
  replace hV : Wd D X ad1 40 A s.heap J1 I L H locs := by rw [eJ1]; exact hV
  replace hG : GJ X 40 J1 I L := by rw [eJ1]; exact hG.r (c := 5) (j := 0) (tyX hX (n := 40) (k := 38) (t := 9) rfl rfl) rfl (tyX hX (n := 40) (k := 39) (t := 1) rfl rfl)
  refine lv_aload_n hx hb dX8_init_13 rfl (lv_at hl 0 rfl) ?_
  refine lv_iconst (v := 3) hx hb dX8_init_14 (by decide) ?_
  refine m_puti (C := RX8) (T := TX8) (N := 19) (ci := 5) (ty := .int) hx hb hts iwX8 hown hK hV tyX8 tyX8_ok nmX8 (tyX hX (n := 40) (k := 38) (t := 9) rfl rfl) rfl 7 (by decide) rfl rfl (hts _ tw_3_98) (fun _ h9 => h9) rfl (by decide +kernel) rfl rfl dX8_init_15 (fun H locs hV => ?_)
  obtain ⟨I1, eI1⟩ : ∃ y, y = ms I 38 7 3 := ⟨_, rfl⟩
  replace hV : Wd D X ad1 40 A s.heap J1 I1 L H locs := by rw [eI1]; exact hV
  replace hG : GJ X 40 J1 I1 L := by rw [eI1]; exact hG.i (by decide)
  refine lv_aload_n hx hb dX8_init_18 rfl (lv_at hl 0 rfl) ?_
  refine lv_sipush (v := 280) hx hb dX8_init_19 (by decide) ?_
  refine m_puti (C := RX8) (T := TX8) (N := 19) (ci := 5) (ty := .int) hx hb hts iwX8 hown hK hV tyX8 tyX8_ok nmX8 (tyX hX (n := 40) (k := 38) (t := 9) rfl rfl) rfl 8 (by decide) rfl rfl (hts _ tw_3_99) (fun _ h9 => h9) rfl (by decide +kernel) rfl rfl dX8_init_22 (fun H locs hV => ?_)
  obtain ⟨I2, eI2⟩ : ∃ y, y = ms I1 38 8 280 := ⟨_, rfl⟩
  replace hV : Wd D X ad1 40 A s.heap J1 I2 L H locs := by rw [eI2]; exact hV
  replace hG : GJ X 40 J1 I2 L := by rw [eI2]; exact hG.i (by decide)
  refine lv_aload_n hx hb dX8_init_25 rfl (lv_at hl 0 rfl) ?_
  refine lv_sipush (v := 1600) hx hb dX8_init_26 (by decide) ?_
  refine m_newb (N' := 1600) hx hb (hts _ tw_3_149) hK hV hA hG (by rw [hX]; rfl) (by decide) (by decide) (by decide) (Nat.le_of_ble_eq_true rfl) (Nat.le_of_ble_eq_true rfl) dX8_init_29 (fun ad2 H hs2 hV => ?_)
  replace hG := hG.s
  refine m_st (st2 := [.ref (ad2 40), .ref (ad2 38)]) (by rw [hs2 38 (by decide)]) ?_
  replace hl : lv_has ls 1 [(0, .ref (ad2 38))] := by rw [hs2 38 (by decide)]; exact hl
  refine m_putrF (C := RX8) (T := TX8) (N := 19) (ci := 5) (ty := .array .byte) (r := 40) hx hb hts iwX8 hown hK hV tyX8 tyX8_ok nmX8 (tyX hX (n := 41) (k := 38) (t := 9) rfl rfl) rfl 9 (by decide) rfl rfl (hts _ tw_3_100) (fun _ h9 => h9) rfl hnm rfl (by decide +kernel) rfl rfl dX8_init_31 (fun H locs hV => ?_)
  obtain ⟨J2, eJ2⟩ : ∃ y, y = ms J1 38 9 (some 40) := ⟨_, rfl⟩
  replace hV : Wd D X ad2 41 A s.heap J2 I2 L H locs := by rw [eJ2]; exact hV
  replace hG : GJ X 41 J2 I2 L := by rw [eJ2]; exact hG.r (c := 5) (j := 9) (tyX hX (n := 41) (k := 38) (t := 9) rfl rfl) rfl (tyX hX (n := 41) (k := 40) (t := 1) rfl rfl)
  refine lv_aload_n hx hb dX8_init_34 rfl (lv_at hl 0 rfl) ?_
  refine lv_sipush (v := 1600) hx hb dX8_init_35 (by decide) ?_
  refine m_newb (N' := 1600) hx hb (hts _ tw_3_149) hK hV hA hG (by rw [hX]; rfl) (by decide) (by decide) (by decide) (Nat.le_of_ble_eq_true rfl) (Nat.le_of_ble_eq_true rfl) dX8_init_38 (fun ad3 H hs3 hV => ?_)
  replace hG := hG.s
  refine m_st (st2 := [.ref (ad3 41), .ref (ad3 38)]) (by rw [hs3 38 (by decide)]) ?_
  replace hl : lv_has ls 1 [(0, .ref (ad3 38))] := by rw [hs3 38 (by decide)]; exact hl
  refine m_putrF (C := RX8) (T := TX8) (N := 19) (ci := 5) (ty := .array .byte) (r := 41) hx hb hts iwX8 hown hK hV tyX8 tyX8_ok nmX8 (tyX hX (n := 42) (k := 38) (t := 9) rfl rfl) rfl 10 (by decide) rfl rfl (hts _ tw_3_101) (fun _ h9 => h9) rfl hnm rfl (by decide +kernel) rfl rfl dX8_init_40 (fun H locs hV => ?_)
  obtain ⟨J3, eJ3⟩ : ∃ y, y = ms J2 38 10 (some 41) := ⟨_, rfl⟩
  replace hV : Wd D X ad3 42 A s.heap J3 I2 L H locs := by rw [eJ3]; exact hV
  replace hG : GJ X 42 J3 I2 L := by rw [eJ3]; exact hG.r (c := 5) (j := 10) (tyX hX (n := 42) (k := 38) (t := 9) rfl rfl) rfl (tyX hX (n := 42) (k := 41) (t := 1) rfl rfl)
  refine lv_aload_n hx hb dX8_init_43 rfl (lv_at hl 0 rfl) ?_
  refine lv_sipush (v := 320) hx hb dX8_init_44 (by decide) ?_
  refine m_newb (N' := 320) hx hb (hts _ tw_3_149) hK hV hA hG (by rw [hX]; rfl) (by decide) (by decide) (by decide) (Nat.le_of_ble_eq_true rfl) (Nat.le_of_ble_eq_true rfl) dX8_init_47 (fun ad4 H hs4 hV => ?_)
  replace hG := hG.s
  refine m_st (st2 := [.ref (ad4 42), .ref (ad4 38)]) (by rw [hs4 38 (by decide)]) ?_
  replace hl : lv_has ls 1 [(0, .ref (ad4 38))] := by rw [hs4 38 (by decide)]; exact hl
  refine m_putrF (C := RX8) (T := TX8) (N := 19) (ci := 5) (ty := .array .byte) (r := 42) hx hb hts iwX8 hown hK hV tyX8 tyX8_ok nmX8 (tyX hX (n := 43) (k := 38) (t := 9) rfl rfl) rfl 11 (by decide) rfl rfl (hts _ tw_3_102) (fun _ h9 => h9) rfl hnm rfl (by decide +kernel) rfl rfl dX8_init_49 (fun H locs hV => ?_)
  obtain ⟨J4, eJ4⟩ : ∃ y, y = ms J3 38 11 (some 42) := ⟨_, rfl⟩
  replace hV : Wd D X ad4 43 A s.heap J4 I2 L H locs := by rw [eJ4]; exact hV
  replace hG : GJ X 43 J4 I2 L := by rw [eJ4]; exact hG.r (c := 5) (j := 11) (tyX hX (n := 43) (k := 38) (t := 9) rfl rfl) rfl (tyX hX (n := 43) (k := 42) (t := 1) rfl rfl)
  refine lv_aload_n hx hb dX8_init_52 rfl (lv_at hl 0 rfl) ?_
  refine lv_sipush (v := 1600) hx hb dX8_init_53 (by decide) ?_
  refine m_newi (N' := 1600) hx hb (hts _ tw_1_42) hK hV hA hG (by rw [hX]; rfl) (by decide) (by decide) (by decide) (Nat.le_of_ble_eq_true rfl) (Nat.le_of_ble_eq_true rfl) dX8_init_56 (fun ad5 H hs5 hV => ?_)
  replace hG := hG.s
  refine m_st (st2 := [.ref (ad5 43), .ref (ad5 38)]) (by rw [hs5 38 (by decide)]) ?_
  replace hl : lv_has ls 1 [(0, .ref (ad5 38))] := by rw [hs5 38 (by decide)]; exact hl
  refine m_putrF (C := RX8) (T := TX8) (N := 19) (ci := 5) (ty := .array .int) (r := 43) hx hb hts iwX8 hown hK hV tyX8 tyX8_ok nmX8 (tyX hX (n := 44) (k := 38) (t := 9) rfl rfl) rfl 12 (by decide) rfl rfl (hts _ tw_3_103) (fun _ h9 => h9) rfl hnm rfl (by decide +kernel) rfl rfl dX8_init_58 (fun H locs hV => ?_)
  obtain ⟨J5, eJ5⟩ : ∃ y, y = ms J4 38 12 (some 43) := ⟨_, rfl⟩
  replace hV : Wd D X ad5 44 A s.heap J5 I2 L H locs := by rw [eJ5]; exact hV
  replace hG : GJ X 44 J5 I2 L := by rw [eJ5]; exact hG.r (c := 5) (j := 12) (tyX hX (n := 44) (k := 38) (t := 9) rfl rfl) rfl (tyX hX (n := 44) (k := 43) (t := 0) rfl rfl)
  refine lv_aload_n hx hb dX8_init_61 rfl (lv_at hl 0 rfl) ?_
  refine lv_sipush (v := 168) hx hb dX8_init_62 (by decide) ?_
  refine m_newb (N' := 168) hx hb (hts _ tw_3_149) hK hV hA hG (by rw [hX]; rfl) (by decide) (by decide) (by decide) (Nat.le_of_ble_eq_true rfl) (Nat.le_of_ble_eq_true rfl) dX8_init_65 (fun ad6 H hs6 hV => ?_)
  replace hG := hG.s
  refine m_st (st2 := [.ref (ad6 44), .ref (ad6 38)]) (by rw [hs6 38 (by decide)]) ?_
  replace hl : lv_has ls 1 [(0, .ref (ad6 38))] := by rw [hs6 38 (by decide)]; exact hl
  refine m_putrF (C := RX8) (T := TX8) (N := 19) (ci := 5) (ty := .array .byte) (r := 44) hx hb hts iwX8 hown hK hV tyX8 tyX8_ok nmX8 (tyX hX (n := 45) (k := 38) (t := 9) rfl rfl) rfl 13 (by decide) rfl rfl (hts _ tw_3_104) (fun _ h9 => h9) rfl hnm rfl (by decide +kernel) rfl rfl dX8_init_67 (fun H locs hV => ?_)
  obtain ⟨J6, eJ6⟩ : ∃ y, y = ms J5 38 13 (some 44) := ⟨_, rfl⟩
  replace hV : Wd D X ad6 45 A s.heap J6 I2 L H locs := by rw [eJ6]; exact hV
  replace hG : GJ X 45 J6 I2 L := by rw [eJ6]; exact hG.r (c := 5) (j := 13) (tyX hX (n := 45) (k := 38) (t := 9) rfl rfl) rfl (tyX hX (n := 45) (k := 44) (t := 1) rfl rfl)
  refine lv_aload_n hx hb dX8_init_70 rfl (lv_at hl 0 rfl) ?_
  refine lv_sipush (v := 5120) hx hb dX8_init_71 (by decide) ?_
  refine m_newi (N' := 5120) hx hb (hts _ tw_1_42) hK hV hA hG (by rw [hX]; rfl) (by decide) (by decide) (by decide) (Nat.le_of_ble_eq_true rfl) (Nat.le_of_ble_eq_true rfl) dX8_init_74 (fun ad7 H hs7 hV => ?_)
  replace hG := hG.s
  refine m_st (st2 := [.ref (ad7 45), .ref (ad7 38)]) (by rw [hs7 38 (by decide)]) ?_
  replace hl : lv_has ls 1 [(0, .ref (ad7 38))] := by rw [hs7 38 (by decide)]; exact hl
  refine m_putrF (C := RX8) (T := TX8) (N := 19) (ci := 5) (ty := .array .int) (r := 45) hx hb hts iwX8 hown hK hV tyX8 tyX8_ok nmX8 (tyX hX (n := 46) (k := 38) (t := 9) rfl rfl) rfl 16 (by decide) rfl rfl (hts _ tw_3_107) (fun _ h9 => h9) rfl hnm rfl (by decide +kernel) rfl rfl dX8_init_76 (fun H locs hV => ?_)
  obtain ⟨J7, eJ7⟩ : ∃ y, y = ms J6 38 16 (some 45) := ⟨_, rfl⟩
  replace hV : Wd D X ad7 46 A s.heap J7 I2 L H locs := by rw [eJ7]; exact hV
  replace hG : GJ X 46 J7 I2 L := by rw [eJ7]; exact hG.r (c := 5) (j := 16) (tyX hX (n := 46) (k := 38) (t := 9) rfl rfl) rfl (tyX hX (n := 46) (k := 45) (t := 0) rfl rfl)
  refine lv_aload_n hx hb dX8_init_79 rfl (lv_at hl 0 rfl) ?_
  refine lv_sipush (v := 256) hx hb dX8_init_80 (by decide) ?_
  refine m_newi (N' := 256) hx hb (hts _ tw_1_42) hK hV hA hG (by rw [hX]; rfl) (by decide) (by decide) (by decide) (Nat.le_of_ble_eq_true rfl) (Nat.le_of_ble_eq_true rfl) dX8_init_83 (fun ad8 H hs8 hV => ?_)
  replace hG := hG.s
  refine m_st (st2 := [.ref (ad8 46), .ref (ad8 38)]) (by rw [hs8 38 (by decide)]) ?_
  replace hl : lv_has ls 1 [(0, .ref (ad8 38))] := by rw [hs8 38 (by decide)]; exact hl
  refine m_putrF (C := RX8) (T := TX8) (N := 19) (ci := 5) (ty := .array .int) (r := 46) hx hb hts iwX8 hown hK hV tyX8 tyX8_ok nmX8 (tyX hX (n := 47) (k := 38) (t := 9) rfl rfl) rfl 17 (by decide) rfl rfl (hts _ tw_3_108) (fun _ h9 => h9) rfl hnm rfl (by decide +kernel) rfl rfl dX8_init_85 (fun H locs hV => ?_)
  obtain ⟨J8, eJ8⟩ : ∃ y, y = ms J7 38 17 (some 46) := ⟨_, rfl⟩
  replace hV : Wd D X ad8 47 A s.heap J8 I2 L H locs := by rw [eJ8]; exact hV
  replace hG : GJ X 47 J8 I2 L := by rw [eJ8]; exact hG.r (c := 5) (j := 17) (tyX hX (n := 47) (k := 38) (t := 9) rfl rfl) rfl (tyX hX (n := 47) (k := 46) (t := 0) rfl rfl)
  refine lv_aload_n hx hb dX8_init_88 rfl (lv_at hl 0 rfl) ?_
  refine lv_sipush (v := 128) hx hb dX8_init_89 (by decide) ?_
  refine m_newi (N' := 128) hx hb (hts _ tw_1_42) hK hV hA hG (by rw [hX]; rfl) (by decide) (by decide) (by decide) (Nat.le_of_ble_eq_true rfl) (Nat.le_of_ble_eq_true rfl) dX8_init_92 (fun ad9 H hs9 hV => ?_)
  replace hG := hG.s
  refine m_st (st2 := [.ref (ad9 47), .ref (ad9 38)]) (by rw [hs9 38 (by decide)]) ?_
  replace hl : lv_has ls 1 [(0, .ref (ad9 38))] := by rw [hs9 38 (by decide)]; exact hl
  refine m_putrF (C := RX8) (T := TX8) (N := 19) (ci := 5) (ty := .array .int) (r := 47) hx hb hts iwX8 hown hK hV tyX8 tyX8_ok nmX8 (tyX hX (n := 48) (k := 38) (t := 9) rfl rfl) rfl 18 (by decide) rfl rfl (hts _ tw_3_109) (fun _ h9 => h9) rfl hnm rfl (by decide +kernel) rfl rfl dX8_init_94 (fun H locs hV => ?_)
  obtain ⟨J9, eJ9⟩ : ∃ y, y = ms J8 38 18 (some 47) := ⟨_, rfl⟩
  replace hV : Wd D X ad9 48 A s.heap J9 I2 L H locs := by rw [eJ9]; exact hV
  replace hG : GJ X 48 J9 I2 L := by rw [eJ9]; exact hG.r (c := 5) (j := 18) (tyX hX (n := 48) (k := 38) (t := 9) rfl rfl) rfl (tyX hX (n := 48) (k := 47) (t := 0) rfl rfl)
  refine lv_aload_n hx hb dX8_init_97 rfl (lv_at hl 0 rfl) ?_
  have eJ : J9 = jX8 J := by rw [eJ9, eJ8, eJ7, eJ6, eJ5, eJ4, eJ3, eJ2, eJ1]; rfl
  have hMC : MC X J9 := by rw [eJ]; exact mcX8 hX J
  have hWT := hG.1
  have eI : I2 = iX8 I := by rw [eI2, eI1]; rfl
  refine k_callv (va_runV (As := []) (rest := []) ⟨hx, hb, hml, hown, hts⟩ (s_X8_turns l D X ad9 48 A J9 hWT 38 (tyX hX (n := 48) (k := 38) (t := 9) rfl rfl) I2 L (fun I9 L9 => ((∀ c, c ≠ so → I9 c = I2 c) ∧ ∀ i, i < 1600 → I9 so i = nI (srcN i)) ∧ L9 = L) (c_turns hMC I2 L (fun I9 a b => ⟨⟨a, b⟩, rfl⟩))) (cwV 0 hts (gV tw_3_76 tw_3_78 tw_0_11 tw_1_9 tw_3_79) rfl rfl rfl (by decide +kernel) (by decide)) (k_preV (ci := 5) hK hV hA hZ (tyX hX (n := 48) (k := 38) (t := 9) rfl rfl) rfl _) rfl rfl hl.1 rfl (lv_room (Nat.le_of_ble_eq_true rfl)) dX8_init_98 ⟨(Nat.le_of_ble_eq_true rfl), (Nat.le_of_ble_eq_true rfl)⟩) hV (fun I3 LI3 H locs hqI3 hV => ?_)
  obtain ⟨hqI3, eLI3⟩ := hqI3
  rw [eLI3] at hV
  refine lv_aload_n hx hb dX8_init_101 rfl (lv_at hl 0 rfl) ?_
  refine k_callv (va_runV (As := []) (rest := []) ⟨hx, hb, hml, hown, hts⟩ (s_X8_constants l D X ad9 48 A J9 hWT 38 (tyX hX (n := 48) (k := 38) (t := 9) rfl rfl) I3 L (fun I9 L9 => ((∀ c, c ≠ cn → I9 c = I3 c) ∧ ∀ t, t < 168 → I9 cn t = bI (cstN t)) ∧ L9 = L) (c_constants hMC I3 L (fun I9 a b => ⟨⟨a, b⟩, rfl⟩))) (cwV 0 hts (gV tw_3_83 tw_3_85 tw_0_12 tw_1_9 tw_3_86) rfl rfl rfl (by decide +kernel) (by decide)) (k_preV (ci := 5) hK hV hA hZ (tyX hX (n := 48) (k := 38) (t := 9) rfl rfl) rfl _) rfl rfl hl.1 rfl (lv_room (Nat.le_of_ble_eq_true rfl)) dX8_init_102 ⟨(Nat.le_of_ble_eq_true rfl), (Nat.le_of_ble_eq_true rfl)⟩) hV (fun I4 LI4 H locs hqI4 hV => ?_)
  obtain ⟨hqI4, eLI4⟩ := hqI4
  rw [eLI4] at hV
  refine lv_aload_n hx hb dX8_init_105 rfl (lv_at hl 0 rfl) ?_
  refine k_callv (va_runV (As := []) (rest := []) ⟨hx, hb, hml, hown, hts⟩ (s_X8_powers l D X ad9 48 A J9 hWT 38 (tyX hX (n := 48) (k := 38) (t := 9) rfl rfl) I4 L (fun I9 L9 => ((∀ c, c ≠ pw → c ≠ od → I9 c = I4 c) ∧ (∀ i, i < 256 → I9 pw i = nI (powN i)) ∧ ∀ i, i < 128 → I9 od i = nI (oddN i)) ∧ L9 = L) (c_powers hMC I4 L (fun I9 a b d => ⟨⟨a, b, d⟩, rfl⟩))) (cwV 0 hts (gV tw_3_87 tw_3_89 tw_0_13 tw_1_9 tw_3_90) rfl rfl rfl (by decide +kernel) (by decide)) (k_preV (ci := 5) hK hV hA hZ (tyX hX (n := 48) (k := 38) (t := 9) rfl rfl) rfl _) rfl rfl hl.1 rfl (lv_room (Nat.le_of_ble_eq_true rfl)) dX8_init_106 ⟨(Nat.le_of_ble_eq_true rfl), (Nat.le_of_ble_eq_true rfl)⟩) hV (fun I5 LI5 H locs hqI5 hV => ?_)
  obtain ⟨hqI5, eLI5⟩ := hqI5
  rw [eLI5] at hV
  refine W.widen (k := 9) (n := 30792) (Nat.le_of_ble_eq_true rfl) (Nat.le_of_ble_eq_true rfl) ?_
  exact m_vretN hx hb hr hlk hK hZ hA hV (fun i hi => by rw [hs9 i (by omega), hs8 i (by omega), hs7 i (by omega), hs6 i (by omega), hs5 i (by omega), hs4 i (by omega), hs3 i (by omega), hs2 i (by omega), hs1 i (by omega)]) ⟨eJ, rfl, fun c a b d9 f => by rw [hqI5.1 c d9 f, hqI4.1 c b, hqI3.1 c a, eI], ⟨fun i hi => by rw [hqI5.1 so (by decide) (by decide), hqI4.1 so (by decide)]; exact hqI3.2 i hi, fun i hi => by rw [hqI5.1 cn (by decide) (by decide)]; exact hqI4.2 i hi, hqI5.2.1, hqI5.2.2⟩, hWT⟩ dX8_init_109
