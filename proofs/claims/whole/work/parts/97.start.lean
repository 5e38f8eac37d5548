/-! ===== the start ===== -/
theorem u1 {w : Cond} (i : Nat) (h : tables_1_1[i]? = some w) : w ∈ lw_tbl := List.mem_append_right _ (List.mem_append_left _ (List.mem_of_getElem? h))
theorem u2 {w : Cond} (i : Nat) (h : tables_1_2[i]? = some w) : w ∈ lw_tbl := List.mem_append_right _ (List.mem_append_right _ (List.mem_append_left _ (List.mem_of_getElem? h)))
theorem u3 {w : Cond} (i : Nat) (h : tables_1_3[i]? = some w) : w ∈ lw_tbl := List.mem_append_right _ (List.mem_append_right _ (List.mem_append_right _ (List.mem_append_left _ (List.mem_of_getElem? h))))
theorem u4 {w : Cond} (i : Nat) (h : tables_1_4[i]? = some w) : w ∈ lw_tbl := List.mem_append_right _ (List.mem_append_right _ (List.mem_append_right _ (List.mem_append_right _ (List.mem_of_getElem? h))))
theorem tw_1_16 : Cond.instantiable RX7 13 ∈ gt := g1 16 (by decide +kernel) (by decide +kernel)
theorem tw_3_71 : Cond.instantiable RX8 19 ∈ gt := g3 71 (by decide +kernel) (by decide +kernel)
theorem tw_1_15 : Cond.classLink RL 7 RX7 ∈ gt := g1 15 (by decide +kernel) (by decide +kernel)
theorem tw_1_19 : Cond.code yX7_init cX7_init 1 none ∈ gt := g1 19 rfl (by rfl)
theorem tw_1_17 : Cond.methodLink RL 9 yX7_init ∈ gt := g1 17 (by decide +kernel) (by decide +kernel)
theorem tw_1_18 : Cond.instanceMethod yX7_init ∈ gt := g1 18 (by decide +kernel) (by decide +kernel)
theorem tw_3_70 : Cond.classLink RL 10 RX8 ∈ gt := g3 70 (by decide +kernel) (by decide +kernel)
theorem tw_3_74 : Cond.code yX8_init cX8_init 1 none ∈ gt := g3 74 rfl (by rfl)
theorem tw_3_72 : Cond.methodLink RL 12 yX8_init ∈ gt := g3 72 (by decide +kernel) (by decide +kernel)
theorem tw_3_73 : Cond.instanceMethod yX8_init ∈ gt := g3 73 (by decide +kernel) (by decide +kernel)
theorem in_of {l : List Cond} {a n : Nat} {f : Nat → Cond} (h : (l.drop a).take n = (List.range n).map f) {j : Nat} (hj : j < n) : f j ∈ l := List.mem_of_mem_drop (List.mem_of_mem_take (by rw [h]; exact List.mem_map.mpr ⟨j, List.mem_range.mpr hj, rfl⟩))
theorem in_at {l : List Cond} {w : Cond} (i : Nat) (h : l[i]? = some w) : w ∈ l := List.mem_of_getElem? h
theorem zz_st {args : Array Value} {s : State} {A : Nat → Prop} (hn : ∀ w ∈ flatC narrow_1, w.before args s = true) (hAn : ∀ a : Nat, a < s.heap.size → ¬ A a) {C n d : String} {ty : FieldType} {N base : Nat} {f : Nat → Value} {gg : Nat → Term} (hN : N < 2 ^ 31) (h1 : Cond.arrayOf (.static C n d) ty ∈ flatC narrow_1) (h2 : Cond.eq (.length (.static C n d)) (.int (Int32.ofNat N)) ∈ flatC narrow_1) (h3 : ((flatC narrow_1).drop base).take N = (List.range N).map (fun j => Cond.eq (.elem (.static C n d) (.int (Int32.ofNat j))) (gg j))) (hg : ∀ j, (gg j).eval args s none [] s = some (f j)) (hl : (Cond.laysStatic C n d).before args s = true) (hini : (Cond.initialized C).before args s = true) : ∃ t : Nat, va_Z C n d (.ref t) A s s.heap ∧ va_T ty t N f A s s.heap := by
  obtain ⟨t, e1, hT⟩ := va_Tof hN (hn _ h1) (va_eqv (hn _ h2) rfl) (fun j hj => va_eqv (hn _ (in_of h3 hj)) (hg j)) hAn
  exact ⟨t, va_Zref hl hini e1 hAn, hT⟩
theorem nf_0 : ((flatC narrow_1).drop 29).take 4 = (List.range 4).map (fun j => Cond.eq (.elem (.static "LatticeVault$Sponge" "RATES" "[I") (.int (Int32.ofNat j))) (.int (sI 0 j))) := by decide +kernel
theorem nz_0 {args : Array Value} {s : State} {A : Nat → Prop} (hn : ∀ w ∈ flatC narrow_1, w.before args s = true) (hts : ∀ w ∈ lw_tbl, w.before args s = true) (hAn : ∀ a : Nat, a < s.heap.size → ¬ A a) : ∃ t : Nat, va_Z "LatticeVault$Sponge" "RATES" "[I" (.ref t) A s s.heap ∧ va_T .int t 4 (fun j => Value.int (sI 0 j)) A s s.heap :=
  zz_st hn hAn (by decide) (in_at 27 (by decide +kernel)) (in_at 28 (by decide +kernel)) nf_0 (fun _ => rfl) (hts _ (u2 11 (by decide +kernel) : Cond.laysStatic "LatticeVault$Sponge" "RATES" "[I" ∈ lw_tbl)) (hts _ (gt_tbl tw_1_4))
theorem nf_1 : ((flatC narrow_1).drop 36).take 24 = (List.range 24).map (fun j => Cond.eq (.elem (.static "LatticeVault$Sponge" "WALK" "[I") (.int (Int32.ofNat j))) (.int (sI 1 j))) := by decide +kernel
theorem nz_1 {args : Array Value} {s : State} {A : Nat → Prop} (hn : ∀ w ∈ flatC narrow_1, w.before args s = true) (hts : ∀ w ∈ lw_tbl, w.before args s = true) (hAn : ∀ a : Nat, a < s.heap.size → ¬ A a) : ∃ t : Nat, va_Z "LatticeVault$Sponge" "WALK" "[I" (.ref t) A s s.heap ∧ va_T .int t 24 (fun j => Value.int (sI 1 j)) A s s.heap :=
  zz_st hn hAn (by decide) (in_at 34 (by decide +kernel)) (in_at 35 (by decide +kernel)) nf_1 (fun _ => rfl) (hts _ (u2 33 (by decide +kernel) : Cond.laysStatic "LatticeVault$Sponge" "WALK" "[I" ∈ lw_tbl)) (hts _ (gt_tbl tw_1_4))
theorem nf_2 : ((flatC narrow_1).drop 63).take 24 = (List.range 24).map (fun j => Cond.eq (.elem (.static "LatticeVault$Sponge" "TURNS" "[I") (.int (Int32.ofNat j))) (.int (sI 2 j))) := by decide +kernel
theorem nz_2 {args : Array Value} {s : State} {A : Nat → Prop} (hn : ∀ w ∈ flatC narrow_1, w.before args s = true) (hts : ∀ w ∈ lw_tbl, w.before args s = true) (hAn : ∀ a : Nat, a < s.heap.size → ¬ A a) : ∃ t : Nat, va_Z "LatticeVault$Sponge" "TURNS" "[I" (.ref t) A s s.heap ∧ va_T .int t 24 (fun j => Value.int (sI 2 j)) A s s.heap :=
  zz_st hn hAn (by decide) (in_at 61 (by decide +kernel)) (in_at 62 (by decide +kernel)) nf_2 (fun _ => rfl) (hts _ (u2 35 (by decide +kernel) : Cond.laysStatic "LatticeVault$Sponge" "TURNS" "[I" ∈ lw_tbl)) (hts _ (gt_tbl tw_1_4))
theorem nf_3 : ((flatC narrow_1).drop 117).take 128 = (List.range 128).map (fun j => Cond.eq (.elem (.static "LatticeVault$Ring" "ROOTS" "[I") (.int (Int32.ofNat j))) (.int (sI 3 j))) := by decide +kernel
theorem nz_3 {args : Array Value} {s : State} {A : Nat → Prop} (hn : ∀ w ∈ flatC narrow_1, w.before args s = true) (hts : ∀ w ∈ lw_tbl, w.before args s = true) (hAn : ∀ a : Nat, a < s.heap.size → ¬ A a) : ∃ t : Nat, va_Z "LatticeVault$Ring" "ROOTS" "[I" (.ref t) A s s.heap ∧ va_T .int t 128 (fun j => Value.int (sI 3 j)) A s s.heap :=
  zz_st hn hAn (by decide) (in_at 115 (by decide +kernel)) (in_at 116 (by decide +kernel)) nf_3 (fun _ => rfl) (hts _ (u2 81 (by decide +kernel) : Cond.laysStatic "LatticeVault$Ring" "ROOTS" "[I" ∈ lw_tbl)) (hts _ (gt_tbl tw_1_13))
theorem nf_4 : ((flatC narrow_1).drop 90).take 24 = (List.range 24).map (fun j => Cond.eq (.elem (.static "LatticeVault$Sponge" "ROUND_CONSTANTS" "[J") (.int (Int32.ofNat j))) (.long (sJ j))) := by decide +kernel
theorem nz_4 {args : Array Value} {s : State} {A : Nat → Prop} (hn : ∀ w ∈ flatC narrow_1, w.before args s = true) (hts : ∀ w ∈ lw_tbl, w.before args s = true) (hAn : ∀ a : Nat, a < s.heap.size → ¬ A a) : ∃ t : Nat, va_Z "LatticeVault$Sponge" "ROUND_CONSTANTS" "[J" (.ref t) A s s.heap ∧ va_T .long t 24 (fun j => Value.long (sJ j)) A s s.heap :=
  zz_st hn hAn (by decide) (in_at 88 (by decide +kernel)) (in_at 89 (by decide +kernel)) nf_4 (fun _ => rfl) (hts _ (u2 38 (by decide +kernel) : Cond.laysStatic "LatticeVault$Sponge" "ROUND_CONSTANTS" "[J" ∈ lw_tbl)) (hts _ (gt_tbl tw_1_4))
theorem nz_en {args : Array Value} {s : State} {A : Nat → Prop} (hn : ∀ w ∈ flatC narrow_1, w.before args s = true) (hts : ∀ w ∈ lw_tbl, w.before args s = true) (hAn : ∀ a : Nat, a < s.heap.size → ¬ A a) : ∃ ad : Nat → Nat, va_En "LatticeVault$ParameterSet" "LLatticeVault$ParameterSet;" ["SMALL", "MIDDLE", "LARGE"] enF ad A s s.heap := by
  refine va_Enof (fun i hi => ?_) (hts _ (gt_tbl tw_1_8)) (fun i hi => ?_) (fun q hq i hi => ?_) (fun i j hi hj hij => ?_) hAn
  · rcases (show i = 0 ∨ i = 1 ∨ i = 2 by have : i < 3 := hi; omega) with rfl | rfl | rfl
    · exact hts _ (u1 210 (by decide +kernel) : Cond.laysStatic "LatticeVault$ParameterSet" "SMALL" "LLatticeVault$ParameterSet;" ∈ lw_tbl)
    · exact hts _ (u1 113 (by decide +kernel) : Cond.laysStatic "LatticeVault$ParameterSet" "MIDDLE" "LLatticeVault$ParameterSet;" ∈ lw_tbl)
    · exact hts _ (u1 213 (by decide +kernel) : Cond.laysStatic "LatticeVault$ParameterSet" "LARGE" "LLatticeVault$ParameterSet;" ∈ lw_tbl)
  · rcases (show i = 0 ∨ i = 1 ∨ i = 2 by have : i < 3 := hi; omega) with rfl | rfl | rfl
    · exact hn _ (in_at 9 (by decide +kernel))
    · exact hn _ (in_at 2 (by decide +kernel))
    · exact hn _ (in_at 17 (by decide +kernel))
  · have hi3 : i < 3 := hi
    have key : ∀ i, i < 3 → ∀ q ∈ enF, Cond.eq (.field (.static "LatticeVault$ParameterSet" ((["SMALL", "MIDDLE", "LARGE"] : List String).getD i "") "LLatticeVault$ParameterSet;") q.1 q.2.1 q.2.2.1) (.int (q.2.2.2.getD i 0)) ∈ flatC narrow_1 := by decide +kernel
    exact hn _ (key i hi3 q hq)
  · have hi3 : i < 3 := hi
    have hj3 : j < 3 := hj
    have key : ∀ i, i < 3 → ∀ j, j < 3 → i ≠ j → Cond.not (.eq (.static "LatticeVault$ParameterSet" ((["SMALL", "MIDDLE", "LARGE"] : List String).getD i "") "LLatticeVault$ParameterSet;") (.static "LatticeVault$ParameterSet" ((["SMALL", "MIDDLE", "LARGE"] : List String).getD j "") "LLatticeVault$ParameterSet;")) ∈ flatC narrow_1 ∨ Cond.not (.eq (.static "LatticeVault$ParameterSet" ((["SMALL", "MIDDLE", "LARGE"] : List String).getD j "") "LLatticeVault$ParameterSet;") (.static "LatticeVault$ParameterSet" ((["SMALL", "MIDDLE", "LARGE"] : List String).getD i "") "LLatticeVault$ParameterSet;")) ∈ flatC narrow_1 := by decide +kernel
    exact (key i hi3 j hj3 hij).imp (hn _) (hn _)
theorem nz_arr {args : Array Value} {s : State} {ty : FieldType} (h : (Cond.arrayClass ty).before args s = true) : ∃ cA : ClassId, ArrOfT s cA ty ∧ s.vm.findClass ("[" ++ ty.toString) = some cA := by
  obtain ⟨c, k, comp, h1, h2, h3⟩ := Cond.arrayClass_spec h
  exact ⟨c, fun n z => ⟨fun k h => (by cases h), k, h2, comp, h3⟩, h1⟩
theorem nz_arr2 {args : Array Value} {s : State} {ty : FieldType} (h : (Cond.arrayOver (.array ty)).before args s = true) : ∃ cA : ClassId, ArrOfT s cA (.array ty) ∧ s.vm.findClass ("[" ++ (FieldType.array ty).toString) = some cA := by
  obtain ⟨comp, c, k, -, -, h2, h3, h1⟩ := Stand.arrayOver_specB h
  exact ⟨c, fun n z => ⟨fun k h => (by cases h), k, h2, comp, h3⟩, h1⟩
def J0 : MJ := fun _ _ => none
def I0 : MI := fun _ _ => 0
def L0 : ML := fun _ _ => 0
theorem li_start {X : XT} (hX : ∀ k, X.2.2.1 k = shT k) {I' : MI} (h1 : ∀ c, c ≠ so → c ≠ cn → c ≠ pw → c ≠ od → I' c = iX8 (iX7 I0) c) (hMT : MT I') (hWT : WT X 48 (jX8 (jX7 J0))) : LI X (jX8 (jX7 J0)) I' := by
  have hs : ∀ k, sl X k = (shT k).2 := fun k => by unfold sl; rw [hX]
  have g : ∀ k, k < 43 → I' k = iX8 (iX7 I0) k := fun k hk => h1 k (by show k ≠ 43; omega) (by show k ≠ 44; omega) (by show k ≠ 46; omega) (by show k ≠ 47; omega)
  have gp : I' po = iX8 (iX7 I0) po := h1 po (by decide) (by decide) (by decide) (by decide)
  have hr : ∀ r m, r < 42 → m ≤ 4000 → jX8 (jX7 J0) r 0 = some (r + 1) → iX8 (iX7 I0) r 1 = nI m → iX8 (iX7 I0) r 2 = 0 → (shT (r + 1)).2 = (m + 3) / 4 → Rw X (jX8 (jX7 J0)) I' r (r + 1) m 0 := fun r m a0 a1 a2 a3 a4 a5 => ⟨a2, by omega, by rw [g r (by omega)]; exact a3, by rw [g r (by omega), a4]; rfl, Nat.zero_le _, by rw [hs]; exact a5, a1⟩
  refine ⟨1, (fun _ => 0, fun _ _ => 0, fun _ _ => 0, 3, 280), ⟨⟨⟨rfl, rfl, rfl, rfl, rfl, rfl, rfl, rfl, rfl⟩, rfl, ⟨rfl, hs 19⟩, ?_, hs 30, ?_⟩, mcX8 hX _, ⟨rfl, rfl, rfl, rfl, rfl, rfl, rfl, rfl, rfl, rfl, rfl, rfl⟩, ?_, hs 13, ?_⟩, ⟨⟨?_, ?_, ?_, ?_⟩, ⟨?_, ?_, ?_, ?_, hMT, ?_⟩, ⟨by decide, rfl, by decide, by decide, Or.inl rfl, Or.inl rfl, Or.inl rfl⟩⟩, hWT⟩
  · intro i hi
    rcases (show i = 0 ∨ i = 1 ∨ i = 2 ∨ i = 3 by omega) with rfl | rfl | rfl | rfl <;> rfl
  · intro a h1 h2
    rw [hs]
    exact (by decide : ∀ a, a < 38 → 31 ≤ a → (shT a).2 = 256) a (by omega) h1
  · intro i hi
    rcases (show i = 0 ∨ i = 1 ∨ i = 2 ∨ i = 3 by omega) with rfl | rfl | rfl | rfl <;> rfl
  · intro p hp
    rw [hs]
    exact (by decide : ∀ p, p < 4 → (shT (14 + p)).2 = 256) p hp
  · exact six ⟨hr 3 1568 (by decide) (by decide) rfl rfl rfl rfl, fun i hi => absurd hi (Nat.not_lt_zero i)⟩ ⟨hr 5 3168 (by decide) (by decide) rfl rfl rfl rfl, fun i hi => absurd hi (Nat.not_lt_zero i)⟩ ⟨hr 7 1568 (by decide) (by decide) rfl rfl rfl rfl, fun i hi => absurd hi (Nat.not_lt_zero i)⟩ ⟨hr 9 32 (by decide) (by decide) rfl rfl rfl rfl, fun i hi => absurd hi (Nat.not_lt_zero i)⟩ ⟨hr 11 1000 (by decide) (by decide) rfl rfl rfl rfl, fun i hi => absurd hi (Nat.not_lt_zero i)⟩ ⟨hr 1 4000 (by decide) (by decide) rfl rfl rfl rfl, fun i hi => absurd hi (Nat.not_lt_zero i)⟩
  · intro p hp j hj
    refine ⟨show 0 < 3329 by decide, ?_⟩
    rw [g _ (by omega)]
    rcases (show p = 0 ∨ p = 1 ∨ p = 2 ∨ p = 3 by omega) with rfl | rfl | rfl | rfl <;> rfl
  · rw [g 0 (by decide)]; rfl
  · exact ⟨⟨0, hr 22 3168 (by decide) (by decide) rfl rfl rfl rfl⟩, ⟨0, hr 24 64 (by decide) (by decide) rfl rfl rfl rfl⟩, ⟨0, hr 26 32 (by decide) (by decide) rfl rfl rfl rfl⟩, ⟨0, hr 28 32 (by decide) (by decide) rfl rfl rfl rfl⟩⟩
  · intro w hw
    refine ⟨?_, fun i hi => absurd hi (Nat.not_lt_zero i)⟩
    rw [g mo (by decide)]
    rcases (show w = 0 ∨ w = 1 ∨ w = 2 ∨ w = 3 ∨ w = 4 ∨ w = 5 by omega) with rfl | rfl | rfl | rfl | rfl | rfl <;> rfl
  · intro p hp j hj
    exact ⟨show 0 < 3329 by decide, by rw [gp]; rfl⟩
  · rw [g mo (by decide)]; rfl
  · rw [g mo (by decide)]; rfl
  · intro i hi
    unfold cy
    rw [g me (by decide)]
    rfl
theorem nz_K {args : Array Value} {s : State} (hts : ∀ w ∈ lw_tbl, w.before args s = true) : ∃ (D : va_G) (y : ClassId × ClassId × ClassId × ClassId), ∀ X : XT, X.1 = y → va_K D vwCl (tyl X) s := by
  have hgt : ∀ w ∈ gt, w.before args s = true := fun w h => hts w (gt_tbl h)
  obtain ⟨c0, i0, k0⟩ := u_known hgt iwX1 (hgt _ tw_1_76)
  obtain ⟨c1, i1, k1⟩ := u_known hgt iwX4 (hgt _ tw_1_24)
  obtain ⟨c2, i2, k2⟩ := u_known hgt iwX5 (hgt _ tw_1_66)
  obtain ⟨c3, i3, k3⟩ := u_known hgt iwX6 (hgt _ tw_1_46)
  obtain ⟨c4, i4, k4⟩ := u_known hgt iwX7 (hgt _ tw_1_16)
  obtain ⟨c5, i5, k5⟩ := u_known hgt iwX8 (hgt _ tw_3_71)
  obtain ⟨a0, p0, f0⟩ := nz_arr (hgt _ tw_1_42)
  obtain ⟨a1, p1, f1⟩ := nz_arr (hgt _ tw_3_149)
  obtain ⟨a2, p2, f2⟩ := nz_arr (hgt _ tw_1_64)
  obtain ⟨a3, p3, f3⟩ := nz_arr2 (hts _ (u1 44 (by decide +kernel) : Cond.arrayOver (.array .int) ∈ lw_tbl))
  refine ⟨(fun c => match c with | 0 => c0 | 1 => c1 | 2 => c2 | 3 => c3 | 4 => c4 | _ => c5, fun c => match c with | 0 => i0 | 1 => i1 | 2 => i2 | 3 => i3 | 4 => i4 | _ => i5), (a0, a1, a2, a3), fun X hX => ⟨fun c q hq => ?_, fun k q hq => ?_⟩⟩
  · have hc : c < 6 := (List.getElem?_eq_some_iff.mp hq).1
    rcases (show c = 0 ∨ c = 1 ∨ c = 2 ∨ c = 3 ∨ c = 4 ∨ c = 5 by omega) with rfl | rfl | rfl | rfl | rfl | rfl <;> cases hq
    · exact k0
    · exact k1
    · exact k2
    · exact k3
    · exact k4
    · exact k5
  · have hc : k < 4 := (List.getElem?_eq_some_iff.mp hq).1
    unfold tyl at hq
    rw [hX] at hq
    rcases (show k = 0 ∨ k = 1 ∨ k = 2 ∨ k = 3 by omega) with rfl | rfl | rfl | rfl <;> cases hq
    · exact ⟨p0, f0⟩
    · exact ⟨p1, f1⟩
    · exact ⟨p2, f2⟩
    · exact ⟨p3, f3⟩
