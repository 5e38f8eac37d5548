/-! ===== remainders ===== -/
theorem i32b (x : Int32) : -2147483648 ≤ x.toInt ∧ x.toInt < 2147483648 := ⟨x.le_toInt, x.toInt_lt⟩
theorem i64b (x : Int64) : -9223372036854775808 ≤ x.toInt ∧ x.toInt < 9223372036854775808 := ⟨x.le_toInt, x.toInt_lt⟩
theorem bm32 {a : Int} (h1 : -2147483648 ≤ a) (h2 : a < 2147483648) : a.bmod (2 ^ 32) = a := Int.bmod_eq_of_le (by omega) (by omega)
theorem bm64 {a : Int} (h1 : -9223372036854775808 ≤ a) (h2 : a < 9223372036854775808) : a.bmod (2 ^ 64) = a := Int.bmod_eq_of_le (by omega) (by omega)
theorem td3 (t : Int) : t.tdiv 3329 * 3329 = t - t.tmod 3329 ∧ -3329 < t.tmod 3329 ∧ t.tmod 3329 < 3329 ∧ (0 ≤ t → 0 ≤ t.tmod 3329 ∧ t.tmod 3329 ≤ t) ∧ (t ≤ 0 → t.tmod 3329 ≤ 0 ∧ t ≤ t.tmod 3329) := by
  have h := Int.tmod_add_mul_tdiv t 3329
  have hb := tmod_bounds (a := t) (M := 3329) (by decide)
  refine ⟨by omega, hb.1, hb.2, fun h0 => ?_, fun h0 => ?_⟩
  · rw [Int.tmod_eq_emod_of_nonneg h0]
    have := Int.emod_nonneg t (show (3329 : Int) ≠ 0 by decide)
    have h3 := Int.mul_ediv_add_emod t 3329
    have h4 : 0 ≤ t / 3329 := Int.ediv_nonneg h0 (by decide)
    omega
  · have e : t.tmod 3329 = -((-t).tmod 3329) := by rw [Int.neg_tmod, Int.neg_neg]
    rw [e, Int.tmod_eq_emod_of_nonneg (show 0 ≤ -t by omega)]
    have := Int.emod_nonneg (-t) (show (3329 : Int) ≠ 0 by decide)
    have h3 := Int.mul_ediv_add_emod (-t) 3329
    have h4 : 0 ≤ (-t) / 3329 := Int.ediv_nonneg (by omega) (by decide)
    omega
theorem jrem_t (x : Int32) : (jrem x 3329).toInt = x.toInt.tmod 3329 := by
  obtain ⟨a1, a2, a3, a4, a5⟩ := td3 x.toInt
  have b := i32b x
  have hc : (0 ≤ x.toInt ∧ 0 ≤ x.toInt.tmod 3329 ∧ x.toInt.tmod 3329 ≤ x.toInt) ∨ (x.toInt ≤ 0 ∧ x.toInt.tmod 3329 ≤ 0 ∧ x.toInt ≤ x.toInt.tmod 3329) := (Int.le_total 0 x.toInt).elim (fun z => Or.inl ⟨z, a4 z⟩) (fun z => Or.inr ⟨z, a5 z⟩)
  unfold jrem
  have e1 : (x / 3329).toInt = x.toInt.tdiv 3329 := by
    rw [Int32.toInt_div]
    exact bm32 (show -2147483648 ≤ x.toInt.tdiv 3329 by omega) (show x.toInt.tdiv 3329 < 2147483648 by omega)
  rw [Int32.toInt_sub, Int32.toInt_mul, e1, show (3329 : Int32).toInt = 3329 from rfl, a1]
  rcases Int.le_total 0 x.toInt with z | z
  · have := a4 z
    rw [bm32 (a := x.toInt - x.toInt.tmod 3329) (by omega) (by omega), bm32 (by omega) (by omega)]
    omega
  · have := a5 z
    rw [bm32 (a := x.toInt - x.toInt.tmod 3329) (by omega) (by omega), bm32 (by omega) (by omega)]
    omega
theorem jlrem_t (x : Int64) : (jlrem x 3329).toInt = x.toInt.tmod 3329 := by
  obtain ⟨a1, a2, a3, a4, a5⟩ := td3 x.toInt
  have b := i64b x
  have hc : (0 ≤ x.toInt ∧ 0 ≤ x.toInt.tmod 3329 ∧ x.toInt.tmod 3329 ≤ x.toInt) ∨ (x.toInt ≤ 0 ∧ x.toInt.tmod 3329 ≤ 0 ∧ x.toInt ≤ x.toInt.tmod 3329) := (Int.le_total 0 x.toInt).elim (fun z => Or.inl ⟨z, a4 z⟩) (fun z => Or.inr ⟨z, a5 z⟩)
  unfold jlrem
  have e1 : (x / 3329).toInt = x.toInt.tdiv 3329 := by
    rw [Int64.toInt_div]
    exact bm64 (show -9223372036854775808 ≤ x.toInt.tdiv 3329 by omega) (show x.toInt.tdiv 3329 < 9223372036854775808 by omega)
  rw [Int64.toInt_sub, Int64.toInt_mul, e1, show (3329 : Int64).toInt = 3329 from rfl, a1]
  rcases Int.le_total 0 x.toInt with z | z
  · have := a4 z
    rw [bm64 (a := x.toInt - x.toInt.tmod 3329) (by omega) (by omega), bm64 (by omega) (by omega)]
    omega
  · have := a5 z
    rw [bm64 (a := x.toInt - x.toInt.tmod 3329) (by omega) (by omega), bm64 (by omega) (by omega)]
    omega
theorem emod_of_tmod (t : Int) : t % 3329 = if 0 ≤ t.tmod 3329 then t.tmod 3329 else t.tmod 3329 + 3329 := by
  obtain ⟨a1, a2, a3, a4, a5⟩ := td3 t
  have h := Int.mul_ediv_add_emod t 3329
  have h1 := Int.emod_nonneg t (show (3329 : Int) ≠ 0 by decide)
  have h2 := Int.emod_lt_of_pos t (show (0 : Int) < 3329 by decide)
  split <;> omega
theorem l2i_s {x : Int64} (h1 : -2147483648 ≤ x.toInt) (h2 : x.toInt < 2147483648) : x.toInt32.toInt = x.toInt := by
  rw [Int64.toInt_toInt32]
  exact bm32 h1 h2
theorem i32_of {x : Int32} {n : Nat} (h : x.toInt = n) (hn : n < 2 ^ 31) : x = nI n := by
  apply Int32.toInt_inj.mp
  rw [nI_toInt hn, h]
section MCD
variable {X : XT} {J : MJ} {I : MI} {L : ML}
theorem c_ring {v : Int64} {t : Int} (hv : v.toInt = t) {q : Int32 → MI → ML → Prop} (hq : q (nI (t % 3329).toNat) I L) : wp_X8_ring X J v I L q := by
  intro x e
  obtain ⟨a1, a2, a3, a4, a5⟩ := td3 t
  have hx : x.toInt = t.tmod 3329 := by
    rw [e, l2i_s (by rw [jlrem_t, hv]; omega) (by rw [jlrem_t, hv]; omega), jlrem_t, hv]
  have he := emod_of_tmod t
  have h0 : (0 : Int32).toInt = 0 := rfl
  refine ⟨fun z => ?_, fun z => ?_⟩
  · rw [Int32.le_iff_toInt_le, h0, hx] at z
    rw [if_pos z] at he
    rw [i32_of (x := x) (n := (t % 3329).toNat) (by rw [hx, he]; omega) (by omega)]
    exact hq
  · rw [Int32.le_iff_toInt_le, h0, hx] at z
    rw [if_neg z] at he
    rw [i32_of (x := x + 3329) (n := (t % 3329).toNat) (by
      rw [Int32.toInt_add, hx, show (3329 : Int32).toInt = 3329 from rfl, bm32 (by omega) (by omega), he]; omega) (by omega)]
    exact hq
theorem c_ringN {n : Nat} (hn : n < 2 ^ 62) {q : Int32 → MI → ML → Prop} (hq : q (nI (n % 3329)) I L) : wp_X8_ring X J (lN n) I L q := by
  refine c_ring (t := n) (pk_lT (by omega)) ?_
  rw [show ((n : Int) % 3329).toNat = n % 3329 by omega]
  exact hq
/-- POLYNOMIAL p of the reference -/
def Pm (I : MI) (p : Nat) (f : Nat → Nat) : Prop := ∀ j, j < 256 → f j < 3329 ∧ I po (256 * p + j) = nI (f j)
/-- what may have changed: POLYNOMIAL p -/
def FP (I I' : MI) (p : Nat) : Prop := (∀ k, k ≠ po → I' k = I k) ∧ ∀ i, (i < 256 * p ∨ 256 * p + 256 ≤ i) → I' po i = I po i
theorem FP.rf {p : Nat} : FP I I p := ⟨fun _ _ => rfl, fun _ _ => rfl⟩
theorem FP.o {I' : MI} {p p' : Nat} (h : FP I I' p) (hp : p' ≠ p) {f : Nat → Nat} (hf : Pm I p' f) : Pm I' p' f := fun j hj => ⟨(hf j hj).1, by rw [h.2 _ (by omega)]; exact (hf j hj).2⟩
theorem e256 (p i : Nat) : (256 * nI p + nI i : Int32) = nI (256 * p + i) := by
  rw [show (256 : Int32) = nI 256 from rfl, pk_mul, nI_add]
/-- a loop over the 256 NUMBERS of POLYNOMIAL p that sets each -/
theorem loopP {I : MI} {p : Nat} {g : Nat → Nat} (W : Nat → Int32 → MI → ML → Prop) {q : MI → ML → Prop} (hx : ∀ fu I', q I' L → W (fu + 1) (nI 256) I' L)
    (hs : ∀ fu i I', i < 256 → FP I I' p → (∀ j, i ≤ j → j < 256 → I' po (256 * p + j) = I po (256 * p + j)) → (∀ I2, I2 = ms I' po (256 * p + i) (nI (g i)) → W fu (nI (i + 1)) I2 L) → W (fu + 1) (nI i) I' L) (hg : ∀ i, i < 256 → g i < 3329)
    (hq : ∀ I', FP I I' p → Pm I' p g → q I' L) : ∃ fu, W fu 0 I L := by
  refine pk_loop (σ := MI) (fun fu i I' => W fu (nI i) I' L) (fun i I' => FP I I' p ∧ (∀ j, j < i → I' po (256 * p + j) = nI (g j)) ∧ ∀ j, i ≤ j → j < 256 → I' po (256 * p + j) = I po (256 * p + j)) 256 0 I (by decide) ⟨FP.rf, fun j h => absurd h (by omega), fun _ _ _ => rfl⟩ ?_ ?_
  · intro fu I' ⟨u, v, w⟩
    exact hx fu I' (hq I' u (fun j hj => ⟨hg j hj, v j hj⟩))
  · intro fu i I' hi ⟨u, v, w⟩ ih
    refine hs fu i I' hi u w (fun I2 e2 => ih I2 ⟨⟨fun k hk => (ms_o e2 hk).trans (u.1 k hk), fun j hj => by rw [ms_k e2, va_up_ne _ _ (by omega)]; exact u.2 j hj⟩, fun j hj => ?_, fun j h1 h2 => ?_⟩)
    · rw [ms_k e2]
      by_cases e : j = i
      · subst e; exact va_up_self _ _ _
      · rw [va_up_ne _ _ (by omega)]; exact v j (by omega)
    · rw [ms_k e2, va_up_ne _ _ (by omega)]; exact w j (by omega) h2
theorem c_copyPol (hC : MC X J) {p p' : Nat} (hp : p < 20) (hp' : p' < 20) (hne : p ≠ p') {f : Nat → Nat} (hf : Pm I p f) {q : MI → ML → Prop} (hq : ∀ I', FP I I' p' → Pm I' p' f → q I' L) : wp_X8_copyPol X J mo (nI p) (nI p') I L q := by
  obtain ⟨⟨j1, j2, j3, j4, j5, j6, j7, j8, j9⟩, s1, s2, s3, s4, s5, s6, s7, s8, s9⟩ := id hC
  refine loopP (L := L) (g := f) (fun fu x I' L => wl_X8_copyPol_2 X J q mo (nI p) (nI p') fu x I' L) (fun fu I' hq => pk_le 256 256 (fun _ => hq) (fun z => absurd z (by omega))) (fun fu i I' hi u w ih => ?_) (fun i hi => (hf i hi).1) hq
  refine pk_le 256 i (fun z => absurd z (by omega)) (fun _ => ?_)
  rw [e256, e256, nI_clamp (n := 256 * p + i) (by omega), nI_clamp (n := 256 * p' + i) (by omega)]
  refine ⟨po, j7, by rw [s7]; exact vp_in_nI (by omega) (by decide), by rw [s7]; exact vp_in_nI (by omega) (by decide), fun I4 e4 x3 e3 => ?_⟩
  rw [e3, nI_1]
  refine ih I4 ?_
  rw [e4, u.2 _ (by omega), (hf i hi).2]
theorem c_zero (hC : MC X J) {p : Nat} (hp : p < 20) {q : MI → ML → Prop} (hq : ∀ I', FP I I' p → Pm I' p (fun _ => 0) → q I' L) : wp_X8_zero X J mo (nI p) I L q := by
  obtain ⟨⟨j1, j2, j3, j4, j5, j6, j7, j8, j9⟩, s1, s2, s3, s4, s5, s6, s7, s8, s9⟩ := id hC
  refine loopP (L := L) (g := fun _ => 0) (fun fu x I' L => wl_X8_zero_2 X J q mo (nI p) fu x I' L) (fun fu I' hq => pk_le 256 256 (fun _ => hq) (fun z => absurd z (by omega))) (fun fu i I' hi u w ih => ?_) (fun i hi => by decide) hq
  refine pk_le 256 i (fun z => absurd z (by omega)) (fun _ => ?_)
  rw [e256, nI_clamp (n := 256 * p + i) (by omega)]
  refine ⟨po, j7, by rw [s7]; exact vp_in_nI (by omega) (by decide), fun I4 e4 x3 e3 => ?_⟩
  rw [e3, nI_1]
  exact ih I4 e4
/-- sums in the ring -/
def rad (x y : Nat) : Nat := (x + y) % 3329
def rsb (x y : Nat) : Nat := (x + 3329 - y) % 3329
theorem c_plus (hC : MC X J) {p p' : Nat} (hp : p < 20) (hp' : p' < 20) (hne : p ≠ p') {f g : Nat → Nat} (hf : Pm I p f) (hg : Pm I p' g) (sg : Bool) {q : MI → ML → Prop} (hq : ∀ I', FP I I' p → Pm I' p (fun i => if sg then rad (f i) (g i) else rsb (f i) (g i)) → q I' L) : wp_X8_plus X J mo (nI p) (nI p') (if sg then 1 else -1) I L q := by
  obtain ⟨⟨j1, j2, j3, j4, j5, j6, j7, j8, j9⟩, s1, s2, s3, s4, s5, s6, s7, s8, s9⟩ := id hC
  refine loopP (L := L) (g := fun i => if sg then rad (f i) (g i) else rsb (f i) (g i)) (fun fu x I' L => wl_X8_plus_3 X J q mo (nI p) (nI p') (if sg then 1 else -1) fu x I' L) (fun fu I' hq => pk_le 256 256 (fun _ => hq) (fun z => absurd z (by omega))) (fun fu i I' hi u w ih => ?_) (fun i hi => by cases sg <;> exact Nat.mod_lt _ (by decide)) hq
  refine pk_le 256 i (fun z => absurd z (by omega)) (fun _ => ?_)
  rw [e256, e256, nI_clamp (n := 256 * p + i) (by omega), nI_clamp (n := 256 * p' + i) (by omega)]
  refine ⟨po, j7, by rw [s7]; exact vp_in_nI (by omega) (by decide), by rw [s7]; exact vp_in_nI (by omega) (by decide), ?_⟩
  have hfi := hf i hi
  have hgi := hg i hi
  rw [w i (Nat.le_refl i) hi, hfi.2, u.2 (256 * p' + i) (by omega), hgi.2, nI_l (by omega), nI_l (by omega)]
  have ht : (lN (f i) + (if sg then (1 : Int32) else -1).toInt64 * lN (g i)).toInt = if sg then (f i : Int) + g i else (f i : Int) - g i := by
    have ef : (lN (f i)).toInt = f i := pk_lT (by omega)
    have eg : (lN (g i)).toInt = g i := pk_lT (by omega)
    cases sg with
    | true =>
      show (lN (f i) + (1 : Int32).toInt64 * lN (g i)).toInt = (f i : Int) + g i
      rw [Int64.toInt_add, Int64.toInt_mul, ef, eg, show ((1 : Int32).toInt64).toInt = 1 from rfl, bm64 (a := 1 * (g i : Int)) (by omega) (by omega), bm64 (by omega) (by omega)]
      omega
    | false =>
      show (lN (f i) + (-1 : Int32).toInt64 * lN (g i)).toInt = (f i : Int) - g i
      rw [Int64.toInt_add, Int64.toInt_mul, ef, eg, show ((-1 : Int32).toInt64).toInt = -1 from rfl, bm64 (a := -1 * (g i : Int)) (by omega) (by omega), bm64 (by omega) (by omega)]
      omega
  refine c_ring ht ⟨by rw [s7]; exact vp_in_nI (by omega) (by decide), fun I8 e8 x4 e4 => ?_⟩
  rw [e4, nI_1]
  refine ih I8 ?_
  rw [e8]
  congr 2
  cases sg with
  | true =>
    show (((f i : Int) + g i) % 3329).toNat = (f i + g i) % 3329
    omega
  | false =>
    show (((f i : Int) - g i) % 3329).toNat = (f i + 3329 - g i) % 3329
    omega
end MCD
