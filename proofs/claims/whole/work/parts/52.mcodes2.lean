theorem jlshl_n (n : Nat) {k : Nat} (hk : k < 64) : jlshl (lN n) (nI k) = lN (n * 2 ^ k) := by
  apply Int64.toBitVec_inj.mp
  unfold jlshl
  rw [Int64.toBitVec_shiftLeft]
  show (BitVec.ofNat 64 n) <<< (((nI k).toInt64 &&& 63).toBitVec.smod 64).toNat = BitVec.ofNat 64 (n * 2 ^ k)
  rw [ll_l k hk]
  apply BitVec.eq_of_toNat_eq
  rw [BitVec.toNat_shiftLeft, BitVec.toNat_ofNat, BitVec.toNat_ofNat, Nat.shiftLeft_eq, Nat.mod_mul_mod]
theorem jlrem_n {a b : Nat} (ha : a < 2 ^ 63) (h0 : 0 < b) (hb : b < 2 ^ 63) : jlrem (lN a) (lN b) = lN (a % b) := pk_lRem ha h0 hb
theorem lN_ne {n : Nat} (h0 : 0 < n) (h : n < 2 ^ 63) : ¬ lN n = 0 := fun e => by
  have := (pk_lEQ (a := n) (b := 0) h (by decide)).mp e
  omega
section MC2
variable {X : XT} {J : MJ} {I : MI} {L : ML}
theorem c_pressed (hC : MC X J) {p : Nat} (hp : p < 20) {f : Nat → Nat} (hf : Pm I p f) {d : Nat} (h1 : 1 ≤ d) (h : d ≤ 11) {q : MI → ML → Prop} (hq : ∀ I', FP I I' p → Pm I' p (fun i => cmp d (f i)) → q I' L) : wp_X8_pressed X J mo (nI p) (nI d) I L q := by
  obtain ⟨⟨j1, j2, j3, j4, j5, j6, j7, j8, j9⟩, s1, s2, s3, s4, s5, s6, s7, s8, s9⟩ := id hC
  have hb := pow_b h1 (by omega : d ≤ 12)
  refine loopP (L := L) (g := fun i => cmp d (f i)) (fun fu x I' L => wl_X8_pressed_2 X J q mo (nI p) (nI d) fu x I' L) (fun fu I' hq => pk_le 256 256 (fun _ => hq) (fun z => absurd z (by omega))) (fun fu i I' hi u w ih => ?_) (fun i hi => cmp_lt h1 h) hq
  refine pk_le 256 i (fun z => absurd z (by omega)) (fun _ => ?_)
  have hfi := hf i hi
  have hin : vp_in (nI (256 * p + i)) (sl X po) := by rw [s7]; exact vp_in_nI (by omega) (by decide)
  have e1 : jlshl 1 (nI d) = lN (2 ^ d) := by
    have := jlshl_n 1 (k := d) (by omega)
    rw [Nat.one_mul] at this
    exact this
  have hm : f i * 2 ^ d ≤ 3328 * 4096 := Nat.mul_le_mul (by omega) hb.2
  rw [e256, nI_clamp (n := 256 * p + i) (by omega), e1]
  refine ⟨po, j7, hin, ?_⟩
  rw [w i (Nat.le_refl i) hi, hfi.2, nI_l (by omega)]
  refine fun x4 e4 => ⟨lN_ne (by omega) (by omega), hin, fun I6 e6 x3 e3 => ?_⟩
  rw [e3, nI_1]
  refine ih I6 ?_
  have e5 : x4 = lN (2 * f i * 2 ^ d + 3329) := by
    rw [e4, show (2 : Int64) = lN 2 from rfl, lN_mul, lN_mul, show (3329 : Int64) = lN 3329 from rfl, lN_add]
  have hm2 : 2 * f i * 2 ^ d ≤ 2 * (3328 * 4096) := by rw [Nat.mul_assoc]; omega
  rw [e6, e5, show (6658 : Int64) = lN 6658 from rfl, pk_lDiv (by omega) (by decide) (by decide), jlrem_n (Nat.lt_of_le_of_lt (Nat.div_le_self _ _) (by omega)) (by omega) (by omega), lN_i]
  unfold cmp
  rw [show 2 * f i * 2 ^ d = 2 * 2 ^ d * f i by rw [Nat.mul_assoc, Nat.mul_comm (f i), ← Nat.mul_assoc]]
theorem c_stretched (hC : MC X J) {p : Nat} (hp : p < 20) {f : Nat → Nat} (hf : Pm I p f) {d : Nat} (h1 : 1 ≤ d) (h : d ≤ 11) {q : MI → ML → Prop} (hq : ∀ I', FP I I' p → Pm I' p (fun i => dcm d (f i)) → q I' L) : wp_X8_stretched X J mo (nI p) (nI d) I L q := by
  obtain ⟨⟨j1, j2, j3, j4, j5, j6, j7, j8, j9⟩, s1, s2, s3, s4, s5, s6, s7, s8, s9⟩ := id hC
  have hb := pow_b h1 (by omega : d ≤ 12)
  refine loopP (L := L) (g := fun i => dcm d (f i)) (fun fu x I' L => wl_X8_stretched_2 X J q mo (nI p) (nI d) fu x I' L) (fun fu I' hq => pk_le 256 256 (fun _ => hq) (fun z => absurd z (by omega))) (fun fu i I' hi u w ih => ?_) (fun i hi => dcm_lt h1 h) hq
  refine pk_le 256 i (fun z => absurd z (by omega)) (fun _ => ?_)
  have hfi := hf i hi
  have hin : vp_in (nI (256 * p + i)) (sl X po) := by rw [s7]; exact vp_in_nI (by omega) (by decide)
  have e1 : jlshl 1 (nI d) = lN (2 ^ d) := by
    have := jlshl_n 1 (k := d) (by omega)
    rw [Nat.one_mul] at this
    exact this
  have e2 : jlshl 2 (nI d) = lN (2 * 2 ^ d) := jlshl_n 2 (k := d) (by omega)
  have e3 : jshl 1 (nI d) = nI (2 ^ d) := by
    have := jshl_n (a := 1) (k := d) (by omega) (by omega)
    rw [Nat.one_mul] at this
    exact this
  have hmd := Nat.mod_lt (f i) (Nat.two_pow_pos d)
  rw [e256, nI_clamp (n := 256 * p + i) (by omega), e1, e2, e3]
  refine ⟨po, j7, hin, ?_⟩
  rw [w i (Nat.le_refl i) hi, hfi.2, jrem_n (by omega) (by omega) (by omega), nI_l (by omega)]
  refine ⟨nI_ne0 (by omega) (by omega), fun x4 e4 => ⟨lN_ne (by omega) (by omega), hin, fun I6 e6 x3 e3 => ?_⟩⟩
  rw [e3, nI_1]
  refine ih I6 ?_
  rw [e6, e4, show (2 : Int64) = lN 2 from rfl, lN_mul, show (3329 : Int64) = lN 3329 from rfl, lN_mul, lN_add, pk_lDiv (by omega) (by omega) (by omega), lN_i]
  unfold dcm
  have h3 : 2 ^ d = 2 * 2 ^ (d - 1) := by
    rw [show d = d - 1 + 1 by omega, Nat.pow_succ, Nat.add_sub_cancel]; omega
  have hE : (2 * (f i % 2 ^ d) * 3329 + 2 ^ d) / (2 * 2 ^ d) = (f i % 2 ^ d * 3329 + 2 ^ (d - 1)) / 2 ^ d := by
    rw [show 2 * (f i % 2 ^ d) * 3329 + 2 ^ d = 2 * (f i % 2 ^ d * 3329 + 2 ^ (d - 1)) by omega, Nat.mul_div_mul_left _ _ (by decide)]
  rw [hE]
theorem mod_or (a b : Nat) : (a ||| b) % 256 = (a % 256) ||| (b % 256) := by
  apply nat_ext
  intro i
  rw [show (256 : Nat) = 2 ^ 8 from rfl]
  simp only [Nat.testBit_mod_two_pow, Nat.testBit_or]
  cases decide (i < 8) <;> simp
/-- what may have changed: n BYTES from to on -/
def FW (I I' : MI) (to n : Nat) : Prop := (∀ k, k ≠ me → I' k = I k) ∧ (∀ i, (i < to ∨ to + n ≤ i) → I' me i = I me i) ∧ ∀ i, cy I i → cy I' i
theorem FW.rf {to n : Nat} : FW I I to n := ⟨fun _ _ => rfl, fun _ _ => rfl, fun _ c => c⟩
theorem FW.trans {I1 I2 I3 : MI} {to n : Nat} (h : FW I1 I2 to n) (g : FW I2 I3 to n) : FW I1 I3 to n := ⟨fun k a => (g.1 k a).trans (h.1 k a), fun i a => (g.2.1 i a).trans (h.2.1 i a), fun i a => g.2.2 i (h.2.2 i a)⟩
theorem c_written (hC : MC X J) {p : Nat} (hp : p < 20) {f : Nat → Nat} (hf : Pm I p f) {d to : Nat} (h1 : 1 ≤ d) (h : d ≤ 12) (ht : to + 32 * d ≤ 20000) {q : MI → ML → Prop} (hq : ∀ I', FW I I' to (32 * d) → (∀ k, k < 32 * d → mb I' (to + k) = enc d f k) → q I' L) : wp_X8_written X J mo (nI p) (nI d) (nI to) I L q := by
  obtain ⟨⟨j1, j2, j3, j4, j5, j6, j7, j8, j9⟩, s1, s2, s3, s4, s5, s6, s7, s8, s9⟩ := id hC
  have e32 : (32 : Int32) * nI d = nI (32 * d) := pk_mul 32 d
  have e256d : (256 : Int32) * nI d = nI (256 * d) := pk_mul 256 d
  refine pk_loop (σ := MI) (fun fu i I' => wl_X8_written_3 X J q mo (nI p) (nI d) (nI to) fu (nI i) I' L) (fun i I' => FW I I' to (32 * d) ∧ ∀ k, k < i → I' me (to + k) = 0) (32 * d) 0 I (Nat.zero_le _) ⟨FW.rf, fun k hk => absurd hk (by omega)⟩ ?_ ?_
  · intro fu I1 ⟨a, b⟩
    refine pk_le (32 * d) (32 * d) (fun _ => ?_) (fun z => absurd z (by omega)) e32
    refine pk_loop (σ := MI) (fun fu N I' => wl_X8_written_31 X J q mo (nI p) (nI d) (nI to) fu (nI N) I' L) (fun N I' => FW I I' to (32 * d) ∧ ∀ k, k < 32 * d → mb I' (to + k) = V (eb d f) (8 * k) (min 8 (N - 8 * k))) (256 * d) 0 I1 (Nat.zero_le _) ⟨a, fun k hk => by unfold mb; rw [b k hk, Nat.zero_sub, Nat.min_zero]; rfl⟩ ?_ ?_
    · intro fu I2 ⟨c, e⟩
      refine pk_le (256 * d) (256 * d) (fun _ => hq I2 c (fun k hk => ?_)) (fun z => absurd z (by omega)) e256d
      rw [e k hk, show min 8 (256 * d - 8 * k) = 8 by omega]
      rfl
    · intro fu N I2 hN ⟨c, e⟩ ih
      refine pk_le (256 * d) N (fun z => absurd z (by omega)) (fun _ => ?_) e256d
      have hnd : ¬ nI d = 0 := nI_ne0 (by omega) (by omega)
      have hq1 : N / d < 256 := by
        rw [Nat.div_lt_iff_lt_mul (by omega)]
        exact hN
      have hr1 : N % d < d := Nat.mod_lt _ (by omega)
      rw [pk_div (by omega) (by omega) (by omega), e256, jrem_n (by omega) (by omega) (by omega), nI_clamp (n := 256 * p + N / d) (by omega)]
      rw [show (8 : Int32) = nI 8 from rfl, pk_div (by omega) (by decide) (by decide), nI_add, nI_clamp (n := to + N / 8) (by omega), jrem_n (by omega) (by decide) (by decide)]
      have hin : vp_in (nI (to + N / 8)) (sl X me) := by rw [s1]; exact vp_in_nI (by omega) (by decide)
      have hff := hf (N / d) hq1
      refine ⟨po, j7, hnd, by rw [s7]; exact vp_in_nI (by omega) (by decide), hnd, fun x5 e5 => ⟨me, j1, hin, hin, fun I9 e9 x4 e4 => ?_⟩⟩
      rw [e4, nI_1]
      rw [c.1 po (by decide), hff.2, jshr_n (by omega) (by omega), show nI (f (N / d) / 2 ^ (N % d)) &&& 1 = nI (f (N / d) / 2 ^ (N % d) % 2) from pk_andN (Nat.lt_of_le_of_lt (Nat.div_le_self _ _) (by omega)) 1 rfl] at e5
      have hbit : f (N / d) / 2 ^ (N % d) % 2 = bv (eb d f N) 0 := by
        unfold bv eb
        rw [Nat.testBit_eq_decide_div_mod_eq]
        rcases (show f (N / d) / 2 ^ (N % d) % 2 = 0 ∨ f (N / d) / 2 ^ (N % d) % 2 = 1 by omega) with z | z <;> simp [z]
      have h128 : 2 ^ (N % 8) ≤ 128 := Nat.pow_le_pow_right (n := 2) (i := N % 8) (j := 7) (by decide) (by omega)
      have hbs : bv (eb d f N) 0 * 2 ^ (N % 8) = bv (eb d f N) (N % 8) := by
        unfold bv
        split <;> simp
      have hbl := bv_lt (eb d f N) (N % 8)
      rw [e5, hbit, jshl_n (by omega) (by rw [hbs]; omega), hbs] at e9
      refine ih I9 ⟨c.trans ⟨fun k hk => ms_o e9 hk, fun i hi => by rw [ms_k e9, va_up_ne _ _ (by omega)], cy_w (ms_k e9)⟩, fun k hk => ?_⟩
      by_cases ek : k = N / 8
      · subst ek
        unfold mb
        rw [ms_k e9, va_up_self, jb8_t, jb8_t, Int32.toBitVec_or, BitVec.toNat_or, mod_or, jb8_t, pk_tn (by omega), Nat.mod_eq_of_lt (show bv (eb d f N) (N % 8) < 256 by omega)]
        have ho := e (N / 8) hk
        unfold mb at ho
        have hVl := V_lt (eb d f) (8 * (N / 8)) (N % 8)
        rw [ho, show min 8 (N - 8 * (N / 8)) = N % 8 by omega, show min 8 (N + 1 - 8 * (N / 8)) = N % 8 + 1 by omega]
        show _ = V (eb d f) (8 * (N / 8)) (N % 8) + bv (eb d f (8 * (N / 8) + N % 8)) (N % 8)
        rw [show 8 * (N / 8) + N % 8 = N by omega, ← hbs, or_sh hVl, Nat.mul_comm (2 ^ (N % 8))]
      · have : mb I9 (to + k) = mb I2 (to + k) := by
          unfold mb
          rw [ms_k e9, va_up_ne _ _ (by omega)]
        rw [this, e k hk]
        congr 1
        omega
  · intro fu i I1 hi ⟨a, b⟩ ih
    refine pk_le (32 * d) i (fun z => absurd z (by omega)) (fun _ => ?_) e32
    rw [nI_add, nI_clamp (n := to + i) (by omega)]
    refine ⟨me, j1, by rw [s1]; exact vp_in_nI (by omega) (by decide), fun I2 e2 x4 e4 => ?_⟩
    rw [e4, nI_1]
    refine ih I2 ⟨a.trans ⟨fun k hk => ms_o e2 hk, fun w hw => by rw [ms_k e2, va_up_ne _ _ (by omega)], cy_w (ms_k e2)⟩, fun k hk => ?_⟩
    rw [ms_k e2]
    by_cases e : k = i
    · subst e; rw [va_up_self]; rfl
    · rw [va_up_ne _ _ (by omega)]; exact b k (by omega)
theorem c_group (hC : MC X J) {d fr i : Nat} (h1 : 1 ≤ d) (h : d ≤ 12) (hi : i < 1024) (hf : fr + (d * i + d + 7) / 8 ≤ 20000) {q : Int32 → MI → ML → Prop} (hq : q (nI (gv d (fun k => mb I (fr + k)) i)) I L) : wp_X8_group X J mo (nI fr) (nI i) (nI d) I L q := by
  have hd : d * i ≤ 12 * 1024 := Nat.mul_le_mul h (by omega)
  refine pk_loop (σ := Int32) (fun fu j x => wl_X8_group_6 X J q mo (nI fr) (nI i) (nI d) fu x (nI j) I L) (fun j x => x = nI (V (tb (fun k => mb I (fr + k))) (d * i) j)) d 0 0 (Nat.zero_le _) nI_0.symm ?_ ?_
  · intro fu x e
    refine pk_le d d (fun _ => ?_) (fun z => absurd z (by omega))
    rw [e]
    exact hq
  · intro fu j x hj e ih
    refine pk_le d j (fun z => absurd z (by omega)) (fun _ => ?_)
    intro x6 e6
    rw [pk_mul, nI_add] at e6
    rw [e6, show (8 : Int32) = nI 8 from rfl, pk_div (by omega) (by decide) (by decide), nI_add, jrem_n (by omega) (by decide) (by decide)]
    refine c_mbyteAt hC (by omega) ?_
    rw [bit_of _ (mb_lt _ _) (Nat.mod_lt _ (by decide))]
    intro x4 e4 x5 e5
    rw [e5, nI_1]
    refine ih x4 ?_
    have hV := V_lt (tb (fun k => mb I (fr + k))) (d * i) j
    have hb : (mb I (fr + (d * i + j) / 8)).testBit ((d * i + j) % 8) = tb (fun k => mb I (fr + k)) (d * i + j) := rfl
    have h2 : 2 ^ j ≤ 4096 := Nat.pow_le_pow_right (n := 2) (i := j) (j := 12) (by decide) (by omega)
    rw [e4, e, hb]
    show _ = nI (V _ (d * i) j + bv (tb (fun k => mb I (fr + k)) (d * i + j)) j)
    cases tb (fun k => mb I (fr + k)) (d * i + j) with
    | false =>
      show nI _ ||| jshl (nI 0) (nI j) = nI (_ + 0)
      rw [jshl_n (by omega) (by simp), or_n]
      simp
    | true =>
      show nI _ ||| jshl (nI 1) (nI j) = nI (_ + 2 ^ j)
      rw [jshl_n (by omega) (by omega), or_n, or_sh hV, Nat.mul_one]
theorem c_readPol (hC : MC X J) {p : Nat} (hp : p < 20) {d fr : Nat} (h1 : 1 ≤ d) (h : d ≤ 12) (hf : fr + 32 * d ≤ 20000) {q : MI → ML → Prop} (hq : ∀ I', FP I I' p → Pm I' p (dec d (fun k => mb I (fr + k))) → q I' L) : wp_X8_readPol X J mo (nI p) (nI d) (nI fr) I L q := by
  obtain ⟨⟨j1, j2, j3, j4, j5, j6, j7, j8, j9⟩, s1, s2, s3, s4, s5, s6, s7, s8, s9⟩ := id hC
  refine loopP (L := L) (g := dec d (fun k => mb I (fr + k))) (fun fu x I' L => wl_X8_readPol_3 X J q mo (nI p) (nI d) (nI fr) fu x I' L) (fun fu I' hq => pk_le 256 256 (fun _ => hq) (fun z => absurd z (by omega))) (fun fu i I' hi u w ih => ?_) (fun i hi => dec_lt _ _ _) hq
  refine pk_le 256 i (fun z => absurd z (by omega)) (fun _ => ⟨po, j7, ?_⟩)
  have hdi : d * (i + 1) ≤ d * 256 := Nat.mul_le_mul_left d (by omega)
  rw [Nat.mul_add, Nat.mul_one] at hdi
  refine c_group hC h1 h (by omega) (by omega) ?_
  have hg := gv_lt d (fun k => mb I' (fr + k)) i
  have hb := pow_b h1 h
  rw [e256, nI_clamp (n := 256 * p + i) (by omega), show (3329 : Int32) = nI 3329 from rfl, jrem_n (by omega) (by decide) (by decide)]
  refine ⟨by rw [s7]; exact vp_in_nI (by omega) (by decide), fun I6 e6 x4 e4 => ?_⟩
  rw [e4, nI_1]
  refine ih I6 ?_
  rw [e6]
  unfold dec mb
  rw [u.1 me (by decide)]
end MC2
