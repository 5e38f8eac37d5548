section MRD
variable {X : XT} {J : MJ} {L : ML}
theorem srcN_lt : ∀ i, i < 1600 → srcN i < 1600 := by decide +kernel
/-- the RC bits by the reference's row of 168 -/
def cb (r : Nat) : Nat → Nat → Bool
  | 0, _ => false
  | j + 1, z => cb r j z ^^ (decide (z = 2 ^ j - 1) && cstN (7 * r + j))
theorem cb_ok : ∀ r, r < 24 → ∀ z, z < 64 → cb r 7 z = (rcN.getD r 0).testBit z := by decide +kernel
theorem rem5 {x k : Nat} (hx : x < 5) (hk : k < 5) : jrem (nI x + nI k) 5 = nI ((x + k) % 5) := by
  rw [nI_add]
  exact jrem_n (d := 5) (by omega) (by decide) (by decide)
theorem l_round145 (hC : MC X J) {I : MI} (hT : MT I) {S : KS} (hS : Ms I S) {r : Nat} (hr : r < 24) {q : MI → ML → Prop} (hq : ∀ I', (∀ c, c ≠ st → I' c = I c) → Ms I' (kI r S) → q I' L) : ∃ fu, wl_X8_round_145 X J q mo (nI r) fu 0 I L := by
  obtain ⟨⟨j1, j2, j3, j4, j5, j6, j7, j8, j9⟩, s1, s2, s3, s4, s5, s6, s7, s8, s9⟩ := hC
  refine pk_loop (σ := MI) (fun fu j I' => wl_X8_round_145 X J q mo (nI r) fu (nI j) I' L) (fun j I' => (∀ c, c ≠ st → I' c = I c) ∧ Ms I' (fun l z => S l z ^^ (decide (l = 0) && cb r j z))) 7 0 I (by decide) ⟨fun _ _ => rfl, fun l z hl hz => by rw [hS l z hl hz]; simp [cb]⟩ ?_ ?_
  · intro fu I' ⟨a, b⟩
    refine pk_le 7 7 (fun _ => hq I' a (fun l z hl hz => ?_)) (fun z => absurd z (by omega))
    rw [b l z hl hz]
    show bI _ = bI (S l z ^^ (decide (l = 0) && (rcN.getD r 0).testBit z))
    rw [← cb_ok r hr z hz]
  · intro fu j I' hj ⟨a, b⟩ ih
    refine pk_le 7 j (fun z => absurd z (by omega)) (fun _ => ?_)
    have hp : 2 ^ j ≤ 64 := Nat.pow_le_pow_right (by decide : 0 < 2) (show j ≤ 6 by omega)
    have hp1 : 1 ≤ 2 ^ j := Nat.one_le_two_pow
    have e1 : jshl 1 (nI j) - 1 = nI (2 ^ j - 1) := by
      rw [show (1 : Int32) = nI 1 from rfl, jshl_n (by omega) (by omega), Nat.one_mul, pk_sub hp1]
    have e2 : (7 * nI r + nI j : Int32) = nI (7 * r + j) := by
      rw [show (7 : Int32) = nI 7 from rfl, pk_mul, nI_add]
    rw [e1, e2, nI_clamp (n := 2 ^ j - 1) (by omega), nI_clamp (n := 7 * r + j) (by omega)]
    refine ⟨st, j2, by rw [s2]; exact vp_in_nI (by omega) (by decide), cn, j6, by rw [s6]; exact vp_in_nI (by omega) (by decide), by rw [s2]; exact vp_in_nI (by omega) (by decide), fun I2 g2 x2 e2 => ?_⟩
    rw [e2, nI_1]
    have hv : I' st (2 ^ j - 1) = bI (S 0 (2 ^ j - 1) ^^ (decide (0 = 0) && cb r j (2 ^ j - 1))) := by
      have := b 0 (2 ^ j - 1) (by decide) (by omega)
      rw [show 64 * 0 + (2 ^ j - 1) = 2 ^ j - 1 by omega] at this
      exact this
    rw [hv, a cn (by decide), hT.2.1 (7 * r + j) (by omega), bI_x, bI_8, bI_8] at g2
    refine ih I2 ⟨fun c hc => (ms_o g2 hc).trans (a c hc), fun l z hl hz => ?_⟩
    rw [ms_k g2]
    by_cases h : 64 * l + z = 2 ^ j - 1
    · have hl0 : l = 0 := by omega
      have hz0 : z = 2 ^ j - 1 := by omega
      subst hl0
      rw [h, va_up_self, hz0]
      simp [cb]
    · rw [va_up_ne _ _ h, b l z hl hz]
      show bI _ = bI (S l z ^^ (decide (l = 0) && (cb r j z ^^ (decide (z = 2 ^ j - 1) && cstN (7 * r + j)))))
      by_cases h0 : l = 0
      · subst h0
        simp [show ¬ z = 2 ^ j - 1 by omega]
      · simp [h0]
theorem kX5 (W : KS) {x y : Nat} (hx : x < 5) (z : Nat) : kX W (5 * y + x) z = (W (5 * y + x) z ^^ ((!W (5 * y + (x + 1) % 5) z) && W (5 * y + (x + 2) % 5) z)) := by
  unfold kX
  rw [show (5 * y + x) / 5 = y by omega, show (5 * y + x) % 5 = x by omega]
theorem l_round53 (hC : MC X J) {I0 I : MI} {W : KS} (hW : ∀ l z, l < 25 → z < 64 → I wo (64 * l + z) = bI (W l z)) {r x y : Nat} (hx : x < 5) (hy : y < 5) (hF : FM I0 I)
    (hS : ∀ l z, l < 25 → z < 64 → 64 * l + z < 320 * y + 64 * x → I st (64 * l + z) = bI (kX W l z)) {q : MI → ML → Prop} {k1 k2 : Int32 → MI → ML → Prop}
    (hk : ∀ I', FM I0 I' → I' wo = I wo → (∀ l z, l < 25 → z < 64 → 64 * l + z < 320 * y + 64 * (x + 1) → I' st (64 * l + z) = bI (kX W l z)) → k2 (nI (x + 1)) I' L) : ∃ fu, wl_X8_round_53 X J q k1 k2 mo (nI r) (nI y) (nI x) fu 0 I L := by
  obtain ⟨⟨j1, j2, j3, j4, j5, j6, j7, j8, j9⟩, s1, s2, s3, s4, s5, s6, s7, s8, s9⟩ := hC
  refine pk_loop (σ := MI) (fun fu z I' => wl_X8_round_53 X J q k1 k2 mo (nI r) (nI y) (nI x) fu (nI z) I' L) (fun z I' => FM I0 I' ∧ I' wo = I wo ∧ ∀ l a, l < 25 → a < 64 → 64 * l + a < 320 * y + 64 * x + z → I' st (64 * l + a) = bI (kX W l a)) 64 0 I (by decide) ⟨hF, rfl, hS⟩ ?_ ?_
  · intro fu I' ⟨a, b, c⟩
    refine pk_le 64 64 (fun _ => fun x2 e2 => ?_) (fun z => absurd z (by omega))
    rw [e2, nI_1]
    exact hk I' a b (fun l z hl hz h => c l z hl hz (by omega))
  · intro fu z I' hz ⟨a, b, c⟩ ih
    refine pk_le 64 z (fun z => absurd z (by omega)) (fun _ => ?_)
    have e1 : jrem (nI x + 1) 5 = nI ((x + 1) % 5) := rem5 hx (by decide)
    have e2 : jrem (nI x + 2) 5 = nI ((x + 2) % 5) := rem5 hx (by decide)
    have m1 : (x + 1) % 5 < 5 := Nat.mod_lt _ (by decide)
    have m2 : (x + 2) % 5 < 5 := Nat.mod_lt _ (by decide)
    rw [e1, e2]
    refine ⟨wo, j3, c_bit ⟨by rw [s3]; exact vp_in_nI (by omega) (by decide), fun x5 e5 => ⟨st, j2, c_bit (c_bit ⟨by rw [s3]; exact vp_in_nI (by omega) (by decide), c_bit ⟨by rw [s3]; exact vp_in_nI (by omega) (by decide), by rw [s2]; exact vp_in_nI (by omega) (by decide), fun I2 g2 x4 e4 => ?_⟩⟩)⟩⟩⟩
    rw [e4, nI_1]
    rw [nI_clamp (by omega), b, hW _ _ (by omega) hz, bI_n] at e5
    rw [nI_clamp (n := 64 * (5 * y + x) + z) (by omega), nI_clamp (n := 64 * (5 * y + (x + 2) % 5) + z) (by omega), b, hW _ _ (by omega) hz, hW _ _ (by omega) hz, e5, bI_a, bI_x, bI_8, bI_8, ← kX5 W hx z] at g2
    refine ih I2 ⟨fun k b1 b2 b3 => (ms_o g2 b1).trans (a k b1 b2 b3), (ms_o g2 (by decide)).trans b, fun l w hl hw h => ?_⟩
    rw [ms_k g2]
    by_cases h' : 64 * l + w = 64 * (5 * y + x) + z
    · have hl' : l = 5 * y + x := by omega
      have hw' : w = z := by omega
      subst hl' hw'
      rw [va_up_self]
    · rw [va_up_ne _ _ h']
      exact c l w hl hw (by omega)
theorem l_round38 (hC : MC X J) {I0 I : MI} (hT : MT I0) {W : KS} (hW : ∀ l z, l < 25 → z < 64 → I wo (64 * l + z) = bI (W l z)) {r : Nat} (hr : r < 24) (hF : FM I0 I) {q : MI → ML → Prop} (hq : ∀ I', FM I0 I' → Ms I' (kI r (kX W)) → q I' L) : ∃ fu, wl_X8_round_38 X J q mo (nI r) fu 0 I L := by
  refine pk_loop (σ := MI) (fun fu y I' => wl_X8_round_38 X J q mo (nI r) fu (nI y) I' L) (fun y I' => FM I0 I' ∧ I' wo = I wo ∧ ∀ l z, l < 25 → z < 64 → 64 * l + z < 320 * y → I' st (64 * l + z) = bI (kX W l z)) 5 0 I (by decide) ⟨hF, rfl, fun l z _ _ h => absurd h (by omega)⟩ ?_ ?_
  · intro fu I2 ⟨c, d, e⟩
    refine pk_le 5 5 (fun _ => ?_) (fun z => absurd z (by omega))
    exact l_round145 hC (c.t hT) (fun l z hl hz => e l z hl hz (by omega)) hr (fun I3 f1 f2 => hq I3 (c.trans (fun k a _ _ => f1 k a)) f2)
  · intro fu y I2 hy ⟨c, d, e⟩ ih
    refine pk_le 5 y (fun z => absurd z (by omega)) (fun _ => ?_)
    refine pk_loop (σ := MI) (fun fu x I' => wl_X8_round_45 X J q _ mo (nI r) (nI y) fu (nI x) I' L) (fun x I' => FM I0 I' ∧ I' wo = I wo ∧ ∀ l z, l < 25 → z < 64 → 64 * l + z < 320 * y + 64 * x → I' st (64 * l + z) = bI (kX W l z)) 5 0 I2 (by decide) ⟨c, d, e⟩ ?_ ?_
    · intro fu I3 ⟨c3, d3, e3⟩
      refine pk_le 5 5 (fun _ x1 e1 => ?_) (fun z => absurd z (by omega))
      rw [e1, nI_1]
      exact ih I3 ⟨c3, d3, fun l z hl hz h => e3 l z hl hz (by omega)⟩
    · intro fu x I3 hx ⟨c3, d3, e3⟩ ih3
      refine pk_le 5 x (fun z => absurd z (by omega)) (fun _ => ?_)
      exact l_round53 (I0 := I0) hC (fun l z hl hz => by rw [d3]; exact hW l z hl hz) hx hy c3 e3 (fun I4 f1 f2 f3 => ih3 I4 ⟨f1, f2.trans d3, f3⟩)
theorem c_round (hC : MC X J) {I : MI} (hT : MT I) {S : KS} (hS : Ms I S) {r : Nat} (hr : r < 24) {q : MI → ML → Prop} (hq : ∀ I', FM I I' → Ms I' (kR r S) → q I' L) : wp_X8_round X J mo (nI r) I L q := by
  obtain ⟨⟨j1, j2, j3, j4, j5, j6, j7, j8, j9⟩, s1, s2, s3, s4, s5, s6, s7, s8, s9⟩ := id hC
  refine c_theta hC hS (fun I1 f1 f2 => ?_)
  refine pk_loop (σ := MI) (fun fu i I' => wl_X8_round_6 X J q mo (nI r) fu (nI i) I' L) (fun i I' => (∀ c, c ≠ wo → I' c = I1 c) ∧ ∀ l z, l < 25 → z < 64 → 64 * l + z < i → I' wo (64 * l + z) = bI (kP (kT S) l z)) 1600 0 I1 (by decide) ⟨fun _ _ => rfl, fun l z _ _ h => absurd h (by omega)⟩ ?_ ?_
  · intro fu I2 ⟨a, b⟩
    refine pk_le 1600 1600 (fun _ => ?_) (fun z => absurd z (by omega))
    exact l_round38 (I0 := I) hC hT (fun l z hl hz => b l z hl hz (by omega)) hr (f1.trans (fun k _ h _ => a k h)) (fun I3 g1 g2 => hq I3 g1 g2)
  · intro fu i I2 hi ⟨a, b⟩ ih
    refine pk_le 1600 i (fun z => absurd z (by omega)) (fun _ => ?_)
    have hso : I2 so i = nI (srcN i) := by rw [a so (by decide)]; exact (f1.t hT).1 i hi
    have hsl := srcN_lt i hi
    rw [nI_clamp (n := i) (by omega)]
    refine ⟨wo, j3, st, j2, so, j5, by rw [s5]; exact vp_in_nI hi (by decide), by rw [s2, hso]; exact vp_in_nI hsl (by decide), by rw [s3]; exact vp_in_nI hi (by decide), fun I3 g3 x2 e2 => ?_⟩
    rw [e2, nI_1]
    rw [hso, nI_clamp (n := srcN i) (by omega)] at g3
    have hl : i / 64 < 25 := by omega
    have hv : I2 st (srcN i) = bI (kP (kT S) (i / 64) (i % 64)) := by
      rw [a st (by decide)]
      exact f2 (pl (i / 64)) ((i % 64 + (64 - rt (i / 64))) % 64) (pl_lt _ hl) (Nat.mod_lt _ (by decide))
    rw [hv, bI_8] at g3
    refine ih I3 ⟨fun c hc => (ms_o g3 hc).trans (a c hc), fun l z hl hz h => ?_⟩
    rw [ms_k g3]
    by_cases h' : 64 * l + z = i
    · rw [h', va_up_self, show i / 64 = l by omega, show i % 64 = z by omega]
    · rw [va_up_ne _ _ h']
      exact b l z hl hz (by omega)
theorem c_rounds (hC : MC X J) {I : MI} (hT : MT I) {S : KS} (hS : Ms I S) {q : MI → ML → Prop} (hq : ∀ I', FM I I' → Ms I' (kF S 24) → q I' L) : wp_X8_rounds X J mo I L q := by
  refine pk_loop (σ := MI) (fun fu i I' => wl_X8_rounds_2 X J q mo fu (nI i) I' L) (fun i I' => FM I I' ∧ Ms I' (kF S i)) 24 0 I (by decide) ⟨FM.rf, hS⟩ ?_ ?_
  · intro fu I' ⟨a, b⟩
    exact pk_le 24 24 (fun _ => hq I' a b) (fun z => absurd z (by omega))
  · intro fu i I' hi ⟨a, b⟩ ih
    refine pk_le 24 i (fun z => absurd z (by omega)) (fun _ => ?_)
    refine c_round hC (a.t hT) b hi (fun I2 f1 f2 => ?_)
    intro x1 e1
    rw [e1, nI_1]
    exact ih I2 ⟨a.trans f1, f2⟩
end MRD
