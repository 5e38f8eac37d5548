/-! ===== the tables that the reference makes of itself ===== -/
theorem lf_dec : ∀ x, x < 256 → jshl (nI x) 1 = nI (2 * x) ∧ ((nI (2 * x) &&& 256 = 0) ↔ x < 128) ∧ nI (2 * x) ^^^ 369 = nI ((2 * x) ^^^ 369) ∧ (128 ≤ x → (2 * x) ^^^ 369 < 256) ∧ jb8 (jb8 (nI x &&& 1)) = bI (decide (x % 2 = 1)) := by decide +kernel
theorem lf_lt : ∀ t, lfN t < 256
  | 0 => by decide
  | t + 1 => by
    have h := lf_lt t
    unfold lfN
    split
    · rename_i z; exact (lf_dec _ h).2.2.2.1 z
    · omega
section TB
variable {X : XT} {J : MJ}
theorem c_constants (hC : MC X J) (I : MI) (L : ML) {q : MI → ML → Prop} (h : ∀ I', (∀ c, c ≠ cn → I' c = I c) → (∀ t, t < 168 → I' cn t = bI (cstN t)) → q I' L) : wp_X8_constants X J mo I L q := by
  obtain ⟨⟨j1, j2, j3, j4, j5, j6, j7, j8, j9⟩, s1, s2, s3, s4, s5, s6, s7, s8, s9⟩ := hC
  unfold wp_X8_constants
  refine pk_loop (σ := Int32 × MI) (fun fu t s => wl_X8_constants_4 X J q mo fu s.1 (nI t) s.2 L) (fun t s => s.1 = nI (lfN t) ∧ (∀ c, c ≠ cn → s.2 c = I c) ∧ ∀ u, u < t → s.2 cn u = bI (cstN u)) 168 0 (1, I) (by decide) ⟨rfl, fun _ _ => rfl, fun u hu => absurd hu (by omega)⟩ ?_ ?_
  · intro fu s ⟨e1, e2, e3⟩
    exact pk_le 168 168 (fun _ => h s.2 e2 e3) (fun z => absurd z (by omega))
  · intro fu t s ht ⟨e1, e2, e3⟩ kk
    obtain ⟨x, I0⟩ := s
    have e1 : x = nI (lfN t) := e1
    have hd := lf_dec _ (lf_lt t)
    refine pk_le 168 t (fun z => absurd z (by omega)) (fun _ => ⟨cn, j6, ?_, fun I' eI x1 ex => ?_⟩)
    · rw [s6]; exact pk_in t 168 ht
    · rw [e1, hd.2.2.2.2, nI_clamp (by omega)] at eI
      have eI : I' = ms I0 cn t (bI (cstN t)) := eI
      have k1 : ∀ c, c ≠ cn → I' c = I c := fun c hc => (ms_o eI hc).trans (e2 c hc)
      have k2 : ∀ u, u < t + 1 → I' cn u = bI (cstN u) := fun u hu => by
        rw [ms_k eI]
        by_cases z : u = t
        · rw [z, va_up_self]
        · rw [va_up_ne _ _ z]; exact e3 u (by omega)
      rw [e1, hd.1] at ex
      subst ex
      refine ⟨fun z => ?_, fun z x2 ex2 => ?_⟩
      · have hx := hd.2.1.mp z
        intro x3 e3'
        rw [e3', nI_1]
        exact kk (nI (2 * lfN t), I') ⟨by show _ = nI (lfN (t + 1)); rw [lfN, if_neg (by omega)], k1, k2⟩
      · have hx : 128 ≤ lfN t := by
          rcases Nat.lt_or_ge (lfN t) 128 with y | y
          · exact absurd (hd.2.1.mpr y) z
          · exact y
        intro x3 e3'
        rw [e3', nI_1, ex2, hd.2.2.1]
        exact kk (nI ((2 * lfN t) ^^^ 369), I') ⟨by show _ = nI (lfN (t + 1)); rw [lfN, if_pos hx], k1, k2⟩
def rv7 (i : Nat) : Nat → Nat
  | 0 => 0
  | j + 1 => rv7 i j ||| (i / 2 ^ j % 2) * 2 ^ (6 - j)
theorem rv_dec : ∀ i, i < 128 → ∀ j, j < 7 → nI (rv7 i j) ||| jshl (jshr (nI i) (nI j) &&& 1) (6 - nI j) = nI (rv7 i (j + 1)) := by decide +kernel
theorem rv_end : ∀ i, i < 128 → rv7 i 7 = rev7 i ∧ 2 * nI (rv7 i 7) + 1 = nI (oddN i) := by decide +kernel
theorem c_powers (hC : MC X J) (I : MI) (L : ML) {q : MI → ML → Prop} (h : ∀ I', (∀ c, c ≠ pw → c ≠ od → I' c = I c) → (∀ i, i < 256 → I' pw i = nI (powN i)) → (∀ i, i < 128 → I' od i = nI (oddN i)) → q I' L) : wp_X8_powers X J mo I L q := by
  obtain ⟨⟨j1, j2, j3, j4, j5, j6, j7, j8, j9⟩, s1, s2, s3, s4, s5, s6, s7, s8, s9⟩ := hC
  unfold wp_X8_powers
  refine ⟨pw, j8, by rw [s8]; exact pk_in 0 256 (by decide), fun I0 e0 => ?_⟩
  have e0 : I0 = ms I pw 0 1 := e0
  refine pk_loop (σ := MI) (fun fu i I' => wl_X8_powers_9 X J q mo fu (nI i) I' L) (fun i I' => 1 ≤ i ∧ (∀ c, c ≠ pw → I' c = I c) ∧ ∀ u, u < i → I' pw u = nI (powN u)) 256 1 I0 (by decide) ⟨Nat.le_refl _, fun c hc => ms_o e0 hc, fun u hu => by rw [ms_k e0, show u = 0 by omega, va_up_self]; rfl⟩ ?_ ?_
  · intro fu I1 ⟨_, f1, f2⟩
    refine pk_le 256 256 (fun _ => ?_) (fun z => absurd z (by omega))
    refine pk_loop (σ := MI) (fun fu i I' => wl_X8_powers_45 X J q mo fu (nI i) I' L) (fun i I' => (∀ c, c ≠ od → I' c = I1 c) ∧ ∀ u, u < i → I' od u = nI (oddN u)) 128 0 I1 (by decide) ⟨fun _ _ => rfl, fun u hu => absurd hu (by omega)⟩ ?_ ?_
    · intro fu I2 ⟨g1, g2⟩
      refine pk_le 128 128 (fun _ => ?_) (fun z => absurd z (by omega))
      exact h I2 (fun c a b => (g1 c b).trans (f1 c a)) (fun i hi => by rw [g1 pw (by decide)]; exact f2 i hi) g2
    · intro fu i I2 hi ⟨g1, g2⟩ kk
      refine pk_le 128 i (fun z => absurd z (by omega)) (fun _ => ?_)
      refine pk_loop (σ := Int32) (fun fu2 j x2 => wl_X8_powers_56 X J q (wl_X8_powers_45 X J q mo fu) mo (nI i) fu2 x2 (nI j) I2 L) (fun j x2 => x2 = nI (rv7 i j)) 7 0 0 (by decide) rfl ?_ ?_
      · intro fu2 x2 e2
        refine pk_le 7 7 (fun _ => ⟨od, j9, by rw [s9]; exact pk_in i 128 hi, fun I3 e3 x1 e1 => ?_⟩) (fun z => absurd z (by omega))
        rw [e2, (rv_end i hi).2, nI_clamp (by omega)] at e3
        rw [e1, nI_1]
        refine kk I3 ⟨fun c hc => (ms_o e3 hc).trans (g1 c hc), fun u hu => ?_⟩
        rw [ms_k e3]
        by_cases z : u = i
        · rw [z, va_up_self]
        · rw [va_up_ne _ _ z]; exact g2 u (by omega)
      · intro fu2 j x2 hj e2 kk2
        refine pk_le 7 j (fun z => absurd z (by omega)) (fun _ x4 e4 x3 e3 => ?_)
        rw [e3, nI_1]
        refine kk2 x4 ?_
        rw [e4, e2, rv_dec i hi j hj]
  · intro fu i I1 hi ⟨hi1, f1, f2⟩ kk
    refine pk_le 256 i (fun z => absurd z (by omega)) (fun _ => ⟨pw, j8, ?_, ?_, fun I2 e2 x1 e1 => ?_⟩)
    · rw [s8]; exact pk_in (i - 1) 256 (by omega) (by rw [show (1 : Int32) = nI 1 from rfl, pk_sub hi1])
    · rw [s8]; exact pk_in i 256 hi
    · rw [show nI i - 1 = nI (i - 1) by rw [show (1 : Int32) = nI 1 from rfl, pk_sub hi1], nI_clamp (by omega), nI_clamp (by omega), f2 (i - 1) (by omega), show (17 : Int32) = nI 17 from rfl, pk_mul, show (3329 : Int32) = nI 3329 from rfl, jrem_n (by unfold powN; omega) (by decide) (by decide)] at e2
      rw [e1, nI_1]
      refine kk I2 ⟨by omega, fun c hc => (ms_o e2 hc).trans (f1 c hc), fun u hu => ?_⟩
      rw [ms_k e2]
      by_cases z : u = i
      · rw [z, va_up_self]
        congr 1
        unfold powN
        obtain ⟨k, rfl⟩ : ∃ k, i = k + 1 := ⟨i - 1, by omega⟩
        rw [Nat.add_sub_cancel, Nat.pow_succ, Nat.mul_comm (17 ^ k) 17, Nat.mul_mod, Nat.mod_mod, ← Nat.mul_mod]
      · rw [va_up_ne _ _ z]; exact f2 u (by omega)
def tx : Nat → Nat × Nat
  | 0 => (1, 0)
  | t + 1 => ((tx t).2, (2 * (tx t).1 + 3 * (tx t).2) % 5)
def tdN (t : Nat) : Nat := 5 * ((2 * (tx t).1 + 3 * (tx t).2) % 5) + (tx t).2
theorem tx_dec : ∀ t, t < 24 → (tx t).1 < 5 ∧ (tx t).2 < 5 ∧ pl (tdN t) = 5 * (tx t).2 + (tx t).1 ∧ rt (tdN t) = (t + 1) * (t + 2) / 2 % 64 := by decide +kernel
theorem tx_all : ∀ l, l < 25 → l = 0 ∨ ∃ u, u < 24 ∧ tdN u = l := by decide +kernel
theorem c_turns (hC : MC X J) (I : MI) (L : ML) {q : MI → ML → Prop} (h : ∀ I', (∀ c, c ≠ so → I' c = I c) → (∀ i, i < 1600 → I' so i = nI (srcN i)) → q I' L) : wp_X8_turns X J mo I L q := by
  obtain ⟨⟨j1, j2, j3, j4, j5, j6, j7, j8, j9⟩, s1, s2, s3, s4, s5, s6, s7, s8, s9⟩ := hC
  unfold wp_X8_turns
  refine pk_loop (σ := MI) (fun fu z I' => wl_X8_turns_6 X J q mo 1 0 fu (nI z) I' L) (fun z I' => (∀ c, c ≠ so → I' c = I c) ∧ ∀ u, u < z → I' so u = nI (srcN u)) 64 0 I (by decide) ⟨fun _ _ => rfl, fun u hu => absurd hu (by omega)⟩ ?_ ?_
  · intro fu I1 ⟨f1, f2⟩
    refine pk_le 64 64 (fun _ => ?_) (fun z => absurd z (by omega))
    refine pk_loop (σ := Int32 × Int32 × MI) (fun fu t s => wl_X8_turns_37 X J q mo fu s.1 s.2.1 (nI t) s.2.2 L) (fun t s => s.1 = nI (tx t).1 ∧ s.2.1 = nI (tx t).2 ∧ (∀ c, c ≠ so → s.2.2 c = I c) ∧ ∀ i, i < 1600 → (i / 64 = 0 ∨ ∃ u, u < t ∧ tdN u = i / 64) → s.2.2 so i = nI (srcN i)) 24 0 (1, 0, I1) (by decide) ⟨rfl, rfl, f1, fun i hi hz => f2 i (by rcases hz with z | ⟨u, a, _⟩ <;> omega)⟩ ?_ ?_
    · intro fu s ⟨_, _, g1, g2⟩
      refine pk_le 24 24 (fun _ => ?_) (fun z => absurd z (by omega))
      exact h s.2.2 g1 (fun i hi => g2 i hi (tx_all (i / 64) (by omega)))
    · intro fu t s ht ⟨a1, a2, g1, g2⟩ kk
      obtain ⟨x1, x2, I2⟩ := s
      have a1 : x1 = nI (tx t).1 := a1
      have a2 : x2 = nI (tx t).2 := a2
      have hd := tx_dec t ht
      obtain ⟨x, y, hp⟩ : ∃ x y, tx t = (x, y) := ⟨_, _, rfl⟩
      rw [hp] at a1 a2 hd
      replace a1 : x1 = nI x := a1
      replace a2 : x2 = nI y := a2
      have hd1 : x < 5 := hd.1
      have hd2 : y < 5 := hd.2.1
      have hd3 : pl (tdN t) = 5 * y + x := hd.2.2.1
      have hd4 : rt (tdN t) = (t + 1) * (t + 2) / 2 % 64 := hd.2.2.2
      have hdt : tdN t = 5 * ((2 * x + 3 * y) % 5) + y := by unfold tdN; rw [hp]
      subst a1
      subst a2
      have e5 : jrem (2 * nI x + 3 * nI y) 5 = nI ((2 * x + 3 * y) % 5) := by
        rw [show (2 : Int32) = nI 2 from rfl, show (3 : Int32) = nI 3 from rfl, show (5 : Int32) = nI 5 from rfl, pk_mul, pk_mul, nI_add, jrem_n (by omega) (by decide) (by decide)]
      refine pk_le 24 t (fun z => absurd z (by omega)) (fun _ x4 e4 => ?_)
      rw [nI_1, show (2 : Int32) = nI 2 from rfl, nI_add, pk_mul, pk_div (Nat.lt_of_le_of_lt (Nat.mul_le_mul (show t + 1 ≤ 24 by omega) (show t + 2 ≤ 25 by omega)) (by decide)) (by decide) (by decide), show (64 : Int32) = nI 64 from rfl, jrem_n (Nat.lt_of_le_of_lt (Nat.div_le_self _ _) (Nat.lt_of_le_of_lt (Nat.mul_le_mul (show t + 1 ≤ 24 by omega) (show t + 2 ≤ 25 by omega)) (by decide))) (by decide) (by decide), ← hd4] at e4
      have hrt : rt (tdN t) < 64 := by rw [hd4]; exact Nat.mod_lt _ (by decide)
      subst e4
      generalize hr : rt (tdN t) = r at hrt
      have ey : (tx t).2 = y := by rw [hp]
      rw [ey]
      show ∃ fu0, wl_X8_turns_60 X J q (wl_X8_turns_37 X J q mo fu) mo (nI x) (nI y) (nI t) (nI r) fu0 (nI 0) I2 L
      refine pk_loop (σ := MI) (fun fu2 z I' => wl_X8_turns_60 X J q (wl_X8_turns_37 X J q mo fu) mo (nI x) (nI y) (nI t) (nI r) fu2 (nI z) I' L) (fun z I' => (∀ c, c ≠ so → I' c = I c) ∧ (∀ i, i < 1600 → (i / 64 = 0 ∨ ∃ u, u < t ∧ tdN u = i / 64) → i / 64 ≠ tdN t → I' so i = nI (srcN i)) ∧ ∀ u, u < z → I' so (64 * tdN t + u) = nI (srcN (64 * tdN t + u))) 64 0 I2 (by decide) ⟨g1, fun i hi hz _ => g2 i hi hz, fun u hu => absurd hu (by omega)⟩ ?_ ?_
      · intro fu2 I3 ⟨k1, k2, k3⟩
        refine pk_le 64 64 (fun _ x5 e5' x3 e3 => ?_) (fun z => absurd z (by omega))
        rw [e5', e5, e3, nI_1]
        refine kk (nI y, nI ((2 * x + 3 * y) % 5), I3) ⟨?_, ?_, k1, fun i hi hz => ?_⟩
        · show nI y = nI (tx t).2; rw [hp]
        · show _ = nI ((2 * (tx t).1 + 3 * (tx t).2) % 5); rw [hp]
        · by_cases w : i / 64 = tdN t
          · have := k3 (i % 64) (Nat.mod_lt _ (by decide))
            rw [show 64 * tdN t + i % 64 = i by omega] at this
            exact this
          · refine k2 i hi ?_ w
            rcases hz with z | ⟨u, a, b⟩
            · exact Or.inl z
            · by_cases v : u = t
              · subst v; exact absurd b.symm w
              · exact Or.inr ⟨u, by omega, b⟩
      · intro fu2 z I3 hz ⟨k1, k2, k3⟩ kk2
        refine pk_le 64 z (fun w => absurd w (by omega)) (fun _ => ⟨so, j5, ?_⟩)
        have e6 : jrem ((nI z + 64) - nI r) 64 = nI ((z + 64 - r) % 64) := by
          rw [show (64 : Int32) = nI 64 from rfl, nI_add, pk_sub (by omega), jrem_n (by omega) (by decide) (by decide)]
        rw [e5, e6]
        refine c_bit (c_bit ⟨?_, fun I4 e4 x5 e5' => ?_⟩)
        · rw [s5]; exact pk_in (64 * (5 * ((2 * x + 3 * y) % 5) + y) + z) 1600 (by omega)
        · rw [nI_clamp (by omega)] at e4
          rw [e5', nI_1]
          have ed : 64 * (5 * ((2 * x + 3 * y) % 5) + y) = 64 * tdN t := by rw [hdt]
          rw [ed] at e4
          have ev : srcN (64 * tdN t + z) = 64 * (5 * y + x) + (z + 64 - r) % 64 := by
            unfold srcN
            rw [show (64 * tdN t + z) / 64 = tdN t by omega, show (64 * tdN t + z) % 64 = z by omega, hd3, hr, show z + (64 - r) = z + 64 - r by omega]
          rw [← ev] at e4
          refine kk2 I4 ⟨fun c hc => (ms_o e4 hc).trans (k1 c hc), fun i hi hy hne => ?_, fun u hu => ?_⟩
          · rw [ms_k e4, va_up_ne _ _ (by omega)]; exact k2 i hi hy hne
          · rw [ms_k e4]
            by_cases w : u = z
            · rw [w, va_up_self]
            · rw [va_up_ne _ _ (by omega)]; exact k3 u (by omega)
  · intro fu z I1 hz ⟨f1, f2⟩ kk
    refine pk_le 64 z (fun w => absurd w (by omega)) (fun _ => ⟨so, j5, ?_⟩)
    refine c_bit (x := 0) (y := 0) (c_bit (x := 0) (y := 0) ⟨?_, fun I4 e4 x5 e5' => ?_⟩)
    · rw [s5]; exact pk_in (64 * (5 * 0 + 0) + z) 1600 (by omega)
    · rw [nI_clamp (by omega)] at e4
      rw [e5', nI_1]
      have ez : 64 * (5 * 0 + 0) + z = z := by omega
      rw [ez] at e4
      have ev : srcN z = z := by
        unfold srcN
        rw [show z / 64 = 0 by omega, show z % 64 = z by omega, show pl 0 = 0 from rfl, show rt 0 = 0 from rfl]
        omega
      refine kk I4 ⟨fun c hc => (ms_o e4 hc).trans (f1 c hc), fun u hu => ?_⟩
      rw [ms_k e4]
      by_cases w : u = z
      · rw [w, va_up_self, ev]
      · rw [va_up_ne _ _ w]; exact f2 u (by omega)
end TB
