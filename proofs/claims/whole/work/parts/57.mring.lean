theorem sN_le {g : Nat → Nat} {K : Nat} : ∀ {n : Nat}, (∀ i, i < n → g i ≤ K) → sN g n ≤ n * K
  | 0, _ => by rw [Nat.zero_mul]; exact Nat.le_refl 0
  | n + 1, h => by
    show sN g n + g n ≤ (n + 1) * K
    rw [Nat.succ_mul]
    exact Nat.add_le_add (sN_le (n := n) (fun i hi => h i (by omega))) (h n (by omega))
theorem oddN_lt : ∀ i, i < 128 → oddN i < 256 := by decide +kernel
section MRG
variable {X : XT} {J : MJ} {L : ML}
theorem MT.fp {I I' : MI} {p : Nat} (hT : MT I) (h : FP I I' p) : MT I' := ⟨fun i hi => by rw [h.1 so (by decide)]; exact hT.1 i hi, fun i hi => by rw [h.1 cn (by decide)]; exact hT.2.1 i hi, fun i hi => by rw [h.1 pw (by decide)]; exact hT.2.2.1 i hi, fun i hi => by rw [h.1 od (by decide)]; exact hT.2.2.2 i hi⟩
theorem l_fwd24 (hC : MC X J) {I : MI} (hT : MT I) {p : Nat} (hp : p < 18) {f : Nat → Nat} (hf : Pm I 18 f) {i : Nat} (hi : i < 128) {q : MI → ML → Prop} {k : Int32 → MI → ML → Prop}
    (hk : ∀ I', (∀ c, c ≠ po → I' c = I c) → I' po = va_up (va_up (I po) (256 * p + 2 * i) (nI (fwd f (2 * i)))) (256 * p + 2 * i + 1) (nI (fwd f (2 * i + 1))) → k (nI (i + 1)) I' L) : ∃ fu, wl_X8_bringForward_24 X J q k mo (nI p) (nI i) fu 0 0 0 I L := by
  obtain ⟨⟨j1, j2, j3, j4, j5, j6, j7, j8, j9⟩, s1, s2, s3, s4, s5, s6, s7, s8, s9⟩ := id hC
  have hb : ∀ e n, n ≤ 128 → e < 2 → sN (fun j => powN (oddN i * j % 256) * f (2 * j + e)) n ≤ n * (3328 * 3328) := fun e n hn he => sN_le fun j hj => Nat.mul_le_mul (by have := powN_lt (oddN i * j % 256); omega) (by have := (hf (2 * j + e) (by omega)).1; omega)
  refine pk2 (fun fu j x3 x5 => wl_X8_bringForward_24 X J q k mo (nI p) (nI i) fu x3 x5 (nI j) I L) (fun j x3 x5 => x3 = lN (sN (fun j => powN (oddN i * j % 256) * f (2 * j + 0)) j) ∧ x5 = lN (sN (fun j => powN (oddN i * j % 256) * f (2 * j + 1)) j)) 128 0 0 0 (by decide) ⟨rfl, rfl⟩ ?_ ?_
  · intro fu x3 x5 ⟨a, b⟩
    refine pk_le 128 128 (fun _ => ⟨po, j7, ?_⟩) (fun z => absurd z (by omega))
    have e1 : (256 * nI p + 2 * nI i : Int32) = nI (256 * p + 2 * i) := by
      rw [show (2 : Int32) * nI i = nI (2 * i) from pk_mul 2 i, e256]
    have b0 := hb 0 128 (by decide) (by decide)
    have b1 := hb 1 128 (by decide) (by decide)
    rw [a, b, e1, nI_1, nI_clamp (n := 256 * p + 2 * i) (by omega), nI_clamp (n := 256 * p + 2 * i + 1) (by omega)]
    refine c_ringN (by omega) ⟨by rw [s7]; exact vp_in_nI (by omega) (by decide), fun I8 e8 => ?_⟩
    refine c_ringN (by omega) ⟨by rw [s7]; exact vp_in_nI (by omega) (by decide), fun I13 e13 x2 e2 => ?_⟩
    rw [e2, nI_1]
    refine hk I13 (fun c hc => (ms_o e13 hc).trans (ms_o e8 hc)) ?_
    rw [ms_k e13, ms_k e8]
    unfold fwd
    rw [show 2 * i / 2 = i by omega, show 2 * i % 2 = 0 by omega, show (2 * i + 1) / 2 = i by omega, show (2 * i + 1) % 2 = 1 by omega]
  · intro fu j x3 x5 hj ⟨a, b⟩ ih
    refine pk_le 128 j (fun z => absurd z (by omega)) (fun _ => ⟨pw, j8, od, j9, ?_⟩)
    have ho := oddN_lt i hi
    have hoj : oddN i * j ≤ 255 * 127 := Nat.mul_le_mul (by omega) (by omega)
    have hm := Nat.mod_lt (oddN i * j) (show 0 < 256 by decide)
    have e1 : (4608 + 2 * nI j : Int32) = nI (256 * 18 + 2 * j) := by
      rw [show (2 : Int32) * nI j = nI (2 * j) from pk_mul 2 j]
      exact nI_add 4608 (2 * j)
    rw [nI_clamp (n := i) (by omega), hT.2.2.2 i hi, pk_mul, show (256 : Int32) = nI 256 from rfl, jrem_n (by omega) (by decide) (by decide), nI_clamp (n := oddN i * j % 256) (by omega), hT.2.2.1 _ hm, e1, nI_1, nI_clamp (n := 256 * 18 + 2 * j) (by omega), nI_clamp (n := 256 * 18 + 2 * j + 1) (by omega)]
    refine ⟨by rw [s9]; exact vp_in_nI hi (by decide), by rw [s8]; exact vp_in_nI hm (by decide), fun x8 e8 => ⟨po, j7, by rw [s7]; exact vp_in_nI (by omega) (by decide), fun y3 f3 => ⟨by rw [s7]; exact vp_in_nI (by omega) (by decide), fun y5 f5 x7 e7 => ?_⟩⟩⟩
    rw [e7, nI_1]
    have h0 := hf (2 * j) (by omega)
    have h1 := hf (2 * j + 1) (by omega)
    have hpw := powN_lt (oddN i * j % 256)
    rw [nI_l (by omega)] at e8
    rw [e8, a, h0.2, nI_l (by omega), lN_mul, lN_add] at f3
    rw [e8, b, show 256 * 18 + 2 * j + 1 = 256 * 18 + (2 * j + 1) by omega, h1.2, nI_l (by omega), lN_mul, lN_add] at f5
    exact ih y3 y5 ⟨f3, f5⟩
theorem c_mfwd (hC : MC X J) {I : MI} (hT : MT I) {p : Nat} (hp : p < 18) {f : Nat → Nat} (hf : Pm I p f) {q : MI → ML → Prop} (hq : ∀ I' I1, FP I I1 18 → FP I1 I' p → Pm I' p (fwd f) → q I' L) : wp_X8_bringForward X J mo (nI p) I L q := by
  refine c_copyPol hC (p' := 18) (by omega) (by decide) (by omega) hf (fun I1 u1 u2 => ?_)
  refine pk_loop (σ := MI) (fun fu i I' => wl_X8_bringForward_9 X J q mo (nI p) fu (nI i) I' L) (fun i I' => FP I1 I' p ∧ ∀ x, x < 2 * i → I' po (256 * p + x) = nI (fwd f x)) 128 0 I1 (by decide) ⟨FP.rf, fun x hx => absurd hx (by omega)⟩ ?_ ?_
  · intro fu I' ⟨a, b⟩
    exact pk_le 128 128 (fun _ => hq I' I1 u1 a (fun x hx => ⟨fwd_lt f x, b x (by omega)⟩)) (fun z => absurd z (by omega))
  · intro fu i I' hi ⟨a, b⟩ ih
    refine pk_le 128 i (fun z => absurd z (by omega)) (fun _ => ?_)
    refine l_fwd24 hC ((hT.fp u1).fp a) hp (a.o (by omega) u2) hi (fun I2 v1 v2 => ih I2 ⟨⟨fun k hk => (v1 k hk).trans (a.1 k hk), fun x hx => ?_⟩, fun x hx => ?_⟩)
    · rw [v2, va_up_ne _ _ (by omega), va_up_ne _ _ (by omega)]; exact a.2 x hx
    · rw [v2]
      by_cases e1 : x = 2 * i + 1
      · rw [e1, show 256 * p + (2 * i + 1) = 256 * p + 2 * i + 1 by omega, va_up_self]
      rw [va_up_ne _ _ (by omega)]
      by_cases e2 : x = 2 * i
      · rw [e2, va_up_self]
      rw [va_up_ne _ _ (by omega)]
      exact b x (by omega)
theorem l_bk24 (hC : MC X J) {I : MI} (hT : MT I) {p : Nat} (hp : p < 18) {f : Nat → Nat} (hf : Pm I 18 f) {i : Nat} (hi : i < 128) {q : MI → ML → Prop} {k : Int32 → MI → ML → Prop}
    (hk : ∀ I', (∀ c, c ≠ po → I' c = I c) → I' po = va_up (va_up (I po) (256 * p + 2 * i) (nI (bk f (2 * i)))) (256 * p + 2 * i + 1) (nI (bk f (2 * i + 1))) → k (nI (i + 1)) I' L) : ∃ fu, wl_X8_bringBack_24 X J q k mo (nI p) (nI i) fu 0 0 0 I L := by
  obtain ⟨⟨j1, j2, j3, j4, j5, j6, j7, j8, j9⟩, s1, s2, s3, s4, s5, s6, s7, s8, s9⟩ := id hC
  have hb : ∀ e n, n ≤ 128 → e < 2 → sN (fun j => powN ((256 - oddN j * i % 256) % 256) * f (2 * j + e)) n ≤ n * (3328 * 3328) := fun e n hn he => sN_le fun j hj => Nat.mul_le_mul (by have := powN_lt ((256 - oddN j * i % 256) % 256); omega) (by have := (hf (2 * j + e) (by omega)).1; omega)
  refine pk2 (fun fu j x3 x5 => wl_X8_bringBack_24 X J q k mo (nI p) (nI i) fu x3 x5 (nI j) I L) (fun j x3 x5 => x3 = lN (sN (fun j => powN ((256 - oddN j * i % 256) % 256) * f (2 * j + 0)) j) ∧ x5 = lN (sN (fun j => powN ((256 - oddN j * i % 256) % 256) * f (2 * j + 1)) j)) 128 0 0 0 (by decide) ⟨rfl, rfl⟩ ?_ ?_
  · intro fu x3 x5 ⟨a, b⟩
    refine pk_le 128 128 (fun _ => ⟨po, j7, ?_⟩) (fun z => absurd z (by omega))
    have e1 : (256 * nI p + 2 * nI i : Int32) = nI (256 * p + 2 * i) := by
      rw [show (2 : Int32) * nI i = nI (2 * i) from pk_mul 2 i, e256]
    have b0 := hb 0 128 (by decide) (by decide)
    have b1 := hb 1 128 (by decide) (by decide)
    have q3 : ∀ n : Nat, (3303 : Int64) * (nI (n % 3329)).toInt64 = lN (3303 * (n % 3329)) := fun n => by
      rw [nI_l (by omega)]
      exact lN_mul 3303 (n % 3329)
    rw [a, b, e1, nI_1, nI_clamp (n := 256 * p + 2 * i) (by omega), nI_clamp (n := 256 * p + 2 * i + 1) (by omega)]
    refine c_ringN (by omega) ?_
    rw [q3]
    refine c_ringN (by omega) ⟨by rw [s7]; exact vp_in_nI (by omega) (by decide), fun I8 e8 => ?_⟩
    refine c_ringN (by omega) ?_
    rw [q3]
    refine c_ringN (by omega) ⟨by rw [s7]; exact vp_in_nI (by omega) (by decide), fun I13 e13 x2 e2 => ?_⟩
    rw [e2, nI_1]
    refine hk I13 (fun c hc => (ms_o e13 hc).trans (ms_o e8 hc)) ?_
    rw [ms_k e13, ms_k e8]
    unfold bk
    rw [show 2 * i / 2 = i by omega, show 2 * i % 2 = 0 by omega, show (2 * i + 1) / 2 = i by omega, show (2 * i + 1) % 2 = 1 by omega]
  · intro fu j x3 x5 hj ⟨a, b⟩ ih
    refine pk_le 128 j (fun z => absurd z (by omega)) (fun _ => ⟨pw, j8, od, j9, ?_⟩)
    have ho := oddN_lt j hj
    have hoj : oddN j * i ≤ 255 * 127 := Nat.mul_le_mul (by omega) (by omega)
    have hm0 := Nat.mod_lt (oddN j * i) (show 0 < 256 by decide)
    have hm := Nat.mod_lt (256 - oddN j * i % 256) (show 0 < 256 by decide)
    have e1 : (4608 + 2 * nI j : Int32) = nI (256 * 18 + 2 * j) := by
      rw [show (2 : Int32) * nI j = nI (2 * j) from pk_mul 2 j]
      exact nI_add 4608 (2 * j)
    have er : jrem (256 - jrem (nI (oddN j) * nI i) 256) 256 = nI ((256 - oddN j * i % 256) % 256) := by
      rw [pk_mul, show (256 : Int32) = nI 256 from rfl, jrem_n (by omega) (by decide) (by decide), pk_sub (by omega), jrem_n (by omega) (by decide) (by decide)]
    rw [nI_clamp (n := j) (by omega), hT.2.2.2 j hj, er, nI_clamp (n := (256 - oddN j * i % 256) % 256) (by omega), hT.2.2.1 _ hm, e1, nI_1, nI_clamp (n := 256 * 18 + 2 * j) (by omega), nI_clamp (n := 256 * 18 + 2 * j + 1) (by omega)]
    refine ⟨by rw [s9]; exact vp_in_nI hj (by decide), by rw [s8]; exact vp_in_nI hm (by decide), fun x8 e8 => ⟨po, j7, by rw [s7]; exact vp_in_nI (by omega) (by decide), fun y3 f3 => ⟨by rw [s7]; exact vp_in_nI (by omega) (by decide), fun y5 f5 x7 e7 => ?_⟩⟩⟩
    rw [e7, nI_1]
    have h0 := hf (2 * j) (by omega)
    have h1 := hf (2 * j + 1) (by omega)
    have hpw := powN_lt ((256 - oddN j * i % 256) % 256)
    rw [nI_l (by omega)] at e8
    rw [e8, a, h0.2, nI_l (by omega), lN_mul, lN_add] at f3
    rw [e8, b, show 256 * 18 + 2 * j + 1 = 256 * 18 + (2 * j + 1) by omega, h1.2, nI_l (by omega), lN_mul, lN_add] at f5
    exact ih y3 y5 ⟨f3, f5⟩
theorem c_mbk (hC : MC X J) {I : MI} (hT : MT I) {p : Nat} (hp : p < 18) {f : Nat → Nat} (hf : Pm I p f) {q : MI → ML → Prop} (hq : ∀ I' I1, FP I I1 18 → FP I1 I' p → Pm I' p (bk f) → q I' L) : wp_X8_bringBack X J mo (nI p) I L q := by
  refine c_copyPol hC (p' := 18) (by omega) (by decide) (by omega) hf (fun I1 u1 u2 => ?_)
  refine pk_loop (σ := MI) (fun fu i I' => wl_X8_bringBack_9 X J q mo (nI p) fu (nI i) I' L) (fun i I' => FP I1 I' p ∧ ∀ x, x < 2 * i → I' po (256 * p + x) = nI (bk f x)) 128 0 I1 (by decide) ⟨FP.rf, fun x hx => absurd hx (by omega)⟩ ?_ ?_
  · intro fu I' ⟨a, b⟩
    exact pk_le 128 128 (fun _ => hq I' I1 u1 a (fun x hx => ⟨bk_lt f x, b x (by omega)⟩)) (fun z => absurd z (by omega))
  · intro fu i I' hi ⟨a, b⟩ ih
    refine pk_le 128 i (fun z => absurd z (by omega)) (fun _ => ?_)
    refine l_bk24 hC ((hT.fp u1).fp a) hp (a.o (by omega) u2) hi (fun I2 v1 v2 => ih I2 ⟨⟨fun k hk => (v1 k hk).trans (a.1 k hk), fun x hx => ?_⟩, fun x hx => ?_⟩)
    · rw [v2, va_up_ne _ _ (by omega), va_up_ne _ _ (by omega)]; exact a.2 x hx
    · rw [v2]
      by_cases e1 : x = 2 * i + 1
      · rw [e1, show 256 * p + (2 * i + 1) = 256 * p + 2 * i + 1 by omega, va_up_self]
      rw [va_up_ne _ _ (by omega)]
      by_cases e2 : x = 2 * i
      · rw [e2, va_up_self]
      rw [va_up_ne _ _ (by omega)]
      exact b x (by omega)
end MRG
