section MSP
variable {X : XT} {J : MJ} {L : ML}
def mb (I : MI) (i : Nat) : Nat := (I me i).toBitVec.toNat % 256
theorem mb_lt (I : MI) (i : Nat) : mb I i < 256 := Nat.mod_lt _ (by decide)
theorem jb8_t (x : Int32) : (jb8 x).toBitVec.toNat % 256 = x.toBitVec.toNat % 256 := by
  apply nat_ext
  intro b
  rw [show (256 : Nat) = 2 ^ 8 from rfl, Nat.testBit_mod_two_pow, Nat.testBit_mod_two_pow]
  by_cases h : b < 8
  · rw [decide_eq_true h, Bool.true_and, Bool.true_and]
    show (x.toInt8.toInt32).toBitVec.getLsbD b = x.toBitVec.getLsbD b
    rw [Int8.toBitVec_toInt32, BitVec.getLsbD_signExtend, Int32.toBitVec_toInt8, BitVec.getLsbD_signExtend]
    simp [show b < 32 by omega, h]
  · simp [h]
theorem jb8_j (x : Int32) : jb8 (jb8 x) = jb8 x := by
  unfold jb8
  simp
/-- a BYTE as the reference's array holds it -/
def cy (I : MI) (i : Nat) : Prop := jb8 (I me i) = I me i
theorem cy_w {I I' : MI} {a : Nat} {v : Int32} (h : I' me = va_up (I me) a (jb8 v)) : ∀ i, cy I i → cy I' i := by
  intro i hi
  unfold cy at *
  rw [h]
  by_cases e : i = a
  · rw [e, va_up_self, jb8_j]
  · rw [va_up_ne _ _ e]; exact hi
theorem cy_eq {I I' : MI} {i : Nat} (h : I' me = I me) (c : cy I i) : cy I' i := by
  unfold cy at *
  rw [h]; exact c
theorem cy_i {I : MI} {a b : Nat} (ha : cy I a) (hb : cy I b) : I me a = I me b ↔ mb I a = mb I b := by
  refine ⟨fun h => by unfold mb; rw [h], fun h => ?_⟩
  unfold cy at ha hb
  rw [← ha, ← hb]
  unfold jb8
  have : (I me a).toInt8 = (I me b).toInt8 := by
    apply Int8.toBitVec_inj.mp
    rw [Int32.toBitVec_toInt8, Int32.toBitVec_toInt8]
    apply BitVec.eq_of_getLsbD_eq
    intro j hj
    rw [BitVec.getLsbD_signExtend, BitVec.getLsbD_signExtend]
    have h2 := congrArg (fun n : Nat => n.testBit j) h
    unfold mb at h2
    simp only [show (256 : Nat) = 2 ^ 8 from rfl, Nat.testBit_mod_two_pow] at h2
    rw [decide_eq_true hj, Bool.true_and, Bool.true_and] at h2
    have h3 : (I me a).toBitVec.getLsbD j = (I me b).toBitVec.getLsbD j := h2
    rw [h3]
    simp [hj, show j < 32 by omega]
  rw [this]
def FQ (I I' : MI) : Prop := (∀ k, k ≠ st → k ≠ wo → k ≠ co → k ≠ mo → I' k = I k) ∧ ∀ j, j ≠ 14 → j ≠ 15 → I' mo j = I mo j
theorem FQ.rf {I : MI} : FQ I I := ⟨fun _ _ _ _ _ => rfl, fun _ _ _ => rfl⟩
theorem FQ.trans {I1 I2 I3 : MI} (h : FQ I1 I2) (g : FQ I2 I3) : FQ I1 I3 := ⟨fun k a b c d => (g.1 k a b c d).trans (h.1 k a b c d), fun j a b => (g.2 j a b).trans (h.2 j a b)⟩
theorem FM.q {I I' : MI} (h : FM I I') : FQ I I' := ⟨fun k a b c _ => h k a b c, fun j _ _ => by rw [h mo (by decide) (by decide) (by decide)]⟩
theorem FQ.t {I I' : MI} (h : FQ I I') (t : MT I) : MT I' := ⟨fun i hi => by rw [h.1 so (by decide) (by decide) (by decide) (by decide)]; exact t.1 i hi, fun i hi => by rw [h.1 cn (by decide) (by decide) (by decide) (by decide)]; exact t.2.1 i hi, fun i hi => by rw [h.1 pw (by decide) (by decide) (by decide) (by decide)]; exact t.2.2.1 i hi, fun i hi => by rw [h.1 od (by decide) (by decide) (by decide) (by decide)]; exact t.2.2.2 i hi⟩
theorem FQ.m {I I' : MI} (h : FQ I I') (i : Nat) : mb I' i = mb I i := by
  unfold mb
  rw [h.1 me (by decide) (by decide) (by decide) (by decide)]
def kt (S : KS) (p : Nat) (b : Bool) : KS := fun l z => S l z ^^ (decide (64 * l + z = p) && b)
/-- the reference's sponge at BIT p -/
def Mp (I : MI) (rate : Nat) (S : KS) (p : Nat) : Prop := Ms I S ∧ I mo 14 = nI p ∧ I mo 15 = nI (8 * rate)
theorem c_takes (hC : MC X J) {I : MI} (hT : MT I) {S : KS} {p rate : Nat} (h : Mp I rate S p) (hp : p < 8 * rate) (hr : rate ≤ 200) (b : Bool) {q : MI → ML → Prop}
    (h1 : ∀ I', FQ I I' → p + 1 ≠ 8 * rate → Mp I' rate (kt S p b) (p + 1) → q I' L) (h2 : ∀ I', FQ I I' → p + 1 = 8 * rate → Mp I' rate (kF (kt S p b) 24) 0 → q I' L) : wp_X8_takes X J mo (bI b) I L q := by
  obtain ⟨⟨j1, j2, j3, j4, j5, j6, j7, j8, j9⟩, s1, s2, s3, s4, s5, s6, s7, s8, s9⟩ := id hC
  obtain ⟨hS, hp14, hp15⟩ := h
  unfold wp_X8_takes
  rw [hp14, nI_clamp (n := p) (by omega)]
  refine ⟨st, j2, by rw [s2]; exact vp_in_nI (by omega) (by decide), by rw [s2]; exact vp_in_nI (by omega) (by decide), fun I4 e4 I5 e5 => ?_⟩
  have hv : I st p = bI (S (p / 64) (p % 64)) := by
    have := hS (p / 64) (p % 64) (by omega) (by omega)
    rw [show 64 * (p / 64) + p % 64 = p by omega] at this
    exact this
  rw [hv, bI_8, bI_x, bI_8, bI_8] at e4
  have hmo4 : I4 mo = I mo := ms_o e4 (by decide)
  have hmo : I5 mo = va_up (I mo) 14 (nI (p + 1)) := by rw [ms_k e5, hmo4, hp14, nI_1]
  have h14 : I5 mo 14 = nI (p + 1) := by rw [hmo, va_up_self]
  have h15 : I5 mo 15 = nI (8 * rate) := by rw [hmo, va_up_ne _ _ (by decide)]; exact hp15
  have hS5 : Ms I5 (kt S p b) := by
    intro l z hl hz
    rw [ms_o e5 (by decide), ms_k e4]
    unfold kt
    by_cases e : 64 * l + z = p
    · rw [e, va_up_self, show p / 64 = l by omega, show p % 64 = z by omega]
      simp
    · rw [va_up_ne _ _ e, hS l z hl hz]
      simp [e]
  have hF : FQ I I5 := ⟨fun k a1 a2 a3 a4 => (ms_o e5 a4).trans (ms_o e4 a1), fun j a1 a2 => by rw [hmo, va_up_ne _ _ a1]⟩
  rw [h14, h15, nI_eq (by omega) (by omega)]
  refine ⟨fun z => h1 I5 hF z ⟨hS5, h14, h15⟩, fun z => ?_⟩
  refine c_rounds hC (hF.t hT) hS5 (fun I6 f1 f2 => ?_)
  intro I8 e8
  have hmo8 : I8 mo = va_up (I5 mo) 14 0 := by rw [ms_k e8, f1 mo (by decide) (by decide) (by decide)]
  refine h2 I8 (hF.trans ⟨fun k a1 a2 a3 a4 => (ms_o e8 a4).trans (f1 k a1 a2 a3), fun j a1 a2 => by rw [hmo8, va_up_ne _ _ a1]⟩) z ⟨fun l z hl hz => ?_, by rw [hmo8, va_up_self]; exact nI_0.symm, by rw [hmo8, va_up_ne _ _ (by decide)]; exact h15⟩
  rw [ms_o e8 (by decide)]
  exact f2 l z hl hz
/-- the first j BITS of BYTE v come into the state at BYTE i -/
def kbj (S : KS) (i v j : Nat) : KS := fun l z => S l z ^^ (decide (l = i / 8) && (decide (8 * (i % 8) ≤ z) && (decide (z < 8 * (i % 8) + j) && v.testBit (z - 8 * (i % 8)))))
theorem kbj_0 (S : KS) (i v : Nat) : kE S (kbj S i v 0) := by
  intro l z _ _
  unfold kbj
  by_cases h : 8 * (i % 8) ≤ z
  · simp [show ¬ z < 8 * (i % 8) by omega]
  · simp [h]
theorem kbj_8 (S : KS) (i : Nat) {v : Nat} (hv : v < 256) : kE (kbj S i v 8) (kb S i v) := by
  intro l z _ _
  unfold kbj kb
  by_cases h : z < 8 * (i % 8) + 8
  · simp [h]
  · have : v.testBit (z - 8 * (i % 8)) = false := Nat.testBit_lt_two_pow (Nat.lt_of_lt_of_le hv (Nat.pow_le_pow_right (n := 2) (i := 8) (by decide) (by omega)))
    simp [h, this]
theorem kbj_s (S : KS) (i v : Nat) {j : Nat} (hj : j < 8) : kE (kt (kbj S i v j) (8 * i + j) (v.testBit j)) (kbj S i v (j + 1)) := by
  intro l z hl hz
  unfold kt kbj
  by_cases h : 64 * l + z = 8 * i + j
  · have h1 : l = i / 8 := by omega
    have h2 : z = 8 * (i % 8) + j := by omega
    subst h1
    rw [decide_eq_true h]
    simp [h2]
  · rw [decide_eq_false h, Bool.false_and, Bool.xor_false]
    by_cases h1 : l = i / 8
    · by_cases h2 : 8 * (i % 8) ≤ z
      · by_cases h3 : z < 8 * (i % 8) + j
        · simp [h1, h2, h3, show z < 8 * (i % 8) + (j + 1) by omega]
        · simp [h1, h2, h3, show ¬ z < 8 * (i % 8) + (j + 1) by omega]
      · simp [h2]
    · simp [h1]
theorem Mp_e {I : MI} {rate p : Nat} {S S' : KS} (h : Mp I rate S p) (g : kE S S') : Mp I rate S' p := ⟨Ms_e h.1 g, h.2⟩
theorem bit_of (v : Nat) (hv : v < 256) {j : Nat} (hj : j < 8) : (jshr (nI v) (nI j)) &&& 1 = bI (v.testBit j) := by
  rw [jshr_n (by omega) (by omega), show nI (v / 2 ^ j) &&& 1 = nI (v / 2 ^ j % 2) from pk_andN (Nat.lt_of_le_of_lt (Nat.div_le_self _ _) (by omega)) 1 rfl]
  rw [Nat.testBit_eq_decide_div_mod_eq]
  rcases (show v / 2 ^ j % 2 = 0 ∨ v / 2 ^ j % 2 = 1 by omega) with h | h <;> rw [h] <;> rfl
/-- the spec's pair, on the reference's side -/
def Mq (I : MI) (rate : Nat) (s : KS × Nat) : Prop := Mp I rate s.1 (8 * s.2)
theorem c_mbyteAt (hC : MC X J) {I : MI} {a : Nat} (ha : a < 20000) {q : Int32 → MI → ML → Prop} (h : q (nI (mb I a)) I L) : wp_X8_byteAt X J mo (nI a) I L q := by
  obtain ⟨⟨j1, j2, j3, j4, j5, j6, j7, j8, j9⟩, s1, s2, s3, s4, s5, s6, s7, s8, s9⟩ := id hC
  refine ⟨me, j1, by rw [s1]; exact vp_in_nI ha (by decide), ?_⟩
  rw [nI_clamp (n := a) (by omega), m255]
  exact h
theorem l_abs50 (hC : MC X J) {I : MI} (hT : MT I) {rate : Nat} (hr : rate ≤ 200) {s : KS × Nat} (h : Mq I rate s) (hs : s.2 < rate) {fr i : Nat} {x3 x4 : Int32} (hf : fr + i < 20000) {q : MI → ML → Prop} {k : Int32 → MI → ML → Prop}
    (hk : ∀ I', FQ I I' → Mq I' rate (kA rate s (mb I (fr + i))) → k (nI (i + 1)) I' L) : ∃ fu, wl_X8_absorb_50 X J q k mo (nI fr) x3 x4 (nI i) fu 0 I L := by
  obtain ⟨⟨j1, j2, j3, j4, j5, j6, j7, j8, j9⟩, s1, s2, s3, s4, s5, s6, s7, s8, s9⟩ := id hC
  refine pk_loop (σ := MI) (fun fu j I' => wl_X8_absorb_50 X J q k mo (nI fr) x3 x4 (nI i) fu (nI j) I' L) (fun j I' => FQ I I' ∧ (j < 8 → Mp I' rate (kbj s.1 s.2 (mb I (fr + i)) j) (8 * s.2 + j)) ∧ (j = 8 → Mq I' rate (kA rate s (mb I (fr + i))))) 8 0 I (by decide) ⟨FQ.rf, fun _ => Mp_e h (kbj_0 _ _ _), fun z => absurd z (by decide)⟩ ?_ ?_
  · intro fu I' ⟨a, b, c⟩
    refine pk_le 8 8 (fun _ x5 e5 => ?_) (fun z => absurd z (by omega))
    rw [e5, nI_1]
    exact hk I' a (c rfl)
  · intro fu j I' hj ⟨a, b, c⟩ ih
    refine pk_le 8 j (fun z => absurd z (by omega)) (fun _ => ?_)
    rw [nI_add]
    refine c_mbyteAt hC hf ?_
    rw [a.m (fr + i), bit_of _ (mb_lt _ _) hj]
    have hb := b hj
    refine c_takes hC (a.t hT) hb (by omega) hr _ (fun I2 f1 f2 f3 => ?_) (fun I2 f1 f2 f3 => ?_)
    · intro x6 e6
      rw [e6, nI_1]
      have g := Mp_e f3 (kbj_s s.1 s.2 (mb I (fr + i)) hj)
      refine ih I2 ⟨a.trans f1, fun _ => g, fun e => ?_⟩
      have hj7 : j = 7 := by omega
      subst hj7
      unfold kA
      rw [if_neg (by omega)]
      exact Mp_e g (kbj_8 _ _ (mb_lt _ _))
    · intro x6 e6
      rw [e6, nI_1]
      have hj7 : j = 7 := by omega
      subst hj7
      refine ih I2 ⟨a.trans f1, fun z => absurd z (by decide), fun _ => ?_⟩
      unfold kA
      rw [if_pos (by omega)]
      have g : Mp I2 rate (kF (kb s.1 s.2 (mb I (fr + i))) 24) 0 := Mp_e f3 (kF_e ((kbj_s s.1 s.2 (mb I (fr + i)) hj).tr (kbj_8 _ _ (mb_lt _ _))) 24)
      generalize kF (kb s.1 s.2 (mb I (fr + i))) 24 = T at g ⊢
      exact g
theorem kbj_n (S : KS) (i : Nat) {v j : Nat} (hv : v < 2 ^ j) : kE (kbj S i v j) (kb S i v) := by
  intro l z _ _
  unfold kbj kb
  by_cases h : z < 8 * (i % 8) + j
  · simp [h]
  · have : v.testBit (z - 8 * (i % 8)) = false := Nat.testBit_lt_two_pow (Nat.lt_of_lt_of_le hv (Nat.pow_le_pow_right (n := 2) (i := j) (by decide) (by omega)))
    simp [h, this]
theorem kt_last (S : KS) {rate : Nat} (h : 1 ≤ rate) : kE (kt S (8 * rate - 1) true) (kb S (rate - 1) 128) := by
  intro l z hl hz
  unfold kt kb
  by_cases e : 64 * l + z = 8 * rate - 1
  · have h1 : l = (rate - 1) / 8 := by omega
    have h2 : z = 8 * ((rate - 1) % 8) + 7 := by omega
    rw [decide_eq_true e, decide_eq_true h1, decide_eq_true (show 8 * ((rate - 1) % 8) ≤ z by omega), show z - 8 * ((rate - 1) % 8) = 7 by omega]
    rfl
  · rw [decide_eq_false e]
    by_cases h1 : l = (rate - 1) / 8
    · by_cases h2 : 8 * ((rate - 1) % 8) ≤ z
      · have h3 : z - 8 * ((rate - 1) % 8) ≠ 7 := by omega
        have : Nat.testBit 128 (z - 8 * ((rate - 1) % 8)) = false := by
          rw [show (128 : Nat) = 2 ^ 7 from rfl, Nat.testBit_two_pow]
          simp; omega
        simp [this]
      · simp [h2]
    · simp [h1]
theorem c_abs124 (hC : MC X J) {I : MI} (hT : MT I) {rate : Nat} (h8 : 8 ≤ rate) (hr : rate ≤ 200) {S : KS} {p v j : Nat} (hp : p < rate) (hj : j < 7) (hv : v.testBit j = true) (hv2 : v < 2 ^ (j + 1)) (h : Mp I rate (kbj S p v j) (8 * p + j)) {q : MI → ML → Prop}
    (hq : ∀ I', FQ I I' → Mp I' rate (kEn rate v (S, p)) 0 → q I' L) : wj_X8_absorb_124 X J q mo I L := by
  obtain ⟨⟨j1, j2, j3, j4, j5, j6, j7, j8, j9⟩, s1, s2, s3, s4, s5, s6, s7, s8, s9⟩ := id hC
  unfold wj_X8_absorb_124
  refine c_takes hC hT h (by omega) hr true (fun I3 f1 f2 f3 => ?_) (fun I3 f1 f2 f3 => absurd f2 (by omega))
  have g : Mp I3 rate (kb S p v) (8 * p + j + 1) := by
    rw [← hv] at f3
    exact Mp_e f3 ((kbj_s S p v (by omega)).tr (kbj_n S p hv2))
  rw [f3.2.2, show nI (8 * rate) - 1 = nI (8 * rate - 1) from pk_sub (a := 8 * rate) (b := 1) (by omega), nI_clamp (n := 8 * rate - 1) (by omega)]
  refine ⟨st, j2, by rw [s2]; exact vp_in_nI (by omega) (by decide), by rw [s2]; exact vp_in_nI (by omega) (by decide), fun I8 e8 => ?_⟩
  have hv8 : I3 st (8 * rate - 1) = bI (kb S p v ((8 * rate - 1) / 64) ((8 * rate - 1) % 64)) := by
    have := g.1 ((8 * rate - 1) / 64) ((8 * rate - 1) % 64) (by omega) (by omega)
    rw [show 64 * ((8 * rate - 1) / 64) + (8 * rate - 1) % 64 = 8 * rate - 1 by omega] at this
    exact this
  rw [hv8, show (1 : Int32) = bI true from rfl, bI_x, bI_8, bI_8] at e8
  have hS8 : Ms I8 (kt (kb S p v) (8 * rate - 1) true) := by
    intro l z hl hz
    rw [ms_k e8]
    unfold kt
    by_cases e : 64 * l + z = 8 * rate - 1
    · rw [e, va_up_self, show (8 * rate - 1) / 64 = l by omega, show (8 * rate - 1) % 64 = z by omega]
      simp
    · rw [va_up_ne _ _ e, g.1 l z hl hz]
      simp [e]
  have hF : FQ I I8 := f1.trans ⟨fun k a _ _ _ => ms_o e8 a, fun j _ _ => by rw [ms_o e8 (by decide)]⟩
  refine c_rounds hC (hF.t hT) hS8 (fun I9 u1 u2 => ?_)
  intro I11 e11
  have hmo : I11 mo = va_up (I8 mo) 14 0 := by rw [ms_k e11, u1 mo (by decide) (by decide) (by decide)]
  have hT2 : kE (kF (kt (kb S p v) (8 * rate - 1) true) 24) (kEn rate v (S, p)) := kF_e (kt_last _ (by omega)) 24
  have u3 := Ms_e u2 hT2
  generalize kEn rate v (S, p) = T at u3 hq
  refine hq I11 (hF.trans ⟨fun k a1 a2 a3 a4 => (ms_o e11 a4).trans (u1 k a1 a2 a3), fun j a1 a2 => by rw [hmo, va_up_ne _ _ a1]⟩) ⟨fun l z hl hz => ?_, by rw [hmo, va_up_self]; exact nI_0.symm, ?_⟩
  · rw [ms_o e11 (by decide)]
    exact u3 l z hl hz
  · rw [hmo, va_up_ne _ _ (by decide), ms_o e8 (by decide)]
    exact f3.2.2
theorem c_mabsorb (hC : MC X J) {I : MI} (hT : MT I) {rate fr n : Nat} (h8 : 8 ≤ rate) (hr : rate ≤ 200) (hf : fr + n ≤ 20000) (fx : Bool) {q : MI → ML → Prop}
    (hq : ∀ I', FQ I I' → Mp I' rate (kEn rate (if fx then 6 else 31) (kAb rate (fun i => mb I (fr + i)) n)) 0 → q I' L) : wp_X8_absorb X J mo (nI rate) (nI fr) (nI n) (bI fx) I L q := by
  obtain ⟨⟨j1, j2, j3, j4, j5, j6, j7, j8, j9⟩, s1, s2, s3, s4, s5, s6, s7, s8, s9⟩ := id hC
  intro I1 e1 I2 e2
  rw [show (8 : Int32) * nI rate = nI (8 * rate) from pk_mul 8 rate] at e1
  have hmo2 : I2 mo = va_up (va_up (I mo) 15 (nI (8 * rate))) 14 0 := by rw [ms_k e2, ms_k e1]
  have hF2 : FQ I I2 := ⟨fun k _ _ _ a => (ms_o e2 a).trans (ms_o e1 a), fun j a b => by rw [hmo2, va_up_ne _ _ a, va_up_ne _ _ b]⟩
  have h14 : I2 mo 14 = nI (8 * 0) := by rw [hmo2, va_up_self]; exact nI_0.symm
  have h15 : I2 mo 15 = nI (8 * rate) := by rw [hmo2, va_up_ne _ _ (by decide), va_up_self]
  refine pk_loop (σ := MI) (fun fu i I' => wl_X8_absorb_16 X J q mo (nI fr) (nI n) (bI fx) fu (nI i) I' L) (fun i I' => (∀ c, c ≠ st → I' c = I2 c) ∧ ∀ j, j < i → I' st j = 0) 1600 0 I2 (by decide) ⟨fun _ _ => rfl, fun j h => absurd h (by omega)⟩ ?_ ?_
  · intro fu I3 ⟨a, b⟩
    refine pk_le 1600 1600 (fun _ => ?_) (fun z => absurd z (by omega))
    have hF3 : FQ I I3 := hF2.trans ⟨fun k a1 _ _ _ => a k a1, fun j _ _ => by rw [a mo (by decide)]⟩
    refine pk_loop (σ := MI) (fun fu i I' => wl_X8_absorb_41 X J q mo (nI fr) (nI n) (bI fx) fu (nI i) I' L) (fun i I' => FQ I I' ∧ Mq I' rate (kAb rate (fun i => mb I (fr + i)) i)) n 0 I3 (Nat.zero_le _) ⟨hF3, fun l z hl hz => by rw [b _ (by omega)]; rfl, by rw [a mo (by decide)]; exact h14, by rw [a mo (by decide)]; exact h15⟩ ?_ ?_
    · intro fu I4 ⟨c, d⟩
      have hp := kAb_p (rate := rate) (by omega) (fun i => mb I (fr + i)) n
      generalize hs : kAb rate (fun i => mb I (fr + i)) n = s at d hp hq
      obtain ⟨S, p⟩ := s
      have hp' : p < rate := hp
      refine pk_le n n (fun _ => ?_) (fun z => absurd z (by omega))
      cases fx with
      | false =>
        refine ⟨fun _ => ?_, fun z => absurd rfl z⟩
        have hT4 := c.t hT
        refine pk_loop (σ := MI) (fun fu j I' => wl_X8_absorb_107 X J q mo fu (nI j) I' L) (fun j I' => FQ I I' ∧ Mp I' rate (kbj S p 31 j) (8 * p + j)) 4 0 I4 (by decide) ⟨c, Mp_e d (kbj_0 _ _ _)⟩ ?_ ?_
        · intro fu I5 ⟨c5, d5⟩
          refine pk_le 4 4 (fun _ => ?_) (fun z => absurd z (by omega))
          exact c_abs124 hC (c5.t hT) h8 hr hp' (by decide) (by decide) (by decide) d5 (fun I6 f1 f2 => hq I6 (c5.trans f1) f2)
        · intro fu j I5 hj ⟨c5, d5⟩ ih
          refine pk_le 4 j (fun z => absurd z (by omega)) (fun _ => ?_)
          have hb : Nat.testBit 31 j = true := (by decide : ∀ j, j < 4 → Nat.testBit 31 j = true) j hj
          refine c_takes hC (c5.t hT) d5 (by omega) hr true (fun I6 f1 f2 f3 => ?_) (fun I6 f1 f2 f3 => absurd f2 (by omega))
          intro x5 e5
          rw [e5, nI_1]
          rw [← hb] at f3
          exact ih I6 ⟨c5.trans f1, Mp_e f3 (kbj_s S p 31 (by omega))⟩
      | true =>
        refine ⟨fun z => absurd z (by decide), fun _ => ?_⟩
        refine c_takes hC (c.t hT) (Mp_e d (kbj_0 S p 6)) (by show 8 * p < 8 * rate; omega) hr false (fun I5 f1 f2 f3 => ?_) (fun I5 f1 f2 f3 => absurd (show 8 * p + 1 = 8 * rate from f2) (by omega))
        have g1 := Mp_e f3 (kbj_s S p 6 (j := 0) (by decide))
        refine c_takes hC ((c.trans f1).t hT) g1 (by show 8 * p + 0 + 1 < 8 * rate; omega) hr true (fun I6 u1 u2 u3 => ?_) (fun I6 u1 u2 u3 => absurd (show 8 * p + 0 + 1 + 1 = 8 * rate from u2) (by omega))
        have g2 := Mp_e u3 (kbj_s S p 6 (j := 1) (by decide))
        exact c_abs124 (v := 6) (j := 2) hC (((c.trans f1).trans u1).t hT) h8 hr hp' (by decide) (by decide) (by decide) g2 (fun I7 w1 w2 => hq I7 (((c.trans f1).trans u1).trans w1) w2)
    · intro fu i I4 hi ⟨c, d⟩ ih
      refine pk_le n i (fun z => absurd z (by omega)) (fun _ => ?_)
      refine l_abs50 hC (c.t hT) hr d (kAb_p (by omega) _ _) (by omega) (fun I5 f1 f2 => ih I5 ⟨c.trans f1, ?_⟩)
      rw [c.m] at f2
      exact f2
  · intro fu i I3 hi ⟨a, b⟩ ih
    refine pk_le 1600 i (fun z => absurd z (by omega)) (fun _ => ?_)
    rw [nI_clamp (n := i) (by omega)]
    refine ⟨st, j2, by rw [s2]; exact vp_in_nI hi (by decide), fun I4 g4 x5 e5 => ?_⟩
    rw [e5, nI_1]
    refine ih I4 ⟨fun c hc => (ms_o g4 hc).trans (a c hc), fun j hj => ?_⟩
    rw [ms_k g4]
    by_cases e : j = i
    · subst e; rw [va_up_self]; rfl
    · rw [va_up_ne _ _ e]; exact b j (by omega)
theorem or_n (a c : Nat) : nI a ||| nI c = nI (a ||| c) := by
  apply Int32.toBitVec_inj.mp
  show BitVec.ofNat 32 a ||| BitVec.ofNat 32 c = BitVec.ofNat 32 (a ||| c)
  apply BitVec.eq_of_getLsbD_eq
  intro i hi
  simp [hi]
def pG (S : KS) (i : Nat) : Nat → Nat
  | 0 => 0
  | j + 1 => pG S i j + bv (S (i / 8) (8 * (i % 8) + j)) j
theorem pG_lt (S : KS) (i : Nat) : ∀ j, pG S i j < 2 ^ j
  | 0 => Nat.one_pos
  | j + 1 => by
    have := pG_lt S i j
    have := bv_lt (S (i / 8) (8 * (i % 8) + j)) j
    show pG S i j + bv _ j < _
    rw [Nat.pow_succ]
    omega
theorem pG_8 (S : KS) (i : Nat) : pG S i 8 = kG S i := by
  simp [pG, kG]
theorem c_told20 (hC : MC X J) {I : MI} {rate : Nat} (hr : rate ≤ 200) {S : KS} {p : Nat} (hp : p < rate) (h : Mp I rate S (8 * p)) {q : Int32 → MI → ML → Prop}
    (hq : ∀ I', FQ I I' → Mp I' rate S (8 * (p + 1)) → q (nI (kG S p)) I' L) : wj_X8_told_20 X J q mo I L := by
  obtain ⟨⟨j1, j2, j3, j4, j5, j6, j7, j8, j9⟩, s1, s2, s3, s4, s5, s6, s7, s8, s9⟩ := id hC
  obtain ⟨hS, h14, h15⟩ := h
  refine pk_loop (σ := Int32) (fun fu j x => wl_X8_told_24 X J q mo fu x (nI j) I L) (fun j x => x = nI (pG S p j)) 8 0 0 (by decide) nI_0.symm ?_ ?_
  · intro fu x e
    refine pk_le 8 8 (fun _ I1 e1 => ?_) (fun z => absurd z (by omega))
    rw [h14, show nI (8 * p) + 8 = nI (8 * (p + 1)) from nI_add (8 * p) 8] at e1
    rw [e, pG_8]
    refine hq I1 ⟨fun k _ _ _ a => ms_o e1 a, fun j a _ => by rw [ms_k e1, va_up_ne _ _ a]⟩ ⟨fun l z hl hz => ?_, by rw [ms_k e1, va_up_self], by rw [ms_k e1, va_up_ne _ _ (by decide)]; exact h15⟩
    rw [ms_o e1 (by decide)]
    exact hS l z hl hz
  · intro fu j x hj e ih
    refine pk_le 8 j (fun z => absurd z (by omega)) (fun _ => ?_)
    rw [h14, nI_add, nI_clamp (n := 8 * p + j) (by omega)]
    refine ⟨st, j2, by rw [s2]; exact vp_in_nI (by omega) (by decide), fun x1 e1 x2 e2 => ?_⟩
    rw [e2, nI_1]
    refine ih x1 ?_
    have hv : I st (8 * p + j) = bI (S (p / 8) (8 * (p % 8) + j)) := by
      have := hS (p / 8) (8 * (p % 8) + j) (by omega) (by omega)
      rw [show 64 * (p / 8) + (8 * (p % 8) + j) = 8 * p + j by omega] at this
      exact this
    rw [e1, e, hv]
    show _ = nI (pG S p j + bv (S (p / 8) (8 * (p % 8) + j)) j)
    have hl := pG_lt S p j
    cases S (p / 8) (8 * (p % 8) + j) with
    | false =>
      show nI (pG S p j) ||| jshl (nI 0) (nI j) = nI (pG S p j + 0)
      rw [jshl_n (by omega) (by simp), or_n]
      simp
    | true =>
      show nI (pG S p j) ||| jshl (nI 1) (nI j) = nI (pG S p j + 2 ^ j)
      have h2 : 2 ^ j ≤ 256 := Nat.pow_le_pow_right (n := 2) (by decide) (show j ≤ 8 by omega)
      rw [jshl_n (by omega) (by omega), or_n, Nat.one_mul]
      congr 1
      have := Nat.two_pow_add_eq_or_of_lt hl 1
      rw [Nat.mul_one] at this
      rw [Nat.or_comm, ← this, Nat.add_comm]
theorem c_told (hC : MC X J) {I : MI} (hT : MT I) {rate : Nat} (h8 : 8 ≤ rate) (hr : rate ≤ 200) {S : KS} {j : Nat} (h : Mq I rate (kS rate S j)) {q : Int32 → MI → ML → Prop}
    (hq : ∀ I', FQ I I' → Mq I' rate (kS rate S (j + 1)) → q (nI (kO rate S j)) I' L) : wp_X8_told X J mo I L q := by
  have hp := kS_p (rate := rate) (by omega) S j
  obtain ⟨hS, h14, h15⟩ := id h
  unfold wp_X8_told
  rw [h14, h15, nI_eq (by omega) (by omega)]
  refine ⟨fun z => ?_, fun z => ?_⟩
  · have e : kN rate (kS rate S j) = kS rate S j := if_neg (fun y => z (by rw [y]))
    refine c_told20 hC hr (show (kS rate S j).2 < rate by omega) h (fun I' g1 g2 => ?_)
    have := hq I' g1
    unfold kO at this
    rw [show kS rate S (j + 1) = ((kN rate (kS rate S j)).1, (kN rate (kS rate S j)).2 + 1) from rfl, e] at this
    exact this g2
  · refine c_rounds hC hT hS (fun I5 f1 f2 => ?_)
    intro I8 e8
    have hmo : I8 mo = va_up (I mo) 14 0 := by rw [ms_k e8, f1 mo (by decide) (by decide) (by decide)]
    have e : kN rate (kS rate S j) = (kF (kS rate S j).1 24, 0) := if_pos (by omega)
    have hq' := fun I' => hq I'
    unfold kO at hq'
    rw [show kS rate S (j + 1) = ((kN rate (kS rate S j)).1, (kN rate (kS rate S j)).2 + 1) from rfl, e] at hq'
    generalize kF (kS rate S j).1 24 = T at f2 hq'
    refine c_told20 (p := 0) hC hr (by omega) (S := T) ⟨fun l z hl hz => by rw [ms_o e8 (by decide)]; exact f2 l z hl hz, by rw [hmo, va_up_self]; exact nI_0.symm, by rw [hmo, va_up_ne _ _ (by decide)]; exact h15⟩ (fun I' g1 g2 => hq' I' (FQ.trans ⟨fun k a1 a2 a3 a4 => (ms_o e8 a4).trans (f1 k a1 a2 a3), fun j a1 a2 => by rw [hmo, va_up_ne _ _ a1]⟩ g1) g2)
/-- what tells may change: the sponge and the BYTES from to on -/
def FT (I I' : MI) (to n : Nat) : Prop := (∀ k, k ≠ st → k ≠ wo → k ≠ co → k ≠ mo → k ≠ me → I' k = I k) ∧ (∀ j, j ≠ 14 → j ≠ 15 → I' mo j = I mo j) ∧ (∀ i, (i < to ∨ to + n ≤ i) → I' me i = I me i) ∧ ∀ i, cy I i → cy I' i
theorem c_tells (hC : MC X J) {I : MI} (hT : MT I) {rate : Nat} (h8 : 8 ≤ rate) (hr : rate ≤ 200) {S : KS} {j : Nat} (h : Mq I rate (kS rate S j)) {to n : Nat} (hn : to + n ≤ 20000) {q : MI → ML → Prop}
    (hq : ∀ I', FT I I' to n → Mq I' rate (kS rate S (j + n)) → (∀ i, i < n → mb I' (to + i) = kO rate S (j + i)) → q I' L) : wp_X8_tells X J mo (nI to) (nI n) I L q := by
  obtain ⟨⟨j1, j2, j3, j4, j5, j6, j7, j8, j9⟩, s1, s2, s3, s4, s5, s6, s7, s8, s9⟩ := id hC
  refine pk_loop (σ := MI) (fun fu i I' => wl_X8_tells_2 X J q mo (nI to) (nI n) fu (nI i) I' L) (fun i I' => FT I I' to i ∧ Mq I' rate (kS rate S (j + i)) ∧ ∀ a, a < i → mb I' (to + a) = kO rate S (j + a)) n 0 I (Nat.zero_le _) ⟨⟨fun _ _ _ _ _ _ => rfl, fun _ _ _ => rfl, fun _ _ => rfl, fun _ c => c⟩, h, fun a ha => absurd ha (by omega)⟩ ?_ ?_
  · intro fu I1 ⟨a, b, c⟩
    exact pk_le n n (fun _ => hq I1 a b c) (fun z => absurd z (by omega))
  · intro fu i I1 hi ⟨a, b, c⟩ ih
    refine pk_le n i (fun z => absurd z (by omega)) (fun _ => ⟨me, j1, ?_⟩)
    have hT1 : MT I1 := ⟨fun i hi => by rw [a.1 so (by decide) (by decide) (by decide) (by decide) (by decide)]; exact hT.1 i hi, fun i hi => by rw [a.1 cn (by decide) (by decide) (by decide) (by decide) (by decide)]; exact hT.2.1 i hi, fun i hi => by rw [a.1 pw (by decide) (by decide) (by decide) (by decide) (by decide)]; exact hT.2.2.1 i hi, fun i hi => by rw [a.1 od (by decide) (by decide) (by decide) (by decide) (by decide)]; exact hT.2.2.2 i hi⟩
    refine c_told hC hT1 h8 hr b (fun I2 f1 f2 => ?_)
    rw [nI_add, nI_clamp (n := to + i) (by omega)]
    refine ⟨by rw [s1]; exact vp_in_nI (by omega) (by decide), fun I3 g3 x3 e3 => ?_⟩
    rw [e3, nI_1]
    have hme : I2 me = I1 me := f1.1 me (by decide) (by decide) (by decide) (by decide)
    refine ih I3 ⟨⟨fun k a1 a2 a3 a4 a5 => by rw [ms_o g3 a5, f1.1 k a1 a2 a3 a4, a.1 k a1 a2 a3 a4 a5], fun j a1 a2 => by rw [ms_o g3 (by decide), f1.2 j a1 a2, a.2.1 j a1 a2], fun w hw => ?_, fun w hw => cy_w (ms_k g3) w (cy_eq hme (a.2.2.2 w hw))⟩, ?_, fun w hw => ?_⟩
    · rw [ms_k g3, va_up_ne _ _ (by omega), hme, a.2.2.1 w (by omega)]
    · refine ⟨fun l z hl hz => ?_, ?_, ?_⟩
      · rw [ms_o g3 (by decide)]; exact f2.1 l z hl hz
      · rw [ms_o g3 (by decide)]; exact f2.2.1
      · rw [ms_o g3 (by decide)]; exact f2.2.2
    · unfold mb
      rw [ms_k g3]
      by_cases e : w = i
      · subst e
        rw [va_up_self, jb8_t, jb8_t, pk_tn (Nat.lt_of_lt_of_le (kO_lt _ _ _) (by decide)), Nat.mod_eq_of_lt (kO_lt _ _ _)]
      · rw [va_up_ne _ _ (by omega), hme]
        exact c w (by omega)
end MSP
