section MDR
variable {X : XT} {J : MJ} {I : MI} {L : ML}
/-- what the reference may change: its sponge, BYTES from lo to hi, the polynomials of P -/
def MF (I I' : MI) (lo hi : Nat) (P : Nat → Prop) : Prop := (∀ k, k ≠ st → k ≠ wo → k ≠ co → k ≠ mo → k ≠ me → k ≠ po → I' k = I k) ∧ (∀ j, j ≠ 14 → j ≠ 15 → I' mo j = I mo j) ∧ (∀ i, (i < lo ∨ hi ≤ i) → I' me i = I me i) ∧ (∀ i, cy I i → cy I' i) ∧ ∀ p, ¬ P p → ∀ j, j < 256 → I' po (256 * p + j) = I po (256 * p + j)
theorem MF.rf {lo hi : Nat} {P : Nat → Prop} : MF I I lo hi P := ⟨fun _ _ _ _ _ _ _ => rfl, fun _ _ _ => rfl, fun _ _ => rfl, fun _ c => c, fun _ _ _ _ => rfl⟩
theorem MF.trans {I1 I2 I3 : MI} {lo hi : Nat} {P : Nat → Prop} (h : MF I1 I2 lo hi P) (g : MF I2 I3 lo hi P) : MF I1 I3 lo hi P := ⟨fun k a b c d e f => (g.1 k a b c d e f).trans (h.1 k a b c d e f), fun j a b => (g.2.1 j a b).trans (h.2.1 j a b), fun i a => (g.2.2.1 i a).trans (h.2.2.1 i a), fun i a => g.2.2.2.1 i (h.2.2.2.1 i a), fun p a j b => (g.2.2.2.2 p a j b).trans (h.2.2.2.2 p a j b)⟩
theorem MF.w {I1 I2 : MI} {lo hi lo' hi' : Nat} {P P' : Nat → Prop} (h : MF I1 I2 lo hi P) (hl : lo' ≤ lo) (hh : hi ≤ hi') (hp : ∀ p, P p → P' p) : MF I1 I2 lo' hi' P' := ⟨h.1, h.2.1, fun i a => h.2.2.1 i (by omega), h.2.2.2.1, fun p a => h.2.2.2.2 p (fun z => a (hp p z))⟩
theorem MF.t {I1 I2 : MI} {lo hi : Nat} {P : Nat → Prop} (h : MF I1 I2 lo hi P) (t : MT I1) : MT I2 := ⟨fun i hi => by rw [h.1 so (by decide) (by decide) (by decide) (by decide) (by decide) (by decide)]; exact t.1 i hi, fun i hi => by rw [h.1 cn (by decide) (by decide) (by decide) (by decide) (by decide) (by decide)]; exact t.2.1 i hi, fun i hi => by rw [h.1 pw (by decide) (by decide) (by decide) (by decide) (by decide) (by decide)]; exact t.2.2.1 i hi, fun i hi => by rw [h.1 od (by decide) (by decide) (by decide) (by decide) (by decide) (by decide)]; exact t.2.2.2 i hi⟩
theorem MF.m {I1 I2 : MI} {lo hi : Nat} {P : Nat → Prop} (h : MF I1 I2 lo hi P) {i : Nat} (hi : i < lo ∨ hi ≤ i) : mb I2 i = mb I1 i := by
  unfold mb
  rw [h.2.2.1 i hi]
theorem MF.p {I1 I2 : MI} {lo hi : Nat} {P : Nat → Prop} (h : MF I1 I2 lo hi P) {p : Nat} (hp : ¬ P p) {f : Nat → Nat} (hf : Pm I1 p f) : Pm I2 p f := fun j hj => ⟨(hf j hj).1, by rw [h.2.2.2.2 p hp j hj]; exact (hf j hj).2⟩
theorem FQ.f {I1 I2 : MI} {lo hi : Nat} {P : Nat → Prop} (h : FQ I1 I2) : MF I1 I2 lo hi P := ⟨fun k a b c d _ _ => h.1 k a b c d, h.2, fun i _ => by rw [h.1 me (by decide) (by decide) (by decide) (by decide)], fun i c => cy_eq (h.1 me (by decide) (by decide) (by decide) (by decide)) c, fun p _ j _ => by rw [h.1 po (by decide) (by decide) (by decide) (by decide)]⟩
theorem FT.f {I1 I2 : MI} {to n lo hi : Nat} {P : Nat → Prop} (h : FT I1 I2 to n) (hl : lo ≤ to) (hh : to + n ≤ hi) : MF I1 I2 lo hi P := ⟨fun k a b c d e _ => h.1 k a b c d e, h.2.1, fun i a => h.2.2.1 i (by omega), h.2.2.2, fun p _ j _ => by rw [h.1 po (by decide) (by decide) (by decide) (by decide) (by decide)]⟩
theorem FW.f {I1 I2 : MI} {to n lo hi : Nat} {P : Nat → Prop} (h : FW I1 I2 to n) (hl : lo ≤ to) (hh : to + n ≤ hi) : MF I1 I2 lo hi P := ⟨fun k _ _ _ _ e _ => h.1 k e, fun j _ _ => by rw [h.1 mo (by decide)], fun i a => h.2.1 i (by omega), h.2.2, fun p _ j _ => by rw [h.1 po (by decide)]⟩
theorem FP.f {I1 I2 : MI} {p lo hi : Nat} {P : Nat → Prop} (h : FP I1 I2 p) (hp : P p) : MF I1 I2 lo hi P := ⟨fun k _ _ _ _ _ e => h.1 k e, fun j _ _ => by rw [h.1 mo (by decide)], fun i _ => by rw [h.1 me (by decide)], fun i c => cy_eq (h.1 me (by decide)) c, fun p' a j hj => h.2 _ (by
  rcases Nat.lt_or_ge p' p with z | z
  · omega
  · rcases Nat.lt_or_ge p p' with y | y
    · omega
    · exact absurd hp (by rw [show p = p' by omega]; exact a))⟩
/-- n BYTES at a -/
def Mb (I : MI) (a n : Nat) (f : Nat → Nat) : Prop := ∀ i, i < n → mb I (a + i) = f i
theorem Mb.f {I1 I2 : MI} {lo hi a n : Nat} {P : Nat → Prop} {f : Nat → Nat} (h : Mb I1 a n f) (g : MF I1 I2 lo hi P) (hd : a + n ≤ lo ∨ hi ≤ a) : Mb I2 a n f := fun i hi => by rw [g.m (by omega)]; exact h i hi
theorem c_copy (hC : MC X J) {fr to n : Nat} (h1 : fr + n ≤ 20000) (h2 : to + n ≤ 20000) (hd : fr + n ≤ to ∨ to + n ≤ fr) {q : MI → ML → Prop} (hq : ∀ I', FW I I' to n → (∀ i, i < n → mb I' (to + i) = mb I (fr + i)) → q I' L) : wp_X8_copy X J mo (nI fr) (nI to) (nI n) I L q := by
  obtain ⟨⟨j1, j2, j3, j4, j5, j6, j7, j8, j9⟩, s1, s2, s3, s4, s5, s6, s7, s8, s9⟩ := id hC
  refine pk_loop (σ := MI) (fun fu i I' => wl_X8_copy_3 X J q mo (nI fr) (nI to) (nI n) fu (nI i) I' L) (fun i I' => FW I I' to n ∧ ∀ a, a < i → mb I' (to + a) = mb I (fr + a)) n 0 I (Nat.zero_le _) ⟨FW.rf, fun a ha => absurd ha (by omega)⟩ ?_ ?_
  · intro fu I1 ⟨a, b⟩
    exact pk_le n n (fun _ => hq I1 a b) (fun z => absurd z (by omega))
  · intro fu i I1 hi ⟨a, b⟩ ih
    refine pk_le n i (fun z => absurd z (by omega)) (fun _ => ⟨me, j1, ?_⟩)
    rw [nI_add, nI_add, nI_clamp (n := fr + i) (by omega), nI_clamp (n := to + i) (by omega)]
    refine ⟨by rw [s1]; exact vp_in_nI (by omega) (by decide), by rw [s1]; exact vp_in_nI (by omega) (by decide), fun I2 e2 x4 e4 => ?_⟩
    rw [e4, nI_1]
    refine ih I2 ⟨a.trans ⟨fun k hk => ms_o e2 hk, fun w hw => by rw [ms_k e2, va_up_ne _ _ (by omega)], cy_w (ms_k e2)⟩, fun w hw => ?_⟩
    by_cases e : w = i
    · subst e
      unfold mb
      rw [ms_k e2, va_up_self, jb8_t, a.2.1 _ (by omega)]
    · have : mb I2 (to + w) = mb I1 (to + w) := by unfold mb; rw [ms_k e2, va_up_ne _ _ (by omega)]
      rw [this, b w (by omega)]
theorem c_mkeep {I : MI} {s : Nat × (Nat → Nat)} (hs : s.1 < 256) (hf : ∀ j, j < s.1 → I po (4608 + j) = nI (s.2 j)) {x : Nat} (hx : x < 3329) {I' : MI} (e : I' = ms I po (4608 + s.1) (nI x)) : ∀ j, j < (kp s x).1 → I' po (4608 + j) = nI ((kp s x).2 j) := by
  have e' : kp s x = (s.1 + 1, va_up s.2 s.1 x) := if_pos ⟨hx, hs⟩
  rw [e']
  intro j hj
  have hj' : j < s.1 + 1 := hj
  rw [ms_k e]
  show _ = nI (va_up s.2 s.1 x j)
  by_cases z : j = s.1
  · rw [z, va_up_self, va_up_self]
  · rw [va_up_ne _ _ (by omega), va_up_ne _ _ z]; exact hf j (by omega)
theorem FP.q {I1 I2 I3 : MI} {lo hi : Nat} {P : Nat → Prop} (h : MF I1 I2 lo hi P) {x : Nat} {v : Int32} (hx : x < 256) (hp : P 18) (e : I3 = ms I2 po (4608 + x) v) : MF I1 I3 lo hi P :=
  h.trans (FP.f (p := 18) ⟨fun k hk => ms_o e hk, fun i hi => by rw [ms_k e, va_up_ne _ _ (by omega)]⟩ hp)
theorem Mq_o {I I' : MI} {rate : Nat} {s : KS × Nat} (h : Mq I rate s) (h1 : I' st = I st) (h2 : I' mo = I mo) : Mq I' rate s := ⟨fun l z hl hz => by rw [h1]; exact h.1 l z hl hz, by rw [h2]; exact h.2.1, by rw [h2]; exact h.2.2⟩
theorem c_sampled (hC : MC X J) (hT : MT I) {p most : Nat} (hp : p < 18) (hm : most < 1000) (hmo : I mo 8 = nI most) {g : Nat → Nat} (hg : Mb I 11336 34 g) {lo hi : Nat} {q : Int32 → MI → ML → Prop}
    (h1 : ∀ I', MF I I' lo hi (fun i => i = p ∨ i = 18) → sR (xof 168 31 34 g) most ≠ 0 → Pm I' p (us (xof 168 31 34 g) (sR (xof 168 31 34 g) most)).2 → q (nI (sR (xof 168 31 34 g) most)) I' L) (h0 : ∀ I', MF I I' lo hi (fun i => i = 18) → sR (xof 168 31 34 g) most = 0 → q (-1) I' L) : wp_X8_sampled X J mo (nI p) I L q := by
  obtain ⟨⟨j1, j2, j3, j4, j5, j6, j7, j8, j9⟩, s1, s2, s3, s4, s5, s6, s7, s8, s9⟩ := id hC
  refine c_mabsorb (rate := 168) (fr := 11336) (n := 34) hC hT (by decide) (by decide) (by decide) false (fun I0 f0 m0 => ?_)
  rw [kAb_c (g := g) (fun i hi => hg i hi)] at m0
  have ex : xof 168 31 34 g = kO 168 (kEn 168 31 (kAb 168 g 34)) := rfl
  rw [ex] at h1 h0
  rw [if_neg (by decide)] at m0
  generalize kEn 168 31 (kAb 168 g 34) = S at m0 h1 h0
  have hm0 : Mq I0 168 (kS 168 S 0) := m0
  have fin : ∀ (i : Nat) (I1 : MI), MF I I1 lo hi (fun i => i = 18) → (∀ j, j < (us (kO 168 S) i).1 → I1 po (4608 + j) = nI ((us (kO 168 S) i).2 j)) → i ≤ most → ((us (kO 168 S) i).1 = 256 → sR (kO 168 S) most = i ∧ i ≠ 0) → ((us (kO 168 S) i).1 < 256 → sR (kO 168 S) most = 0) → wj_X8_sampled_136 X J q mo (nI p) (nI (us (kO 168 S) i).1) (nI i) I1 L := by
    intro i I1 f1 f2 hi0 f3 f4
    have hb := us_b (kO 168 S) i
    refine pk_le 256 (us (kO 168 S) i).1 (fun z => ?_) (fun z => h0 I1 f1 (f4 z))
    have e256 : (us (kO 168 S) i).1 = 256 := by omega
    refine c_copyPol (p := 18) (p' := p) hC (by decide) (by omega) (by omega) (f := (us (kO 168 S) i).2) (fun j hj => ⟨us_lt _ _ _, f2 j (by omega)⟩) (fun I2 g1 g2 => ?_)
    obtain ⟨e1, e2⟩ := f3 e256
    have := h1 I2 ((f1.w (Nat.le_refl _) (Nat.le_refl _) (fun _ z => Or.inr z)).trans (FP.f g1 (Or.inl rfl)))
    rw [e1] at this
    exact this e2 g2
  refine pk_loop (σ := MI) (fun fu i I' => wl_X8_sampled_17 X J q mo (nI p) fu (nI (us (kO 168 S) i).1) (nI i) I' L) (fun i I' => MF I I' lo hi (fun i => i = 18) ∧ Mq I' 168 (kS 168 S (3 * i)) ∧ (∀ j, j < (us (kO 168 S) i).1 → I' po (4608 + j) = nI ((us (kO 168 S) i).2 j)) ∧ ∀ j, j < i → (us (kO 168 S) j).1 < 256) most 0 I0 (Nat.zero_le _) ⟨f0.f, hm0, fun j hj => absurd hj (by show ¬ j < 0; omega), fun j hj => absurd hj (by omega)⟩ ?_ ?_
  · intro fu I1 ⟨a1, a2, a3, a4⟩
    have hb := us_b (kO 168 S) most
    have key : (us (kO 168 S) most).1 = 256 → sR (kO 168 S) most = most ∧ most ≠ 0 := by
      intro z
      cases hmm : most with
      | zero => rw [hmm] at z; exact absurd z (by show ¬ (0 : Nat) = 256; decide)
      | succ M => rw [hmm] at z a4; exact ⟨sR_1 _ z (fun i hi => a4 i (by omega)) _ (Nat.le_refl _), by omega⟩
    have key0 : (us (kO 168 S) most).1 < 256 → sR (kO 168 S) most = 0 := fun z => sR_0 _ _ (fun i hi => by
      by_cases e : i = most
      · rw [e]; exact z
      · exact a4 i (by omega))
    refine pk_le 256 (us (kO 168 S) most).1 (fun _ => fin most I1 a1 a3 (Nat.le_refl _) key key0) (fun _ => ?_)
    rw [a1.2.1 8 (by decide) (by decide), hmo]
    exact pk_le most most (fun _ => fin most I1 a1 a3 (Nat.le_refl _) key key0) (fun z => absurd z (by omega))
  · intro fu i I1 him ⟨a1, a2, a3, a4⟩ ih
    have hb := us_b (kO 168 S) i
    refine pk_le 256 (us (kO 168 S) i).1 (fun z => ?_) (fun z => ?_)
    · refine fin i I1 a1 a3 (by omega) (fun y => ?_) (fun y => absurd y (by omega))
      cases hmm : i with
      | zero => rw [hmm] at y; exact absurd y (by show ¬ (0 : Nat) = 256; decide)
      | succ M => rw [hmm] at y a4; exact ⟨sR_1 _ y (fun i hi => a4 i (by omega)) _ (by omega), by omega⟩
    · rw [a1.2.1 8 (by decide) (by decide), hmo]
      refine pk_le most i (fun y => absurd y (by omega)) (fun _ => ?_)
      refine c_told hC (a1.t hT) (by decide) (by decide) a2 (fun I2 f2 m2 => ?_)
      refine c_told hC (f2.t (a1.t hT)) (by decide) (by decide) m2 (fun I3 f3 m3 => ?_)
      refine c_told hC (f3.t (f2.t (a1.t hT))) (by decide) (by decide) m3 (fun I4 f4 m4 => ?_)
      intro x3 e3 x7 e7 x8 e8
      have b0 := kO_lt 168 S (3 * i)
      have b1 := kO_lt 168 S (3 * i + 1)
      have b2 := kO_lt 168 S (3 * i + 1 + 1)
      rw [nI_1] at e3
      rw [show (16 : Int32) = nI 16 from rfl, jrem_n (by omega) (by decide) (by decide), show (256 : Int32) = nI 256 from rfl, pk_mul, nI_add] at e7
      rw [show (16 : Int32) = nI 16 from rfl, pk_div (by omega) (by decide) (by decide), pk_mul, nI_add] at e8
      have hF4 : MF I I4 lo hi (fun i => i = 18) := ((a1.trans f2.f).trans f3.f).trans f4.f
      have hpo : I4 po = I1 po := by rw [f4.1 po (by decide) (by decide) (by decide) (by decide), f3.1 po (by decide) (by decide) (by decide) (by decide), f2.1 po (by decide) (by decide) (by decide) (by decide)]
      have m4' : Mq I4 168 (kS 168 S (3 * (i + 1))) := by rw [show 3 * (i + 1) = 3 * i + 1 + 1 + 1 by omega]; exact m4
      have hus : us (kO 168 S) (i + 1) = kp (kp (us (kO 168 S) i) (kO 168 S (3 * i) + 256 * (kO 168 S (3 * i + 1) % 16))) (kO 168 S (3 * i + 1) / 16 + 16 * kO 168 S (3 * i + 1 + 1)) := rfl
      have last : ∀ (I5 : MI), MF I I5 lo hi (fun i => i = 18) → Mq I5 168 (kS 168 S (3 * (i + 1))) → (∀ j, j < (us (kO 168 S) (i + 1)).1 → I5 po (4608 + j) = nI ((us (kO 168 S) (i + 1)).2 j)) → wl_X8_sampled_17 X J q mo (nI p) fu (nI (us (kO 168 S) (i + 1)).1) (nI (i + 1)) I5 L := fun I5 d1 d2 d3 => ih I5 ⟨d1, d2, d3, fun j hj => by
        by_cases e : j = i
        · rw [e]; exact z
        · exact a4 j (by omega)⟩
      have second : ∀ (I5 : MI) (s : Nat × (Nat → Nat)), s = kp (us (kO 168 S) i) (kO 168 S (3 * i) + 256 * (kO 168 S (3 * i + 1) % 16)) → MF I I5 lo hi (fun i => i = 18) → Mq I5 168 (kS 168 S (3 * (i + 1))) → (∀ j, j < s.1 → I5 po (4608 + j) = nI (s.2 j)) → wj_X8_sampled_103 X J q (wl_X8_sampled_17 X J q mo (nI p) fu) mo (nI p) (nI s.1) (nI (i + 1)) (nI (kO 168 S (3 * i + 1) / 16 + 16 * kO 168 S (3 * i + 1 + 1))) I5 L := by
        intro I5 s es d1 d2 d3
        rw [← es] at hus
        have hsb : s.1 ≤ 256 := by rw [es]; exact kp_b hb
        refine pk_le 3329 (kO 168 S (3 * i + 1) / 16 + 16 * kO 168 S (3 * i + 1 + 1)) (fun y => ?_) (fun y => ?_)
        · have e : us (kO 168 S) (i + 1) = s := by rw [hus]; exact if_neg (by omega)
          rw [e] at last
          exact last I5 d1 d2 d3
        · refine pk_le 256 s.1 (fun y2 => ?_) (fun y2 => ?_)
          · have e : us (kO 168 S) (i + 1) = s := by rw [hus]; exact if_neg (by omega)
            rw [e] at last
            exact last I5 d1 d2 d3
          · rw [show (4608 : Int32) = nI 4608 from rfl, nI_add, nI_clamp (n := 4608 + s.1) (by omega), nI_1]
            refine ⟨po, j7, by rw [s7]; exact vp_in_nI (by omega) (by decide), fun I6 e6 x2 e2 => ?_⟩
            have hk := c_mkeep y2 d3 y e6
            have e' : (kp s (kO 168 S (3 * i + 1) / 16 + 16 * kO 168 S (3 * i + 1 + 1))).1 = s.1 + 1 := by unfold kp; rw [if_pos ⟨y, y2⟩]
            rw [← hus] at hk e'
            rw [e2, ← e']
            exact last I6 (FP.q d1 y2 rfl e6) (Mq_o d2 (ms_o e6 (by decide)) (ms_o e6 (by decide))) hk
      rw [e3, e7, e8]
      refine pk_le 3329 (kO 168 S (3 * i) + 256 * (kO 168 S (3 * i + 1) % 16)) (fun y => ?_) (fun y => ?_)
      · exact second I4 (us (kO 168 S) i) (by unfold kp; rw [if_neg (by omega)]) hF4 m4' (fun j hj => by rw [hpo]; exact a3 j hj)
      · rw [show (4608 : Int32) = nI 4608 from rfl, nI_add, nI_clamp (n := 4608 + (us (kO 168 S) i).1) (by omega), nI_1]
        refine ⟨po, j7, by rw [s7]; exact vp_in_nI (by omega) (by decide), fun I5 e5 x2 e2 => ?_⟩
        have hk := c_mkeep (s := us (kO 168 S) i) z (fun j hj => by rw [hpo]; exact a3 j hj) y e5
        have e' : (kp (us (kO 168 S) i) (kO 168 S (3 * i) + 256 * (kO 168 S (3 * i + 1) % 16))).1 = (us (kO 168 S) i).1 + 1 := by unfold kp; rw [if_pos ⟨y, z⟩]
        rw [e2, ← e']
        exact second I5 _ rfl (FP.q hF4 z rfl e5) (Mq_o m4' (ms_o e5 (by decide)) (ms_o e5 (by decide))) hk
end MDR
