/-! ===== the STATE: lengths and BYTES of the six rows (0 EK 1 DK 2 TEXT 3 SECRET 4 OUT 5 TAPE), polynomials, k, the bound ===== -/
abbrev VS : Type := (Nat → Nat) × (Nat → Nat → Nat) × (Nat → Nat → Nat) × Nat × Nat
def cw (w : Nat) : Nat := if w = 5 then 1 else 2 * w + 3
def rmW (w : Nat) : Nat := [1568, 3168, 1568, 32, 1000, 4000].getD w 0
def mbs (w : Nat) : Nat := [4000, 5568, 8736, 10304, 10336, 0].getD w 0
def sfW (w : Nat) : Nat := if w = 5 then 1 else w + 2
def setR (S : VS) (w n : Nat) (f : Nat → Nat) : VS := (va_up S.1 w n, va_up S.2.1 w f, S.2.2)
def setP (S : VS) (p : Nat) (f : Nat → Nat) : VS := (S.1, S.2.1, va_up S.2.2.1 p f, S.2.2.2)
def VJ (X : XT) (J : MJ) (e : Nat) : Prop := LC X J ∧ MC X J ∧ (J 0 0 = some 1 ∧ J 0 1 = some 3 ∧ J 0 2 = some 5 ∧ J 0 3 = some 7 ∧ J 0 4 = some 9 ∧ J 0 5 = some 11 ∧ J 0 6 = some 13 ∧ J 0 7 = some 18 ∧ J 0 8 = some 20 ∧ J 0 9 = some 21 ∧ J 0 10 = some 37 ∧ J 0 11 = some e) ∧ (∀ p, p < 4 → J 13 p = some (14 + p)) ∧ sl X 13 = 4 ∧ ∀ p, p < 4 → sl X (14 + p) = 256
def Cv (X : XT) (J : MJ) (I : MI) (S : VS) : Prop := (∀ w, w < 6 → RC X J I (cw w) (rmW w) (S.1 w) (S.2.1 w)) ∧ (∀ p, p < 4 → Pa I (14 + p) (S.2.2.1 p)) ∧ I 0 12 = nI S.2.2.2.2 ∧ SH X J I
def Rv (I : MI) (S : VS) : Prop := (∀ w, w < 6 → I mo (sfW w) = nI (S.1 w) ∧ Mb I (mbs w) (S.1 w) (S.2.1 w)) ∧ (∀ p, p < 4 → Pm I p (S.2.2.1 p)) ∧ I mo 7 = nI S.2.2.2.1 ∧ I mo 8 = nI S.2.2.2.2 ∧ MT I ∧ ∀ i, i < 20000 → cy I i
def WF (e : Nat) (S : VS) : Prop := e < 3 ∧ S.2.2.2.1 = e + 2 ∧ 1 ≤ S.2.2.2.2 ∧ S.2.2.2.2 ≤ 280 ∧ (S.1 0 = 0 ∨ S.1 0 = 384 * (e + 2) + 32) ∧ (S.1 1 = 0 ∨ S.1 1 = 768 * (e + 2) + 96) ∧ (S.1 2 = 0 ∨ S.1 2 = 32 * duK (e + 2) * (e + 2) + 32 * dvK (e + 2))
def Iv (X : XT) (J : MJ) (e : Nat) (S : VS) (I : MI) : Prop := Cv X J I S ∧ Rv I S ∧ WF e S
theorem six {P : Nat → Prop} (h0 : P 0) (h1 : P 1) (h2 : P 2) (h3 : P 3) (h4 : P 4) (h5 : P 5) : ∀ w, w < 6 → P w := by
  intro w hw
  rcases (show w = 0 ∨ w = 1 ∨ w = 2 ∨ w = 3 ∨ w = 4 ∨ w = 5 by omega) with rfl | rfl | rfl | rfl | rfl | rfl <;> assumption
theorem cw_b : ∀ w, w < 6 → 1 ≤ cw w ∧ cw w + 1 < 13 := by decide
theorem cw_ne : ∀ w, w < 6 → ∀ v, v < 6 → v ≠ w → cw v ≠ cw w ∧ cw v ≠ cw w + 1 ∧ cw v + 1 ≠ cw w ∧ cw v + 1 ≠ cw w + 1 := by decide
theorem rm_b : ∀ w, w < 6 → rmW w ≤ 4000 ∧ mbs w + rmW w ≤ 11336 := by decide
theorem mb_d : ∀ w, w < 6 → ∀ v, v < 6 → v ≠ w → mbs v + rmW v ≤ mbs w ∨ mbs w + rmW w ≤ mbs v := by decide
theorem sf_b : ∀ w, w < 6 → 1 ≤ sfW w ∧ sfW w ≤ 6 := by decide
theorem sf_ne : ∀ w, w < 6 → ∀ v, v < 6 → v ≠ w → sfW v ≠ sfW w := by decide
section ST
variable {X : XT} {J : MJ} {I I' : MI} {L : ML} {e : Nat} {S : VS}
theorem Cv.sz (h : Cv X J I S) {w : Nat} (hw : w < 6) : S.1 w ≤ rmW w := (h.1 w hw).1.2.2.2.2.1
theorem Cv_row (h : Cv X J I S) {w : Nat} (hw : w < 6) {n : Nat} {f : Nat → Nat} (r : RC X J I' (cw w) (rmW w) n f) (fr : ∀ x, x < 18 → x ≠ cw w → x ≠ cw w + 1 → I' x = I x) (sh : SH X J I') : Cv X J I' (setR S w n f) := by
  have hb := cw_b w hw
  refine ⟨fun v hv => ?_, fun p hp => (h.2.1 p hp).f (fr _ (by omega) (by omega) (by omega)), ?_, sh⟩
  · show RC X J I' (cw v) (rmW v) (va_up S.1 w n v) (va_up S.2.1 w f v)
    by_cases z : v = w
    · rw [z, va_up_self, va_up_self]; exact r
    · rw [va_up_ne _ _ z, va_up_ne _ _ z]
      have hn := cw_ne w hw v hv z
      have hb2 := cw_b v hv
      exact (h.1 v hv).f (fr _ (by omega) hn.1 hn.2.1) (fr _ (by omega) hn.2.2.1 hn.2.2.2)
  · rw [fr 0 (by decide) (by omega) (by omega)]; exact h.2.2.1
theorem Cv_pol (h : Cv X J I S) {p : Nat} (hp : p < 4) {f : Nat → Nat} (r : Pa I' (14 + p) f) (fr : ∀ x, x < 18 → x ≠ 14 + p → I' x = I x) (sh : SH X J I') : Cv X J I' (setP S p f) := by
  refine ⟨fun v hv => ?_, fun p' hp' => ?_, ?_, sh⟩
  · have hb2 := cw_b v hv
    exact (h.1 v hv).f (fr _ (by omega) (by omega)) (fr _ (by omega) (by omega))
  · show Pa I' (14 + p') (va_up S.2.2.1 p f p')
    by_cases z : p' = p
    · rw [z, va_up_self]; exact r
    · rw [va_up_ne _ _ z]; exact (h.2.1 p' hp').f (fr _ (by omega) (by omega))
  · rw [fr 0 (by decide) (by omega)]; exact h.2.2.1
theorem Cv_same (h : Cv X J I S) (fr : ∀ x, x < 18 → I' x = I x) (sh : SH X J I') : Cv X J I' S :=
  ⟨fun v hv => by have hb2 := cw_b v hv; exact (h.1 v hv).f (fr _ (by omega)) (fr _ (by omega)), fun p' hp' => (h.2.1 p' hp').f (fr _ (by omega)), by rw [fr 0 (by decide)]; exact h.2.2.1, sh⟩
theorem Cv_fr (h : Cv X J I S) (fr : ∀ x, x < 38 → I' x = I x) : Cv X J I' S := Cv_same h (fun x hx => fr x (by omega)) (SH.f h.2.2.2 (fun x hx => fr x (by omega)))
theorem Rv_fr (h : Rv I S) (fr : ∀ x, 38 ≤ x → I' x = I x) : Rv I' S := by
  obtain ⟨h1, h2, h3, h4, h5, h6⟩ := h
  refine ⟨fun w hw => ⟨by rw [fr mo (by decide)]; exact (h1 w hw).1, fun i hi => ?_⟩, fun p hp j hj => ⟨(h2 p hp j hj).1, by rw [fr po (by decide)]; exact (h2 p hp j hj).2⟩, by rw [fr mo (by decide)]; exact h3, by rw [fr mo (by decide)]; exact h4, ⟨fun i hi => by rw [fr so (by decide)]; exact h5.1 i hi, fun i hi => by rw [fr cn (by decide)]; exact h5.2.1 i hi, fun i hi => by rw [fr pw (by decide)]; exact h5.2.2.1 i hi, fun i hi => by rw [fr od (by decide)]; exact h5.2.2.2 i hi⟩, fun i hi => cy_eq (fr me (by decide)) (h6 i hi)⟩
  have := (h1 w hw).2 i hi
  unfold mb at *
  rw [fr me (by decide)]
  exact this
/-- what the reference changed: BYTES of B, fields of Z, polynomials of P -/
def RX (I I' : MI) (B Z P : Nat → Prop) : Prop := (∀ k, k ≠ st → k ≠ wo → k ≠ co → k ≠ mo → k ≠ me → k ≠ po → I' k = I k) ∧ (∀ j, j ≠ 14 → j ≠ 15 → ¬ Z j → I' mo j = I mo j) ∧ (∀ i, ¬ B i → I' me i = I me i) ∧ (∀ i, cy I i → cy I' i) ∧ ∀ p, ¬ P p → ∀ j, j < 256 → I' po (256 * p + j) = I po (256 * p + j)
theorem RX.rf {B Z P : Nat → Prop} : RX I I B Z P := ⟨fun _ _ _ _ _ _ _ => rfl, fun _ _ _ _ => rfl, fun _ _ => rfl, fun _ c => c, fun _ _ _ _ => rfl⟩
theorem RX.trans {I1 I2 I3 : MI} {B Z P : Nat → Prop} (h : RX I1 I2 B Z P) (g : RX I2 I3 B Z P) : RX I1 I3 B Z P := ⟨fun k a b c d e f => (g.1 k a b c d e f).trans (h.1 k a b c d e f), fun j a b c => (g.2.1 j a b c).trans (h.2.1 j a b c), fun i a => (g.2.2.1 i a).trans (h.2.2.1 i a), fun i a => g.2.2.2.1 i (h.2.2.2.1 i a), fun p a j b => (g.2.2.2.2 p a j b).trans (h.2.2.2.2 p a j b)⟩
theorem MF.x {I1 I2 : MI} {lo hi : Nat} {B Z P P' : Nat → Prop} (h : MF I1 I2 lo hi P') (hB : ∀ i, lo ≤ i → i < hi → B i) (hP : ∀ p, P' p → P p) : RX I1 I2 B Z P := ⟨h.1, fun j a b _ => h.2.1 j a b, fun i a => h.2.2.1 i (by
  rcases Nat.lt_or_ge i lo with z | z
  · exact Or.inl z
  · rcases Nat.lt_or_ge i hi with y | y
    · exact absurd (hB i z y) a
    · exact Or.inr y), h.2.2.2.1, fun p a => h.2.2.2.2 p (fun z => a (hP p z))⟩
theorem RX_sz {I1 I2 : MI} {j : Nat} {v : Int32} {B Z P : Nat → Prop} (e : I2 = ms I1 mo j v) (hZ : Z j) : RX I1 I2 B Z P := ⟨fun k _ _ _ d _ _ => ms_o e d, fun i _ _ c => by rw [ms_k e, va_up_ne _ _ (fun z => c (by rw [z]; exact hZ))], fun i _ => by rw [ms_o e (by decide)], fun i c => cy_eq (ms_o e (by decide)) c, fun p _ j _ => by rw [ms_o e (by decide)]⟩
theorem RX.t {I1 I2 : MI} {B Z P : Nat → Prop} (h : RX I1 I2 B Z P) (t : MT I1) : MT I2 := ⟨fun i hi => by rw [h.1 so (by decide) (by decide) (by decide) (by decide) (by decide) (by decide)]; exact t.1 i hi, fun i hi => by rw [h.1 cn (by decide) (by decide) (by decide) (by decide) (by decide) (by decide)]; exact t.2.1 i hi, fun i hi => by rw [h.1 pw (by decide) (by decide) (by decide) (by decide) (by decide) (by decide)]; exact t.2.2.1 i hi, fun i hi => by rw [h.1 od (by decide) (by decide) (by decide) (by decide) (by decide) (by decide)]; exact t.2.2.2 i hi⟩
theorem RX.c {I1 I2 : MI} {B Z P : Nat → Prop} (h : RX I1 I2 B Z P) : ∀ x, x < 38 → I2 x = I1 x := fun x hx => h.1 x (by show x ≠ 40; omega) (by show x ≠ 41; omega) (by show x ≠ 42; omega) (by show x ≠ 38; omega) (by show x ≠ 39; omega) (by show x ≠ 45; omega)
theorem RX.b {I1 I2 : MI} {B Z P : Nat → Prop} (h : RX I1 I2 B Z P) {a n : Nat} {f : Nat → Nat} (hm : Mb I1 a n f) (hn : ∀ i, i < n → ¬ B (a + i)) : Mb I2 a n f := fun i hi => by
  have := hm i hi
  unfold mb at *
  rw [h.2.2.1 _ (hn i hi)]
  exact this
theorem RX.p {I1 I2 : MI} {B Z P : Nat → Prop} (h : RX I1 I2 B Z P) {p : Nat} (hp : ¬ P p) {f : Nat → Nat} (hf : Pm I1 p f) : Pm I2 p f := fun j hj => ⟨(hf j hj).1, by rw [h.2.2.2.2 p hp j hj]; exact (hf j hj).2⟩
theorem Rv_end {S' : VS} {B Z P : Nat → Prop} (h : Rv I S) (f : RX I I' B Z P)
    (rows : ∀ w, w < 6 → (S'.1 w = S.1 w ∧ S'.2.1 w = S.2.1 w ∧ (∀ i, i < S.1 w → ¬ B (mbs w + i)) ∧ ¬ Z (sfW w)) ∨ (I' mo (sfW w) = nI (S'.1 w) ∧ Mb I' (mbs w) (S'.1 w) (S'.2.1 w)))
    (pols : ∀ p, p < 4 → (S'.2.2.1 p = S.2.2.1 p ∧ ¬ P p) ∨ Pm I' p (S'.2.2.1 p))
    (hk : (S'.2.2.2.1 = S.2.2.2.1 ∧ ¬ Z 7) ∨ I' mo 7 = nI S'.2.2.2.1) (hm : (S'.2.2.2.2 = S.2.2.2.2 ∧ ¬ Z 8) ∨ I' mo 8 = nI S'.2.2.2.2) : Rv I' S' := by
  obtain ⟨h1, h2, h3, h4, h5, h6⟩ := h
  refine ⟨fun w hw => ?_, fun p hp => ?_, ?_, ?_, f.t h5, fun i hi => f.2.2.2.1 i (h6 i hi)⟩
  · rcases rows w hw with ⟨a, b, c, d⟩ | r
    · have hb := sf_b w hw
      rw [a, b, f.2.1 _ (by omega) (by omega) d]
      exact ⟨(h1 w hw).1, f.b (h1 w hw).2 c⟩
    · exact r
  · rcases pols p hp with ⟨a, b⟩ | r
    · rw [a]; exact f.p b (h2 p hp)
    · exact r
  · rcases hk with ⟨a, b⟩ | r
    · rw [a, f.2.1 7 (by decide) (by decide) b]; exact h3
    · exact r
  · rcases hm with ⟨a, b⟩ | r
    · rw [a, f.2.1 8 (by decide) (by decide) b]; exact h4
    · exact r
/-- one row new -/
theorem Rv_row {B Z P : Nat → Prop} (h : Rv I S) (hc : ∀ w, w < 6 → S.1 w ≤ rmW w) (f : RX I I' B Z P) {w n : Nat} {g : Nat → Nat} (hw : w < 6) (hs : I' mo (sfW w) = nI n) (hb : Mb I' (mbs w) n g) (hB : ∀ i, B i → (mbs w ≤ i ∧ i < mbs w + rmW w) ∨ 11336 ≤ i) (hZ : ∀ j, Z j → j = sfW w) (hP : ∀ p, P p → 4 ≤ p) : Rv I' (setR S w n g) := by
  have hsf := sf_b w hw
  refine Rv_end h f (fun v hv => ?_) (fun p hp => Or.inl ⟨rfl, fun z => by have := hP p z; omega⟩) (Or.inl ⟨rfl, fun z => by have := hZ 7 z; omega⟩) (Or.inl ⟨rfl, fun z => by have := hZ 8 z; omega⟩)
  show (va_up S.1 w n v = S.1 v ∧ va_up S.2.1 w g v = S.2.1 v ∧ _) ∨ (I' mo (sfW v) = nI (va_up S.1 w n v) ∧ Mb I' (mbs v) (va_up S.1 w n v) (va_up S.2.1 w g v))
  by_cases z : v = w
  · rw [z, va_up_self, va_up_self]; exact Or.inr ⟨hs, hb⟩
  · rw [va_up_ne _ _ z, va_up_ne _ _ z]
    have hcv := hc v hv
    have hrb := rm_b v hv
    have hd := mb_d w hw v hv z
    exact Or.inl ⟨rfl, rfl, fun i hi y => by have := hB _ y; omega, fun y => sf_ne w hw v hv z (hZ _ y)⟩
theorem Rv_pol {B Z P : Nat → Prop} (h : Rv I S) (hc : ∀ w, w < 6 → S.1 w ≤ rmW w) (f : RX I I' B Z P) {p : Nat} {g : Nat → Nat} (hg : Pm I' p g) (hB : ∀ i, B i → 11336 ≤ i) (hZ : ∀ j, ¬ Z j) (hP : ∀ p', P p' → p' = p ∨ 4 ≤ p') : Rv I' (setP S p g) := by
  refine Rv_end h f (fun v hv => Or.inl ⟨rfl, rfl, fun i hi y => ?_, hZ _⟩) (fun p' hp' => ?_) (Or.inl ⟨rfl, hZ 7⟩) (Or.inl ⟨rfl, hZ 8⟩)
  · have := hB _ y
    have := hc v hv
    have := rm_b v hv
    omega
  · show (va_up S.2.2.1 p g p' = S.2.2.1 p' ∧ ¬ P p') ∨ Pm I' p' (va_up S.2.2.1 p g p')
    by_cases z : p' = p
    · rw [z, va_up_self]; exact Or.inr hg
    · rw [va_up_ne _ _ z]; exact Or.inl ⟨rfl, fun y => by have := hP p' y; omega⟩
end ST
