/-! ===== the reference's cells ===== -/
abbrev mo : Nat := 38
abbrev me : Nat := 39
abbrev st : Nat := 40
abbrev wo : Nat := 41
abbrev co : Nat := 42
abbrev so : Nat := 43
abbrev cn : Nat := 44
abbrev po : Nat := 45
abbrev pw : Nat := 46
abbrev od : Nat := 47
/-- the reference's references and lengths -/
def MC (X : XT) (J : MJ) : Prop := (J mo 0 = some me ∧ J mo 9 = some st ∧ J mo 10 = some wo ∧ J mo 11 = some co ∧ J mo 12 = some so ∧ J mo 13 = some cn ∧ J mo 16 = some po ∧ J mo 17 = some pw ∧ J mo 18 = some od) ∧
  sl X me = 20000 ∧ sl X st = 1600 ∧ sl X wo = 1600 ∧ sl X co = 320 ∧ sl X so = 1600 ∧ sl X cn = 168 ∧ sl X po = 5120 ∧ sl X pw = 256 ∧ sl X od = 128
def bI (b : Bool) : Int32 := if b then 1 else 0
theorem bI_x (a b : Bool) : bI a ^^^ bI b = bI (a ^^ b) := by cases a <;> cases b <;> rfl
theorem bI_a (a b : Bool) : bI a &&& bI b = bI (a && b) := by cases a <;> cases b <;> rfl
theorem bI_n (a : Bool) : bI a ^^^ 1 = bI (!a) := by cases a <;> rfl
theorem bI_8 (a : Bool) : jb8 (bI a) = bI a := by cases a <;> rfl
def srcN (i : Nat) : Nat := 64 * pl (i / 64) + (i % 64 + (64 - rt (i / 64))) % 64
def lfN : Nat → Nat
  | 0 => 1
  | t + 1 => if 128 ≤ lfN t then (2 * lfN t) ^^^ 369 else 2 * lfN t
def cstN (t : Nat) : Bool := lfN t % 2 = 1
def powN (i : Nat) : Nat := 17 ^ i % 3329
def rev7 (i : Nat) : Nat := (i % 2) * 64 + (i / 2 % 2) * 32 + (i / 4 % 2) * 16 + (i / 8 % 2) * 8 + (i / 16 % 2) * 4 + (i / 32 % 2) * 2 + i / 64 % 2
def oddN (i : Nat) : Nat := 2 * rev7 i + 1
/-- the tables that the reference makes of itself -/
def MT (I : MI) : Prop := (∀ i, i < 1600 → I so i = nI (srcN i)) ∧ (∀ t, t < 168 → I cn t = bI (cstN t)) ∧ (∀ i, i < 256 → I pw i = nI (powN i)) ∧ ∀ i, i < 128 → I od i = nI (oddN i)
def Ms (I : MI) (S : KS) : Prop := ∀ l z, l < 25 → z < 64 → I st (64 * l + z) = bI (S l z)
def FM (I I' : MI) : Prop := ∀ k, k ≠ st → k ≠ wo → k ≠ co → I' k = I k
theorem FM.rf {I : MI} : FM I I := fun _ _ _ _ => rfl
theorem FM.trans {I1 I2 I3 : MI} (h : FM I1 I2) (g : FM I2 I3) : FM I1 I3 := fun k a b c => (g k a b c).trans (h k a b c)
theorem FM.t {I I' : MI} (h : FM I I') (t : MT I) : MT I' := ⟨fun i hi => by rw [h so (by decide) (by decide) (by decide)]; exact t.1 i hi, fun i hi => by rw [h cn (by decide) (by decide) (by decide)]; exact t.2.1 i hi, fun i hi => by rw [h pw (by decide) (by decide) (by decide)]; exact t.2.2.1 i hi, fun i hi => by rw [h od (by decide) (by decide) (by decide)]; exact t.2.2.2 i hi⟩
theorem Ms_e {I : MI} {S S' : KS} (h : Ms I S) (g : kE S S') : Ms I S' := fun l z a b => by rw [h l z a b, g l z a b]
section MTH
variable {X : XT} {J : MJ} {L : ML}
def kCy (S : KS) (x z : Nat) : Nat → Bool
  | 0 => false
  | y + 1 => kCy S x z y ^^ S (5 * y + x) z
theorem kCy5 (S : KS) (x z : Nat) : kCy S x z 5 = kC S x z := by
  simp [kCy, kC, Nat.add_comm]
theorem n64 (a b : Nat) : (64 * nI a + nI b : Int32) = nI (64 * a + b) := by
  rw [show (64 : Int32) = nI 64 from rfl, pk_mul, nI_add]
theorem c_bit {I : MI} {x y z : Nat} {q : Int32 → MI → ML → Prop} (h : q (nI (64 * (5 * y + x) + z)) I L) : wp_X8_bit X J (nI x) (nI y) (nI z) I L q := by
  have ei : (64 * (5 * nI y + nI x) + nI z : Int32) = nI (64 * (5 * y + x) + z) := by
    rw [show (5 : Int32) = nI 5 from rfl, pk_mul, nI_add, n64]
  unfold wp_X8_bit
  rw [ei]
  exact h
theorem l_theta13 (hC : MC X J) {I : MI} {S : KS} (hS : Ms I S) {x z : Nat} (hx : x < 5) (hz : z < 64) {q : MI → ML → Prop} {k : Int32 → MI → ML → Prop}
    (hk : ∀ I', (∀ c, c ≠ co → I' c = I c) → I' co = va_up (I co) (64 * x + z) (bI (kC S x z)) → k (nI (64 * x + z + 1)) I' L) : ∃ fu, wl_X8_theta_13 X J q k mo (nI (64 * x + z)) fu 0 0 I L := by
  obtain ⟨⟨j1, j2, j3, j4, j5, j6, j7, j8, j9⟩, s1, s2, s3, s4, s5, s6, s7, s8, s9⟩ := hC
  refine pk_loop (σ := Int32) (fun fu y x2 => wl_X8_theta_13 X J q k mo (nI (64 * x + z)) fu x2 (nI y) I L) (fun y x2 => x2 = bI (kCy S x z y)) 5 0 0 (by decide) rfl ?_ ?_
  · intro fu x2 e
    refine pk_le 5 5 (fun _ => ⟨co, j4, ?_, fun I' e' x1 e1 => ?_⟩) (fun z => absurd z (by omega))
    · rw [s4]; exact pk_in (64 * x + z) 320 (by omega)
    · rw [e1, nI_1]
      rw [e, bI_8, bI_8, kCy5, nI_clamp (by omega)] at e'
      exact hk I' (fun c hc => ms_o e' hc) (ms_k e')
  · intro fu y x2 hy e ih
    refine pk_le 5 y (fun z => absurd z (by omega)) (fun _ => ?_)
    have ei : (320 * nI y + nI (64 * x + z) : Int32) = nI (64 * (5 * y + x) + z) := by
      rw [show (320 : Int32) = nI 320 from rfl, pk_mul, nI_add]
      exact congrArg nI (by omega)
    rw [ei, nI_clamp (n := 64 * (5 * y + x) + z) (by omega)]
    refine ⟨st, j2, by rw [s2]; exact vp_in_nI (by omega) (by decide), fun x2' e2 x3 e3 => ?_⟩
    rw [e3, nI_1]
    refine ih x2' ?_
    rw [e2, e, hS (5 * y + x) z (by omega) hz, bI_x]
    rfl
theorem l_theta69 (hC : MC X J) {I0 I : MI} {S : KS} (hco : ∀ x z, x < 5 → z < 64 → I co (64 * x + z) = bI (kC S x z)) {x y : Nat} (hx : x < 5) (hy : y < 5) (hF : FM I0 I)
    (hS : ∀ l z, l < 25 → z < 64 → I st (64 * l + z) = bI (if 64 * l + z < 320 * y + 64 * x then kT S l z else S l z)) {q : MI → ML → Prop} {k1 k2 : Int32 → MI → ML → Prop}
    (hk : ∀ I', FM I0 I' → I' co = I co → (∀ l z, l < 25 → z < 64 → I' st (64 * l + z) = bI (if 64 * l + z < 320 * y + 64 * (x + 1) then kT S l z else S l z)) → k2 (nI (x + 1)) I' L) : ∃ fu, wl_X8_theta_69 X J q k1 k2 mo (nI y) (nI x) fu 0 I L := by
  obtain ⟨⟨j1, j2, j3, j4, j5, j6, j7, j8, j9⟩, s1, s2, s3, s4, s5, s6, s7, s8, s9⟩ := hC
  refine pk_loop (σ := MI) (fun fu z I' => wl_X8_theta_69 X J q k1 k2 mo (nI y) (nI x) fu (nI z) I' L) (fun z I' => FM I0 I' ∧ I' co = I co ∧ ∀ l a, l < 25 → a < 64 → I' st (64 * l + a) = bI (if 64 * l + a < 320 * y + 64 * x + z then kT S l a else S l a)) 64 0 I (by decide) ⟨hF, rfl, hS⟩ ?_ ?_
  · intro fu I' ⟨a, b, c⟩
    refine pk_le 64 64 (fun _ => fun x2 e2 => ?_) (fun z => absurd z (by omega))
    rw [e2, nI_1]
    refine hk I' a b (fun l z hl hz => ?_)
    rw [c l z hl hz]
    rfl
  · intro fu z I' hz ⟨a, b, c⟩ ih
    refine pk_le 64 z (fun z => absurd z (by omega)) (fun _ => ?_)
    have e1 : jrem (nI x + 4) 5 = nI ((x + 4) % 5) := by
      rw [show nI x + 4 = nI (x + 4) from nI_add x 4]
      exact jrem_n (d := 5) (by omega) (by decide) (by decide)
    have e2 : jrem (nI x + 1) 5 = nI ((x + 1) % 5) := by
      rw [show nI x + 1 = nI (x + 1) from nI_add x 1]
      exact jrem_n (d := 5) (by omega) (by decide) (by decide)
    have e3 : jrem (nI z + 63) 64 = nI ((z + 63) % 64) := by
      rw [show nI z + 63 = nI (z + 63) from nI_add z 63]
      exact jrem_n (d := 64) (by omega) (by decide) (by decide)
    have m1 : (x + 4) % 5 < 5 := Nat.mod_lt _ (by decide)
    have m2 : (x + 1) % 5 < 5 := Nat.mod_lt _ (by decide)
    have m3 : (z + 63) % 64 < 64 := Nat.mod_lt _ (by decide)
    rw [e1, e2, e3, n64, n64, nI_clamp (n := 64 * ((x + 4) % 5) + z) (by omega), nI_clamp (n := 64 * ((x + 1) % 5) + (z + 63) % 64) (by omega)]
    refine ⟨co, j4, by rw [s4]; exact vp_in_nI (by omega) (by decide), by rw [s4]; exact vp_in_nI (by omega) (by decide), fun x4 e4 => ⟨st, j2, ?_⟩⟩
    rw [b, hco _ _ m1 hz, hco _ _ m2 m3, bI_x] at e4
    have e4' : x4 = bI (kD S x z) := e4
    refine c_bit ?_
    rw [nI_clamp (n := 64 * (5 * y + x) + z) (by omega), e4', bI_8]
    refine ⟨by rw [s2]; exact vp_in_nI (by omega) (by decide), by rw [s2]; exact vp_in_nI (by omega) (by decide), fun I2 g2 x3 g3 => ?_⟩
    rw [g3, nI_1]
    rw [c (5 * y + x) z (by omega) hz, if_neg (by omega), bI_x, bI_8, bI_8] at g2
    refine ih I2 ⟨fun k b1 b2 b3 => (ms_o g2 b1).trans (a k b1 b2 b3), (ms_o g2 (by decide)).trans b, fun l w hl hw => ?_⟩
    rw [ms_k g2]
    by_cases h : 64 * l + w = 64 * (5 * y + x) + z
    · have hl' : l = 5 * y + x := by omega
      have hw' : w = z := by omega
      subst hl' hw'
      rw [va_up_self, if_pos (by omega)]
      show bI _ = bI (S (5 * y + x) w ^^ kD S ((5 * y + x) % 5) w)
      rw [show (5 * y + x) % 5 = x by omega]
    · rw [va_up_ne _ _ h, c l w hl hw]
      by_cases h2 : 64 * l + w < 320 * y + 64 * x + z
      · rw [if_pos h2, if_pos (by omega)]
      · rw [if_neg h2, if_neg (by omega)]
theorem c_theta (hC : MC X J) {I : MI} {S : KS} (hS : Ms I S) {q : MI → ML → Prop} (hq : ∀ I', FM I I' → Ms I' (kT S) → q I' L) : wp_X8_theta X J mo I L q := by
  refine pk_loop (σ := MI) (fun fu i I' => wl_X8_theta_2 X J q mo fu (nI i) I' L) (fun i I' => (∀ c, c ≠ co → I' c = I c) ∧ ∀ x z, x < 5 → z < 64 → 64 * x + z < i → I' co (64 * x + z) = bI (kC S x z)) 320 0 I (by decide) ⟨fun _ _ => rfl, fun x z _ _ h => absurd h (by omega)⟩ ?_ ?_
  · intro fu I1 ⟨a, b⟩
    refine pk_le 320 320 (fun _ => ?_) (fun z => absurd z (by omega))
    refine pk_loop (σ := MI) (fun fu y I' => wl_X8_theta_55 X J q mo fu (nI y) I' L) (fun y I' => FM I I' ∧ I' co = I1 co ∧ ∀ l z, l < 25 → z < 64 → I' st (64 * l + z) = bI (if 64 * l + z < 320 * y then kT S l z else S l z)) 5 0 I1 (by decide) ⟨fun k _ _ h => a k h, rfl, fun l z hl hz => by rw [if_neg (by omega), a st (by decide)]; exact hS l z hl hz⟩ ?_ ?_
    · intro fu I2 ⟨c, d, e⟩
      refine pk_le 5 5 (fun _ => hq I2 c (fun l z hl hz => ?_)) (fun z => absurd z (by omega))
      rw [e l z hl hz, if_pos (by omega)]
    · intro fu y I2 hy ⟨c, d, e⟩ ih
      refine pk_le 5 y (fun z => absurd z (by omega)) (fun _ => ?_)
      refine pk_loop (σ := MI) (fun fu x I' => wl_X8_theta_62 X J q _ mo (nI y) fu (nI x) I' L) (fun x I' => FM I I' ∧ I' co = I1 co ∧ ∀ l z, l < 25 → z < 64 → I' st (64 * l + z) = bI (if 64 * l + z < 320 * y + 64 * x then kT S l z else S l z)) 5 0 I2 (by decide) ⟨c, d, e⟩ ?_ ?_
      · intro fu I3 ⟨c3, d3, e3⟩
        refine pk_le 5 5 (fun _ x1 e1 => ?_) (fun z => absurd z (by omega))
        rw [e1, nI_1]
        refine ih I3 ⟨c3, d3, fun l z hl hz => ?_⟩
        rw [e3 l z hl hz, show 320 * y + 64 * 5 = 320 * (y + 1) by omega]
      · intro fu x I3 hx ⟨c3, d3, e3⟩ ih3
        refine pk_le 5 x (fun z => absurd z (by omega)) (fun _ => ?_)
        exact l_theta69 (I0 := I) hC (fun a' z' ha hz => by rw [d3]; exact b a' z' ha hz (by omega)) hx hy c3 e3 (fun I4 f1 f2 f3 => ih3 I4 ⟨f1, f2.trans d3, f3⟩)
  · intro fu i I1 hi ⟨a, b⟩ ih
    refine pk_le 320 i (fun z => absurd z (by omega)) (fun _ => ?_)
    have ei : i = 64 * (i / 64) + i % 64 := by omega
    have hI1 : Ms I1 S := fun l z hl hz => by rw [a st (by decide)]; exact hS l z hl hz
    rw [ei]
    refine l_theta13 hC hI1 (by omega) (by omega) (fun I' f1 f2 => ?_)
    rw [← ei] at f2 ⊢
    refine ih I' ⟨fun c hc => (f1 c hc).trans (a c hc), fun x z hx hz h => ?_⟩
    rw [f2]
    by_cases e : 64 * x + z = i
    · rw [e, va_up_self, show i / 64 = x by omega, show i % 64 = z by omega]
    · rw [va_up_ne _ _ e]
      exact b x z hx hz (by omega)
end MTH

