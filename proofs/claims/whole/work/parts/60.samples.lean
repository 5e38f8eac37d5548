/-! ===== SAMPLES ===== -/
def kp (s : Nat × (Nat → Nat)) (x : Nat) : Nat × (Nat → Nat) := if x < 3329 ∧ s.1 < 256 then (s.1 + 1, va_up s.2 s.1 x) else s
def g1N (t : Nat → Nat) (i : Nat) : Nat := t (3 * i) + 256 * (t (3 * i + 1) % 16)
def g2N (t : Nat → Nat) (i : Nat) : Nat := t (3 * i + 1) / 16 + 16 * t (3 * i + 2)
def us (t : Nat → Nat) : Nat → Nat × (Nat → Nat)
  | 0 => (0, fun _ => 0)
  | i + 1 => kp (kp (us t i) (g1N t i)) (g2N t i)
/-- how many ROUNDS a sample takes, 0 if it is LONG -/
def sR (t : Nat → Nat) : Nat → Nat
  | 0 => 0
  | m + 1 => if sR t m = 0 then (if (us t (m + 1)).1 = 256 then m + 1 else 0) else sR t m
theorem sR_0 (t : Nat → Nat) : ∀ m, (∀ i, i ≤ m → (us t i).1 < 256) → sR t m = 0
  | 0, _ => rfl
  | m + 1, h => by
    unfold sR
    rw [sR_0 t m (fun i hi => h i (by omega)), if_pos rfl, if_neg (by have := h (m + 1) (by omega); omega)]
theorem sR_1 (t : Nat → Nat) {R : Nat} (h1 : (us t (R + 1)).1 = 256) (h0 : ∀ i, i ≤ R → (us t i).1 < 256) : ∀ m, R + 1 ≤ m → sR t m = R + 1
  | 0, h => absurd h (by omega)
  | m + 1, h => by
    unfold sR
    by_cases e : m = R
    · subst e
      rw [sR_0 t m h0, if_pos rfl, if_pos h1]
    · rw [sR_1 t h1 h0 m (by omega), if_neg (by omega)]
theorem kp_lt {s : Nat × (Nat → Nat)} {x : Nat} (h : ∀ j, s.2 j < 3329) : ∀ j, (kp s x).2 j < 3329 := by
  intro j
  unfold kp
  split
  · rename_i z
    show va_up s.2 s.1 x j < 3329
    by_cases e : j = s.1
    · rw [e, va_up_self]; exact z.1
    · rw [va_up_ne _ _ e]; exact h j
  · exact h j
theorem kp_b {s : Nat × (Nat → Nat)} {x : Nat} (h : s.1 ≤ 256) : (kp s x).1 ≤ 256 := by
  unfold kp
  split
  · rename_i z; show s.1 + 1 ≤ 256; omega
  · exact h
theorem us_lt (t : Nat → Nat) : ∀ i j, (us t i).2 j < 3329
  | 0, _ => (show (0 : Nat) < 3329 by decide)
  | i + 1, j => kp_lt (kp_lt (us_lt t i)) j
theorem us_b (t : Nat → Nat) : ∀ i, (us t i).1 ≤ 256
  | 0 => Nat.zero_le _
  | i + 1 => kp_b (kp_b (us_b t i))
theorem us_c {t t' : Nat → Nat} (h : ∀ j, t j = t' j) (i : Nat) : us t i = us t' i := by
  rw [show t = t' from funext h]
/-! NOISE -/
def cnb (g : Nat → Bool) (a : Nat) : Nat → Nat
  | 0 => 0
  | n + 1 => cnb g a n + (if g (a + n) then 1 else 0)
theorem cnb_le (g : Nat → Bool) (a : Nat) : ∀ n, cnb g a n ≤ n
  | 0 => Nat.le_refl _
  | n + 1 => by
    have := cnb_le g a n
    show cnb g a n + _ ≤ _
    split <;> omega
def nz (eta : Nat) (t : Nat → Nat) (i : Nat) : Nat := (cnb (tb t) (2 * eta * i) eta + 3329 - cnb (tb t) (2 * eta * i + eta) eta) % 3329
theorem nz_lt (eta : Nat) (t : Nat → Nat) (i : Nat) : nz eta t i < 3329 := Nat.mod_lt _ (by decide)
def pc3 (x : Nat) : Nat := x % 2 + x / 2 % 2 + x / 4 % 2
theorem pc3_V (g : Nat → Bool) (a : Nat) {e : Nat} (he : e = 2 ∨ e = 3) : pc3 (V g a e) = cnb g a e := by
  rcases he with rfl | rfl
  · show pc3 (0 + bv (g (a + 0)) 0 + bv (g (a + 1)) 1) = 0 + (if g (a + 0) then 1 else 0) + (if g (a + 1) then 1 else 0)
    cases g (a + 0) <;> cases g (a + 1) <;> rfl
  · show pc3 (0 + bv (g (a + 0)) 0 + bv (g (a + 1)) 1 + bv (g (a + 2)) 2) = 0 + (if g (a + 0) then 1 else 0) + (if g (a + 1) then 1 else 0) + (if g (a + 2) then 1 else 0)
    cases g (a + 0) <;> cases g (a + 1) <;> cases g (a + 2) <;> rfl
section SMP
variable {X : XT} {J : MJ} {I : MI} {L : ML}
theorem bc_ok : ∀ x, x < 8 → (fun x0 : Int32 => (fun x1 : Int32 => (fun x2 : Int32 => (fun x3 : Int32 => (fun x4 : Int32 => (x4 + (jushr x4 16)) &&& 63) (x3 + (jushr x3 8))) ((x2 + (jushr x2 4)) &&& 252645135)) ((x1 &&& 858993459) + ((jushr x1 2) &&& 858993459))) (x0 - ((jushr x0 1) &&& 1431655765))) (nI x) = nI (pc3 x) := by decide +kernel
theorem c_bitCount {x : Nat} (hx : x < 8) {q : Int32 → MI → ML → Prop} (hq : q (nI (pc3 x)) I L) : wp_J6_bitCount_0f7a4 X J (nI x) I L q := by
  intro x1 e1 x2 e2 x3 e3 x4 e4 x5 e5
  subst e1; subst e2; subst e3; subst e4; subst e5
  have := bc_ok x hx
  rw [← this] at hq
  exact hq
theorem c_firstGroup {a b : Nat} (ha : a < 256) (hb : b < 256) {q : Int32 → MI → ML → Prop} (hq : q (nI (a + 256 * (b % 16))) I L) : wp_X0_firstGroup X J (nI a) (nI b) I L q := by
  unfold wp_X0_firstGroup
  rw [show nI b &&& 15 = nI (b % 16) from pk_andN (by omega) 4 rfl, show (8 : Int32) = nI 8 from rfl, jshl_n (by decide) (by omega), or_n, or_sh (n := 8) (by omega)]
  exact hq
theorem c_secondGroup {b c : Nat} (hb : b < 256) (hc : c < 256) {q : Int32 → MI → ML → Prop} (hq : q (nI (b / 16 + 16 * c)) I L) : wp_X0_secondGroup X J (nI b) (nI c) I L q := by
  unfold wp_X0_secondGroup
  rw [show (4 : Int32) = nI 4 from rfl, jshr_n (by omega) (by decide), jshl_n (by decide) (by omega), or_n, or_sh (n := 4) (by omega)]
  exact hq
theorem c_keep {a : Nat} (hl : sl X a = 256) {s : Nat × (Nat → Nat)} (hs : s.1 ≤ 256) (hf : ∀ j, j < s.1 → I a j = nI (s.2 j)) {x : Nat} (hx : x < 65536) {q : Int32 → MI → ML → Prop}
    (hq : ∀ I', O1 I I' a → (∀ j, j < (kp s x).1 → I' a j = nI ((kp s x).2 j)) → q (nI (kp s x).1) I' L) : wp_X5_keepIfSmall X J a (nI s.1) (nI x) I L q := by
  unfold wp_X5_keepIfSmall
  refine pk_le 3329 x (fun z => ?_) (fun z => ?_)
  · have e : kp s x = s := if_neg (by omega)
    rw [e] at hq
    exact hq I (fun _ _ => rfl) hf
  · refine pk_lt s.1 256 (fun y => ?_) (fun y => ?_)
    · have e : kp s x = (s.1 + 1, va_up s.2 s.1 x) := if_pos ⟨by omega, y⟩
      rw [e] at hq
      rw [nI_clamp (n := s.1) (by omega), nI_1]
      refine ⟨by rw [hl]; exact vp_in_nI y (by decide), fun I2 e2 => hq I2 (fun k hk => ms_o e2 hk) (fun j hj => ?_)⟩
      rw [ms_k e2]
      show va_up (I a) s.1 (nI x) j = nI (va_up s.2 s.1 x j)
      by_cases e' : j = s.1
      · rw [e', va_up_self, va_up_self]
      · rw [va_up_ne _ _ e', va_up_ne _ _ e']; exact hf j (by have : j < s.1 + 1 := hj; omega)
    · have e : kp s x = s := if_neg (by omega)
      rw [e] at hq
      exact hq I (fun _ _ => rfl) hf
end SMP
