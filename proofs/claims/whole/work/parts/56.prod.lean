/-- the PRODUCT BY PAIRS -/
def prd (f g : Nat → Nat) (x : Nat) : Nat :=
  if x % 2 = 0 then (f x * g x + f (x + 1) * g (x + 1) % 3329 * powN (oddN (x / 2) % 256)) % 3329 else (f (x - 1) * g x + f x * g (x - 1)) % 3329
theorem prd_lt (f g : Nat → Nat) (x : Nat) : prd f g x < 3329 := by
  unfold prd
  split <;> exact Nat.mod_lt _ (by decide)
theorem prd_comm (f g : Nat → Nat) (x : Nat) : prd f g x = prd g f x := by
  unfold prd
  rw [Nat.mul_comm (f x), Nat.mul_comm (f (x + 1)), Nat.mul_comm (f (x - 1)), Nat.mul_comm (f x) (g (x - 1)), Nat.add_comm (g x * f (x - 1))]
theorem prd_c {f f' g g' : Nat → Nat} (hf : ∀ j, j < 256 → f j = f' j) (hg : ∀ j, j < 256 → g j = g' j) {x : Nat} (hx : x < 256) : prd f g x = prd f' g' x := by
  unfold prd
  split
  · rw [hf x hx, hg x hx, hf (x + 1) (by omega), hg (x + 1) (by omega)]
  · rw [hf x hx, hg x hx, hf (x - 1) (by omega), hg (x - 1) (by omega)]
theorem root_ev : ∀ i, i < 64 → powN (oddN (2 * i) % 256) = roN (64 + i) := by decide +kernel
theorem root_od : ∀ i, i < 64 → powN (oddN (2 * i + 1) % 256) = 3329 - roN (64 + i) := by decide +kernel
theorem powN_lt (n : Nat) : powN n < 3329 := Nat.mod_lt _ (by decide)
section PRD
variable {X : XT} {J : MJ} {I : MI} {L : ML} {A B C : Nat}
theorem c_mulPair (hA : sl X A = 256) (hB : sl X B = 256) (hC : sl X C = 256) {f g : Nat → Nat} {x : Nat} (hx : x + 1 < 256) (he : x % 2 = 0) (f0 : f x < 3329 ∧ I A x = nI (f x)) (f1 : f (x + 1) < 3329 ∧ I A (x + 1) = nI (f (x + 1))) (g0 : g x < 3329 ∧ I B x = nI (g x)) (g1 : g (x + 1) < 3329 ∧ I B (x + 1) = nI (g (x + 1))) {ρ : Nat} (hρ : ρ = powN (oddN (x / 2) % 256)) {q : MI → ML → Prop}
    (hq : ∀ I', O1 I I' C → I' C = va_up (va_up (I C) x (nI (prd f g x))) (x + 1) (nI (prd f g (x + 1))) → q I' L) : wp_X3_multiplyPair X J A B C (nI x) (nI ρ) I L q := by
  have hr : ρ < 3329 := by rw [hρ]; exact powN_lt _
  have m1 : f x * g x ≤ 3328 * 3328 := Nat.mul_le_mul (by omega) (by omega)
  have m2 : f (x + 1) * g (x + 1) ≤ 3328 * 3328 := Nat.mul_le_mul (by omega) (by omega)
  have m3 : f x * g (x + 1) ≤ 3328 * 3328 := Nat.mul_le_mul (by omega) (by omega)
  have m4 : f (x + 1) * g x ≤ 3328 * 3328 := Nat.mul_le_mul (by omega) (by omega)
  have hm := Nat.mod_lt (f (x + 1) * g (x + 1)) (show 0 < 3329 by decide)
  have m5 : f (x + 1) * g (x + 1) % 3329 * ρ ≤ 3328 * 3328 := Nat.mul_le_mul (by omega) (by omega)
  unfold wp_X3_multiplyPair
  rw [nI_1, nI_clamp (n := x) (by omega), nI_clamp (n := x + 1) (by omega), f0.2, f1.2, g0.2, g1.2, pk_mul, pk_mul, pk_mul, pk_mul, show (3329 : Int32) = nI 3329 from rfl, jrem_n (by omega) (by decide) (by decide), pk_mul, nI_add, nI_add, hA, hB, hC]
  have v0 : vp_in (nI x) 256 := vp_in_nI (by omega) (by decide)
  have v1 : vp_in (nI (x + 1)) 256 := vp_in_nI (by omega) (by decide)
  refine ⟨v0, v0, v1, v1, fun x5 e5 => ⟨v0, v1, v1, v0, fun x6 e6 => ⟨v0, fun I12 e12 => ⟨v1, fun I14 e14 => ?_⟩⟩⟩⟩
  rw [e5, jrem_n (by omega) (by decide) (by decide)] at e12
  rw [e6, jrem_n (by omega) (by decide) (by decide)] at e14
  refine hq I14 (fun k hk => (ms_o e14 hk).trans (ms_o e12 hk)) ?_
  rw [ms_k e14, ms_k e12]
  unfold prd
  rw [if_pos he, if_neg (by omega), show x + 1 - 1 = x by omega, ← hρ]
theorem c_mulPairs (hA : sl X A = 256) (hB : sl X B = 256) (hC : sl X C = 256) {f g : Nat → Nat} (hf : Pa I A f) (hg : Pa I B g) {q : MI → ML → Prop} (hq : ∀ I', O1 I I' C → Pa I' C (prd f g) → q I' L) : wp_X3_multiplyPairs X J A B C I L q := by
  refine pk_loop (σ := MI) (fun fu i I' => wl_X3_multiplyPairs_2 X J q A B C fu (nI i) I' L) (fun i I' => O1 I I' C ∧ (∀ x, x < 4 * i → I' C x = nI (prd f g x)) ∧ ∀ x, 4 * i ≤ x → I' C x = I C x) 64 0 I (by decide) ⟨fun _ _ => rfl, fun x hx => absurd hx (by omega), fun _ _ => rfl⟩ ?_ ?_
  · intro fu I' ⟨u, v, w⟩
    exact pk_le 64 64 (fun _ => hq I' u (fun x hx => ⟨prd_lt f g x, v x (by omega)⟩)) (fun z => absurd z (by omega))
  · intro fu i I' hi ⟨u, v, w⟩ ih
    refine pk_le 64 i (fun z => absurd z (by omega)) (fun _ => ?_)
    have rd : ∀ k x, 4 * i ≤ x → I' k x = I k x := fun k x hx => by
      by_cases e : k = C
      · rw [e]; exact w x hx
      · rw [u k e]
    have hr := roN_ok (64 + i) (by omega)
    rw [show (64 : Int32) + nI i = nI (64 + i) from nI_add 64 i, nI_clamp (n := 64 + i) (by omega), hr.1, show (4 : Int32) * nI i = nI (4 * i) from pk_mul 4 i]
    refine ⟨vp_in_nI (show 64 + i < stL 3 by show _ < 128; omega) (by decide), fun x4 e4 => ?_⟩
    subst e4
    refine c_mulPair hA hB hC (x := 4 * i) (f := f) (g := g) (by omega) (by omega) ⟨(hf _ (by omega)).1, by rw [rd _ _ (by omega)]; exact (hf _ (by omega)).2⟩ ⟨(hf _ (by omega)).1, by rw [rd _ _ (by omega)]; exact (hf _ (by omega)).2⟩ ⟨(hg _ (by omega)).1, by rw [rd _ _ (by omega)]; exact (hg _ (by omega)).2⟩ ⟨(hg _ (by omega)).1, by rw [rd _ _ (by omega)]; exact (hg _ (by omega)).2⟩ (by rw [← root_ev i hi, show 4 * i / 2 = 2 * i by omega]) (fun I1 u1 w1 => ?_)
    have rd1 : ∀ k x, 4 * i + 2 ≤ x → I1 k x = I k x := fun k x hx => by
      by_cases e : k = C
      · rw [e, w1, va_up_ne _ _ (by omega), va_up_ne _ _ (by omega)]; exact w x (by omega)
      · rw [u1 k e, u k e]
    rw [show nI (4 * i) + 2 = nI (4 * i + 2) from nI_add _ 2, show (3329 : Int32) - nI (roN (64 + i)) = nI (3329 - roN (64 + i)) from pk_sub (a := 3329) (by omega)]
    refine c_mulPair hA hB hC (x := 4 * i + 2) (f := f) (g := g) (by omega) (by omega) ⟨(hf _ (by omega)).1, by rw [rd1 _ _ (by omega)]; exact (hf _ (by omega)).2⟩ ⟨(hf _ (by omega)).1, by rw [rd1 _ _ (by omega)]; exact (hf _ (by omega)).2⟩ ⟨(hg _ (by omega)).1, by rw [rd1 _ _ (by omega)]; exact (hg _ (by omega)).2⟩ ⟨(hg _ (by omega)).1, by rw [rd1 _ _ (by omega)]; exact (hg _ (by omega)).2⟩ (by rw [← root_od i hi, show (4 * i + 2) / 2 = 2 * i + 1 by omega]) (fun I2 u2 w2 => ?_)
    intro x3 e3
    rw [e3, nI_1]
    refine ih I2 ⟨fun k hk => ((u2 k hk).trans (u1 k hk)).trans (u k hk), fun x hx => ?_, fun x hx => ?_⟩
    · rw [w2, w1]
      by_cases e1 : x = 4 * i + 2 + 1
      · rw [e1, va_up_self]
      rw [va_up_ne _ _ e1]
      by_cases e2 : x = 4 * i + 2
      · rw [e2, va_up_self]
      rw [va_up_ne _ _ e2]
      by_cases e3 : x = 4 * i + 1
      · rw [e3, va_up_self]
      rw [va_up_ne _ _ e3]
      by_cases e4 : x = 4 * i
      · rw [e4, va_up_self]
      rw [va_up_ne _ _ e4]
      exact v x (by omega)
    · rw [w2, va_up_ne _ _ (by omega), va_up_ne _ _ (by omega), rd1 C x (by omega)]
theorem c_addTimes (hA : sl X A = 256) (hB : sl X B = 256) {f g : Nat → Nat} (hf : Pa I A f) (hg : Pa I B g) (sg : Bool) {q : MI → ML → Prop} (hq : ∀ I', O1 I I' A → Pa I' A (fun i => if sg then rad (f i) (g i) else rsb (f i) (g i)) → q I' L) : wp_X3_addTimes X J A B (if sg then 1 else -1) I L q := by
  refine pk_loop (σ := MI) (fun fu i I' => wl_X3_addTimes_2 X J q A B (if sg then 1 else -1) fu (nI i) I' L) (fun i I' => O1 I I' A ∧ (∀ j, j < i → I' A j = nI (if sg then rad (f j) (g j) else rsb (f j) (g j))) ∧ ∀ j, i ≤ j → I' A j = I A j) 256 0 I (by decide) ⟨fun _ _ => rfl, fun x hx => absurd hx (by omega), fun _ _ => rfl⟩ ?_ ?_
  · intro fu I' ⟨u, v, w⟩
    exact pk_le 256 256 (fun _ => hq I' u (fun x hx => ⟨by cases sg <;> exact Nat.mod_lt _ (by decide), v x hx⟩)) (fun z => absurd z (by omega))
  · intro fu i I' hi ⟨u, v, w⟩ ih
    refine pk_le 256 i (fun z => absurd z (by omega)) (fun _ => ?_)
    have rd : ∀ k, I' k i = I k i := fun k => by
      by_cases e : k = A
      · rw [e]; exact w i (Nat.le_refl i)
      · rw [u k e]
    have hfi := hf i hi
    have hgi := hg i hi
    rw [nI_clamp (n := i) (by omega), rd A, rd B, hfi.2, hgi.2, hA, hB]
    refine ⟨vp_in_nI hi (by decide), vp_in_nI hi (by decide), vp_in_nI hi (by decide), fun I4 e4 x3 e3 => ?_⟩
    rw [e3, nI_1]
    have hv : jrem (nI (f i) + (if sg then (1 : Int32) else -1) * nI (g i) + 3329) 3329 = nI (if sg then rad (f i) (g i) else rsb (f i) (g i)) := by
      cases sg with
      | true =>
        show jrem (nI (f i) + 1 * nI (g i) + 3329) 3329 = nI (rad (f i) (g i))
        rw [Int32.one_mul, nI_add, show (3329 : Int32) = nI 3329 from rfl, nI_add, jrem_n (by omega) (by decide) (by decide)]
        unfold rad
        rw [Nat.add_mod_right]
      | false =>
        show jrem (nI (f i) + -1 * nI (g i) + 3329) 3329 = nI (rsb (f i) (g i))
        rw [Int32.neg_mul, Int32.one_mul, ← Int32.sub_eq_add_neg, sub3 (by omega), show (3329 : Int32) = nI 3329 from rfl, jrem_n (by omega) (by decide) (by decide)]
        rfl
    rw [hv] at e4
    refine ih I4 ⟨fun k hk => (ms_o e4 hk).trans (u k hk), fun j hj => ?_, fun j hj => ?_⟩
    · rw [ms_k e4]
      by_cases e : j = i
      · subst e; exact va_up_self _ _ _
      · rw [va_up_ne _ _ e]; exact v j (by omega)
    · rw [ms_k e4, va_up_ne _ _ (by omega)]; exact w j (by omega)
end PRD
