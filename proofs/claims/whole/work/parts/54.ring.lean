theorem sub3 {a b : Nat} (h : b ≤ a + 3329) : nI a - nI b + 3329 = nI (a + 3329 - b) := by
  rw [← pk_sub h, ← nI_add, Int32.sub_eq_add_neg, Int32.sub_eq_add_neg, Int32.add_assoc, Int32.add_comm (-nI b), ← Int32.add_assoc]
  rfl
/-- one block, split -/
def spl (s h ρ : Nat) (G : Nat → Nat) (x : Nat) : Nat :=
  if s ≤ x ∧ x < s + h then (G x + G (x + h) * ρ % 3329) % 3329 else if s + h ≤ x ∧ x < s + 2 * h then (G (x - h) + 3329 - G x * ρ % 3329) % 3329 else G x
section RNG
variable {X : XT} {J : MJ} {I : MI} {L : ML} {a : Nat}
theorem c_split (hl : sl X a = 256) {G : Nat → Nat} (hG : Pa I a G) {s h ρ : Nat} (hs : s + 2 * h ≤ 256) (hρ : ρ < 3329) {q : MI → ML → Prop} (hq : ∀ I', O1 I I' a → Pa I' a (spl s h ρ G) → q I' L) : wp_X3_splitBlock X J a (nI s) (nI h) (nI ρ) I L q := by
  refine pk_loop (σ := MI) (fun fu c I' => wl_X3_splitBlock_3 X J q a (nI s) (nI h) (nI ρ) fu (nI (s + c)) I' L) (fun c I' => O1 I I' a ∧ ∀ x, x < 256 → I' a x = nI (if (s ≤ x ∧ x < s + c) ∨ (s + h ≤ x ∧ x < s + h + c) then spl s h ρ G x else G x)) h 0 I (Nat.zero_le _) ⟨fun _ _ => rfl, fun x hx => by rw [if_neg (by omega)]; exact (hG x hx).2⟩ ?_ ?_
  · intro fu I' ⟨u, v⟩
    refine pk_le (s + h) (s + h) (fun _ => hq I' u (fun x hx => ⟨?_, ?_⟩)) (fun z => absurd z (by omega)) (nI_add s h)
    · unfold spl
      split
      · exact Nat.mod_lt _ (by decide)
      · split
        · exact Nat.mod_lt _ (by decide)
        · exact (hG x hx).1
    · rw [v x hx]
      split
      · rfl
      · rename_i z
        unfold spl
        rw [if_neg (by omega), if_neg (by omega)]
  · intro fu c I' hc ⟨u, v⟩ ih
    refine pk_le (s + h) (s + c) (fun z => absurd z (by omega)) (fun _ => ?_) (nI_add s h)
    have hin1 : vp_in (nI (s + c)) (sl X a) := by rw [hl]; exact vp_in_nI (by omega) (by decide)
    have hin2 : vp_in (nI (s + c + h)) (sl X a) := by rw [hl]; exact vp_in_nI (by omega) (by decide)
    have g1 := hG (s + c) (by omega)
    have g2 := hG (s + c + h) (by omega)
    have m2 : G (s + c + h) * ρ ≤ 3328 * 3328 := Nat.mul_le_mul (by omega) (by omega)
    have hm := Nat.mod_lt (G (s + c + h) * ρ) (show 0 < 3329 by decide)
    rw [nI_add (s + c) h, nI_clamp (n := s + c) (by omega), nI_clamp (n := s + c + h) (by omega), v (s + c) (by omega), if_neg (by omega), v (s + c + h) (by omega), if_neg (by omega), pk_mul, show (3329 : Int32) = nI 3329 from rfl, jrem_n (by omega) (by decide) (by decide)]
    refine ⟨hin1, fun x5 e5 => ⟨hin2, fun x6 e6 => ⟨hin1, fun I6 e6' => ⟨hin2, fun I8 e8 x4 e4 => ?_⟩⟩⟩⟩
    rw [e4, nI_1]
    rw [e5, e6, nI_add, jrem_n (by omega) (by decide) (by decide)] at e6'
    rw [e5, e6, show nI (G (s + c)) - nI (G (s + c + h) * ρ % 3329) + nI 3329 = nI (G (s + c) + 3329 - G (s + c + h) * ρ % 3329) from sub3 (by omega), jrem_n (by omega) (by decide) (by decide)] at e8
    refine ih I8 ⟨fun k hk => ((ms_o e8 hk).trans (ms_o e6' hk)).trans (u k hk), fun x hx => ?_⟩
    rw [ms_k e8]
    by_cases e1 : x = s + c + h
    · subst e1
      rw [va_up_self, if_pos (by omega)]
      unfold spl
      rw [if_neg (by omega), if_pos (by omega), show s + c + h - h = s + c by omega]
    · rw [va_up_ne _ _ e1, ms_k e6']
      by_cases e2 : x = s + c
      · subst e2
        rw [va_up_self, if_pos (by omega)]
        unfold spl
        rw [if_pos (by omega)]
      · rw [va_up_ne _ _ e2, v x hx]
        by_cases h1 : (s ≤ x ∧ x < s + c) ∨ (s + h ≤ x ∧ x < s + h + c)
        · rw [if_pos h1, if_pos (by omega)]
        · rw [if_neg h1, if_neg (by omega)]
/-- a block split goes from level t to t + 1 -/
theorem spl_T {f G : Nat → Nat} {t b : Nat} (ht : t < 7) (hb : b < 2 ^ t) (hG : ∀ x, x < 256 → G x < 3329) (h : ∀ x, x < 256 → cg (G x) (if x < 2 ^ (8 - t) * b then T f (t + 1) x else T f t x)) :
    ∀ x, x < 256 → cg (spl (2 ^ (8 - t) * b) (2 ^ (7 - t)) (roN (2 ^ t + b)) G x) (if x < 2 ^ (8 - t) * (b + 1) then T f (t + 1) x else T f t x) := by
  have hw : 2 ^ (8 - t) = 2 * 2 ^ (7 - t) := by rw [show 8 - t = 7 - t + 1 by omega, Nat.pow_succ, Nat.mul_comm]
  have hp := Nat.two_pow_pos (7 - t)
  have htot : 2 ^ (8 - t) * 2 ^ t = 256 := by rw [← Nat.pow_add, show 8 - t + t = 8 by omega]
  have hle : 2 ^ (8 - t) * (b + 1) ≤ 256 := by rw [← htot]; exact Nat.mul_le_mul_left _ hb
  have hb1 : 2 ^ (8 - t) * (b + 1) = 2 ^ (8 - t) * b + 2 ^ (8 - t) := by rw [Nat.mul_add, Nat.mul_one]
  generalize hB : 2 ^ (8 - t) * b = B at *
  generalize hH : 2 ^ (7 - t) = H at *
  intro x hx
  unfold spl
  by_cases c1 : B ≤ x ∧ x < B + H
  · rw [if_pos c1, if_pos (by omega)]
    obtain ⟨c, rfl⟩ : ∃ c, x = B + c := ⟨x - B, by omega⟩
    have st := (T_step f ht hb (c := c) (by rw [hH]; omega)).1
    rw [hB, hH] at st
    refine cg.tr ?_ st.sy
    have h1 := h (B + c) hx
    have h2 := h (B + H + c) (by omega)
    rw [if_neg (by omega)] at h1 h2
    refine (cg.modN _).tr ?_
    rw [Int.natCast_add]
    refine h1.add ((cg.modN _).tr ?_)
    rw [Int.natCast_mul, Int.mul_comm, show B + c + H = B + H + c by omega]
    exact (cg.rf _).mul h2
  · rw [if_neg c1]
    by_cases c2 : B + H ≤ x ∧ x < B + 2 * H
    · rw [if_pos c2, if_pos (by omega)]
      obtain ⟨c, rfl⟩ : ∃ c, x = B + H + c := ⟨x - B - H, by omega⟩
      have st := (T_step f ht hb (c := c) (by rw [hH]; omega)).2
      rw [hB, hH] at st
      refine cg.tr ?_ st.sy
      have h1 := h (B + c) (by omega)
      have h2 := h (B + H + c) hx
      rw [if_neg (by omega)] at h1 h2
      have hm := Nat.mod_lt (G (B + H + c) * roN (2 ^ t + b)) (show 0 < 3329 by decide)
      refine (cg.modN _).tr ?_
      rw [show B + H + c - H = B + c by omega]
      have e : ((G (B + c) + 3329 - G (B + H + c) * roN (2 ^ t + b) % 3329 : Nat) : Int) = (G (B + c) : Int) - ((G (B + H + c) * roN (2 ^ t + b) % 3329 : Nat) : Int) + 3329 := by omega
      rw [e]
      have h3 : cg ((G (B + c) : Int) - ((G (B + H + c) * roN (2 ^ t + b) % 3329 : Nat) : Int) + 3329) ((G (B + c) : Int) - ((G (B + H + c) * roN (2 ^ t + b) % 3329 : Nat) : Int)) := by
        unfold cg
        omega
      refine h3.tr (h1.sub ((cg.modN _).tr ?_))
      rw [Int.natCast_mul, Int.mul_comm]
      exact (cg.rf _).mul h2
    · rw [if_neg c2]
      have h1 := h x hx
      by_cases c3 : x < B
      · rw [if_pos c3] at h1
        rw [if_pos (by omega)]
        exact h1
      · rw [if_neg c3] at h1
        rw [if_neg (by omega)]
        exact h1
theorem c_toPairs (hl : sl X a = 256) {f : Nat → Nat} (hf : Pa I a f) {q : MI → ML → Prop} (hq : ∀ I', O1 I I' a → Pa I' a (fwd f) → q I' L) : wp_X3_toPairs X J a I L q := by
  refine pk_loop (σ := MI) (fun fu t I' => wl_X3_toPairs_6 X J q a fu (nI (2 ^ t)) (nI (2 ^ (7 - t))) I' L) (fun t I' => O1 I I' a ∧ ∃ G, Pa I' a G ∧ ∀ x, x < 256 → cg (G x) (T f t x)) 7 0 I (by decide) ⟨fun _ _ => rfl, f, hf, fun x hx => by rw [T_0 f hx]; exact cg.rf _⟩ ?_ ?_
  · intro fu I' ⟨u, G, g1, g2⟩
    refine pk_lt 1 2 (fun _ => hq I' u (fun x hx => ⟨fwd_lt f x, ?_⟩)) (fun z => absurd z (by omega))
    rw [(g1 x hx).2, cg.eqN ((g2 x hx).tr (fwd_T f hx).sy) (g1 x hx).1 (fwd_lt f x)]
  · intro fu t I' ht ⟨u, G, g1, g2⟩ ih
    have hw : 2 ^ (8 - t) = 2 * 2 ^ (7 - t) := by rw [show 8 - t = 7 - t + 1 by omega, Nat.pow_succ, Nat.mul_comm]
    have hw2 : 2 ^ (7 - t) = 2 * 2 ^ (7 - (t + 1)) := by rw [show 7 - t = 7 - (t + 1) + 1 by omega, Nat.pow_succ, Nat.mul_comm]
    have hp := Nat.two_pow_pos (7 - (t + 1))
    have htot : 2 ^ (8 - t) * 2 ^ t = 256 := by rw [← Nat.pow_add, show 8 - t + t = 8 by omega]
    have h64 : 2 ^ t ≤ 64 := Nat.pow_le_pow_right (n := 2) (i := t) (j := 6) (by decide) (by omega)
    have h128 : 2 ^ (7 - t) ≤ 128 := Nat.pow_le_pow_right (n := 2) (i := 7 - t) (j := 7) (by decide) (by omega)
    refine pk_lt (2 ^ (7 - t)) 2 (fun z => absurd z (by omega)) (fun _ => ?_)
    refine pk_loop (σ := MI) (fun fv b I' => wl_X3_toPairs_13 X J q (wl_X3_toPairs_6 X J q a fu) a (nI (2 ^ (7 - t))) fv (nI (2 ^ t + b)) (nI (2 ^ (8 - t) * b)) I' L) (fun b I' => O1 I I' a ∧ ∃ G, Pa I' a G ∧ ∀ x, x < 256 → cg (G x) (if x < 2 ^ (8 - t) * b then T f (t + 1) x else T f t x)) (2 ^ t) 0 I' (Nat.zero_le _) ⟨u, G, g1, fun x hx => by rw [Nat.mul_zero, if_neg (by omega)]; exact g2 x hx⟩ ?_ ?_
    · intro fv I2 ⟨u2, G2, k1, k2⟩
      refine pk_le 256 (2 ^ (8 - t) * 2 ^ t) (fun _ x2 e2 => ?_) (fun z => absurd z (by omega))
      rw [show (1 : Int32) = nI 1 from rfl, jshr_n (by omega) (by decide), hw2, show 2 * 2 ^ (7 - (t + 1)) / 2 ^ 1 = 2 ^ (7 - (t + 1)) by omega] at e2
      rw [e2, show 2 ^ t + 2 ^ t = 2 ^ (t + 1) by rw [Nat.pow_succ]; omega]
      refine ih I2 ⟨u2, G2, k1, fun x hx => ?_⟩
      have := k2 x hx
      rw [if_pos (by omega)] at this
      exact this
    · intro fv b I2 hb ⟨u2, G2, k1, k2⟩ ih2
      have hle : 2 ^ (8 - t) * (b + 1) ≤ 256 := by rw [← htot]; exact Nat.mul_le_mul_left _ hb
      rw [Nat.mul_add, Nat.mul_one] at hle
      refine pk_le 256 (2 ^ (8 - t) * b) (fun z => absurd z (by omega)) (fun _ => ?_)
      have hr := roN_ok (2 ^ t + b) (by omega)
      rw [nI_clamp (n := 2 ^ t + b) (by omega), hr.1]
      refine ⟨vp_in_nI (show 2 ^ t + b < stL 3 by show _ < 128; omega) (by decide), ?_⟩
      refine c_split hl k1 (by omega) hr.2.1 (fun I3 f1 f2 => ?_)
      intro x1 e1 x3 e3
      rw [nI_1] at e1
      rw [show (2 : Int32) = nI 2 from rfl, pk_mul, nI_add, ← hw] at e3
      rw [e1, e3]
      have := ih2 I3 ⟨fun k hk => (f1 k hk).trans (u2 k hk), _, f2, spl_T ht hb (fun x hx => (k1 x hx).1) k2⟩
      rw [Nat.mul_add, Nat.mul_one] at this
      exact this
end RNG
