/-! ===== BACK ===== -/
def ri (b : Nat) : Int := powN (256 - oddN b)
theorem ri_ok : ∀ s, s < 7 → ∀ b, b < 2 ^ s → ∀ c, c < 2 ^ (6 - s) → (ri (2 * b * 2 ^ (6 - s) + c) ^ 2 ^ (6 - s)) % 3329 = (-(roN (2 ^ (s + 1) - 1 - b) : Int)) % 3329 ∧ (ri ((2 * b + 1) * 2 ^ (6 - s) + c) ^ 2 ^ (6 - s)) % 3329 = (roN (2 ^ (s + 1) - 1 - b) : Int) % 3329 := by decide +kernel
def uS (g : Nat → Nat) (b n y : Nat) : Int := Sm (fun c => (g (2 * (b * n + c) + y % 2) : Int) * ri (b * n + c) ^ (y / 2)) n
def U (g : Nat → Nat) (s x : Nat) : Int := uS g (x / 2 ^ (8 - s)) (2 ^ (7 - s)) (x % 2 ^ (8 - s))
theorem U_7 (g : Nat → Nat) (x : Nat) : U g 7 x = g x := by
  unfold U uS
  show 0 + (g (2 * (x / 2 * 1 + 0) + x % 2 % 2) : Int) * ri (x / 2 * 1 + 0) ^ (x % 2 / 2) = g x
  rw [show x % 2 / 2 = 0 by omega, Int.pow_zero, Int.mul_one, Int.zero_add, show 2 * (x / 2 * 1 + 0) + x % 2 % 2 = x by omega]
theorem uS_lo (g : Nat → Nat) (b n y : Nat) : uS g b (2 * n) y = uS g (2 * b) n y + uS g (2 * b + 1) n y := by
  unfold uS
  rw [show 2 * n = n + n by omega, Sm_app]
  have e : ∀ c, b * (n + n) + c = 2 * b * n + c := fun c => by rw [Nat.mul_add, Nat.mul_assoc 2 b n]; omega
  have e2 : ∀ c, b * (n + n) + (n + c) = (2 * b + 1) * n + c := fun c => by rw [Nat.mul_add, Nat.add_mul, Nat.mul_assoc 2 b n]; omega
  congr 1
  · exact Sm_eq fun c _ => by rw [e c]
  · exact Sm_eq fun c _ => by rw [e2 c]
theorem uS_hi (g : Nat → Nat) (b n y m : Nat) {ρ : Int} (h0 : ∀ c, c < n → cg (ri (2 * b * n + c) ^ m) (-ρ)) (h1 : ∀ c, c < n → cg (ri ((2 * b + 1) * n + c) ^ m) ρ) :
    cg (uS g b (2 * n) (2 * m + y)) (ρ * (uS g (2 * b + 1) n y - uS g (2 * b) n y)) := by
  rw [uS_lo]
  have k : ∀ B, ∀ κ : Int, (∀ c, c < n → cg (ri (B * n + c) ^ m) κ) → cg (uS g B n (2 * m + y)) (κ * uS g B n y) := by
    intro B κ hκ
    unfold uS
    rw [← Sm_mul]
    refine Sm_cg fun c hc => ?_
    rw [show (2 * m + y) % 2 = y % 2 by omega, show (2 * m + y) / 2 = m + y / 2 by omega, Int.pow_add]
    rw [show (g (2 * (B * n + c) + y % 2) : Int) * (ri (B * n + c) ^ m * ri (B * n + c) ^ (y / 2)) = ri (B * n + c) ^ m * ((g (2 * (B * n + c) + y % 2) : Int) * ri (B * n + c) ^ (y / 2)) by rw [← Int.mul_assoc, Int.mul_comm (g _ : Int), Int.mul_assoc]]
    exact (hκ c hc).mul (cg.rf _)
  refine ((k (2 * b) (-ρ) h0).add (k (2 * b + 1) ρ h1)).tr ?_
  rw [Int.mul_sub, Int.neg_mul]
  rw [show -(ρ * uS g (2 * b) n y) + ρ * uS g (2 * b + 1) n y = ρ * uS g (2 * b + 1) n y - ρ * uS g (2 * b) n y by omega]
  exact cg.rf _
theorem U_step (g : Nat → Nat) {s b c : Nat} (hs : s < 7) (hb : b < 2 ^ s) (hc : c < 2 ^ (7 - s)) :
    U g s (2 ^ (8 - s) * b + c) = U g (s + 1) (2 ^ (8 - s) * b + c) + U g (s + 1) (2 ^ (8 - s) * b + 2 ^ (7 - s) + c) ∧
    cg (U g s (2 ^ (8 - s) * b + 2 ^ (7 - s) + c)) (roN (2 ^ (s + 1) - 1 - b) * (U g (s + 1) (2 ^ (8 - s) * b + 2 ^ (7 - s) + c) - U g (s + 1) (2 ^ (8 - s) * b + c))) := by
  have hw : 2 ^ (8 - s) = 2 * 2 ^ (7 - s) := by rw [show 8 - s = 7 - s + 1 by omega, Nat.pow_succ, Nat.mul_comm]
  have hw2 : 2 ^ (7 - s) = 2 * 2 ^ (6 - s) := by rw [show 7 - s = 6 - s + 1 by omega, Nat.pow_succ, Nat.mul_comm]
  have hp := Nat.two_pow_pos (7 - s)
  have e1 : U g (s + 1) (2 ^ (8 - s) * b + c) = uS g (2 * b) (2 ^ (6 - s)) c := by
    unfold U
    rw [show 8 - (s + 1) = 7 - s by omega, show 7 - (s + 1) = 6 - s by omega, hw, show 2 * 2 ^ (7 - s) * b + c = 2 ^ (7 - s) * (2 * b) + c by rw [Nat.mul_comm 2, Nat.mul_assoc], Nat.mul_add_div hp, Nat.mul_add_mod, Nat.div_eq_of_lt hc, Nat.mod_eq_of_lt hc, show 2 * b + 0 = 2 * b from rfl]
  have e2 : U g (s + 1) (2 ^ (8 - s) * b + 2 ^ (7 - s) + c) = uS g (2 * b + 1) (2 ^ (6 - s)) c := by
    unfold U
    rw [show 8 - (s + 1) = 7 - s by omega, show 7 - (s + 1) = 6 - s by omega, hw, show 2 * 2 ^ (7 - s) * b + 2 ^ (7 - s) + c = 2 ^ (7 - s) * (2 * b + 1) + c by rw [Nat.mul_add, Nat.mul_one, Nat.mul_comm 2, Nat.mul_assoc], Nat.mul_add_div hp, Nat.mul_add_mod, Nat.div_eq_of_lt hc, Nat.mod_eq_of_lt hc, show 2 * b + 1 + 0 = 2 * b + 1 from rfl]
  have e3 : U g s (2 ^ (8 - s) * b + c) = uS g b (2 * 2 ^ (6 - s)) c := by
    unfold U
    rw [Nat.mul_add_div (by omega), Nat.mul_add_mod, Nat.div_eq_of_lt (by omega), Nat.mod_eq_of_lt (by omega), show b + 0 = b from rfl, hw2]
  have e4 : U g s (2 ^ (8 - s) * b + 2 ^ (7 - s) + c) = uS g b (2 * 2 ^ (6 - s)) (2 * 2 ^ (6 - s) + c) := by
    unfold U
    rw [Nat.add_assoc, Nat.mul_add_div (by omega), Nat.mul_add_mod, Nat.div_eq_of_lt (by omega), Nat.mod_eq_of_lt (by omega), show b + 0 = b from rfl, hw2]
  rw [e1, e2, e3, e4]
  exact ⟨uS_lo g b _ c, uS_hi g b _ c _ (fun c' hc' => (ri_ok s hs b hb c' hc').1) (fun c' hc' => (ri_ok s hs b hb c' hc').2)⟩
def bk (g : Nat → Nat) (x : Nat) : Nat := 3303 * (sN (fun i => powN ((256 - oddN i * (x / 2) % 256) % 256) * g (2 * i + x % 2)) 128 % 3329) % 3329
theorem bk_lt (g : Nat → Nat) (x : Nat) : bk g x < 3329 := Nat.mod_lt _ (by decide)
theorem odd_inv : ∀ i, i < 128 → oddN i ≤ 256 ∧ ((17 : Int) ^ oddN i * ri i) % 3329 = 1 := by decide +kernel
theorem pow_inv {i : Nat} (hi : i < 128) (j : Nat) : cg (powN ((256 - oddN i * j % 256) % 256)) (ri i ^ j) := by
  -- both are the inverse of 17 ^ (odd j)
  have h1 : cg ((17 : Int) ^ (oddN i * j) * powN ((256 - oddN i * j % 256) % 256)) 1 := by
    have a1 := powN_mod (256 - oddN i * j % 256)
    have a2 : cg ((17 : Int) ^ (oddN i * j)) (powN (oddN i * j % 256)) := ((powN_mod (oddN i * j)).tr (powN_cg _)).sy
    refine (a2.mul a1).tr (((powN_cg _).mul (powN_cg _)).tr ?_)
    rw [← Int.pow_add]
    have hm := Nat.mod_lt (oddN i * j) (show 0 < 256 by decide)
    rw [show oddN i * j % 256 + (256 - oddN i * j % 256) = 256 by omega]
    exact (powN_cg 256).sy.tr (by rw [p256]; exact cg.rf _)
  have h2 : cg ((17 : Int) ^ (oddN i * j) * ri i ^ j) 1 := by
    rw [Int.pow_mul, ← Int.mul_pow]
    have := cg.pow (show cg ((17 : Int) ^ oddN i * ri i) 1 from (odd_inv i hi).2) j
    rw [Int.one_pow] at this
    exact this
  -- a = a (u b) = (a u) b = b
  generalize (17 : Int) ^ (oddN i * j) = u at h1 h2
  generalize ((powN ((256 - oddN i * j % 256) % 256) : Nat) : Int) = x at h1 ⊢
  generalize ri i ^ j = y at h2 ⊢
  have h3 : cg (x * (u * y)) (x * 1) := (cg.rf x).mul h2
  have h4 : cg ((u * x) * y) (1 * y) := h1.mul (cg.rf y)
  rw [Int.mul_one] at h3
  rw [Int.one_mul] at h4
  rw [show x * (u * y) = u * x * y by rw [← Int.mul_assoc, Int.mul_comm x u]] at h3
  exact h3.sy.tr h4
theorem bk_U (g : Nat → Nat) {x : Nat} (hx : x < 256) : cg (bk g x) (3303 * U g 0 x) := by
  unfold bk
  refine (cg.modN _).tr ?_
  rw [Int.natCast_mul]
  refine (cg.rf _).mul ((cg.modN _).tr ?_)
  rw [sN_Sm]
  unfold U uS
  show cg _ (Sm (fun c => (g (2 * (x / 256 * 128 + c) + x % 256 % 2) : Int) * ri (x / 256 * 128 + c) ^ (x % 256 / 2)) 128)
  rw [Nat.div_eq_of_lt hx, Nat.mod_eq_of_lt hx]
  refine Sm_cg fun c hc => ?_
  rw [Nat.zero_mul, Nat.zero_add, Int.natCast_mul, Int.mul_comm]
  exact (cg.rf _).mul (pow_inv hc _)
/-- two blocks, joined -/
def jn (s h ρ : Nat) (G : Nat → Nat) (x : Nat) : Nat :=
  if s ≤ x ∧ x < s + h then (G x + G (x + h)) % 3329 else if s + h ≤ x ∧ x < s + 2 * h then ((G x + 3329 - G (x - h)) * ρ) % 3329 else G x
section BCK
variable {X : XT} {J : MJ} {I : MI} {L : ML} {a : Nat}
theorem c_join (hl : sl X a = 256) {G : Nat → Nat} (hG : Pa I a G) {s h ρ : Nat} (hs : s + 2 * h ≤ 256) (hρ : ρ < 3329) {q : MI → ML → Prop} (hq : ∀ I', O1 I I' a → Pa I' a (jn s h ρ G) → q I' L) : wp_X3_joinBlock X J a (nI s) (nI h) (nI ρ) I L q := by
  refine pk_loop (σ := MI) (fun fu c I' => wl_X3_joinBlock_3 X J q a (nI s) (nI h) (nI ρ) fu (nI (s + c)) I' L) (fun c I' => O1 I I' a ∧ ∀ x, x < 256 → I' a x = nI (if (s ≤ x ∧ x < s + c) ∨ (s + h ≤ x ∧ x < s + h + c) then jn s h ρ G x else G x)) h 0 I (Nat.zero_le _) ⟨fun _ _ => rfl, fun x hx => by rw [if_neg (by omega)]; exact (hG x hx).2⟩ ?_ ?_
  · intro fu I' ⟨u, v⟩
    refine pk_le (s + h) (s + h) (fun _ => hq I' u (fun x hx => ⟨?_, ?_⟩)) (fun z => absurd z (by omega)) (nI_add s h)
    · unfold jn
      split
      · exact Nat.mod_lt _ (by decide)
      · split
        · exact Nat.mod_lt _ (by decide)
        · exact (hG x hx).1
    · rw [v x hx]
      split
      · rfl
      · rename_i z
        unfold jn
        rw [if_neg (by omega), if_neg (by omega)]
  · intro fu c I' hc ⟨u, v⟩ ih
    refine pk_le (s + h) (s + c) (fun z => absurd z (by omega)) (fun _ => ?_) (nI_add s h)
    have hin1 : vp_in (nI (s + c)) (sl X a) := by rw [hl]; exact vp_in_nI (by omega) (by decide)
    have hin2 : vp_in (nI (s + c + h)) (sl X a) := by rw [hl]; exact vp_in_nI (by omega) (by decide)
    have g1 := hG (s + c) (by omega)
    have g2 := hG (s + c + h) (by omega)
    have m2 : (G (s + c + h) + 3329 - G (s + c)) * ρ ≤ 6657 * 3328 := Nat.mul_le_mul (by omega) (by omega)
    rw [nI_add (s + c) h, nI_clamp (n := s + c) (by omega), nI_clamp (n := s + c + h) (by omega), v (s + c) (by omega), if_neg (by omega), v (s + c + h) (by omega), if_neg (by omega)]
    refine ⟨hin1, fun x5 e5 => ⟨hin2, fun x6 e6 => ⟨hin1, fun I6 e6' => ⟨hin2, fun I8 e8 x4 e4 => ?_⟩⟩⟩⟩
    rw [e4, nI_1]
    rw [e5, e6, nI_add, show (3329 : Int32) = nI 3329 from rfl, jrem_n (by omega) (by decide) (by decide)] at e6'
    rw [e5, e6, sub3 (by omega), pk_mul, show (3329 : Int32) = nI 3329 from rfl, jrem_n (by omega) (by decide) (by decide)] at e8
    refine ih I8 ⟨fun k hk => ((ms_o e8 hk).trans (ms_o e6' hk)).trans (u k hk), fun x hx => ?_⟩
    rw [ms_k e8]
    by_cases e1 : x = s + c + h
    · subst e1
      rw [va_up_self, if_pos (by omega)]
      unfold jn
      rw [if_neg (by omega), if_pos (by omega), show s + c + h - h = s + c by omega]
    · rw [va_up_ne _ _ e1, ms_k e6']
      by_cases e2 : x = s + c
      · subst e2
        rw [va_up_self, if_pos (by omega)]
        unfold jn
        rw [if_pos (by omega)]
      · rw [va_up_ne _ _ e2, v x hx]
        by_cases h1 : (s ≤ x ∧ x < s + c) ∨ (s + h ≤ x ∧ x < s + h + c)
        · rw [if_pos h1, if_pos (by omega)]
        · rw [if_neg h1, if_neg (by omega)]
theorem jn_U {g G : Nat → Nat} {s b : Nat} (hs : s < 7) (hb : b < 2 ^ s) (hG : ∀ x, x < 256 → G x < 3329) (h : ∀ x, x < 256 → cg (G x) (if x < 2 ^ (8 - s) * b then U g s x else U g (s + 1) x)) :
    ∀ x, x < 256 → cg (jn (2 ^ (8 - s) * b) (2 ^ (7 - s)) (roN (2 ^ (s + 1) - 1 - b)) G x) (if x < 2 ^ (8 - s) * (b + 1) then U g s x else U g (s + 1) x) := by
  have hw : 2 ^ (8 - s) = 2 * 2 ^ (7 - s) := by rw [show 8 - s = 7 - s + 1 by omega, Nat.pow_succ, Nat.mul_comm]
  have hp := Nat.two_pow_pos (7 - s)
  have htot : 2 ^ (8 - s) * 2 ^ s = 256 := by rw [← Nat.pow_add, show 8 - s + s = 8 by omega]
  have hle : 2 ^ (8 - s) * (b + 1) ≤ 256 := by rw [← htot]; exact Nat.mul_le_mul_left _ hb
  have hb1 : 2 ^ (8 - s) * (b + 1) = 2 ^ (8 - s) * b + 2 ^ (8 - s) := by rw [Nat.mul_add, Nat.mul_one]
  generalize hB : 2 ^ (8 - s) * b = B at *
  generalize hH : 2 ^ (7 - s) = H at *
  intro x hx
  unfold jn
  by_cases c1 : B ≤ x ∧ x < B + H
  · rw [if_pos c1, if_pos (by omega)]
    obtain ⟨c, rfl⟩ : ∃ c, x = B + c := ⟨x - B, by omega⟩
    have st := (U_step g hs hb (c := c) (by rw [hH]; omega)).1
    rw [hB, hH] at st
    rw [st]
    have h1 := h (B + c) hx
    have h2 := h (B + H + c) (by omega)
    rw [if_neg (by omega)] at h1 h2
    refine (cg.modN _).tr ?_
    rw [Int.natCast_add, show B + c + H = B + H + c by omega]
    exact h1.add h2
  · rw [if_neg c1]
    by_cases c2 : B + H ≤ x ∧ x < B + 2 * H
    · rw [if_pos c2, if_pos (by omega)]
      obtain ⟨c, rfl⟩ : ∃ c, x = B + H + c := ⟨x - B - H, by omega⟩
      have st := (U_step g hs hb (c := c) (by rw [hH]; omega)).2
      rw [hB, hH] at st
      refine cg.tr ?_ st.sy
      have h1 := h (B + c) (by omega)
      have h2 := h (B + H + c) hx
      have hl1 := hG (B + c) (by omega)
      rw [if_neg (by omega)] at h1 h2
      refine (cg.modN _).tr ?_
      rw [show B + H + c - H = B + c by omega, Int.natCast_mul, Int.mul_comm]
      refine (cg.rf _).mul ?_
      have e : ((G (B + H + c) + 3329 - G (B + c) : Nat) : Int) = (G (B + H + c) : Int) - G (B + c) + 3329 := by omega
      rw [e]
      have h3 : cg ((G (B + H + c) : Int) - G (B + c) + 3329) ((G (B + H + c) : Int) - G (B + c)) := by
        unfold cg
        omega
      exact h3.tr (h2.sub h1)
    · rw [if_neg c2]
      have h1 := h x hx
      by_cases c3 : x < B
      · rw [if_pos c3] at h1
        rw [if_pos (by omega)]
        exact h1
      · rw [if_neg c3] at h1
        rw [if_neg (by omega)]
        exact h1
theorem c_fromPairs (hl : sl X a = 256) {g : Nat → Nat} (hg : Pa I a g) {q : MI → ML → Prop} (hq : ∀ I', O1 I I' a → Pa I' a (bk g) → q I' L) : wp_X3_fromPairs X J a I L q := by
  refine pk_loop (σ := MI) (fun fu u I' => wl_X3_fromPairs_5 X J q a fu (nI (2 ^ (7 - u) - 1)) (nI (2 ^ (1 + u))) I' L) (fun u I' => O1 I I' a ∧ ∃ G, Pa I' a G ∧ ∀ x, x < 256 → cg (G x) (U g (7 - u) x)) 7 0 I (by decide) ⟨fun _ _ => rfl, g, hg, fun x hx => by rw [U_7 g x]; exact cg.rf _⟩ ?_ ?_
  · intro fu I' ⟨u, G, g1, g2⟩
    refine pk_lt 128 256 (fun _ => ?_) (fun z => absurd z (by omega))
    refine loop256 (L := L) (f := G) (g := fun i => G i * 3303 % 3329) g1 (fun fu x I' L => wl_X3_fromPairs_53 X J q a fu x I' L) (q := q) (fun fu I' hq => pk_le 256 256 (fun _ => hq) (fun z => absurd z (by omega))) (fun fu i I' hi hv ih => ?_) (fun i hi => Nat.mod_lt _ (by decide)) (fun I2 f1 f2 => hq I2 (fun k hk => (f1 k hk).trans (u k hk)) (fun x hx => ⟨bk_lt g x, ?_⟩))
    · refine pk_le 256 i (fun z => absurd z (by omega)) (fun _ => ?_)
      have hin : vp_in (nI i) (sl X a) := by rw [hl]; exact vp_in_nI hi (by decide)
      have hgi := (g1 i hi).1
      rw [nI_clamp (n := i) (by omega), hv]
      refine ⟨hin, hin, fun I4 e4 x3 e3 => ?_⟩
      rw [e3, nI_1]
      refine ih I4 ?_
      rw [e4, show (3303 : Int32) = nI 3303 from rfl, pk_mul, show (3329 : Int32) = nI 3329 from rfl, jrem_n (by omega) (by decide) (by decide)]
    · rw [(f2 x hx).2]
      congr 1
      refine cg.eqN ?_ (Nat.mod_lt _ (by decide)) (bk_lt g x)
      refine (cg.modN _).tr (cg.tr ?_ (bk_U g hx).sy)
      rw [Int.natCast_mul, Int.mul_comm]
      exact (cg.rf _).mul (g2 x hx)
  · intro fu u I' hu ⟨u0, G, g1, g2⟩ ih
    have hw : 2 ^ (2 + u) = 2 * 2 ^ (1 + u) := by rw [show 2 + u = 1 + u + 1 by omega, Nat.pow_succ, Nat.mul_comm]
    have hw7 : 2 ^ (7 - u) = 2 * 2 ^ (6 - u) := by rw [show 7 - u = 6 - u + 1 by omega, Nat.pow_succ, Nat.mul_comm]
    have hp := Nat.two_pow_pos (6 - u)
    have hp1 := Nat.two_pow_pos (1 + u)
    have htot : 2 ^ (2 + u) * 2 ^ (6 - u) = 256 := by rw [← Nat.pow_add, show 2 + u + (6 - u) = 8 by omega]
    have h64 : 2 ^ (6 - u) ≤ 64 := Nat.pow_le_pow_right (n := 2) (i := 6 - u) (j := 6) (by decide) (by omega)
    have h128 : 2 ^ (1 + u) ≤ 128 := Nat.pow_le_pow_right (n := 2) (i := 1 + u) (j := 7) (by decide) (by omega)
    refine pk_lt 128 (2 ^ (1 + u)) (fun z => absurd z (by omega)) (fun _ => ?_)
    have hx1 : ∀ b, 2 ^ (7 - u) - 1 - b = 2 ^ (6 - u + 1) - 1 - b := fun b => by rw [show 7 - u = 6 - u + 1 by omega]
    have h8 : 8 - (6 - u) = 2 + u := by omega
    have h7 : 7 - (6 - u) = 1 + u := by omega
    have h6 : 7 - u = 6 - u + 1 := by omega
    refine pk_loop (σ := MI) (fun fv b I' => wl_X3_fromPairs_14 X J q (wl_X3_fromPairs_5 X J q a fu) a (nI (2 ^ (1 + u))) fv (nI (2 ^ (7 - u) - 1 - b)) (nI (2 ^ (2 + u) * b)) I' L) (fun b I' => O1 I I' a ∧ ∃ G, Pa I' a G ∧ ∀ x, x < 256 → cg (G x) (if x < 2 ^ (2 + u) * b then U g (6 - u) x else U g (6 - u + 1) x)) (2 ^ (6 - u)) 0 I' (Nat.zero_le _) ⟨u0, G, g1, fun x hx => by rw [Nat.mul_zero, if_neg (by omega), ← h6]; exact g2 x hx⟩ ?_ ?_
    · intro fv I2 ⟨u2, G2, k1, k2⟩
      refine pk_le 256 (2 ^ (2 + u) * 2 ^ (6 - u)) (fun _ x2 e2 => ?_) (fun z => absurd z (by omega))
      rw [show (1 : Int32) = nI 1 from rfl, jshl_n (by decide) (by omega), show 2 ^ (1 + u) * 2 ^ 1 = 2 ^ (1 + (u + 1)) by rw [← Nat.pow_add, Nat.add_assoc]] at e2
      rw [e2, show 2 ^ (7 - u) - 1 - 2 ^ (6 - u) = 2 ^ (7 - (u + 1)) - 1 by rw [show 7 - (u + 1) = 6 - u by omega]; omega]
      refine ih I2 ⟨u2, G2, k1, fun x hx => ?_⟩
      have := k2 x hx
      rw [if_pos (by omega)] at this
      rw [show 7 - (u + 1) = 6 - u by omega]
      exact this
    · intro fv b I2 hb ⟨u2, G2, k1, k2⟩ ih2
      have hle : 2 ^ (2 + u) * (b + 1) ≤ 256 := by rw [← htot]; exact Nat.mul_le_mul_left _ hb
      rw [Nat.mul_add, Nat.mul_one] at hle
      refine pk_le 256 (2 ^ (2 + u) * b) (fun z => absurd z (by omega)) (fun _ => ?_)
      have hr := roN_ok (2 ^ (7 - u) - 1 - b) (by omega)
      rw [nI_clamp (n := 2 ^ (7 - u) - 1 - b) (by omega), hr.1]
      refine ⟨vp_in_nI (show 2 ^ (7 - u) - 1 - b < stL 3 by show _ < 128; omega) (by decide), ?_⟩
      refine c_join hl k1 (by omega) hr.2.1 (fun I3 f1 f2 => ?_)
      intro x1 e1 x3 e3
      rw [show 2 ^ (7 - u) - 1 - b = 2 ^ (7 - u) - 1 - (b + 1) + 1 by omega, pk_m1] at e1
      rw [show (2 : Int32) = nI 2 from rfl, pk_mul, nI_add, ← hw] at e3
      rw [e1, e3]
      have hU := jn_U (g := g) (G := G2) (s := 6 - u) (b := b) (by omega) hb (fun x hx => (k1 x hx).1) (by rw [h8]; exact k2)
      rw [h8, h7, ← hx1 b] at hU
      have := ih2 I3 ⟨fun k hk => (f1 k hk).trans (u2 k hk), _, f2, hU⟩
      rw [Nat.mul_add, Nat.mul_one] at this
      exact this
end BCK
