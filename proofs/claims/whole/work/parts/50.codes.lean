/-! ===== numbers by their bits ===== -/
def V (g : Nat → Bool) (a : Nat) : Nat → Nat
  | 0 => 0
  | n + 1 => V g a n + bv (g (a + n)) n
theorem V_lt (g : Nat → Bool) (a : Nat) : ∀ n, V g a n < 2 ^ n
  | 0 => Nat.one_pos
  | n + 1 => by
    have h1 := V_lt g a n
    have h2 := bv_lt (g (a + n)) n
    show V g a n + bv _ n < _
    rw [Nat.pow_succ]
    omega
theorem bv_mul (b : Bool) (n k : Nat) : bv b (n + k) = 2 ^ n * bv b k := by
  unfold bv
  split
  · rw [Nat.pow_add]
  · rfl
theorem V_add (g : Nat → Bool) (a n : Nat) : ∀ k, V g a (n + k) = V g a n + 2 ^ n * V g (a + n) k
  | 0 => rfl
  | k + 1 => by
    show V g a (n + k) + bv (g (a + (n + k))) (n + k) = V g a n + 2 ^ n * (V g (a + n) k + bv (g (a + n + k)) k)
    rw [V_add g a n k, bv_mul, Nat.mul_add, Nat.add_assoc, Nat.add_assoc]
theorem V_mod (g : Nat → Bool) (a : Nat) {n k : Nat} (h : k ≤ n) : V g a n % 2 ^ k = V g a k := by
  obtain ⟨m, rfl⟩ : ∃ m, n = k + m := ⟨n - k, by omega⟩
  rw [V_add, Nat.add_mul_mod_self_left, Nat.mod_eq_of_lt (V_lt g a k)]
theorem V_div (g : Nat → Bool) (a : Nat) {n k : Nat} (h : k ≤ n) : V g a n / 2 ^ k = V g (a + k) (n - k) := by
  obtain ⟨m, rfl⟩ : ∃ m, n = k + m := ⟨n - k, by omega⟩
  rw [V_add, Nat.add_mul_div_left _ _ (Nat.two_pow_pos k), Nat.div_eq_of_lt (V_lt g a k), Nat.zero_add, show k + m - k = m by omega]
theorem V_congr {g h : Nat → Bool} {a b : Nat} : ∀ {n : Nat}, (∀ i, i < n → g (a + i) = h (b + i)) → V g a n = V h b n
  | 0, _ => rfl
  | n + 1, e => by
    show V g a n + bv (g (a + n)) n = V h b n + bv (h (b + n)) n
    rw [V_congr (n := n) (fun i hi => e i (by omega)), e n (by omega)]
theorem V_of (x : Nat) : ∀ d, V (fun i => x.testBit i) 0 d = x % 2 ^ d
  | 0 => by show 0 = x % 1; omega
  | d + 1 => by
    show V _ 0 d + bv (x.testBit (0 + d)) d = _
    rw [V_of x d, Nat.zero_add, Nat.pow_succ, Nat.mod_mul, Nat.testBit_eq_decide_div_mod_eq]
    unfold bv
    rcases (show x / 2 ^ d % 2 = 0 ∨ x / 2 ^ d % 2 = 1 by omega) with h | h <;> simp [h]
theorem V_bit (g : Nat → Bool) (a : Nat) : ∀ n i, (V g a n).testBit i = (decide (i < n) && g (a + i))
  | 0, i => by simp [V]
  | n + 1, i => by
    have hl := V_lt g a n
    have e : V g a n + bv (g (a + n)) n = 2 ^ n * (if g (a + n) then 1 else 0) + V g a n := by
      unfold bv
      split <;> simp [Nat.add_comm]
    show (V g a n + bv (g (a + n)) n).testBit i = _
    rw [e, Nat.testBit_two_pow_mul_add _ hl]
    by_cases h : i < n
    · rw [if_pos h, V_bit g a n i]
      simp [h, show i < n + 1 by omega]
    · rw [if_neg h]
      by_cases h2 : i = n
      · subst h2
        cases g (a + i) <;> simp
      · have : ¬ i < n + 1 := by omega
        have h3 : i - n ≠ 0 := by omega
        cases g (a + n)
        · simp [this]
        · have h4 : Nat.testBit 1 (i - n) = false := by
            rw [show (1 : Nat) = 2 ^ 0 from rfl, Nat.testBit_two_pow]
            simp; omega
          simp [this, h4]
theorem or_sh {a c n : Nat} (ha : a < 2 ^ n) : a ||| c * 2 ^ n = a + 2 ^ n * c := by
  rw [Nat.or_comm, Nat.mul_comm, ← Nat.two_pow_add_eq_or_of_lt ha, Nat.add_comm]
/-! ===== COMPRESSED, STRETCHED, ENCODED, DECODED ===== -/
def cmp (d x : Nat) : Nat := (2 * 2 ^ d * x + 3329) / 6658 % 2 ^ d
def dcm (d x : Nat) : Nat := ((x % 2 ^ d) * 3329 + 2 ^ (d - 1)) / 2 ^ d
/-- BIT n of f ENCODED by d -/
def eb (d : Nat) (f : Nat → Nat) (n : Nat) : Bool := (f (n / d)).testBit (n % d)
def enc (d : Nat) (f : Nat → Nat) (k : Nat) : Nat := V (eb d f) (8 * k) 8
/-- BIT n of a row of BYTES -/
def tb (b : Nat → Nat) (n : Nat) : Bool := (b (n / 8)).testBit (n % 8)
def gv (d : Nat) (b : Nat → Nat) (i : Nat) : Nat := V (tb b) (d * i) d
def dec (d : Nat) (b : Nat → Nat) (i : Nat) : Nat := gv d b i % 3329
theorem enc_lt (d : Nat) (f : Nat → Nat) (k : Nat) : enc d f k < 256 := V_lt _ _ 8
theorem dec_lt (d : Nat) (b : Nat → Nat) (i : Nat) : dec d b i < 3329 := Nat.mod_lt _ (by decide)
theorem gv_lt (d : Nat) (b : Nat → Nat) (i : Nat) : gv d b i < 2 ^ d := V_lt _ _ _
theorem pow_b {d : Nat} (h1 : 1 ≤ d) (h : d ≤ 12) : 2 ≤ 2 ^ d ∧ 2 ^ d ≤ 4096 := ⟨Nat.pow_le_pow_right (n := 2) (by decide) h1, Nat.pow_le_pow_right (n := 2) (by decide) h⟩
theorem cmp_lt {d x : Nat} (h1 : 1 ≤ d) (h : d ≤ 11) : cmp d x < 3329 := by
  have := Nat.mod_lt ((2 * 2 ^ d * x + 3329) / 6658) (Nat.two_pow_pos d)
  have h2 : 2 ^ d ≤ 2048 := Nat.pow_le_pow_right (n := 2) (by decide) h
  unfold cmp
  omega
theorem dcm_lt {d x : Nat} (h1 : 1 ≤ d) (h : d ≤ 11) : dcm d x < 3329 := by
  unfold dcm
  have h2 := Nat.mod_lt x (Nat.two_pow_pos d)
  have h3 : 2 ^ d = 2 * 2 ^ (d - 1) := by
    rw [show d = d - 1 + 1 by omega, Nat.pow_succ, Nat.add_sub_cancel]; omega
  rw [Nat.div_lt_iff_lt_mul (Nat.two_pow_pos d)]
  have h4 := Nat.two_pow_pos (d - 1)
  have h5 : 2 ^ (d - 1) ≤ 1024 := Nat.pow_le_pow_right (n := 2) (by decide) (show d - 1 ≤ 10 by omega)
  rw [h3] at h2 ⊢
  omega
/-- an array of 256 NUMBERS -/
def Pa (I : MI) (a : Nat) (f : Nat → Nat) : Prop := ∀ j, j < 256 → f j < 3329 ∧ I a j = nI (f j)
def O1 (I I' : MI) (a : Nat) : Prop := ∀ k, k ≠ a → I' k = I k
theorem m_8 {k : Nat} (h : 8 ≤ k) : nI k + (-8) = nI (k - 8) := by
  rw [← pk_sub h, Int32.sub_eq_add_neg]
  exact congrArg (fun x => nI k + x) (by decide)
theorem msk {d : Nat} (h1 : 1 ≤ d) (h : d ≤ 12) : jshl 1 (nI d) - 1 = nI (2 ^ d - 1) := by
  have := pow_b h1 h
  rw [show (1 : Int32) = nI 1 from rfl, jshl_n (by omega) (by omega), Nat.one_mul, pk_sub (by omega)]
theorem and_m {x d : Nat} (hx : x < 2 ^ 32) (h1 : 1 ≤ d) (h : d ≤ 12) : nI x &&& nI (2 ^ d - 1) = nI (x % 2 ^ d) := by
  have := pow_b h1 h
  refine pk_andN hx d ?_
  rw [pk_tn (by omega)]
section CODES
variable {X : XT} {J : MJ} {I : MI} {L : ML} {a : Nat}
/-- a loop over an array of 256 that changes each NUMBER by itself -/
theorem loop256 {I : MI} {a : Nat} {f g : Nat → Nat} (hf : Pa I a f) (W : Nat → Int32 → MI → ML → Prop) {q : MI → ML → Prop} (hx : ∀ fu I', q I' L → W (fu + 1) (nI 256) I' L)
    (hs : ∀ fu i I', i < 256 → I' a i = nI (f i) → (∀ I2, I2 = ms I' a i (nI (g i)) → W fu (nI (i + 1)) I2 L) → W (fu + 1) (nI i) I' L) (hg : ∀ i, i < 256 → g i < 3329)
    (hq : ∀ I', O1 I I' a → Pa I' a g → q I' L) : ∃ fu, W fu 0 I L := by
  refine pk_loop (σ := MI) (fun fu i I' => W fu (nI i) I' L) (fun i I' => O1 I I' a ∧ (∀ j, j < i → I' a j = nI (g j)) ∧ ∀ j, i ≤ j → I' a j = I a j) 256 0 I (by decide) ⟨fun _ _ => rfl, fun j h => absurd h (by omega), fun _ _ => rfl⟩ ?_ ?_
  · intro fu I' ⟨u, v, w⟩
    exact hx fu I' (hq I' u (fun j hj => ⟨hg j hj, v j hj⟩))
  · intro fu i I' hi ⟨u, v, w⟩ ih
    refine hs fu i I' hi (by rw [w i (Nat.le_refl i)]; exact (hf i hi).2) (fun I2 e2 => ih I2 ⟨fun k hk => (ms_o e2 hk).trans (u k hk), fun j hj => ?_, fun j hj => ?_⟩)
    · rw [ms_k e2]
      by_cases e : j = i
      · subst e; exact va_up_self _ _ _
      · rw [va_up_ne _ _ e]; exact v j (by omega)
    · rw [ms_k e2, va_up_ne _ _ (by omega)]; exact w j (by omega)
theorem c_compress (hl : sl X a = 256) {f : Nat → Nat} (hf : Pa I a f) {d : Nat} (h1 : 1 ≤ d) (h : d ≤ 11) {q : MI → ML → Prop} (hq : ∀ I', O1 I I' a → Pa I' a (fun i => cmp d (f i)) → q I' L) : wp_X0_compress X J a (nI d) I L q := by
  have hb := pow_b h1 (by omega)
  intro x2 e2
  rw [msk h1 (by omega)] at e2
  subst e2
  refine loop256 (L := L) (g := fun i => cmp d (f i)) hf (fun fu x I' L => wl_X0_compress_8 X J q a (nI d) (nI (2 ^ d - 1)) fu x I' L) (fun fu I' hq => pk_le 256 256 (fun _ => hq) (fun z => absurd z (by omega))) (fun fu i I' hi hv ih => ?_) (fun i hi => cmp_lt h1 h) hq
  refine pk_le 256 i (fun z => absurd z (by omega)) (fun _ => ?_)
  have hin : vp_in (nI i) (sl X a) := by rw [hl]; exact vp_in_nI hi (by decide)
  rw [nI_clamp (n := i) (by omega), hv]
  refine ⟨hin, hin, fun I4 e4 x3 e3 => ?_⟩
  rw [e3, nI_1]
  refine ih I4 ?_
  have hfi := (hf i hi).1
  have h2 : f i * 2 ^ (d + 1) < 13635585 := by
    have : 2 ^ (d + 1) ≤ 4096 := Nat.pow_le_pow_right (n := 2) (by decide) (show d + 1 ≤ 12 by omega)
    have := Nat.mul_le_mul (show f i ≤ 3328 by omega) this
    omega
  rw [e4, nI_1, jshl_n (by omega) (by omega), show (3329 : Int32) = nI 3329 from rfl, nI_add, show (6658 : Int32) = nI 6658 from rfl, pk_div (by omega) (by decide) (by decide), and_m (by omega) h1 (by omega)]
  unfold cmp
  rw [show f i * 2 ^ (d + 1) = 2 * 2 ^ d * f i by rw [Nat.pow_succ, Nat.mul_comm (f i), Nat.mul_comm (2 ^ d) 2]]
theorem c_decompress (hl : sl X a = 256) {f : Nat → Nat} (hf : Pa I a f) {d : Nat} (h1 : 1 ≤ d) (h : d ≤ 11) {q : MI → ML → Prop} (hq : ∀ I', O1 I I' a → Pa I' a (fun i => dcm d (f i)) → q I' L) : wp_X0_decompress X J a (nI d) I L q := by
  have hb := pow_b h1 (by omega)
  intro x2 e2 x3 e3
  have h4 : 2 ^ (d - 1) ≤ 1024 := Nat.pow_le_pow_right (n := 2) (by decide) (show d - 1 ≤ 10 by omega)
  rw [msk h1 (by omega)] at e2
  rw [show nI d - 1 = nI (d - 1) from pk_sub (a := d) (b := 1) h1, show (1 : Int32) = nI 1 from rfl, jshl_n (by omega) (by omega), Nat.one_mul] at e3
  subst e2 e3
  refine loop256 (L := L) (g := fun i => dcm d (f i)) hf (fun fu x I' L => wl_X0_decompress_15 X J q a (nI d) (nI (2 ^ d - 1)) (nI (2 ^ (d - 1))) fu x I' L) (fun fu I' hq => pk_le 256 256 (fun _ => hq) (fun z => absurd z (by omega))) (fun fu i I' hi hv ih => ?_) (fun i hi => dcm_lt h1 h) hq
  refine pk_le 256 i (fun z => absurd z (by omega)) (fun _ => ?_)
  have hin : vp_in (nI i) (sl X a) := by rw [hl]; exact vp_in_nI hi (by decide)
  rw [nI_clamp (n := i) (by omega), hv]
  refine ⟨hin, hin, fun I4 e4 x3 e3 => ?_⟩
  rw [e3, nI_1]
  refine ih I4 ?_
  have hfi := (hf i hi).1
  have h2 := Nat.mod_lt (f i) (Nat.two_pow_pos d)
  rw [e4, and_m (by omega) h1 (by omega), show (3329 : Int32) = nI 3329 from rfl, pk_mul, nI_add, jshr_n (by omega) (by omega)]
  rfl
theorem c_pack (hl : sl X a = 256) {f : Nat → Nat} (hf : Pa I a f) {d : Nat} (h1 : 1 ≤ d) (h : d ≤ 12) {r w m n : Nat} (hR : Rw X J I r w m n) (hra : a ≠ r ∧ a ≠ w) (hn : n + 32 * d ≤ m) {q : MI → ML → Prop}
    (hq : ∀ I', Fr I I' r w → Rw X J I' r w m (n + 32 * d) → (∀ k, k < 32 * d → rb (I' w) (n + k) = enc d f k) → (∀ j, j < n → rb (I' w) j = rb (I w) j) → q I' L) : wp_X0_pack X J a (nI d) r I L q := by
  have hb := pow_b h1 h
  intro x3 e3
  rw [msk h1 h] at e3
  subst e3
  -- after i NUMBERS: B BYTES are out, the BITS from 8 B on to d i are held
  have main : ∃ fu, wl_X0_pack_15 X J q a (nI d) r (nI (2 ^ d - 1)) fu 0 0 0 I L := by
    refine pk_loop (σ := MI × Int32 × Int32) (fun fu i s => wl_X0_pack_15 X J q a (nI d) r (nI (2 ^ d - 1)) fu s.2.1 s.2.2 (nI i) s.1 L) (fun i s => ∃ B, 8 * B ≤ d * i ∧ d * i < 8 * B + 8 ∧ s.2.1 = nI (V (eb d f) (8 * B) (d * i - 8 * B)) ∧ s.2.2 = nI (d * i - 8 * B) ∧ Fr I s.1 r w ∧ Rw X J s.1 r w m (n + B) ∧ (∀ k, k < B → rb (s.1 w) (n + k) = enc d f k) ∧ (∀ j, j < n → rb (s.1 w) j = rb (I w) j)) 256 0 (I, 0, 0) (by decide) ⟨0, by omega, by omega, rfl, rfl, Fr.rf, hR, fun k hk => absurd hk (by omega), fun _ _ => rfl⟩ ?_ ?_
    · intro fu s ⟨B, b1, b2, b3, b4, b5, b6, b7, b8⟩
      have hB : B = 32 * d := by omega
      subst hB
      exact pk_le 256 256 (fun _ => hq s.1 b5 b6 b7 b8) (fun z => absurd z (by omega))
    · intro fu i s hi ⟨B, b1, b2, b3, b4, b5, b6, b7, b8⟩ ih
      refine pk_le 256 i (fun z => absurd z (by omega)) (fun _ => ?_)
      rw [nI_clamp (n := i) (by omega), show s.1 a = I a from b5.1 a hra.1 hra.2, (hf i hi).2, b3, b4]
      refine ⟨by rw [hl]; exact vp_in_nI hi (by decide), fun x4 e4 x5 e5 => ?_⟩
      have hfi := (hf i hi).1
      have hV := V_lt (eb d f) (8 * B) (d * i - 8 * B)
      have hm := Nat.mod_lt (f i) (Nat.two_pow_pos d)
      have h7 : 2 ^ (d * i - 8 * B) ≤ 128 := Nat.pow_le_pow_right (n := 2) (i := d * i - 8 * B) (j := 7) (by decide) (by omega)
      have hsm : (f i % 2 ^ d) * 2 ^ (d * i - 8 * B) < 2 ^ 20 := by
        have := Nat.mul_le_mul (show f i % 2 ^ d ≤ 4095 by omega) h7
        omega
      have hg : V (eb d f) (d * i) d = f i % 2 ^ d := by
        rw [← V_of (f i) d]
        refine V_congr (fun j hj => ?_)
        unfold eb
        rw [Nat.mul_add_div (by omega), Nat.div_eq_of_lt hj, Nat.mul_add_mod, Nat.mod_eq_of_lt hj, Nat.add_zero, Nat.zero_add]
      have e4' : x4 = nI (V (eb d f) (8 * B) (d * (i + 1) - 8 * B)) := by
        rw [e4, and_m (by omega) h1 h, jshl_n (by omega) (by omega), or_n, or_sh hV, ← hg, show d * (i + 1) - 8 * B = (d * i - 8 * B) + d by rw [Nat.mul_add]; omega, V_add, show 8 * B + (d * i - 8 * B) = d * i by omega]
      have e5' : x5 = nI (d * (i + 1) - 8 * B) := by
        rw [e5, nI_add]
        exact congrArg nI (by rw [Nat.mul_add]; omega)
      rw [e4', e5']
      -- the inner loop: as long as a BYTE is full
      have hdi : d * (i + 1) = d * i + d := by rw [Nat.mul_add, Nat.mul_one]
      refine lp2 (fun fv B' I' => wl_X0_pack_43 X J q (wl_X0_pack_15 X J q a (nI d) r (nI (2 ^ d - 1)) fu) a (nI d) r (nI (2 ^ d - 1)) (nI i) fv (nI (V (eb d f) (8 * B') (d * (i + 1) - 8 * B'))) (nI (d * (i + 1) - 8 * B')) I' L) (fun B' I' => 8 * B' ≤ d * (i + 1) ∧ d * (i + 1) < 8 * B' + 20 ∧ Fr I I' r w ∧ Rw X J I' r w m (n + B') ∧ (∀ k, k < B' → rb (I' w) (n + k) = enc d f k) ∧ (∀ j, j < n → rb (I' w) j = rb (I w) j)) (fun B' _ => d * (i + 1) - 8 * B') ?_ B s.1 ⟨by omega, by omega, b5, b6, b7, b8⟩
      intro fu B' I' ⟨c1, c2, c3, c4, c5, c6⟩ ih2
      refine pk_lt (d * (i + 1) - 8 * B') 8 (fun z x6 e6 => ?_) (fun z => ?_)
      · rw [e6, nI_1]
        exact ih (I', _, _) ⟨B', c1, by omega, rfl, rfl, c3, c4, c5, c6⟩
      · have hBm : n + B' < m := by
          have : d * (i + 1) ≤ d * 256 := Nat.mul_le_mul_left d (by omega)
          omega
        have hV2 := V_lt (eb d f) (8 * B') (d * (i + 1) - 8 * B')
        have h20 : 2 ^ (d * (i + 1) - 8 * B') ≤ 2 ^ 20 := Nat.pow_le_pow_right (n := 2) (by decide) (by omega)
        refine c_append c4 hBm _ (fun I2 u1 u2 u3 u4 => ?_)
        intro x4 e4 x5 e5
        rw [show (8 : Int32) = nI 8 from rfl, jushr_n (by omega) (by decide), V_div _ _ (by omega)] at e4
        rw [m_8 z] at e5
        rw [e4, e5]
        have := ih2 (B' + 1) I2 ⟨by omega, by omega, c3.trans u1, u2, fun k hk => ?_, fun j hj => by rw [u4 j (by omega), c6 j hj]⟩ (by omega)
        · rw [show 8 * (B' + 1) = 8 * B' + 8 by omega, show d * (i + 1) - (8 * B' + 8) = d * (i + 1) - 8 * B' - 8 by omega] at this
          exact this
        · by_cases e : k = B'
          · subst e
            rw [u3, pk_tn (by omega), show (256 : Nat) = 2 ^ 8 from rfl, V_mod _ _ (by omega)]
            rfl
          · rw [u4 _ (by omega), c5 k (by omega)]
  exact main
theorem tb_shift (b : Nat → Nat) (s i : Nat) : tb (fun k => b (s + k)) i = tb b (8 * s + i) := by
  unfold tb
  rw [show (8 * s + i) / 8 = s + i / 8 by omega, show (8 * s + i) % 8 = i % 8 by omega]
theorem c_unpack (hl : sl X a = 256) {d : Nat} (h1 : 1 ≤ d) (h : d ≤ 12) {r w m n : Nat} (hR : Rw X J I r w m n) (hra : r ≠ a ∧ w ≠ a) {s0 : Nat} (hn : s0 + 32 * d ≤ n) {q : MI → ML → Prop}
    (hq : ∀ I', O1 I I' a → Pa I' a (dec d (fun k => rb (I w) (s0 + k))) → q I' L) : wp_X0_unpack X J a (nI d) r (nI s0) I L q := by
  have hb := pow_b h1 h
  have hm : n ≤ 4000 := Nat.le_trans hR.2.2.2.2.1 hR.2.2.2.2.2.2
  intro x3 e3
  rw [msk h1 h] at e3
  subst e3
  generalize hbf : (fun k => rb (I w) (s0 + k)) = bf at hq
  have hbl : ∀ k, bf k < 256 := fun k => by rw [← hbf]; exact rb_lt _ _
  refine pk_loop (σ := MI × Int32 × Int32 × Int32) (fun fu i s => wl_X0_unpack_19 X J q a (nI d) r (nI (2 ^ d - 1)) fu s.2.1 s.2.2.1 s.2.2.2 (nI i) s.1 L) (fun i s => ∃ B, d * i ≤ 8 * B ∧ 8 * B < d * i + 8 ∧ s.2.1 = nI (V (tb bf) (d * i) (8 * B - d * i)) ∧ s.2.2.1 = nI (8 * B - d * i) ∧ s.2.2.2 = nI (s0 + B) ∧ O1 I s.1 a ∧ ∀ j, j < i → s.1 a j = nI (dec d bf j)) 256 0 (I, 0, 0, nI s0) (by decide) ⟨0, by omega, by omega, rfl, rfl, rfl, fun _ _ => rfl, fun j hj => absurd hj (by omega)⟩ ?_ ?_
  · intro fu s ⟨B, b1, b2, b3, b4, b5, b6, b7⟩
    exact pk_le 256 256 (fun _ => hq s.1 b6 (fun j hj => ⟨dec_lt _ _ _, b7 j hj⟩)) (fun z => absurd z (by omega))
  · intro fu i s hi ⟨B, b1, b2, b3, b4, b5, b6, b7⟩ ih
    refine pk_le 256 i (fun z => absurd z (by omega)) (fun _ => ?_)
    rw [b3, b4, b5]
    have hd1 : d * (i + 1) = d * i + d := by rw [Nat.mul_add, Nat.mul_one]
    have hd2 : d * (i + 1) ≤ d * 256 := Nat.mul_le_mul_left d (by omega)
    have hR' : Rw X J s.1 r w m n := hR.frame (b6 r hra.1)
    refine lp1 (fun fv B' => wl_X0_unpack_27 X J q (wl_X0_unpack_19 X J q a (nI d) r (nI (2 ^ d - 1)) fu) a (nI d) r (nI (2 ^ d - 1)) (nI i) fv (nI (V (tb bf) (d * i) (8 * B' - d * i))) (nI (8 * B' - d * i)) (nI (s0 + B')) s.1 L) (fun B' => d * i ≤ 8 * B' ∧ 8 * B' < d * (i + 1) + 8) (fun B' => d * (i + 1) + 8 - 8 * B') ?_ B ⟨b1, by omega⟩
    intro fv B' ⟨c1, c2⟩ ih2
    have hV := V_lt (tb bf) (d * i) (8 * B' - d * i)
    have h20 : 2 ^ (8 * B' - d * i) ≤ 2 ^ 20 := Nat.pow_le_pow_right (n := 2) (by decide) (by omega)
    refine pk_le d (8 * B' - d * i) (fun z => ?_) (fun z => ?_)
    · rw [nI_clamp (n := i) (by omega), and_m (by omega) h1 h, V_mod _ _ z]
      refine ⟨by rw [hl]; exact vp_in_nI hi (by decide), fun I3 e3 x5 e5 x6 e6 x8 e8 => ?_⟩
      have hg := gv_lt d bf i
      rw [show V (tb bf) (d * i) d = gv d bf i from rfl, show (3329 : Int32) = nI 3329 from rfl, jrem_n (by omega) (by decide) (by decide)] at e3
      rw [jushr_n (by omega) (by omega), V_div _ _ z, ← hd1, show 8 * B' - d * i - d = 8 * B' - d * (i + 1) by omega] at e5
      rw [pk_sub z, show 8 * B' - d * i - d = 8 * B' - d * (i + 1) by omega] at e6
      rw [nI_1] at e8
      rw [e5, e6, e8]
      refine ih (I3, _, _, _) ⟨B', by omega, by omega, rfl, rfl, rfl, fun k hk => (ms_o e3 hk).trans (b6 k hk), fun j hj => ?_⟩
      show I3 a j = _
      rw [ms_k e3]
      by_cases e : j = i
      · subst e; exact va_up_self _ _ _
      · rw [va_up_ne _ _ e]; exact b7 j (by omega)
    · refine c_byteAt hR' (by omega) ?_
      have hrb : rb (s.1 w) (s0 + B') = bf B' := by rw [b6 w hra.2, ← hbf]
      intro x5 e5 x7 e7 x6 e6
      have h12 : 2 ^ (8 * B' - d * i) ≤ 2048 := Nat.pow_le_pow_right (n := 2) (i := 8 * B' - d * i) (j := 11) (by decide) (by omega)
      have hB := hbl B'
      have hsm : bf B' * 2 ^ (8 * B' - d * i) < 2 ^ 20 := by
        have := Nat.mul_le_mul (show bf B' ≤ 255 by omega) h12
        omega
      have hv8 : V (tb bf) (8 * B') 8 = bf B' := by
        rw [← Nat.mod_eq_of_lt (show bf B' < 2 ^ 8 from hB), ← V_of (bf B') 8]
        refine V_congr (fun j hj => ?_)
        unfold tb
        rw [show (8 * B' + j) / 8 = B' by omega, show (8 * B' + j) % 8 = j by omega, Nat.zero_add]
      rw [hrb, jshl_n (by omega) (by omega), or_n, or_sh hV, ← hv8] at e5
      rw [nI_1] at e7
      rw [show nI (8 * B' - d * i) + 8 = nI (8 * B' - d * i + 8) from nI_add _ 8] at e6
      rw [e5, e6, e7]
      have := ih2 (B' + 1) ⟨by omega, by omega⟩ (by omega)
      rw [show 8 * (B' + 1) - d * i = 8 * B' - d * i + 8 by omega, V_add, show d * i + (8 * B' - d * i) = 8 * B' by omega, show s0 + (B' + 1) = s0 + B' + 1 by omega] at this
      exact this
end CODES
