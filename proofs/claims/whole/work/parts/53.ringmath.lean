/-! ===== arithmetic modulo 3329 ===== -/
def cg (a b : Int) : Prop := a % 3329 = b % 3329
theorem cg.rf (a : Int) : cg a a := rfl
theorem cg.sy {a b : Int} (h : cg a b) : cg b a := Eq.symm h
theorem cg.tr {a b c : Int} (h : cg a b) (g : cg b c) : cg a c := Eq.trans h g
theorem cg.add {a b c d : Int} (h : cg a b) (g : cg c d) : cg (a + c) (b + d) := by
  unfold cg at *
  rw [Int.add_emod, h, g, ← Int.add_emod]
theorem cg.sub {a b c d : Int} (h : cg a b) (g : cg c d) : cg (a - c) (b - d) := by
  unfold cg at *
  rw [Int.sub_emod, h, g, ← Int.sub_emod]
theorem cg.mul {a b c d : Int} (h : cg a b) (g : cg c d) : cg (a * c) (b * d) := by
  unfold cg at *
  rw [Int.mul_emod, h, g, ← Int.mul_emod]
theorem cg.md (a : Int) : cg (a % 3329) a := Int.emod_emod_of_dvd a (Int.dvd_refl _)
theorem cg.pow {a b : Int} (h : cg a b) : ∀ n : Nat, cg (a ^ n) (b ^ n)
  | 0 => by rw [Int.pow_zero, Int.pow_zero]; exact cg.rf _
  | n + 1 => by
    rw [Int.pow_succ, Int.pow_succ]
    exact (cg.pow h n).mul h
theorem cg.eqN {a b : Nat} (h : cg a b) (ha : a < 3329) (hb : b < 3329) : a = b := by
  unfold cg at h
  omega
theorem cg.modN (a : Nat) : cg ((a % 3329 : Nat) : Int) a := by
  unfold cg
  omega
def Sm (g : Nat → Int) : Nat → Int
  | 0 => 0
  | n + 1 => Sm g n + g n
theorem Sm_cg {f g : Nat → Int} : ∀ {n : Nat}, (∀ i, i < n → cg (f i) (g i)) → cg (Sm f n) (Sm g n)
  | 0, _ => rfl
  | n + 1, h => (Sm_cg (n := n) (fun i hi => h i (by omega))).add (h n (by omega))
theorem Sm_eq {f g : Nat → Int} : ∀ {n : Nat}, (∀ i, i < n → f i = g i) → Sm f n = Sm g n
  | 0, _ => rfl
  | n + 1, h => by
    show Sm f n + f n = Sm g n + g n
    rw [Sm_eq (n := n) (fun i hi => h i (by omega)), h n (by omega)]
theorem Sm_app (g : Nat → Int) (n : Nat) : ∀ m, Sm g (n + m) = Sm g n + Sm (fun i => g (n + i)) m
  | 0 => by show Sm g n = Sm g n + 0; omega
  | m + 1 => by
    show Sm g (n + m) + g (n + m) = Sm g n + (Sm (fun i => g (n + i)) m + g (n + m))
    rw [Sm_app g n m, Int.add_assoc]
theorem Sm_two (g : Nat → Int) : ∀ n, Sm g (2 * n) = Sm (fun k => g (2 * k)) n + Sm (fun k => g (2 * k + 1)) n
  | 0 => rfl
  | n + 1 => by
    show Sm g (2 * n + 1) + g (2 * n + 1) = (Sm (fun k => g (2 * k)) n + g (2 * n)) + (Sm (fun k => g (2 * k + 1)) n + g (2 * n + 1))
    show (Sm g (2 * n) + g (2 * n)) + g (2 * n + 1) = _
    rw [Sm_two g n]
    omega
theorem Sm_mul (c : Int) (g : Nat → Int) : ∀ n, Sm (fun k => c * g k) n = c * Sm g n
  | 0 => (Int.mul_zero c).symm
  | n + 1 => by
    show Sm (fun k => c * g k) n + c * g n = c * (Sm g n + g n)
    rw [Sm_mul c g n, Int.mul_add]
/-! ===== the roots ===== -/
def roN (i : Nat) : Nat := [1, 1729, 2580, 3289, 2642, 630, 1897, 848, 1062, 1919, 193, 797, 2786, 3260, 569, 1746,
            296, 2447, 1339, 1476, 3046, 56, 2240, 1333, 1426, 2094, 535, 2882, 2393, 2879, 1974, 821,
            289, 331, 3253, 1756, 1197, 2304, 2277, 2055, 650, 1977, 2513, 632, 2865, 33, 1320, 1915,
            2319, 1435, 807, 452, 1438, 2868, 1534, 2402, 2647, 2617, 1481, 648, 2474, 3110, 1227, 910,
            17, 2761, 583, 2649, 1637, 723, 2288, 1100, 1409, 2662, 3281, 233, 756, 2156, 3015, 3050,
            1703, 1651, 2789, 1789, 1847, 952, 1461, 2687, 939, 2308, 2437, 2388, 733, 2337, 268, 641,
            1584, 2298, 2037, 3220, 375, 2549, 2090, 1645, 1063, 319, 2773, 757, 2099, 561, 2466, 2594,
            2804, 1092, 403, 1026, 1143, 2150, 2775, 886, 1722, 1212, 1874, 1029, 2110, 2935, 885, 2154].getD i 0
theorem roN_ok : ∀ i, i < 128 → sI 3 i = nI (roN i) ∧ roN i < 3329 ∧ 0 < roN i := by decide +kernel
/-- of block b at level t: what its power of X is -/
def rr (t b : Nat) : Int := if t = 0 then -1 else if b % 2 = 0 then roN (2 ^ (t - 1) + b / 2) else -(roN (2 ^ (t - 1) + b / 2) : Int)
theorem rr_sq : ∀ t, t < 7 → ∀ b, b < 2 ^ t → ((roN (2 ^ t + b) : Int) * roN (2 ^ t + b)) % 3329 = rr t b % 3329 := by decide +kernel
theorem rr_ev (t b : Nat) : rr (t + 1) (2 * b) = roN (2 ^ t + b) := by
  unfold rr
  rw [if_neg (by omega), if_pos (by omega), show t + 1 - 1 = t by omega, show 2 * b / 2 = b by omega]
theorem rr_od (t b : Nat) : rr (t + 1) (2 * b + 1) = -(roN (2 ^ t + b) : Int) := by
  unfold rr
  rw [if_neg (by omega), if_neg (by omega), show t + 1 - 1 = t by omega, show (2 * b + 1) / 2 = b by omega]
theorem rr_7 : ∀ b, b < 128 → rr 7 b % 3329 = (powN (oddN b) : Int) % 3329 := by decide +kernel
/-- f modulo X^w - r, block b of level t: the coefficient of X^y -/
def fT (f : Nat → Nat) (w : Nat) (r : Int) (n y : Nat) : Int := Sm (fun j => (f (y + w * j) : Int) * r ^ j) n
theorem fT_split (f : Nat → Nat) (h y n : Nat) {r z : Int} (hz : cg (z * z) r) : cg (fT f h z (2 * n) y) (fT f (2 * h) r n y + z * fT f (2 * h) r n (y + h)) := by
  unfold fT
  rw [Sm_two, ← Sm_mul]
  refine cg.add (Sm_cg fun k _ => ?_) (Sm_cg fun k _ => ?_)
  · rw [show y + h * (2 * k) = y + 2 * h * k by rw [Nat.mul_comm 2 h, Nat.mul_assoc], Int.pow_mul, show z ^ 2 = z * z by rw [Int.pow_succ, Int.pow_succ, Int.pow_zero, Int.one_mul]]
    exact (cg.rf _).mul (hz.pow k)
  · rw [show y + h * (2 * k + 1) = y + h + 2 * h * k by rw [Nat.mul_add, Nat.mul_one, Nat.mul_comm 2 h, Nat.mul_assoc]; omega, Int.pow_succ, Int.pow_mul, show z ^ 2 = z * z by rw [Int.pow_succ, Int.pow_succ, Int.pow_zero, Int.one_mul]]
    rw [show (f (y + h + 2 * h * k) : Int) * ((z * z) ^ k * z) = z * ((f (y + h + 2 * h * k) : Int) * (z * z) ^ k) by rw [← Int.mul_assoc, Int.mul_comm]]
    exact (cg.rf z).mul ((cg.rf _).mul (hz.pow k))
theorem fT_splitN (f : Nat → Nat) (h y n : Nat) {r z : Int} (hz : cg (z * z) r) : cg (fT f h (-z) (2 * n) y) (fT f (2 * h) r n y - z * fT f (2 * h) r n (y + h)) := by
  have := fT_split f h y n (r := r) (z := -z) (by rw [Int.neg_mul_neg]; exact hz)
  rw [Int.neg_mul, ← Int.sub_eq_add_neg] at this
  exact this
/-- the target of level t at place x -/
def T (f : Nat → Nat) (t x : Nat) : Int := fT f (2 ^ (8 - t)) (rr t (x / 2 ^ (8 - t))) (2 ^ t) (x % 2 ^ (8 - t))
theorem T_0 (f : Nat → Nat) {x : Nat} (hx : x < 256) : T f 0 x = f x := by
  unfold T fT
  show 0 + (f (x % 256 + 256 * 0) : Int) * rr 0 _ ^ 0 = f x
  rw [Int.pow_zero, Int.mul_one, Int.zero_add, Nat.mul_zero, Nat.add_zero, Nat.mod_eq_of_lt hx]
theorem T_step (f : Nat → Nat) {t b c : Nat} (ht : t < 7) (hb : b < 2 ^ t) (hc : c < 2 ^ (7 - t)) :
    cg (T f (t + 1) (2 ^ (8 - t) * b + c)) (T f t (2 ^ (8 - t) * b + c) + roN (2 ^ t + b) * T f t (2 ^ (8 - t) * b + 2 ^ (7 - t) + c)) ∧
    cg (T f (t + 1) (2 ^ (8 - t) * b + 2 ^ (7 - t) + c)) (T f t (2 ^ (8 - t) * b + c) - roN (2 ^ t + b) * T f t (2 ^ (8 - t) * b + 2 ^ (7 - t) + c)) := by
  have hw : 2 ^ (8 - t) = 2 * 2 ^ (7 - t) := by rw [show 8 - t = 7 - t + 1 by omega, Nat.pow_succ, Nat.mul_comm]
  have hp := Nat.two_pow_pos (7 - t)
  have hn : 2 ^ (t + 1) = 2 * 2 ^ t := by rw [Nat.pow_succ, Nat.mul_comm]
  have hsq : cg ((roN (2 ^ t + b) : Int) * roN (2 ^ t + b)) (rr t b) := rr_sq t ht b hb
  have e1 : T f t (2 ^ (8 - t) * b + c) = fT f (2 * 2 ^ (7 - t)) (rr t b) (2 ^ t) c := by
    unfold T
    rw [Nat.mul_add_div (by omega), Nat.mul_add_mod, Nat.div_eq_of_lt (by omega), Nat.mod_eq_of_lt (by omega), Nat.add_zero, hw]
  have e2 : T f t (2 ^ (8 - t) * b + 2 ^ (7 - t) + c) = fT f (2 * 2 ^ (7 - t)) (rr t b) (2 ^ t) (c + 2 ^ (7 - t)) := by
    unfold T
    rw [Nat.add_assoc, Nat.mul_add_div (by omega), Nat.mul_add_mod, Nat.div_eq_of_lt (by omega), Nat.mod_eq_of_lt (by omega), Nat.add_zero, hw, Nat.add_comm c]
  have e3 : T f (t + 1) (2 ^ (8 - t) * b + c) = fT f (2 ^ (7 - t)) (roN (2 ^ t + b)) (2 * 2 ^ t) c := by
    unfold T
    rw [show 8 - (t + 1) = 7 - t by omega, hw, show 2 * 2 ^ (7 - t) * b + c = 2 ^ (7 - t) * (2 * b) + c by rw [Nat.mul_comm 2, Nat.mul_assoc], Nat.mul_add_div hp, Nat.mul_add_mod, Nat.div_eq_of_lt hc, Nat.mod_eq_of_lt hc, show 2 * b + 0 = 2 * b from rfl, rr_ev, hn]
  have e4 : T f (t + 1) (2 ^ (8 - t) * b + 2 ^ (7 - t) + c) = fT f (2 ^ (7 - t)) (-(roN (2 ^ t + b) : Int)) (2 * 2 ^ t) c := by
    unfold T
    rw [show 8 - (t + 1) = 7 - t by omega, hw, show 2 * 2 ^ (7 - t) * b + 2 ^ (7 - t) + c = 2 ^ (7 - t) * (2 * b + 1) + c by rw [Nat.mul_add, Nat.mul_one, Nat.mul_comm 2, Nat.mul_assoc], Nat.mul_add_div hp, Nat.mul_add_mod, Nat.div_eq_of_lt hc, Nat.mod_eq_of_lt hc, show 2 * b + 1 + 0 = 2 * b + 1 from rfl, rr_od, hn]
  rw [e1, e2, e3, e4]
  exact ⟨fT_split f _ c _ hsq, fT_splitN f _ c _ hsq⟩
/-! ===== FORWARD ===== -/
def sN (g : Nat → Nat) : Nat → Nat
  | 0 => 0
  | n + 1 => sN g n + g n
theorem sN_Sm (g : Nat → Nat) : ∀ n, (sN g n : Int) = Sm (fun i => (g i : Int)) n
  | 0 => rfl
  | n + 1 => by
    show ((sN g n + g n : Nat) : Int) = Sm (fun i => (g i : Int)) n + g n
    rw [Int.natCast_add, sN_Sm g n]
def fwd (f : Nat → Nat) (x : Nat) : Nat := sN (fun j => powN (oddN (x / 2) * j % 256) * f (2 * j + x % 2)) 128 % 3329
theorem fwd_lt (f : Nat → Nat) (x : Nat) : fwd f x < 3329 := Nat.mod_lt _ (by decide)
theorem p256 : powN 256 = 1 := by decide +kernel
theorem powN_cg (n : Nat) : cg (powN n) ((17 : Int) ^ n) := by
  unfold powN cg
  rw [Int.natCast_emod, Int.natCast_pow]
  exact Int.emod_emod_of_dvd _ (Int.dvd_refl _)
theorem powN_mod (n : Nat) : cg (powN (n % 256)) (powN n) := by
  have h : n = n % 256 + 256 * (n / 256) := by omega
  refine (powN_cg _).tr (cg.tr ?_ (powN_cg n).sy)
  have h1 : cg ((17 : Int) ^ 256) 1 := (powN_cg 256).sy.tr (by rw [p256]; exact cg.rf _)
  have h2 : cg (((17 : Int) ^ 256) ^ (n / 256)) 1 := by
    have := h1.pow (n / 256)
    rw [Int.one_pow] at this
    exact this
  have h3 : (17 : Int) ^ n = 17 ^ (n % 256) * ((17 : Int) ^ 256) ^ (n / 256) := by
    rw [← Int.pow_mul, ← Int.pow_add, ← h]
  rw [h3]
  have := (cg.rf ((17 : Int) ^ (n % 256))).mul h2
  rw [Int.mul_one] at this
  exact this.sy
theorem powN_mul (a j : Nat) : cg (powN (a * j % 256)) ((powN a : Int) ^ j) := by
  refine (powN_mod _).tr ((powN_cg _).tr ?_)
  rw [Int.pow_mul]
  exact ((powN_cg a).pow j).sy
theorem fwd_T (f : Nat → Nat) {x : Nat} (hx : x < 256) : cg (fwd f x) (T f 7 x) := by
  unfold fwd T fT
  refine (cg.modN _).tr ?_
  rw [sN_Sm]
  refine Sm_cg fun j hj => ?_
  show cg ((powN (oddN (x / 2) * j % 256) * f (2 * j + x % 2) : Nat) : Int) ((f (x % 2 + 2 * j) : Int) * rr 7 (x / 2) ^ j)
  rw [Int.natCast_mul, Int.mul_comm, Nat.add_comm (2 * j)]
  refine (cg.rf _).mul ((powN_mul _ _).tr (cg.pow ?_ j))
  exact (rr_7 (x / 2) (by omega)).symm
