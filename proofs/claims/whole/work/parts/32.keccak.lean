/-! ===== KECCAK, by its bits: S lane bit ===== -/
abbrev KS : Type := Nat → Nat → Bool
def kC (S : KS) (x z : Nat) : Bool := (((S x z ^^ S (x + 5) z) ^^ S (x + 10) z) ^^ S (x + 15) z) ^^ S (x + 20) z
def kD (S : KS) (x z : Nat) : Bool := kC S ((x + 4) % 5) z ^^ kC S ((x + 1) % 5) ((z + 63) % 64)
def kT (S : KS) : KS := fun l z => S l z ^^ kD S (l % 5) z
def plN : List Nat := [0, 6, 12, 18, 24, 3, 9, 10, 16, 22, 1, 7, 13, 19, 20, 4, 5, 11, 17, 23, 2, 8, 14, 15, 21]
def rtN : List Nat := [0, 44, 43, 21, 14, 28, 20, 3, 45, 61, 1, 6, 25, 8, 18, 27, 36, 10, 15, 56, 62, 55, 39, 41, 2]
def pl (l : Nat) : Nat := plN.getD l 0
def rt (l : Nat) : Nat := rtN.getD l 0
def kP (S : KS) : KS := fun l z => S (pl l) ((z + (64 - rt l)) % 64)
def kX (S : KS) : KS := fun l z => S l z ^^ ((!S (5 * (l / 5) + (l % 5 + 1) % 5) z) && S (5 * (l / 5) + (l % 5 + 2) % 5) z)
def kI (r : Nat) (S : KS) : KS := fun l z => S l z ^^ (decide (l = 0) && (rcN.getD r 0).testBit z)
def kR (r : Nat) (S : KS) : KS := kI r (kX (kP (kT S)))
def kF (S : KS) : Nat → KS
  | 0 => S
  | r + 1 => kR r (kF S r)
def kE (S S' : KS) : Prop := ∀ l z, l < 25 → z < 64 → S l z = S' l z
theorem pl_lt : ∀ l, l < 25 → pl l < 25 := by decide
theorem rt_lt : ∀ l, l < 25 → rt l < 64 := by decide
theorem kC_e {S S' : KS} (h : kE S S') {x z : Nat} (hx : x < 5) (hz : z < 64) : kC S x z = kC S' x z := by
  unfold kC
  rw [h x z (by omega) hz, h (x + 5) z (by omega) hz, h (x + 10) z (by omega) hz, h (x + 15) z (by omega) hz, h (x + 20) z (by omega) hz]
theorem kT_e {S S' : KS} (h : kE S S') : kE (kT S) (kT S') := by
  intro l z hl hz
  unfold kT kD
  rw [h l z hl hz, kC_e h (Nat.mod_lt _ (by decide)) hz, kC_e h (Nat.mod_lt _ (by decide)) (Nat.mod_lt _ (by decide))]
theorem kP_e {S S' : KS} (h : kE S S') : kE (kP S) (kP S') := fun l z hl _ => h _ _ (pl_lt l hl) (Nat.mod_lt _ (by decide))
theorem kX_e {S S' : KS} (h : kE S S') : kE (kX S) (kX S') := by
  intro l z hl hz
  unfold kX
  rw [h l z hl hz, h _ z (by omega) hz, h (5 * (l / 5) + (l % 5 + 2) % 5) z (by omega) hz]
theorem kI_e {S S' : KS} (r : Nat) (h : kE S S') : kE (kI r S) (kI r S') := by
  intro l z hl hz
  unfold kI
  rw [h l z hl hz]
theorem kR_e {S S' : KS} (r : Nat) (h : kE S S') : kE (kR r S) (kR r S') := kI_e r (kX_e (kP_e (kT_e h)))
theorem kF_e {S S' : KS} (h : kE S S') : ∀ r, kE (kF S r) (kF S' r)
  | 0 => h
  | r + 1 => kR_e r (kF_e h r)
theorem kE.tr {A B C : KS} (h : kE A B) (g : kE B C) : kE A C := fun l z a b => (h l z a b).trans (g l z a b)
theorem kE.sy {A B : KS} (h : kE A B) : kE B A := fun l z a b => (h l z a b).symm
theorem kE.rf {A : KS} : kE A A := fun _ _ _ _ => rfl
/-! ===== longs by their bits ===== -/
def lb (x : Int64) (i : Nat) : Bool := x.toBitVec.getLsbD i
theorem lb_xor (x y : Int64) (i : Nat) : lb (x ^^^ y) i = (lb x i ^^ lb y i) := by unfold lb; rw [Int64.toBitVec_xor, BitVec.getLsbD_xor]
theorem lb_and (x y : Int64) (i : Nat) : lb (x &&& y) i = (lb x i && lb y i) := by unfold lb; rw [Int64.toBitVec_and, BitVec.getLsbD_and]
theorem lb_or (x y : Int64) (i : Nat) : lb (x ||| y) i = (lb x i || lb y i) := by unfold lb; rw [Int64.toBitVec_or, BitVec.getLsbD_or]
theorem lb_m1 : ∀ i, i < 64 → lb (-1) i = true := by decide +kernel
theorem lb_big {x : Int64} {i : Nat} (h : 64 ≤ i) : lb x i = false := BitVec.getLsbD_of_ge _ _ h
theorem ll_l : ∀ n, n < 64 → (((nI n).toInt64 &&& 63).toBitVec.smod 64).toNat = n := by decide +kernel
theorem ll_u : ∀ n, n < 64 → (((nI n).toInt64.toUInt64 &&& Int64.toUInt64 63).toBitVec % 64).toNat = n := by decide +kernel
theorem lb_shl {n : Nat} (hn : n < 64) (x : Int64) {i : Nat} (hi : i < 64) : lb (jlshl x (nI n)) i = (decide (n ≤ i) && lb x (i - n)) := by
  unfold lb jlshl
  rw [Int64.toBitVec_shiftLeft]
  show (x.toBitVec <<< (((nI n).toInt64 &&& 63).toBitVec.smod 64).toNat).getLsbD i = _
  rw [ll_l n hn, BitVec.getLsbD_shiftLeft]
  rcases Nat.lt_or_ge i n with h | h
  · simp [h, Nat.not_le.mpr h]
  · simp [hi, h, Nat.not_lt.mpr h]
theorem lb_ushr {n : Nat} (hn : n < 64) (x : Int64) (i : Nat) : lb (jlushr x (nI n)) i = lb x (n + i) := by
  unfold jlushr
  show (x.toUInt64 >>> ((nI n).toInt64.toUInt64 &&& Int64.toUInt64 63)).toBitVec.getLsbD i = x.toUInt64.toBitVec.getLsbD (n + i)
  rw [UInt64.toBitVec_shiftRight]
  show (x.toUInt64.toBitVec >>> (((nI n).toInt64.toUInt64 &&& Int64.toUInt64 63).toBitVec % 64).toNat).getLsbD i = _
  rw [ll_u n hn, BitVec.getLsbD_ushiftRight]
def rot (x : Int64) (t : Int32) : Int64 := (jlshl x t) ||| (jlushr x (64 - t))
theorem lb_rot {t : Nat} (h0 : 0 < t) (ht : t < 64) (x : Int64) {z : Nat} (hz : z < 64) : lb (rot x (nI t)) z = lb x ((z + (64 - t)) % 64) := by
  unfold rot
  rw [show (64 : Int32) - nI t = nI (64 - t) from pk_sub (a := 64) (by omega), lb_or, lb_shl ht x hz, lb_ushr (by omega)]
  rcases Nat.lt_or_ge z t with h | h
  · rw [decide_eq_false (by omega), Bool.false_and, Bool.false_or, show (z + (64 - t)) % 64 = 64 - t + z by omega]
  · rw [decide_eq_true h, Bool.true_and, lb_big (i := 64 - t + z) (by omega), Bool.or_false, show (z + (64 - t)) % 64 = z - t by omega]
def SL (a : Nat → Int64) : KS := fun l z => lb (a l) z
/-! ===== the class's ROUND over its lanes ===== -/
def cL (a : Nat → Int64) (x : Nat) : Int64 := ((((a x) ^^^ (a (x + 5))) ^^^ (a (x + 10))) ^^^ (a (x + 15))) ^^^ (a (x + 20))
def dL (a : Nat → Int64) (x : Nat) : Int64 := cL a ((x + 4) % 5) ^^^ rot (cL a ((x + 1) % 5)) 1
def thL (a : Nat → Int64) (l : Nat) : Int64 := a l ^^^ dL a (l % 5)
def wkN : List Nat := [10, 7, 11, 17, 18, 3, 5, 16, 8, 21, 24, 4, 15, 23, 19, 13, 12, 2, 20, 14, 22, 9, 6, 1]
def tkN : List Nat := [1, 3, 6, 10, 15, 21, 28, 36, 45, 55, 2, 14, 27, 41, 56, 8, 25, 43, 62, 18, 39, 61, 20, 44]
def wN (t : Nat) : Nat := wkN.getD t 0
def tN (t : Nat) : Nat := tkN.getD t 0
def rpL (a : Nat → Int64) : Nat → (Nat → Int64) × Int64
  | 0 => (a, a 1)
  | t + 1 => (va_up (rpL a t).1 (wN t) (rot (rpL a t).2 (nI (tN t))), (rpL a t).1 (wN t))
def chL (b : Nat → Int64) (l : Nat) : Int64 := b l ^^^ ((b (5 * (l / 5) + (l % 5 + 1) % 5) ^^^ (-1)) &&& b (5 * (l / 5) + (l % 5 + 2) % 5))
theorem lb_cL (a : Nat → Int64) (x z : Nat) : lb (cL a x) z = kC (SL a) x z := by
  unfold cL kC SL
  rw [lb_xor, lb_xor, lb_xor, lb_xor]
theorem lb_dL (a : Nat → Int64) (x : Nat) {z : Nat} (hz : z < 64) : lb (dL a x) z = kD (SL a) x z := by
  unfold dL kD
  rw [lb_xor, lb_cL, show (1 : Int32) = nI 1 from rfl, lb_rot (by decide) (by decide) _ hz, lb_cL]
theorem th_e (a : Nat → Int64) : kE (SL (thL a)) (kT (SL a)) := by
  intro l z hl hz
  show lb (a l ^^^ dL a (l % 5)) z = _
  rw [lb_xor, lb_dL a _ hz]
  rfl
theorem rp_c (a : Nat → Int64) : ∀ l, l < 25 → (rpL a 24).1 l = if l = 0 then a 0 else rot (a (pl l)) (nI (rt l)) := by
  intro l hl
  rcases (show l = 0 ∨ l = 1 ∨ l = 2 ∨ l = 3 ∨ l = 4 ∨ l = 5 ∨ l = 6 ∨ l = 7 ∨ l = 8 ∨ l = 9 ∨ l = 10 ∨ l = 11 ∨ l = 12 ∨ l = 13 ∨ l = 14 ∨ l = 15 ∨ l = 16 ∨ l = 17 ∨ l = 18 ∨ l = 19 ∨ l = 20 ∨ l = 21 ∨ l = 22 ∨ l = 23 ∨ l = 24 by omega) with rfl | rfl | rfl | rfl | rfl | rfl | rfl | rfl | rfl | rfl | rfl | rfl | rfl | rfl | rfl | rfl | rfl | rfl | rfl | rfl | rfl | rfl | rfl | rfl | rfl <;> rfl
theorem rt_0 : ∀ l, l < 25 → l ≠ 0 → 0 < rt l := by decide
theorem rp_e (a : Nat → Int64) : kE (SL (rpL a 24).1) (kP (SL a)) := by
  intro l z hl hz
  show lb ((rpL a 24).1 l) z = _
  rw [rp_c a l hl]
  by_cases h : l = 0
  · subst h
    rw [if_pos rfl]
    show lb (a 0) z = lb (a 0) ((z + (64 - 0)) % 64)
    rw [show (z + (64 - 0)) % 64 = z by omega]
  · rw [if_neg h, lb_rot (rt_0 l hl h) (rt_lt l hl) _ hz]
    rfl
theorem ch_e (a : Nat → Int64) : kE (SL (chL a)) (kX (SL a)) := by
  intro l z hl hz
  show lb (a l ^^^ _) z = _
  rw [lb_xor, lb_and, lb_xor, lb_m1 z hz]
  unfold kX SL
  simp
theorem lb_rc : ∀ r, r < 24 → ∀ z, z < 64 → lb (sJ r) z = (rcN.getD r 0).testBit z := by decide +kernel
theorem io_e (a : Nat → Int64) {r : Nat} (hr : r < 24) : kE (SL (va_up a 0 (a 0 ^^^ sJ r))) (kI r (SL a)) := by
  intro l z hl hz
  show lb (va_up a 0 _ l) z = _
  unfold kI SL
  by_cases h : l = 0
  · subst h
    rw [va_up_self, lb_xor, lb_rc r hr z hz]
    simp
  · rw [va_up_ne _ _ h]
    simp [h]
theorem wN_ok : ∀ t, t < 24 → sI 1 t = nI (wN t) ∧ wN t < 25 := by decide +kernel
theorem tN_ok : ∀ t, t < 24 → sI 2 t = nI (tN t) := by decide +kernel

