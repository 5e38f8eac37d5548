/-! ===== Int32 by its bits: bt x i ===== -/
def bt (x : Int32) (i : Nat) : Bool := x.toBitVec.getLsbD i
theorem b_ext {x y : Int32} (h : ∀ i, i < 32 → bt x i = bt y i) : x = y := Int32.toBitVec_inj.mp (BitVec.eq_of_getLsbD_eq (fun i hi => h i hi))
theorem b_or (x y : Int32) (i : Nat) : bt (x ||| y) i = (bt x i || bt y i) := by unfold bt; rw [Int32.toBitVec_or, BitVec.getLsbD_or]
theorem b_and (x y : Int32) (i : Nat) : bt (x &&& y) i = (bt x i && bt y i) := by unfold bt; rw [Int32.toBitVec_and, BitVec.getLsbD_and]
theorem b_xor (x y : Int32) (i : Nat) : bt (x ^^^ y) i = (bt x i ^^ bt y i) := by unfold bt; rw [Int32.toBitVec_xor, BitVec.getLsbD_xor]
theorem b_big {x : Int32} {i : Nat} (h : 32 ≤ i) : bt x i = false := BitVec.getLsbD_of_ge _ _ h
theorem b_255 (i : Nat) : bt 255 i = decide (i < 8) := by
  rcases Nat.lt_or_ge i 32 with h | h
  · exact (by decide +kernel : ∀ i, i < 32 → bt 255 i = decide (i < 8)) i h
  · rw [b_big h, decide_eq_false (by omega)]
theorem b_65535 (i : Nat) : bt 65535 i = decide (i < 16) := by
  rcases Nat.lt_or_ge i 32 with h | h
  · exact (by decide +kernel : ∀ i, i < 32 → bt 65535 i = decide (i < 16)) i h
  · rw [b_big h, decide_eq_false (by omega)]
theorem b_m1 : ∀ i, i < 32 → bt (-1) i = true := by decide +kernel
theorem b_0 (i : Nat) : bt 0 i = false := BitVec.getLsbD_zero
theorem s_l : ∀ n, n < 32 → ((nI n &&& 31).toBitVec.smod 32).toNat = n := by decide +kernel
theorem s_u : ∀ n, n < 32 → (((nI n).toUInt32 &&& Int32.toUInt32 31).toBitVec % 32).toNat = n := by decide +kernel
theorem b_shl (n : Nat) (hn : n < 32) (x : Int32) {i : Nat} (hi : i < 32) : bt (x <<< (nI n &&& 31)) i = (decide (n ≤ i) && bt x (i - n)) := by
  unfold bt
  rw [Int32.toBitVec_shiftLeft]
  show (x.toBitVec <<< ((nI n &&& 31).toBitVec.smod 32).toNat).getLsbD i = _
  rw [s_l n hn, BitVec.getLsbD_shiftLeft]
  rcases Nat.lt_or_ge i n with h | h
  · simp [h, Nat.not_le.mpr h]
  · simp [hi, h, Nat.not_lt.mpr h]
theorem b_ushr (n : Nat) (hn : n < 32) (x : Int32) (i : Nat) : bt ((x.toUInt32 >>> ((nI n).toUInt32 &&& Int32.toUInt32 31)).toInt32) i = bt x (n + i) := by
  show (x.toUInt32 >>> ((nI n).toUInt32 &&& Int32.toUInt32 31)).toBitVec.getLsbD i = x.toUInt32.toBitVec.getLsbD (n + i)
  rw [UInt32.toBitVec_shiftRight]
  show (x.toUInt32.toBitVec >>> (((nI n).toUInt32 &&& Int32.toUInt32 31).toBitVec % 32).toNat).getLsbD i = _
  rw [s_u n hn, BitVec.getLsbD_ushiftRight]
theorem b_sshr (n : Nat) (hn : n < 32) (x : Int32) {i : Nat} (hi : i < 32) : bt (x >>> (nI n &&& 31)) i = if n + i < 32 then bt x (n + i) else bt x 31 := by
  unfold bt
  rw [Int32.toBitVec_shiftRight]
  show (x.toBitVec.sshiftRight ((nI n &&& 31).toBitVec.smod 32).toNat).getLsbD i = _
  rw [s_l n hn, BitVec.getLsbD_sshiftRight, BitVec.msb_eq_getLsbD_last]
  simp [hi]
theorem b_shl8 (x : Int32) {i : Nat} (hi : i < 32) : bt (x <<< ((8 : Int32) &&& 31)) i = (decide (8 ≤ i) && bt x (i - 8)) := b_shl 8 (by omega) x hi
theorem b_shl16 (x : Int32) {i : Nat} (hi : i < 32) : bt (x <<< ((16 : Int32) &&& 31)) i = (decide (16 ≤ i) && bt x (i - 16)) := b_shl 16 (by omega) x hi
theorem b_shl24 (x : Int32) {i : Nat} (hi : i < 32) : bt (x <<< ((24 : Int32) &&& 31)) i = (decide (24 ≤ i) && bt x (i - 24)) := b_shl 24 (by omega) x hi
theorem b_sshr8 (x : Int32) {i : Nat} (hi : i < 32) : bt (x >>> ((8 : Int32) &&& 31)) i = if 8 + i < 32 then bt x (8 + i) else bt x 31 := b_sshr 8 (by omega) x hi
/-! ===== numbers: Java's operators over small naturals ===== -/
theorem jshr_n {a k : Nat} (ha : a < 2 ^ 31) (hk : k < 32) : jshr (nI a) (nI k) = nI (a / 2 ^ k) := pk_shrN ha _ k (s_l k hk)
theorem jshl_n {a k : Nat} (hk : k < 32) (h : a * 2 ^ k < 2 ^ 32) : jshl (nI a) (nI k) = nI (a * 2 ^ k) := pk_shlN _ k (s_l k hk) h
theorem jushr_t (x : Int32) {k : Nat} (hk : k < 32) : (jushr x (nI k)).toBitVec.toNat = x.toBitVec.toNat / 2 ^ k := pk_ushr x _ k (s_u k hk)
theorem jushr_n {a k : Nat} (ha : a < 2 ^ 32) (hk : k < 32) : jushr (nI a) (nI k) = nI (a / 2 ^ k) := pk_ushrN ha _ k (s_u k hk)
theorem jrem_n {a d : Nat} (ha : a < 2 ^ 31) (h0 : 0 < d) (hd : d < 2 ^ 31) : jrem (nI a) (nI d) = nI (a % d) := pk_rem ha h0 hd
theorem m255 (x : Int32) : x &&& 255 = nI (x.toBitVec.toNat % 256) := pk_and x 8 rfl
theorem bt_t (x : Int32) (i : Nat) : bt x i = x.toBitVec.toNat.testBit i := rfl
theorem nat_ext {a b : Nat} (h : ∀ i, a.testBit i = b.testBit i) : a = b := Nat.eq_of_testBit_eq h
/-- BYTE i of a row of words -/
def rb (f : Nat → Int32) (i : Nat) : Nat := (f (i / 4)).toBitVec.toNat / 2 ^ (8 * (i % 4)) % 256
theorem rb_lt (f : Nat → Int32) (i : Nat) : rb f i < 256 := Nat.mod_lt _ (by decide)
theorem rb_bit (f : Nat → Int32) (i b : Nat) : (rb f i).testBit b = (decide (b < 8) && bt (f (i / 4)) (8 * (i % 4) + b)) := by
  unfold rb
  rw [show (256 : Nat) = 2 ^ 8 from rfl, Nat.testBit_mod_two_pow, Nat.testBit_div_two_pow, bt_t, Nat.add_comm]
/-- a row: its object r, its array w, its room m, its size n -/
def Rw (X : XT) (J : MJ) (I : MI) (r w m n : Nat) : Prop := J r 0 = some w ∧ r ≠ w ∧ I r 1 = nI m ∧ I r 2 = nI n ∧ n ≤ m ∧ sl X w = (m + 3) / 4 ∧ m ≤ 4000
theorem sh3 (i : Nat) (h : i < 2 ^ 31) : jshl (nI i &&& 3) 3 = nI (8 * (i % 4)) := by
  rw [show nI i &&& 3 = nI (i % 4) from pk_andN (by omega) 2 rfl]
  rw [show (3 : Int32) = nI 3 from rfl, jshl_n (by decide) (by omega)]
  rw [Nat.mul_comm]
theorem sh2 (i : Nat) (h : i < 2 ^ 31) : jshr (nI i) 2 = nI (i / 4) := jshr_n (k := 2) h (by decide)
section ROWS
variable {X : XT} {J : MJ} {I : MI} {L : ML} {r w m n : Nat}
theorem c_byteAt (h : Rw X J I r w m n) {i : Nat} (hi : i < n) {q : Int32 → MI → ML → Prop} (hq : q (nI (rb (I w) i)) I L) : wp_X4_byteAt X J r (nI i) I L q := by
  obtain ⟨h1, h2, h3, h4, h5, h6, h7⟩ := h
  unfold wp_X4_byteAt
  refine ⟨fun z => absurd z (nI_pos (by omega)), fun _ => ?_⟩
  rw [h4]
  refine pk_lt i n (fun _ => ⟨w, h1, ?_, ?_⟩) (fun z => absurd z (by omega))
  · rw [sh2 i (by omega), h6]
    exact pk_in (i / 4) _ (by omega)
  · rw [sh2 i (by omega), nI_clamp (by omega), sh3 i (by omega), m255, jushr_t _ (by omega)]
    exact hq
theorem c_byteOut (h : Rw X J I r w m n) {x : Int32} (hi : x < 0 ∨ nI n ≤ x) {q : Int32 → MI → ML → Prop} (hq : q (-1) I L) : wp_X4_byteAt X J r x I L q := by
  obtain ⟨h1, h2, h3, h4, h5, h6, h7⟩ := h
  unfold wp_X4_byteAt
  refine ⟨fun _ => hq, fun z => ?_⟩
  rw [h4]
  refine ⟨fun z2 => ?_, fun _ => hq⟩
  rcases hi with hi | hi
  · exact absurd hi z
  · exact absurd z2 (Int32.not_lt.mpr hi)
theorem bt_shl {k : Nat} (hk : k < 32) (x : Int32) {i : Nat} (hi : i < 32) : bt (jshl x (nI k)) i = (decide (k ≤ i) && bt x (i - k)) := b_shl k hk x hi
/-- the word after one BYTE of it is replaced -/
theorem rep_bit (x v : Int32) {a : Nat} (ha : a < 4) {i : Nat} (hi : i < 32) : bt ((x &&& ((jshl 255 (nI (8 * a))) ^^^ (-1))) ||| (jshl (v &&& 255) (nI (8 * a)))) i = if 8 * a ≤ i ∧ i < 8 * a + 8 then bt v (i - 8 * a) else bt x i := by
  rw [b_or, b_and, b_xor, bt_shl (by omega) _ hi, bt_shl (by omega) _ hi, b_255, b_and, b_255, b_m1 i hi]
  by_cases h1 : 8 * a ≤ i
  · by_cases h2 : i < 8 * a + 8
    · simp [h1, h2, show i - 8 * a < 8 by omega]
    · simp [h1, h2, show ¬ i - 8 * a < 8 by omega]
  · simp [h1]
theorem c_replace (h : Rw X J I r w m n) {i : Nat} (hi : i < n) (v : Int32) {q : Int32 → MI → ML → Prop}
    (hq : ∀ I' : MI, (∀ k, k ≠ w → I' k = I k) → rb (I' w) i = v.toBitVec.toNat % 256 → (∀ j, j ≠ i → rb (I' w) j = rb (I w) j) → q 1 I' L) : wp_X4_replace X J r (nI i) v I L q := by
  obtain ⟨h1, h2, h3, h4, h5, h6, h7⟩ := h
  unfold wp_X4_replace
  refine ⟨fun z => absurd z (nI_pos (by omega)), fun _ => ?_⟩
  rw [h4]
  refine pk_lt i n (fun _ => ?_) (fun z => absurd z (by omega))
  rw [sh2 i (by omega), nI_clamp (by omega), sh3 i (by omega)]
  intro x3 e3
  subst e3
  have hin : vp_in (nI (i / 4)) (sl X w) := by rw [h6]; exact pk_in (i / 4) _ (by omega)
  refine ⟨w, h1, hin, hin, fun I' e' => hq I' (fun k hk => by rw [e']; exact ms_ne hk) ?_ (fun j hj => ?_)⟩
  · rw [e', ms_eq]
    apply nat_ext
    intro b
    rw [rb_bit, va_up_self, show (256 : Nat) = 2 ^ 8 from rfl, Nat.testBit_mod_two_pow]
    by_cases hb : b < 8
    · rw [rep_bit _ _ (by omega) (by omega), if_pos (by omega), show 8 * (i % 4) + b - 8 * (i % 4) = b by omega, bt_t]
    · simp [hb]
  · rw [e', ms_eq]
    apply nat_ext
    intro b
    rw [rb_bit, rb_bit]
    by_cases hw : j / 4 = i / 4
    · rw [hw, va_up_self]
      by_cases hb : b < 8
      · rw [rep_bit _ _ (by omega) (by omega), if_neg (by omega)]
      · simp [hb]
    · rw [va_up_ne _ _ hw]
theorem c_replaceOut (h : Rw X J I r w m n) {x : Int32} (hi : x < 0 ∨ nI n ≤ x) (v : Int32) {q : Int32 → MI → ML → Prop} (hq : q 0 I L) : wp_X4_replace X J r x v I L q := by
  obtain ⟨h1, h2, h3, h4, h5, h6, h7⟩ := h
  unfold wp_X4_replace
  refine ⟨fun _ => hq, fun z => ?_⟩
  rw [h4]
  refine ⟨fun z2 => ?_, fun _ => hq⟩
  rcases hi with hi | hi
  · exact absurd hi z
  · exact absurd z2 (Int32.not_lt.mpr hi)
/-- what may have changed: the row itself -/
def Fr (I I' : MI) (r w : Nat) : Prop := (∀ k, k ≠ r → k ≠ w → I' k = I k) ∧ ∀ j, j ≠ 2 → I' r j = I r j
theorem c_append (h : Rw X J I r w m n) (hn : n < m) (v : Int32) {q : MI → ML → Prop}
    (hq : ∀ I' : MI, Fr I I' r w → Rw X J I' r w m (n + 1) → rb (I' w) n = v.toBitVec.toNat % 256 → (∀ j, j < n → rb (I' w) j = rb (I w) j) → q I' L) : wp_X4_append X J r v I L q := by
  obtain ⟨h1, h2, h3, h4, h5, h6, h7⟩ := id h
  unfold wp_X4_append
  rw [h3, h4]
  refine pk_le m n (fun z => absurd z (by omega)) (fun _ => ?_)
  intro I1 e1
  rw [nI_1] at e1
  have hr : I1 r = va_up (I r) 2 (nI (n + 1)) := by rw [e1, ms_eq]
  have hR1 : Rw X J I1 r w m (n + 1) := ⟨h1, h2, by rw [hr, va_up_ne _ _ (by decide)]; exact h3, by rw [hr, va_up_self], by omega, h6, h7⟩
  rw [hR1.2.2.2.1, show nI (n + 1) - 1 = nI n from nI_pred n]
  refine c_replace hR1 (by omega) v (fun I' f1 f2 f3 => hq I' ⟨fun k hk1 hk2 => ?_, fun j hj => ?_⟩ ?_ f2 (fun j hj => ?_))
  · rw [f1 k hk2, e1, ms_ne hk1]
  · rw [f1 r h2, hr, va_up_ne _ _ hj]
  · exact ⟨h1, h2, by rw [f1 r h2]; exact hR1.2.2.1, by rw [f1 r h2]; exact hR1.2.2.2.1, by omega, h6, h7⟩
  · rw [f3 j (by omega), e1, ms_ne (Ne.symm h2)]
theorem Rw.frame {I' : MI} (h : Rw X J I r w m n) (h1 : I' r = I r) : Rw X J I' r w m n := ⟨h.1, h.2.1, by rw [h1]; exact h.2.2.1, by rw [h1]; exact h.2.2.2.1, h.2.2.2.2⟩
theorem Fr.trans {I1 I2 I3 : MI} (h1 : Fr I1 I2 r w) (h2 : Fr I2 I3 r w) : Fr I1 I3 r w := ⟨fun k a b => (h2.1 k a b).trans (h1.1 k a b), fun j hj => (h2.2 j hj).trans (h1.2 j hj)⟩
theorem Fr.rf {I : MI} : Fr I I r w := ⟨fun _ _ _ => rfl, fun _ _ => rfl⟩
theorem c_appendFull (h : Rw X J I r w m n) (hn : n = m) (v : Int32) {q : MI → ML → Prop} (hq : q I L) : wp_X4_append X J r v I L q := by
  obtain ⟨h1, h2, h3, h4, h5, h6, h7⟩ := id h
  unfold wp_X4_append
  rw [h3, h4]
  exact pk_le m n (fun _ => hq) (fun z => absurd z (by omega))
theorem c_clear (h : Rw X J I r w m n) {q : MI → ML → Prop} (hq : ∀ I', Fr I I' r w → Rw X J I' r w m 0 → I' w = I w → q I' L) : wp_X4_clear X J r I L q := by
  unfold wp_X4_clear
  intro I1 e1
  have hr : I1 r = va_up (I r) 2 0 := by rw [e1, ms_eq]
  refine hq I1 ⟨fun k a _ => by rw [e1]; exact ms_ne a, fun j hj => by rw [hr, va_up_ne _ _ hj]⟩ ⟨h.1, h.2.1, by rw [hr, va_up_ne _ _ (by decide)]; exact h.2.2.1, by rw [hr, va_up_self]; rfl, by omega, h.2.2.2.2.2⟩ (by rw [e1]; exact ms_ne (Ne.symm h.2.1))
theorem c_size (h : Rw X J I r w m n) {q : Int32 → MI → ML → Prop} (hq : q (nI n) I L) : wp_X4_size X J r I L q := by
  unfold wp_X4_size
  rw [h.2.2.2.1]
  exact hq
theorem c_cutTo (h : Rw X J I r w m n) {k : Nat} (hk : k ≤ n) {q : MI → ML → Prop} (hq : ∀ I', Fr I I' r w → Rw X J I' r w m k → I' w = I w → q I' L) : wp_X4_cutTo X J r (nI k) I L q := by
  obtain ⟨h1, h2, h3, h4, h5, h6, h7⟩ := id h
  unfold wp_X4_cutTo
  refine ⟨fun z => absurd z (nI_pos (by omega)), fun _ => ?_⟩
  rw [h4]
  refine pk_le n k (fun z => ?_) (fun z => ?_)
  · have e : k = n := by omega
    subst e
    exact hq I Fr.rf h rfl
  · intro I1 e1
    have hr : I1 r = va_up (I r) 2 (nI k) := by rw [e1, ms_eq]
    exact hq I1 ⟨fun j a _ => by rw [e1]; exact ms_ne a, fun j hj => by rw [hr, va_up_ne _ _ hj]⟩ ⟨h1, h2, by rw [hr, va_up_ne _ _ (by decide)]; exact h3, by rw [hr, va_up_self], by omega, h6, h7⟩ (by rw [e1]; exact ms_ne (Ne.symm h2))
end ROWS
