theorem pk2 {σ τ : Type} (W : Nat → Nat → σ → τ → Prop) (P : Nat → σ → τ → Prop) (e i0 : Nat) (s : σ) (t : τ) (hi : i0 ≤ e) (h0 : P i0 s t) (hx : ∀ n s t, P e s t → W (n + 1) e s t) (hs : ∀ n i s t, i < e → P i s t → (∀ s' t', P (i + 1) s' t' → W n (i + 1) s' t') → W (n + 1) i s t) : ∃ n, W n i0 s t :=
  pk_loop (σ := σ × τ) (fun n i s => W n i s.1 s.2) (fun i s => P i s.1 s.2) e i0 (s, t) hi h0 (fun n s => hx n s.1 s.2) (fun n i s hi h k => hs n i s.1 s.2 hi h (fun s' t' h' => k (s', t') h'))
/-! ===== the SPONGE ===== -/
/-- BYTE b comes into the state at BYTE i -/
def kb (S : KS) (i b : Nat) : KS := fun l z => S l z ^^ (decide (l = i / 8) && (decide (8 * (i % 8) ≤ z) && b.testBit (z - 8 * (i % 8))))
def kA (rate : Nat) (s : KS × Nat) (b : Nat) : KS × Nat := if s.2 + 1 = rate then (kF (kb s.1 s.2 b) 24, 0) else (kb s.1 s.2 b, s.2 + 1)
def k0 : KS := fun _ _ => false
def kAb (rate : Nat) (f : Nat → Nat) : Nat → KS × Nat
  | 0 => (k0, 0)
  | i + 1 => kA rate (kAb rate f i) (f i)
def kEn (rate sx : Nat) (s : KS × Nat) : KS := kF (kb (kb s.1 s.2 sx) (rate - 1) 128) 24
def bv (b : Bool) (k : Nat) : Nat := if b then 2 ^ k else 0
def kG (S : KS) (i : Nat) : Nat := bv (S (i / 8) (8 * (i % 8))) 0 + bv (S (i / 8) (8 * (i % 8) + 1)) 1 + bv (S (i / 8) (8 * (i % 8) + 2)) 2 + bv (S (i / 8) (8 * (i % 8) + 3)) 3 + bv (S (i / 8) (8 * (i % 8) + 4)) 4 + bv (S (i / 8) (8 * (i % 8) + 5)) 5 + bv (S (i / 8) (8 * (i % 8) + 6)) 6 + bv (S (i / 8) (8 * (i % 8) + 7)) 7
def kN (rate : Nat) (s : KS × Nat) : KS × Nat := if s.2 = rate then (kF s.1 24, 0) else s
def kS (rate : Nat) (S : KS) : Nat → KS × Nat
  | 0 => (S, 0)
  | j + 1 => ((kN rate (kS rate S j)).1, (kN rate (kS rate S j)).2 + 1)
def kO (rate : Nat) (S : KS) (j : Nat) : Nat := kG (kN rate (kS rate S j)).1 (kN rate (kS rate S j)).2
/-- BYTE j that a sponge tells of the n BYTES f -/
def xof (rate sx n : Nat) (f : Nat → Nat) (j : Nat) : Nat := kO rate (kEn rate sx (kAb rate f n)) j
theorem kb_e {S S' : KS} (h : kE S S') (i b : Nat) : kE (kb S i b) (kb S' i b) := by
  intro l z hl hz
  unfold kb
  rw [h l z hl hz]
theorem kG_e {S S' : KS} (h : kE S S') {i : Nat} (hi : i < 200) : kG S i = kG S' i := by
  unfold kG
  rw [h _ _ (by omega) (by omega), h _ (8 * (i % 8) + 1) (by omega) (by omega), h _ (8 * (i % 8) + 2) (by omega) (by omega), h _ (8 * (i % 8) + 3) (by omega) (by omega), h _ (8 * (i % 8) + 4) (by omega) (by omega), h _ (8 * (i % 8) + 5) (by omega) (by omega), h _ (8 * (i % 8) + 6) (by omega) (by omega), h _ (8 * (i % 8) + 7) (by omega) (by omega)]
theorem kAb_c {rate : Nat} {f g : Nat → Nat} : ∀ {n : Nat}, (∀ i, i < n → f i = g i) → kAb rate f n = kAb rate g n
  | 0, _ => rfl
  | n + 1, h => by
    unfold kAb
    rw [kAb_c (n := n) (fun i hi => h i (by omega)), h n (by omega)]
theorem xof_c {rate sx n : Nat} {f g : Nat → Nat} (h : ∀ i, i < n → f i = g i) (j : Nat) : xof rate sx n f j = xof rate sx n g j := by
  unfold xof
  rw [kAb_c h]
theorem bv_lt (b : Bool) (k : Nat) : bv b k ≤ 2 ^ k := by
  unfold bv
  split
  · exact Nat.le_refl _
  · exact Nat.zero_le _
theorem kG_lt (S : KS) (i : Nat) : kG S i < 256 := by
  unfold kG
  have h := fun b k => bv_lt b k
  have h0 := h (S (i / 8) (8 * (i % 8))) 0
  have h1 := h (S (i / 8) (8 * (i % 8) + 1)) 1
  have h2 := h (S (i / 8) (8 * (i % 8) + 2)) 2
  have h3 := h (S (i / 8) (8 * (i % 8) + 3)) 3
  have h4 := h (S (i / 8) (8 * (i % 8) + 4)) 4
  have h5 := h (S (i / 8) (8 * (i % 8) + 5)) 5
  have h6 := h (S (i / 8) (8 * (i % 8) + 6)) 6
  have h7 := h (S (i / 8) (8 * (i % 8) + 7)) 7
  omega
theorem kO_lt (rate : Nat) (S : KS) (j : Nat) : kO rate S j < 256 := kG_lt _ _
theorem xof_lt (rate sx n : Nat) (f : Nat → Nat) (j : Nat) : xof rate sx n f j < 256 := kG_lt _ _
theorem kAb_p {rate : Nat} (h : 0 < rate) (f : Nat → Nat) : ∀ n, (kAb rate f n).2 < rate
  | 0 => h
  | n + 1 => by
    have ih := kAb_p h f n
    show (kA rate (kAb rate f n) (f n)).2 < rate
    unfold kA
    split
    · exact h
    · rename_i z
      show (kAb rate f n).2 + 1 < rate
      omega
theorem kS_p {rate : Nat} (h : 0 < rate) (S : KS) : ∀ j, (kS rate S j).2 ≤ rate ∧ (kN rate (kS rate S j)).2 < rate := by
  intro j
  have a : ∀ s : KS × Nat, s.2 ≤ rate → (kN rate s).2 < rate := by
    intro s hs
    unfold kN
    split
    · exact h
    · omega
  have b : (kS rate S j).2 ≤ rate := by
    induction j with
    | zero => exact Nat.zero_le _
    | succ j ih => exact a _ ih
  exact ⟨b, a _ b⟩
theorem byte_of_bits {v : Nat} (hv : v < 256) : v = bv (v.testBit 0) 0 + bv (v.testBit 1) 1 + bv (v.testBit 2) 2 + bv (v.testBit 3) 3 + bv (v.testBit 4) 4 + bv (v.testBit 5) 5 + bv (v.testBit 6) 6 + bv (v.testBit 7) 7 :=
  (by decide +kernel : ∀ v, v < 256 → v = bv (v.testBit 0) 0 + bv (v.testBit 1) 1 + bv (v.testBit 2) 2 + bv (v.testBit 3) 3 + bv (v.testBit 4) 4 + bv (v.testBit 5) 5 + bv (v.testBit 6) 6 + bv (v.testBit 7) 7) v hv
theorem kG_of {S : KS} {i v : Nat} (hv : v < 256) (h : ∀ b, b < 8 → v.testBit b = S (i / 8) (8 * (i % 8) + b)) : v = kG S i := by
  rw [byte_of_bits hv, h 0 (by decide), h 1 (by decide), h 2 (by decide), h 3 (by decide), h 4 (by decide), h 5 (by decide), h 6 (by decide), h 7 (by decide)]
  rfl
/-! ===== the class's Sponge ===== -/
section SPG
variable {X : XT} {J : MJ} {I : MI} {L : ML} {sp ln rate sx : Nat} {s : KS × Nat}
def Spj (X : XT) (J : MJ) (sp ln : Nat) : Prop := J sp 0 = some ln ∧ sl X ln = 25
def Sp (I : MI) (L : ML) (sp ln rate sx : Nat) (s : KS × Nat) : Prop := I sp 1 = nI rate ∧ I sp 2 = nI sx ∧ I sp 3 = nI s.2 ∧ kE (SL (L ln)) s.1 ∧ s.2 ≤ rate ∧ 8 ≤ rate ∧ rate ≤ 200 ∧ sx < 256
/-- what a sponge's call may change -/
def FS (I I' : MI) (L L' : ML) (sp ln : Nat) : Prop := (∀ k, k ≠ sp → I' k = I k) ∧ (∀ j, j ≠ 3 → I' sp j = I sp j) ∧ ∀ c, c ≠ ln → L' c = L c
theorem FS.trans {I1 I2 I3 : MI} {L1 L2 L3 : ML} (h : FS I1 I2 L1 L2 sp ln) (g : FS I2 I3 L2 L3 sp ln) : FS I1 I3 L1 L3 sp ln := ⟨fun k a => (g.1 k a).trans (h.1 k a), fun j a => (g.2.1 j a).trans (h.2.1 j a), fun c a => (g.2.2 c a).trans (h.2.2 c a)⟩
theorem FS.rf {I : MI} {L : ML} : FS I I L L sp ln := ⟨fun _ _ => rfl, fun _ _ => rfl, fun _ _ => rfl⟩
theorem nIl {n : Nat} (h : n < 2 ^ 31) (i : Nat) (hi : i < 64) : lb (nI n).toInt64 i = n.testBit i := by
  rw [nI_l h]
  show (lN n).toBitVec.getLsbD i = _
  show (BitVec.ofNat 64 n).getLsbD i = _
  rw [BitVec.getLsbD_ofNat]
  simp [hi]
theorem c_mixIn (hJ : Spj X J sp ln) {i b : Nat} (hi : i < 200) (hb : b < 256) {q : MI → ML → Prop}
    (hq : ∀ L', (∀ c, c ≠ ln → L' c = L c) → kE (SL (L' ln)) (kb (SL (L ln)) i b) → q I L') : wp_X6_mixIn X J sp (nI i) (nI b) I L q := by
  have e1 : jshr (nI i) 3 = nI (i / 8) := jshr_n (k := 3) (by omega) (by decide)
  have e2 : jshl (nI i &&& 7) 3 = nI (8 * (i % 8)) := by
    rw [show nI i &&& 7 = nI (i % 8) from pk_andN (by omega) 3 rfl, show (3 : Int32) = nI 3 from rfl, jshl_n (by decide) (by omega), Nat.mul_comm]
  unfold wp_X6_mixIn
  rw [e1, e2, nI_clamp (by omega)]
  have hin : vp_in (nI (i / 8)) (sl X ln) := by rw [hJ.2]; exact pk_in (i / 8) 25 (by omega)
  refine ⟨ln, hJ.1, hin, hin, fun L' e => hq L' (fun c hc => ms_o e hc) ?_⟩
  intro l z hl hz
  show lb (L' ln l) z = _
  rw [ms_k e]
  unfold kb SL
  by_cases h : l = i / 8
  · rw [h, va_up_self, lb_xor, lb_shl (by omega) _ hz]
    by_cases h2 : 8 * (i % 8) ≤ z
    · rw [nIl (by omega) _ (by omega)]
      simp
    · simp [h2]
  · rw [va_up_ne _ _ h]
    simp [h]
theorem c_absorbByte (hJ : Spj X J sp ln) (h : Sp I L sp ln rate sx s) (hp : s.2 < rate) (x : Int32) {q : MI → ML → Prop}
    (hq : ∀ I' L', FS I I' L L' sp ln → Sp I' L' sp ln rate sx (kA rate s (x.toBitVec.toNat % 256)) → q I' L') : wp_X6_absorbByte X J sp x I L q := by
  obtain ⟨h1, h2, h3, h4, h5, h6, h7, h8⟩ := h
  unfold wp_X6_absorbByte
  rw [m255, h3]
  refine c_mixIn hJ (by omega) (Nat.mod_lt _ (by decide)) (fun L1 f1 f2 => ?_)
  intro I3 e3
  rw [h3, nI_1] at e3
  have hk : I3 sp = va_up (I sp) 3 (nI (s.2 + 1)) := ms_k e3
  have hr : I3 sp 1 = nI rate := by rw [hk, va_up_ne _ _ (by decide)]; exact h1
  have hx : I3 sp 2 = nI sx := by rw [hk, va_up_ne _ _ (by decide)]; exact h2
  have hpl : I3 sp 3 = nI (s.2 + 1) := by rw [hk, va_up_self]
  have hS : kE (SL (L1 ln)) (kb s.1 s.2 (x.toBitVec.toNat % 256)) := f2.tr (kb_e h4 _ _)
  rw [hpl, hr, nI_eq (by omega) (by omega)]
  refine ⟨fun z => ?_, fun z => ?_⟩
  · refine hq I3 L1 ⟨fun k a => ms_o e3 a, fun j a => by rw [hk, va_up_ne _ _ a], f1⟩ ?_
    unfold kA
    rw [if_neg z]
    exact ⟨hr, hx, hpl, hS, by show s.2 + 1 ≤ rate; omega, h6, h7, h8⟩
  · refine c_doRounds hJ.1 hJ.2 (fun L2 g1 g2 => ?_)
    intro I6 e6
    have hk6 : I6 sp = va_up (I3 sp) 3 0 := ms_k e6
    refine hq I6 L2 ⟨fun k a => (ms_o e6 a).trans (ms_o e3 a), fun j a => by rw [hk6, va_up_ne _ _ a, hk, va_up_ne _ _ a], fun c a => (g1 c a).trans (f1 c a)⟩ ?_
    unfold kA
    rw [if_pos z]
    have hT : kE (SL (L2 ln)) (kF (kb s.1 s.2 (x.toBitVec.toNat % 256)) 24) := g2.tr (kF_e hS 24)
    generalize kF (kb s.1 s.2 (x.toBitVec.toNat % 256)) 24 = T at hT ⊢
    exact ⟨by rw [hk6, va_up_ne _ _ (by decide)]; exact hr, by rw [hk6, va_up_ne _ _ (by decide)]; exact hx, by rw [hk6, va_up_self]; exact nI_0.symm, hT, Nat.zero_le _, h6, h7, h8⟩
theorem c_absorb (hJ : Spj X J sp ln) {f : Nat → Nat} {n0 : Nat} (h : Sp I L sp ln rate sx (kAb rate f n0)) {r w m n : Nat} (hR : Rw X J I r w m n) (hrr : r ≠ sp ∧ w ≠ sp) {st cn : Nat} (hs : st + cn ≤ n) (hf : ∀ i, i < cn → f (n0 + i) = rb (I w) (st + i)) {q : MI → ML → Prop}
    (hq : ∀ I' L', FS I I' L L' sp ln → Sp I' L' sp ln rate sx (kAb rate f (n0 + cn)) → q I' L') : wp_X6_absorb X J sp r (nI st) (nI cn) I L q := by
  have hm : n ≤ 4000 := Nat.le_trans hR.2.2.2.2.1 hR.2.2.2.2.2.2
  refine pk2 (fun fu i I' L' => wl_X6_absorb_3 X J q sp r (nI st) (nI cn) fu (nI i) I' L') (fun i I' L' => FS I I' L L' sp ln ∧ Sp I' L' sp ln rate sx (kAb rate f (n0 + i))) cn 0 I L (Nat.zero_le _) ⟨FS.rf, h⟩ ?_ ?_
  · intro fu I1 L1 ⟨a, b⟩
    exact pk_le cn cn (fun _ => hq _ _ a b) (fun z => absurd z (by omega))
  · intro fu i I1 L1 hi ⟨a, b⟩ ih
    refine pk_le cn i (fun z => absurd z (by omega)) (fun _ => ?_)
    rw [nI_add]
    have hR' : Rw X J I1 r w m n := hR.frame (a.1 r hrr.1)
    refine c_byteAt hR' (by omega) ?_
    refine c_absorbByte hJ b (kAb_p (by have := b.2.2.2.2.2.1; omega) f _) _ (fun I' L' g1 g2 => ?_)
    intro x4 e4
    rw [e4, nI_1]
    refine ih I' L' ⟨a.trans g1, ?_⟩
    rw [pk_tn (Nat.lt_of_lt_of_le (rb_lt _ _) (by decide)), Nat.mod_eq_of_lt (rb_lt _ _), a.1 w hrr.2, ← hf i hi] at g2
    exact g2
theorem c_finish (hJ : Spj X J sp ln) (h : Sp I L sp ln rate sx s) (hp : s.2 < rate) {q : MI → ML → Prop}
    (hq : ∀ I' L', FS I I' L L' sp ln → Sp I' L' sp ln rate sx (kEn rate sx s, 0) → q I' L') : wp_X6_finish X J sp I L q := by
  obtain ⟨h1, h2, h3, h4, h5, h6, h7, h8⟩ := h
  unfold wp_X6_finish
  rw [h3, h2]
  refine c_mixIn hJ (by omega) h8 (fun L1 f1 f2 => ?_)
  rw [h1, show nI rate - 1 = nI (rate - 1) from pk_sub (a := rate) (b := 1) (by omega), show (128 : Int32) = nI 128 from rfl]
  refine c_mixIn hJ (by omega) (by decide) (fun L2 g1 g2 => ?_)
  refine c_doRounds hJ.1 hJ.2 (fun L3 u1 u2 => ?_)
  intro I7 e7
  have hk : I7 sp = va_up (I sp) 3 0 := ms_k e7
  refine hq I7 L3 ⟨fun k a => ms_o e7 a, fun j a => by rw [hk, va_up_ne _ _ a], fun c a => ((u1 c a).trans (g1 c a)).trans (f1 c a)⟩ ?_
  have hT : kE (SL (L3 ln)) (kEn rate sx s) := u2.tr (kF_e (g2.tr (kb_e (f2.tr (kb_e h4 _ _)) _ _)) 24)
  generalize kEn rate sx s = T at hT ⊢
  exact ⟨by rw [hk, va_up_ne _ _ (by decide)]; exact h1, by rw [hk, va_up_ne _ _ (by decide)]; exact h2, by rw [hk, va_up_self]; exact nI_0.symm, hT, Nat.zero_le _, h6, h7, h8⟩
theorem tb_of (x : Int64) {k : Nat} (hk : k < 64) (i : Nat) (hi : i < 8) (hki : k + i < 64) : ((jlushr x (nI k)).toInt32.toBitVec.toNat % 256).testBit i = lb x (k + i) := by
  rw [show (256 : Nat) = 2 ^ 8 from rfl, Nat.testBit_mod_two_pow, decide_eq_true hi, Bool.true_and]
  show ((jlushr x (nI k)).toInt32.toBitVec).getLsbD i = _
  rw [Int64.toBitVec_toInt32, BitVec.getLsbD_signExtend]
  simp [show i < 32 by omega, show i < 64 by omega]
  exact lb_ushr hk x i
theorem c_tell20 (hJ : Spj X J sp ln) (h : Sp I L sp ln rate sx s) (hp : s.2 < rate) {q : Int32 → MI → ML → Prop}
    (hq : ∀ I', FS I I' L L sp ln → Sp I' L sp ln rate sx (s.1, s.2 + 1) → q (nI (kG s.1 s.2)) I' L) : wj_X6_tellByte_20 X J q sp I L := by
  obtain ⟨h1, h2, h3, h4, h5, h6, h7, h8⟩ := h
  have e1 : jshr (nI s.2) 3 = nI (s.2 / 8) := jshr_n (k := 3) (by omega) (by decide)
  have e2 : jshl (nI s.2 &&& 7) 3 = nI (8 * (s.2 % 8)) := by
    rw [show nI s.2 &&& 7 = nI (s.2 % 8) from pk_andN (by omega) 3 rfl, show (3 : Int32) = nI 3 from rfl, jshl_n (by decide) (by omega), Nat.mul_comm]
  unfold wj_X6_tellByte_20
  rw [h3, e1, e2, nI_clamp (by omega), nI_1]
  refine ⟨ln, hJ.1, by rw [hJ.2]; exact pk_in (s.2 / 8) 25 (by omega), fun x ex I4 e4 => ?_⟩
  have hk : I4 sp = va_up (I sp) 3 (nI (s.2 + 1)) := ms_k e4
  rw [m255] at ex
  have hv : (jlushr (L ln (s.2 / 8)) (nI (8 * (s.2 % 8)))).toInt32.toBitVec.toNat % 256 = kG s.1 s.2 := by
    refine kG_of (Nat.mod_lt _ (by decide)) (fun b hb => ?_)
    rw [tb_of _ (by omega) b hb (by omega)]
    exact h4 _ _ (by omega) (by omega)
  rw [ex, hv]
  exact hq I4 ⟨fun k a => ms_o e4 a, fun j a => by rw [hk, va_up_ne _ _ a], fun _ _ => rfl⟩ ⟨by rw [hk, va_up_ne _ _ (by decide)]; exact h1, by rw [hk, va_up_ne _ _ (by decide)]; exact h2, by rw [hk, va_up_self], h4, hp, h6, h7, h8⟩
theorem c_tellByte (hJ : Spj X J sp ln) {S : KS} {j : Nat} (h : Sp I L sp ln rate sx (kS rate S j)) {q : Int32 → MI → ML → Prop}
    (hq : ∀ I' L', FS I I' L L' sp ln → Sp I' L' sp ln rate sx (kS rate S (j + 1)) → q (nI (kO rate S j)) I' L') : wp_X6_tellByte X J sp I L q := by
  obtain ⟨h1, h2, h3, h4, h5, h6, h7, h8⟩ := id h
  have hp := kS_p (rate := rate) (by omega) S j
  unfold wp_X6_tellByte
  rw [h3, h1, nI_eq (by omega) (by omega)]
  refine ⟨fun z => ?_, fun z => ?_⟩
  · have e : kN rate (kS rate S j) = kS rate S j := if_neg z
    refine c_tell20 hJ h (by omega) (fun I' g1 g2 => ?_)
    have := hq I' L g1
    unfold kO at this
    rw [show kS rate S (j + 1) = ((kN rate (kS rate S j)).1, (kN rate (kS rate S j)).2 + 1) from rfl, e] at this
    exact this g2
  · refine c_doRounds hJ.1 hJ.2 (fun L1 u1 u2 => ?_)
    intro I7 e7
    have hk : I7 sp = va_up (I sp) 3 0 := ms_k e7
    have e : kN rate (kS rate S j) = (kF (kS rate S j).1 24, 0) := if_pos z
    have hT : kE (SL (L1 ln)) (kF (kS rate S j).1 24) := u2.tr (kF_e h4 24)
    have hq' := fun I' => hq I' L1
    unfold kO at hq'
    rw [show kS rate S (j + 1) = ((kN rate (kS rate S j)).1, (kN rate (kS rate S j)).2 + 1) from rfl, e] at hq'
    generalize kF (kS rate S j).1 24 = T at hT hq'
    have hs : Sp I7 L1 sp ln rate sx (T, 0) := ⟨by rw [hk, va_up_ne _ _ (by decide)]; exact h1, by rw [hk, va_up_ne _ _ (by decide)]; exact h2, by rw [hk, va_up_self]; exact nI_0.symm, hT, Nat.zero_le _, h6, h7, h8⟩
    refine c_tell20 hJ hs (by show 0 < rate; omega) (fun I' g1 g2 => hq' I' (FS.trans ⟨fun k a => ms_o e7 a, fun j a => by rw [hk, va_up_ne _ _ a], u1⟩ g1) g2)
theorem c_tellTo (hJ : Spj X J sp ln) {S : KS} {j : Nat} (h : Sp I L sp ln rate sx (kS rate S j)) {r w m n : Nat} (hR : Rw X J I r w m n) (hrr : r ≠ sp ∧ w ≠ sp) {cn : Nat} (hn : n + cn ≤ m) {q : MI → ML → Prop}
    (hq : ∀ I' L', (∀ k, k ≠ sp → k ≠ r → k ≠ w → I' k = I k) → (∀ c, c ≠ ln → L' c = L c) → (∀ j, j ≠ 3 → I' sp j = I sp j) → (∀ j, j ≠ 2 → I' r j = I r j) → Sp I' L' sp ln rate sx (kS rate S (j + cn)) → Rw X J I' r w m (n + cn) → (∀ i, i < cn → rb (I' w) (n + i) = kO rate S (j + i)) → (∀ i, i < n → rb (I' w) i = rb (I w) i) → q I' L') : wp_X6_tellTo X J sp r (nI cn) I L q := by
  have hm : m ≤ 4000 := hR.2.2.2.2.2.2
  refine pk2 (fun fu i I1 L1 => wl_X6_tellTo_2 X J q sp r (nI cn) fu (nI i) I1 L1) (fun i I1 L1 => (∀ k, k ≠ sp → k ≠ r → k ≠ w → I1 k = I k) ∧ (∀ c, c ≠ ln → L1 c = L c) ∧ (∀ j, j ≠ 3 → I1 sp j = I sp j) ∧ (∀ j, j ≠ 2 → I1 r j = I r j) ∧ Sp I1 L1 sp ln rate sx (kS rate S (j + i)) ∧ Rw X J I1 r w m (n + i) ∧ (∀ a, a < i → rb (I1 w) (n + a) = kO rate S (j + a)) ∧ (∀ a, a < n → rb (I1 w) a = rb (I w) a)) cn 0 I L (Nat.zero_le _) ⟨fun _ _ _ _ => rfl, fun _ _ => rfl, fun _ _ => rfl, fun _ _ => rfl, h, hR, fun a ha => absurd ha (by omega), fun _ _ => rfl⟩ ?_ ?_
  · intro fu I1 L1 ⟨a1, a2, a3, a4, a5, a6, a7, a8⟩
    exact pk_le cn cn (fun _ => hq _ _ a1 a2 a3 a4 a5 a6 a7 a8) (fun z => absurd z (by omega))
  · intro fu i I1 L1 hi ⟨a1, a2, a3, a4, a5, a6, a7, a8⟩ ih
    refine pk_le cn i (fun z => absurd z (by omega)) (fun _ => ?_)
    refine c_tellByte hJ a5 (fun I' L' g1 g2 => ?_)
    have hR' : Rw X J I' r w m (n + i) := a6.frame (g1.1 r hrr.1)
    refine c_append hR' (by omega) _ (fun I2 u1 u2 u3 u4 => ?_)
    intro x3 e3
    rw [e3, nI_1]
    have hsp : I2 sp = I' sp := u1.1 sp (Ne.symm hrr.1) (Ne.symm hrr.2)
    refine ih I2 L' ⟨fun k b1 b2 b3 => by rw [u1.1 k b2 b3, g1.1 k b1, a1 k b1 b2 b3], fun c b => by rw [g1.2.2 c b, a2 c b], fun j b => by rw [hsp, g1.2.1 j b, a3 j b], fun j b => by rw [u1.2 j b, g1.1 r hrr.1, a4 j b], ?_, u2, fun a ha => ?_, fun a ha => ?_⟩
    · obtain ⟨c1, c2, c3, c4⟩ := g2
      exact ⟨by rw [hsp]; exact c1, by rw [hsp]; exact c2, by rw [hsp]; exact c3, c4⟩
    · by_cases e : a = i
      · subst e
        rw [u3, pk_tn (Nat.lt_of_lt_of_le (kO_lt _ _ _) (by decide)), Nat.mod_eq_of_lt (kO_lt _ _ _)]
      · rw [u4 _ (by omega), g1.1 w hrr.2, a7 a (by omega)]
    · rw [u4 _ (by omega), g1.1 w hrr.2, a8 a ha]
theorem c_fillL {a n0 : Nat} (hl : sl X a = n0) (hn : n0 < 2 ^ 31) (v : Int64) {q : MI → ML → Prop} (hq : ∀ L', (∀ c, c ≠ a → L' c = L c) → (∀ j, j < n0 → L' a j = v) → q I L') : wp_J7_fill_d0a16 X J a v I L q := by
  intro x4 e4
  rw [e4, hl]
  refine pk_loop (σ := ML) (fun fu i L' => wl_J7_fill_d0a16_6 X J q a v (nI n0) fu (nI i) I L') (fun i L' => (∀ c, c ≠ a → L' c = L c) ∧ ∀ j, j < i → L' a j = v) n0 0 L (Nat.zero_le _) ⟨fun _ _ => rfl, fun j hj => absurd hj (by omega)⟩ ?_ ?_
  · intro fu L' ⟨a1, a2⟩
    exact pk_le n0 n0 (fun _ => hq L' a1 a2) (fun z => absurd z (by omega))
  · intro fu i L' hi ⟨a1, a2⟩ ih
    refine pk_le n0 i (fun z => absurd z (by omega)) (fun _ => ?_)
    rw [hl, nI_clamp (n := i) (by omega)]
    refine ⟨pk_in i n0 hi, fun L2 e2 x3 e3 => ?_⟩
    rw [e3, nI_1]
    refine ih L2 ⟨fun c hc => (ms_o e2 hc).trans (a1 c hc), fun j hj => ?_⟩
    rw [ms_k e2]
    by_cases e : j = i
    · subst e; exact va_up_self _ _ _
    · rw [va_up_ne _ _ e]; exact a2 j (by omega)
def raN (k : Nat) : Nat := [136, 72, 168, 136].getD k 136
def sxN (k : Nat) : Nat := [6, 6, 31, 31].getD k 31
theorem c_begin (hJ : Spj X J sp ln) {k : Nat} (hk : k < 4) {q : MI → ML → Prop}
    (hq : ∀ I' L', (∀ c, c ≠ sp → I' c = I c) → I' sp 0 = I sp 0 → (∀ c, c ≠ ln → L' c = L c) → Sp I' L' sp ln (raN k) (sxN k) (k0, 0) → q I' L') : wp_X6_begin X J sp (nI k) I L q := by
  have main : ∀ (I1 : MI), I1 = ms I sp 1 (nI (raN k)) → wj_X6_begin_44 X J q sp sp (nI (sxN k)) I1 L := by
    intro I1 e1 I2 e2 I3 e3
    refine ⟨ln, hJ.1, c_fillL hJ.2 (by decide) 0 (fun L' f1 f2 => hq I3 L' (fun c hc => ((ms_o e3 hc).trans (ms_o e2 hc)).trans (ms_o e1 hc)) ?_ f1 ?_)⟩
    · rw [ms_k e3, va_up_ne _ _ (by decide), ms_k e2, va_up_ne _ _ (by decide), ms_k e1, va_up_ne _ _ (by decide)]
    · refine ⟨?_, ?_, ?_, ?_, Nat.zero_le _, ?_, ?_, ?_⟩
      · rw [ms_k e3, va_up_ne _ _ (by decide), ms_k e2, va_up_ne _ _ (by decide), ms_k e1, va_up_self]
      · rw [ms_k e3, va_up_ne _ _ (by decide), ms_k e2, va_up_self]
      · rw [ms_k e3, va_up_self]; exact nI_0.symm
      · intro l z hl hz
        show lb (L' ln l) z = false
        rw [f2 l hl]
        exact BitVec.getLsbD_zero
      · rcases (show k = 0 ∨ k = 1 ∨ k = 2 ∨ k = 3 by omega) with rfl | rfl | rfl | rfl <;> decide
      · rcases (show k = 0 ∨ k = 1 ∨ k = 2 ∨ k = 3 by omega) with rfl | rfl | rfl | rfl <;> decide
      · rcases (show k = 0 ∨ k = 1 ∨ k = 2 ∨ k = 3 by omega) with rfl | rfl | rfl | rfl <;> decide
  unfold wp_X6_begin
  refine ⟨fun z => absurd z (nI_pos (by omega)), fun _ => ?_⟩
  refine pk_le (stL 0) k (fun z => absurd z (by show ¬ 4 ≤ k; omega)) (fun _ => ?_) rfl rfl (by decide) (by omega)
  refine ⟨pk_in k (stL 0) hk rfl (by decide), ?_⟩
  rw [nI_clamp (n := k) (by omega)]
  intro I1 e1
  rcases (show k = 0 ∨ k = 1 ∨ k = 2 ∨ k = 3 by omega) with rfl | rfl | rfl | rfl
  · exact ⟨fun _ => main I1 e1, fun z => absurd rfl z⟩
  · exact ⟨fun z => absurd z (by decide), fun _ => ⟨fun z => absurd rfl z, fun _ => main I1 e1⟩⟩
  · exact ⟨fun z => absurd z (by decide), fun _ => ⟨fun _ => main I1 e1, fun z => absurd z (by decide)⟩⟩
  · exact ⟨fun z => absurd z (by decide), fun _ => ⟨fun _ => main I1 e1, fun z => absurd z (by decide)⟩⟩
end SPG
