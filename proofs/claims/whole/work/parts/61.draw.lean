section DRW
variable {X : XT} {J : MJ} {I : MI} {L : ML} {sm sp ln a : Nat}
/-- what a draw may change -/
def FD (I I' : MI) (sp a : Nat) : Prop := ∀ k, k ≠ sp → k ≠ a → I' k = I k
theorem FS.d {I I' : MI} {L L' : ML} {sp ln : Nat} (h : FS I I' L L' sp ln) (a : Nat) : FD I I' sp a := fun k x _ => h.1 k x
theorem FD.trans {I1 I2 I3 : MI} (h : FD I1 I2 sp a) (g : FD I2 I3 sp a) : FD I1 I3 sp a := fun k x y => (g k x y).trans (h k x y)
theorem Sp_o {I I' : MI} {L : ML} {rate sx : Nat} {s : KS × Nat} (h : Sp I L sp ln rate sx s) (e : I' sp = I sp) : Sp I' L sp ln rate sx s := by
  obtain ⟨c1, c2, c3, c4⟩ := h
  exact ⟨by rw [e]; exact c1, by rw [e]; exact c2, by rw [e]; exact c3, c4⟩
theorem c_uloop (hJ0 : J sm 0 = some sp) (hJ : Spj X J sp ln) (hl : sl X a = 256) (has : a ≠ sp) {S : KS} {most : Nat} (hm : most < 1000) (h : Sp I L sp ln 168 31 (kS 168 S 0)) {q : Int32 → MI → ML → Prop}
    (h1 : ∀ I' L', FD I I' sp a → sR (kO 168 S) most ≠ 0 → Pa I' a (us (kO 168 S) (sR (kO 168 S) most)).2 → q (nI (sR (kO 168 S) most)) I' L') (h0 : ∀ I' L', FD I I' sp a → sR (kO 168 S) most = 0 → q (-2) I' L') : ∃ fu, wl_X5_drawUniform_50 X J q sm a (nI most) fu 0 1 I L := by
  refine pk2 (fun fu i I' L' => wl_X5_drawUniform_50 X J q sm a (nI most) fu (nI (us (kO 168 S) i).1) (nI (i + 1)) I' L') (fun i I' L' => FD I I' sp a ∧ Sp I' L' sp ln 168 31 (kS 168 S (3 * i)) ∧ (∀ j, j < (us (kO 168 S) i).1 → I' a j = nI ((us (kO 168 S) i).2 j)) ∧ ∀ j, j ≤ i → (us (kO 168 S) j).1 < 256) most 0 I L (Nat.zero_le _) ⟨fun _ _ _ => rfl, h, fun j hj => absurd hj (by show ¬ j < 0; omega), fun j hj => by rw [show j = 0 by omega]; show 0 < 256; decide⟩ ?_ ?_
  · intro fu I1 L1 ⟨a1, a2, a3, a4⟩
    exact pk_lt most (most + 1) (fun _ => h0 I1 L1 a1 (sR_0 _ _ a4)) (fun z => absurd z (by omega))
  · intro fu i I1 L1 hi ⟨a1, a2, a3, a4⟩ ih
    refine pk_lt most (i + 1) (fun z => absurd z (by omega)) (fun _ => ⟨sp, hJ0, ?_⟩)
    refine c_tellByte hJ a2 (fun I2 L2 f2 s2 => ?_)
    refine c_tellByte hJ s2 (fun I3 L3 f3 s3 => ?_)
    refine c_tellByte hJ s3 (fun I4 L4 f4 s4 => ?_)
    have b0 := kO_lt 168 S (3 * i)
    have b1 := kO_lt 168 S (3 * i + 1)
    have b2 := kO_lt 168 S (3 * i + 1 + 1)
    have ea : I4 a = I1 a := by rw [f4.1 a has, f3.1 a has, f2.1 a has]
    refine c_firstGroup b0 b1 ?_
    refine c_keep (s := us (kO 168 S) i) hl (us_b _ _) (fun j hj => by rw [ea]; exact a3 j hj) (by omega) (fun I5 f5 k5 => ?_)
    refine c_secondGroup b1 b2 ?_
    refine c_keep (s := kp (us (kO 168 S) i) (kO 168 S (3 * i) + 256 * (kO 168 S (3 * i + 1) % 16))) hl (kp_b (us_b _ _)) k5 (by omega) (fun I6 f6 k6 => ?_)
    have hus : us (kO 168 S) (i + 1) = kp (kp (us (kO 168 S) i) (kO 168 S (3 * i) + 256 * (kO 168 S (3 * i + 1) % 16))) (kO 168 S (3 * i + 1) / 16 + 16 * kO 168 S (3 * i + 1 + 1)) := rfl
    rw [← hus] at k6 ⊢
    have hF : FD I I6 sp a := fun k x y => by rw [f6 k y, f5 k y, f4.1 k x, f3.1 k x, f2.1 k x, a1 k x y]
    have hb := us_b (kO 168 S) (i + 1)
    rw [show (256 : Int32) = nI 256 from rfl, nI_eq (by omega) (by decide)]
    refine ⟨fun z x8 e8 => ?_, fun z => ?_⟩
    · rw [e8, nI_1]
      refine ih I6 L4 ⟨hF, ?_, k6, fun j hj => ?_⟩
      · rw [show 3 * (i + 1) = 3 * i + 1 + 1 + 1 by omega]
        exact Sp_o s4 (by rw [f6 sp (Ne.symm has), f5 sp (Ne.symm has)])
      · by_cases e : j = i + 1
        · rw [e]; omega
        · exact a4 j (by omega)
    · have hs := sR_1 (kO 168 S) z a4 most (by omega)
      have := h1 I6 L4 hF
      rw [hs] at this
      refine this (by omega) (fun j hj => ⟨us_lt _ _ _, k6 j (by rw [z]; exact hj)⟩)
theorem c_drawUniform (hJ0 : J sm 0 = some sp) (hJ : Spj X J sp ln) (hl : sl X a = 256) (has : a ≠ sp) {r w m n : Nat} (hR : Rw X J I r w m n) (hrr : r ≠ sp ∧ w ≠ sp) {st0 most : Nat} (hs : st0 + 32 ≤ n) (hm : most < 1000) {x4 x5 : Int32} {g : Nat → Nat} (hg : ∀ i, i < 32 → g i = rb (I w) (st0 + i)) (hg1 : g 32 = x4.toBitVec.toNat % 256) (hg2 : g 33 = x5.toBitVec.toNat % 256) {q : Int32 → MI → ML → Prop}
    (h1 : ∀ I' L', FD I I' sp a → sR (xof 168 31 34 g) most ≠ 0 → Pa I' a (us (xof 168 31 34 g) (sR (xof 168 31 34 g) most)).2 → q (nI (sR (xof 168 31 34 g) most)) I' L') (h0 : ∀ I' L', FD I I' sp a → sR (xof 168 31 34 g) most = 0 → q (-2) I' L') : wp_X5_drawUniform X J sm a r (nI st0) x4 x5 (nI most) I L q := by
  refine ⟨sp, hJ0, c_begin (k := 2) hJ (by decide) (fun I1 L1 f1 _ _ s1 => ?_)⟩
  have s1' : Sp I1 L1 sp ln 168 31 (kAb 168 g 0) := s1
  refine c_absorb (f := g) (n0 := 0) (cn := 32) hJ s1' (hR.frame (f1 r hrr.1)) hrr hs (fun i hi => by rw [Nat.zero_add, f1 w hrr.2]; exact hg i hi) (fun I2 L2 f2 s2 => ?_)
  rw [Nat.zero_add] at s2
  refine c_absorbByte hJ s2 (kAb_p (by decide) _ _) x4 (fun I3 L3 f3 s3 => ?_)
  rw [← hg1] at s3
  have s3' : Sp I3 L3 sp ln 168 31 (kAb 168 g 33) := s3
  refine c_absorbByte hJ s3' (kAb_p (by decide) _ _) x5 (fun I4 L4 f4 s4 => ?_)
  rw [← hg2] at s4
  have s4' : Sp I4 L4 sp ln 168 31 (kAb 168 g 34) := s4
  refine c_finish hJ s4' (kAb_p (by decide) _ _) (fun I5 L5 f5 s5 => ?_)
  have hF : FD I I5 sp a := fun k x _ => by rw [f5.1 k x, f4.1 k x, f3.1 k x, f2.1 k x, f1 k x]
  have ex : xof 168 31 34 g = kO 168 (kEn 168 31 (kAb 168 g 34)) := rfl
  rw [ex] at h1 h0
  generalize kEn 168 31 (kAb 168 g 34) = S at s5 h1 h0
  exact c_uloop hJ0 hJ hl has hm s5 (fun I' L' f => h1 I' L' (hF.trans f)) (fun I' L' f => h0 I' L' (hF.trans f))
theorem c_nloop (hJ0 : J sm 0 = some sp) (hJ : Spj X J sp ln) (hl : sl X a = 256) (has : a ≠ sp) {S : KS} {eta : Nat} (he : eta = 2 ∨ eta = 3) (h : Sp I L sp ln 136 31 (kS 136 S 0)) {q : MI → ML → Prop}
    (hq : ∀ I' L', FD I I' sp a → Pa I' a (nz eta (kO 136 S)) → q I' L') : ∃ fu, wl_X5_drawNoise_52 X J q sm a (nI eta) (nI (2 ^ eta - 1)) fu 0 0 0 I L := by
  generalize hbf : kO 136 S = bf at hq
  have hbl : ∀ k, bf k < 256 := fun k => by rw [← hbf]; exact kO_lt _ _ _
  have e2 : (2 : Int32) * nI eta = nI (2 * eta) := pk_mul 2 eta
  refine pk2 (σ := MI × Int32 × Int32) (fun fu i s L' => wl_X5_drawNoise_52 X J q sm a (nI eta) (nI (2 ^ eta - 1)) fu s.2.1 s.2.2 (nI i) s.1 L') (fun i s L' => ∃ B, 2 * eta * i ≤ 8 * B ∧ 8 * B < 2 * eta * i + 8 ∧ s.2.1 = nI (V (tb bf) (2 * eta * i) (8 * B - 2 * eta * i)) ∧ s.2.2 = nI (8 * B - 2 * eta * i) ∧ FD I s.1 sp a ∧ Sp s.1 L' sp ln 136 31 (kS 136 S B) ∧ ∀ j, j < i → s.1 a j = nI (nz eta bf j)) 256 0 (I, 0, 0) L (by decide) ⟨0, by omega, by omega, rfl, rfl, fun _ _ _ => rfl, h, fun j hj => absurd hj (by omega)⟩ ?_ ?_
  · intro fu s L' ⟨B, b1, b2, b3, b4, b5, b6, b7⟩
    exact pk_le 256 256 (fun _ => hq s.1 L' b5 (fun j hj => ⟨nz_lt _ _ _, b7 j hj⟩)) (fun z => absurd z (by omega))
  · intro fu i s L' hi ⟨B, b1, b2, b3, b4, b5, b6, b7⟩ ih
    refine pk_le 256 i (fun z => absurd z (by omega)) (fun _ => ?_)
    rw [b3, b4]
    have hd1 : 2 * eta * (i + 1) = 2 * eta * i + 2 * eta := by rw [Nat.mul_add, Nat.mul_one]
    generalize hN : 2 * eta * i = N at *
    have main : ∀ (n B' : Nat) (I1 : MI) (L1 : ML), N ≤ 8 * B' → 8 * B' < N + 2 * eta + 8 → N + 2 * eta + 8 ≤ 8 * B' + n → FD I I1 sp a → Sp I1 L1 sp ln 136 31 (kS 136 S B') → (∀ j, j < i → I1 a j = nI (nz eta bf j)) → wl_X5_drawNoise_60 X J q (wl_X5_drawNoise_52 X J q sm a (nI eta) (nI (2 ^ eta - 1)) fu) sm a (nI eta) (nI (2 ^ eta - 1)) (nI i) n (nI (V (tb bf) N (8 * B' - N))) (nI (8 * B' - N)) I1 L1 := by
      intro n
      induction n with
      | zero => intro B' I1 L1 _ c2 c3; exact absurd c3 (by omega)
      | succ n ihn =>
        intro B' I1 L1 c1 c2 c3 d1 d2 d3
        have hV := V_lt (tb bf) N (8 * B' - N)
        have h20 : 2 ^ (8 * B' - N) ≤ 2 ^ 14 := Nat.pow_le_pow_right (n := 2) (by decide) (by omega)
        refine pk_le (2 * eta) (8 * B' - N) (fun z => ?_) (fun z => ?_) e2 rfl
        · rw [and_m (by omega) (by omega) (by omega), V_mod _ _ (by omega)]
          have q1 : V (tb bf) N eta < 8 := Nat.lt_of_lt_of_le (V_lt _ _ _) (Nat.pow_le_pow_right (n := 2) (j := 3) (by decide) (by omega))
          have q2 : V (tb bf) (N + eta) eta < 8 := Nat.lt_of_lt_of_le (V_lt _ _ _) (Nat.pow_le_pow_right (n := 2) (j := 3) (by decide) (by omega))
          refine c_bitCount q1 ?_
          have hV2 := V_lt (tb bf) (N + eta) (8 * B' - N - eta)
          have h21 : 2 ^ (8 * B' - N - eta) ≤ 2 ^ 14 := Nat.pow_le_pow_right (n := 2) (by decide) (by omega)
          rw [jshr_n (by omega) (by omega), V_div _ _ (by omega), and_m (by omega) (by omega) (by omega), V_mod _ _ (by omega)]
          refine c_bitCount q2 ?_
          rw [pc3_V _ _ he, pc3_V _ _ he, nI_clamp (n := i) (by omega), e2]
          have l1 := cnb_le (tb bf) N eta
          have l2 := cnb_le (tb bf) (N + eta) eta
          refine ⟨by rw [hl]; exact vp_in_nI hi (by decide), fun I3 e3 x7 e7 x8 e8 x9 e9 => ?_⟩
          rw [sub3 (by omega), show (3329 : Int32) = nI 3329 from rfl, jrem_n (by omega) (by decide) (by decide)] at e3
          rw [jushr_n (by omega) (by omega), V_div _ _ z] at e7
          rw [pk_sub z] at e8
          rw [nI_1] at e9
          rw [e7, e8, e9]
          refine ih (I3, _, _) L1 ⟨B', by omega, by omega, by rw [hd1, Nat.sub_sub]; rfl, by rw [hd1, Nat.sub_sub]; rfl, fun k x y => by show I3 k = _; rw [ms_o e3 y]; exact d1 k x y, Sp_o d2 (ms_o e3 (Ne.symm has)), fun j hj => ?_⟩
          show I3 a j = _
          rw [ms_k e3]
          by_cases e : j = i
          · rw [e, va_up_self]
            show _ = nI (nz eta bf i)
            unfold nz
            rw [hN]
          · rw [va_up_ne _ _ e]; exact d3 j (by omega)
        · refine ⟨sp, hJ0, c_tellByte hJ d2 (fun I2 L2 f2 s2 => ?_)⟩
          have hB := hbl B'
          have h12 : 2 ^ (8 * B' - N) ≤ 32 := Nat.pow_le_pow_right (n := 2) (i := 8 * B' - N) (j := 5) (by decide) (by omega)
          have hsm : bf B' * 2 ^ (8 * B' - N) < 2 ^ 20 := by
            have := Nat.mul_le_mul (show bf B' ≤ 255 by omega) h12
            omega
          have hv8 : V (tb bf) (8 * B') 8 = bf B' := by
            rw [← Nat.mod_eq_of_lt (show bf B' < 2 ^ 8 from hB), ← V_of (bf B') 8]
            refine V_congr (fun j hj => ?_)
            unfold tb
            rw [show (8 * B' + j) / 8 = B' by omega, show (8 * B' + j) % 8 = j by omega, Nat.zero_add]
          intro x7 e7 x8 e8
          rw [show kO 136 S B' = bf B' by rw [hbf], jshl_n (by omega) (by omega), or_n, or_sh hV, ← hv8] at e7
          rw [show nI (8 * B' - N) + 8 = nI (8 * B' - N + 8) from nI_add _ 8] at e8
          rw [e7, e8]
          have := ihn (B' + 1) I2 L2 (by omega) (by omega) (by omega) (fun k x y => by rw [f2.1 k x]; exact d1 k x y) s2 (fun j hj => by rw [f2.1 a has]; exact d3 j hj)
          rw [show 8 * (B' + 1) - N = 8 * B' - N + 8 by omega, V_add, show N + (8 * B' - N) = 8 * B' by omega] at this
          exact this
    exact ⟨_, main (N + 2 * eta + 8) B s.1 L' b1 (by omega) (by omega) b5 b6 b7⟩
theorem c_drawNoise (hJ0 : J sm 0 = some sp) (hJ : Spj X J sp ln) (hl : sl X a = 256) (has : a ≠ sp) {r w m n : Nat} (hR : Rw X J I r w m n) (hrr : r ≠ sp ∧ w ≠ sp) {st0 eta : Nat} (hs : st0 + 32 ≤ n) (he : eta = 2 ∨ eta = 3) {x5 : Int32} {g : Nat → Nat} (hg : ∀ i, i < 32 → g i = rb (I w) (st0 + i)) (hg1 : g 32 = x5.toBitVec.toNat % 256) {q : MI → ML → Prop}
    (hq : ∀ I' L', FD I I' sp a → Pa I' a (nz eta (xof 136 31 33 g)) → q I' L') : wp_X5_drawNoise X J sm a r (nI st0) (nI eta) x5 I L q := by
  refine ⟨sp, hJ0, c_begin (k := 3) hJ (by decide) (fun I1 L1 f1 _ _ s1 => ?_)⟩
  have s1' : Sp I1 L1 sp ln 136 31 (kAb 136 g 0) := s1
  refine c_absorb (f := g) (n0 := 0) (cn := 32) hJ s1' (hR.frame (f1 r hrr.1)) hrr hs (fun i hi => by rw [Nat.zero_add, f1 w hrr.2]; exact hg i hi) (fun I2 L2 f2 s2 => ?_)
  rw [Nat.zero_add] at s2
  refine c_absorbByte hJ s2 (kAb_p (by decide) _ _) x5 (fun I3 L3 f3 s3 => ?_)
  rw [← hg1] at s3
  have s3' : Sp I3 L3 sp ln 136 31 (kAb 136 g 33) := s3
  refine c_finish hJ s3' (kAb_p (by decide) _ _) (fun I5 L5 f5 s5 => ?_)
  have hF : FD I I5 sp a := fun k x _ => by rw [f5.1 k x, f3.1 k x, f2.1 k x, f1 k x]
  have ex : xof 136 31 33 g = kO 136 (kEn 136 31 (kAb 136 g 33)) := rfl
  rw [ex] at hq
  generalize kEn 136 31 (kAb 136 g 33) = S at s5 hq
  intro x6 e6
  rw [msk (by omega) (by omega)] at e6
  rw [e6]
  exact c_nloop hJ0 hJ hl has he s5 (fun I' L' f => hq I' L' (hF.trans f))
end DRW
