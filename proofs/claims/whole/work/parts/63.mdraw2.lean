section MD2
variable {X : XT} {J : MJ} {I : MI} {L : ML}
theorem mb_up {I I' : MI} {a : Nat} {v : Int32} (e : I' = ms I me a (jb8 (jb8 v))) : mb I' a = v.toBitVec.toNat % 256 := by
  unfold mb
  rw [ms_k e, va_up_self, jb8_t, jb8_t]
theorem mb_un {I I' : MI} {a b : Nat} {v : Int32} (e : I' = ms I me a v) (h : b ≠ a) : mb I' b = mb I b := by
  unfold mb
  rw [ms_k e, va_up_ne _ _ h]
theorem FW_up {I I' : MI} {a : Nat} {v : Int32} (e : I' = ms I me a (jb8 v)) : FW I I' a 1 := ⟨fun k hk => ms_o e hk, fun i hi => by rw [ms_k e, va_up_ne _ _ (by omega)], cy_w (ms_k e)⟩
theorem c_matrix (hC : MC X J) (hT : MT I) {sd p most : Nat} (hp : p < 18) (hm : most < 1000) (hmo : I mo 8 = nI most) (hsd : sd + 32 ≤ 11336 ∨ (11368 ≤ sd ∧ sd + 32 ≤ 20000)) {x2 x3 : Int32} {g : Nat → Nat} (hg : ∀ i, i < 32 → mb I (sd + i) = g i) (g1 : g 32 = x2.toBitVec.toNat % 256) (g2 : g 33 = x3.toBitVec.toNat % 256) {q : Int32 → MI → ML → Prop}
    (h1 : ∀ I', MF I I' 11336 16476 (fun i => i = p ∨ i = 18) → sR (xof 168 31 34 g) most ≠ 0 → Pm I' p (us (xof 168 31 34 g) (sR (xof 168 31 34 g) most)).2 → q (nI (sR (xof 168 31 34 g) most)) I' L) (h0 : ∀ I', MF I I' 11336 16476 (fun i => i = 18) → sR (xof 168 31 34 g) most = 0 → q (-1) I' L) : wp_X8_matrix X J mo (nI sd) x2 x3 (nI p) I L q := by
  obtain ⟨⟨j1, j2, j3, j4, j5, j6, j7, j8, j9⟩, s1, s2, s3, s4, s5, s6, s7, s8, s9⟩ := id hC
  refine c_copy (fr := sd) (to := 11336) (n := 32) hC (by omega) (by decide) (by omega) (fun I1 f1 b1 => ?_)
  refine ⟨me, j1, by rw [s1]; exact vp_in_nI (n := 11368) (by decide) (by decide), fun I2 e2 => ⟨by rw [s1]; exact vp_in_nI (n := 11369) (by decide) (by decide), fun I3 e3 => ?_⟩⟩
  have e2' : I2 = ms I1 me 11368 (jb8 (jb8 x2)) := e2
  have e3' : I3 = ms I2 me 11369 (jb8 (jb8 x3)) := e3
  have hF : MF I I3 11336 16476 (fun i => i = p ∨ i = 18) := ((f1.f (by decide) (by decide)).trans ((FW_up e2').f (by decide) (by decide))).trans ((FW_up e3').f (by decide) (by decide))
  have hF0 : MF I I3 11336 16476 (fun i => i = 18) := ((f1.f (by decide) (by decide)).trans ((FW_up e2').f (by decide) (by decide))).trans ((FW_up e3').f (by decide) (by decide))
  refine c_sampled (g := g) (lo := 11336) (hi := 16476) hC (hF.t hT) hp hm (by rw [hF.2.1 8 (by decide) (by decide)]; exact hmo) (fun i hi => ?_) (fun I' f z w => h1 I' (hF.trans f) z w) (fun I' f z => h0 I' (hF0.trans f) z)
  by_cases c33 : i = 33
  · rw [c33, g2]; exact mb_up e3'
  · rw [mb_un e3' (by omega)]
    by_cases c32 : i = 32
    · rw [c32, g1]; exact mb_up e2'
    · rw [mb_un e2' (by omega), b1 i (by omega), hg i (by omega)]
theorem c_noised (hC : MC X J) (hT : MT I) {sd p eta : Nat} (hp : p < 20) (he : eta = 2 ∨ eta = 3) (hsd : sd + 32 ≤ 11336 ∨ (11368 ≤ sd ∧ sd + 32 ≤ 20000)) {x2 : Int32} {g : Nat → Nat} (hg : ∀ i, i < 32 → mb I (sd + i) = g i) (g1 : g 32 = x2.toBitVec.toNat % 256) {q : MI → ML → Prop}
    (hq : ∀ I', MF I I' 11336 16476 (fun i => i = p) → Pm I' p (nz eta (xof 136 31 33 g)) → q I' L) : wp_X8_noised X J mo (nI sd) x2 (nI eta) (nI p) I L q := by
  obtain ⟨⟨j1, j2, j3, j4, j5, j6, j7, j8, j9⟩, s1, s2, s3, s4, s5, s6, s7, s8, s9⟩ := id hC
  refine c_copy (fr := sd) (to := 11336) (n := 32) hC (by omega) (by decide) (by omega) (fun I1 f1 b1 => ?_)
  refine ⟨me, j1, by rw [s1]; exact vp_in_nI (n := 11368) (by decide) (by decide), fun I2 e2 => ?_⟩
  have e2' : I2 = ms I1 me 11368 (jb8 (jb8 x2)) := e2
  have hF : MF I I2 11336 16476 (fun i => i = p) := (f1.f (by decide) (by decide)).trans ((FW_up e2').f (by decide) (by decide))
  have hgb : Mb I2 11336 33 g := fun i hi => by
    by_cases c32 : i = 32
    · rw [c32, g1]; exact mb_up e2'
    · rw [mb_un e2' (by omega), b1 i (by omega), hg i (by omega)]
  refine c_mabsorb (rate := 136) (fr := 11336) (n := 33) hC (hF.t hT) (by decide) (by decide) (by decide) false (fun I3 f3 m3 => ?_)
  rw [kAb_c (g := g) (fun i hi => hgb i hi), if_neg (by decide)] at m3
  have ex : xof 136 31 33 g = kO 136 (kEn 136 31 (kAb 136 g 33)) := rfl
  rw [ex] at hq
  generalize kEn 136 31 (kAb 136 g 33) = S at m3 hq
  have m3' : Mq I3 136 (kS 136 S 0) := m3
  rw [show (64 : Int32) * nI eta = nI (64 * eta) from pk_mul 64 eta]
  refine c_tells (to := 15436) hC (f3.t (hF.t hT)) (by decide) (by decide) m3' (by omega) (fun I4 f4 m4 b4 => ?_)
  have hF4 : MF I I4 11336 16476 (fun i => i = p) := (hF.trans f3.f).trans (f4.f (by decide) (by omega))
  generalize hbf : kO 136 S = bf at hq b4
  have hbl : ∀ k, bf k < 256 := fun k => by rw [← hbf]; exact kO_lt _ _ _
  have e2e : (2 : Int32) * nI eta = nI (2 * eta) := pk_mul 2 eta
  refine pk_loop (σ := MI) (fun fu i I' => wl_X8_noised_47 X J q mo (nI eta) (nI p) fu (nI i) I' L) (fun i I' => FP I4 I' p ∧ ∀ j, j < i → I' po (256 * p + j) = nI (nz eta bf j)) 256 0 I4 (Nat.zero_le _) ⟨FP.rf, fun j hj => absurd hj (by omega)⟩ ?_ ?_
  · intro fu I5 ⟨a, b⟩
    exact pk_le 256 256 (fun _ => hq I5 (hF4.trans (FP.f a rfl)) (fun j hj => ⟨nz_lt _ _ _, b j hj⟩)) (fun z => absurd z (by omega))
  · intro fu i I5 hi ⟨a, b⟩ ih
    refine pk_le 256 i (fun z => absurd z (by omega)) (fun _ => ?_)
    have hN : 2 * eta * i + 2 * eta ≤ 512 * eta := by
      have := Nat.mul_le_mul_left (2 * eta) (show i + 1 ≤ 256 by omega)
      rw [Nat.mul_add, Nat.mul_one] at this
      omega
    have hnz : nz eta bf i = (cnb (tb bf) (2 * eta * i) eta + 3329 - cnb (tb bf) (2 * eta * i + eta) eta) % 3329 := rfl
    have hNe : nI (2 * eta) * nI i = nI (2 * eta * i) := pk_mul _ _
    generalize 2 * eta * i = N at hN hnz hNe
    refine pk_loop (σ := Int32) (fun fv j v => wl_X8_noised_61 X J q (wl_X8_noised_47 X J q mo (nI eta) (nI p) fu) mo (nI eta) (nI p) (nI i) fv v (nI j) I5 L) (fun j v => v = nI (cnb (tb bf) N (min j eta)) - nI (cnb (tb bf) (N + eta) (j - eta))) (2 * eta) 0 0 (Nat.zero_le _) (by rw [Nat.zero_min, Nat.zero_sub]; show (0 : Int32) = nI 0 - nI 0; decide) ?_ ?_
    · intro fv v hv
      refine pk_le (2 * eta) (2 * eta) (fun _ => ?_) (fun z => absurd z (by omega)) e2e
      have l1 := cnb_le (tb bf) N eta
      have l2 := cnb_le (tb bf) (N + eta) eta
      rw [show min (2 * eta) eta = eta by omega, show 2 * eta - eta = eta by omega] at hv
      refine ⟨po, j7, c_ring (t := (cnb (tb bf) N eta : Int) - cnb (tb bf) (N + eta) eta) (by rw [Int32.toInt_toInt64, hv, pk_sub_toInt (by omega) (by omega)]) ?_⟩
      rw [show (((cnb (tb bf) N eta : Int) - cnb (tb bf) (N + eta) eta) % 3329).toNat = nz eta bf i by rw [hnz]; omega, e256, nI_clamp (n := 256 * p + i) (by omega), nI_1]
      refine ⟨by rw [s7]; exact vp_in_nI (by omega) (by decide), fun I6 e6 x5 e5 => ?_⟩
      rw [e5]
      refine ih I6 ⟨⟨fun k hk => (ms_o e6 hk).trans (a.1 k hk), fun w hw => by rw [ms_k e6, va_up_ne _ _ (by omega)]; exact a.2 w hw⟩, fun j hj => ?_⟩
      rw [ms_k e6]
      by_cases e : j = i
      · rw [e, va_up_self]
      · rw [va_up_ne _ _ (by omega)]; exact b j (by omega)
    · intro fv j v hj hv ih2
      refine pk_le (2 * eta) j (fun z => absurd z (by omega)) (fun _ => ?_) e2e
      intro x8 e8
      rw [e2e, hNe, nI_add] at e8
      rw [e8, show (8 : Int32) = nI 8 from rfl, pk_div (by omega) (by decide) (by decide), show (15436 : Int32) = nI 15436 from rfl, nI_add]
      refine c_mbyteAt hC (by omega) ?_
      have hby : mb I5 (15436 + (N + j) / 8) = bf ((N + j) / 8) := by
        have := b4 ((N + j) / 8) (by omega)
        rw [Nat.zero_add] at this
        rw [← this]
        unfold mb
        rw [a.1 me (by decide)]
      rw [hby, jrem_n (by omega) (by decide) (by decide), bit_of _ (hbl _) (Nat.mod_lt _ (by decide))]
      have htb : (bf ((N + j) / 8)).testBit ((N + j) % 8) = tb bf (N + j) := rfl
      rw [htb]
      intro x9 e9
      have l1 := cnb_le (tb bf) N (min j eta)
      have l2 := cnb_le (tb bf) (N + eta) (j - eta)
      refine pk_le eta j (fun z => ?_) (fun z => ?_)
      · intro x6 e6 x7 e7
        rw [e7, nI_1]
        refine ih2 _ ?_
        rw [e6, e9, hv, show min j eta = eta by omega, show min (j + 1) eta = eta by omega, show j + 1 - eta = (j - eta) + 1 by omega]
        show _ = _ - nI (cnb (tb bf) (N + eta) (j - eta) + (if tb bf (N + eta + (j - eta)) then 1 else 0))
        rw [show N + eta + (j - eta) = N + j by omega, ← nI_add]
        have : bI (tb bf (N + j)) = nI (if tb bf (N + j) then 1 else 0) := by cases tb bf (N + j) <;> rfl
        rw [this]
        apply Int32.toBitVec_inj.mp
        simp only [Int32.toBitVec_add, Int32.toBitVec_sub, Int32.toBitVec_neg]
        generalize (nI (cnb (tb bf) N eta)).toBitVec = A
        generalize (nI (cnb (tb bf) (N + eta) (j - eta))).toBitVec = B
        generalize (nI (if tb bf (N + j) then 1 else 0)).toBitVec = C
        rw [← BitVec.sub_eq_add_neg, BitVec.sub_sub]
      · intro x6 e6 x7 e7
        rw [e7, nI_1]
        refine ih2 _ ?_
        rw [e6, e9, hv, show min j eta = j by omega, show min (j + 1) eta = j + 1 by omega, show j + 1 - eta = 0 by omega, show j - eta = 0 by omega]
        show _ = nI (cnb (tb bf) N j + (if tb bf (N + j) then 1 else 0)) - _
        rw [← nI_add]
        have : bI (tb bf (N + j)) = nI (if tb bf (N + j) then 1 else 0) := by cases tb bf (N + j) <;> rfl
        rw [this]
        have h0 : cnb (tb bf) (N + eta) 0 = 0 := rfl
        rw [h0]
        apply Int32.toBitVec_inj.mp
        simp only [Int32.toBitVec_add, Int32.toBitVec_sub]
        have z0 : (nI 0).toBitVec = 0#32 := rfl
        rw [z0, BitVec.sub_zero, BitVec.sub_zero]
end MD2
