section MLK
variable {X : XT} {J : MJ} {I : MI} {L : ML}
theorem c_locks (hC : MC X J) (hT : MT I) {k most : Nat} (hk : I mo 7 = nI k) (hk2 : 2 ≤ k ∧ k ≤ 4) (hmo : I mo 8 = nI most) (hm : most < 1000) {ka : Nat} (hka : ka + 384 * k + 32 ≤ 11336) {key sd mf : Nat → Nat} (hK : Mb I ka (384 * k + 32) key) (hS : Mb I 19612 64 sd) (hM : Mb I 19740 32 mf) {q : Int32 → MI → ML → Prop}
    (h1 : ∀ I', MF I I' 11336 20000 (fun p => 4 ≤ p) → Mb I' 19612 64 sd → lkOK k key most → Mb I' 18044 (32 * duK k * k + 32 * dvK k) (ctF k sd key most mf) → q 1 I' L)
    (h0 : ∀ I', MF I I' 11336 20000 (fun p => 4 ≤ p) → ¬ lkOK k key most → q 0 I' L) : wp_X8_locks X J mo (nI ka) I L q := by
  obtain ⟨⟨j1, j2, j3, j4, j5, j6, j7, j8, j9⟩, s1, s2, s3, s4, s5, s6, s7, s8, s9⟩ := id hC
  have hw := Wk hk2.2
  have hdu := duK_b k
  have hdv := dvK_b k
  refine c_copy (fr := 19644) (to := 19804) (n := 32) hC (by decide) (by decide) (by decide) (fun I1 f1 b1 => ?_)
  have m1 : MF I I1 11336 20000 (fun p => 4 ≤ p) := f1.f (by decide) (by decide)
  have H1 : Mb I1 19804 32 (sgF sd) := fun i hi => by rw [b1 i hi, show 19644 + i = 19612 + (32 + i) by omega, hS _ (by omega)]; rfl
  have S1 : Mb I1 19612 64 sd := hS.f (f1.f (lo := 19804) (hi := 19836) (P := fun _ => False) (by decide) (by decide)) (Or.inl (by decide))
  have M1 : Mb I1 19740 32 mf := hM.f (f1.f (lo := 19804) (hi := 19836) (P := fun _ => False) (by decide) (by decide)) (Or.inl (by decide))
  have K1 : Mb I1 ka (384 * k + 32) key := hK.f (f1.f (lo := 19804) (hi := 19836) (P := fun _ => False) (by decide) (by decide)) (Or.inl (by omega))
  have k1 : ∀ I', MF I1 I' 11336 19612 (fun p => 4 ≤ p) → I' mo 7 = nI k ∧ I' mo 8 = nI most ∧ MT I' ∧ Mb I' 19804 32 (sgF sd) ∧ Mb I' 19612 64 sd ∧ Mb I' 19740 32 mf ∧ Mb I' ka (384 * k + 32) key ∧ MF I I' 11336 20000 (fun p => 4 ≤ p) := fun I' f => ⟨by rw [f.2.1 7 (by decide) (by decide), m1.2.1 7 (by decide) (by decide)]; exact hk, by rw [f.2.1 8 (by decide) (by decide), m1.2.1 8 (by decide) (by decide)]; exact hmo, f.t (m1.t hT), H1.f f (Or.inr (by decide)), S1.f f (Or.inr (by decide)), M1.f f (Or.inr (by decide)), K1.f f (Or.inl (by omega)), m1.trans (f.w (Nat.le_refl _) (by decide) (fun _ z => z))⟩
  refine pk_loop (σ := MI) (fun fu i I' => wl_X8_locks_14 X J q mo (nI ka) fu (nI i) I' L) (fun i I' => MF I1 I' 11336 19612 (fun p => 4 ≤ p) ∧ ∀ j, j < i → Pm I' (4 + j) (skP k sd j)) k 0 I1 (Nat.zero_le _) ⟨MF.rf, fun j hj => absurd hj (by omega)⟩ ?_ ?_
  · intro fu I2 ⟨a2, b2⟩
    obtain ⟨u7, u8, uT, uH, uS, uM, uK, uF⟩ := k1 I2 a2
    refine pk_le k k (fun _ => ?_) (fun z => absurd z (by omega)) u7
    refine pk_loop (σ := MI) (fun fu i I' => wl_X8_locks_52 X J q mo (nI ka) fu (nI i) I' L) (fun i I' => MF I1 I' 11336 19612 (fun p => 4 ≤ p) ∧ (∀ j, j < k → Pm I' (4 + j) (skP k sd j)) ∧ Mb I' 18044 (32 * duK k * i) (ctF k sd key most mf) ∧ ∀ i', i' < i → ∀ j, j < k → uR (rhF k key) i' j most ≠ 0) k 0 I2 (Nat.zero_le _) ⟨a2, b2, fun j hj => absurd hj (by omega), fun i hi => absurd hi (by omega)⟩ ?_ ?_
    · intro fu I3 ⟨a3, b3, c3, d3⟩
      obtain ⟨v7, v8, vT, vH, vS, vM, vK, vF⟩ := k1 I3 a3
      refine pk_le k k (fun _ => ?_) (fun z => absurd z (by omega)) v7
      refine c_zero (p := 16) hC (by decide) (fun I4 f4 p4 => ?_)
      have m4 : MF I3 I4 11336 16476 (fun p => p = 16 ∨ p = 17 ∨ p = 18) := FP.f f4 (Or.inl rfl)
      refine pk_loop (σ := MI) (fun fu i I' => wl_X8_locks_196 X J q mo (nI ka) fu (nI i) I' L) (fun i I' => MF I3 I' 11336 16476 (fun p => p = 16 ∨ p = 17 ∨ p = 18) ∧ Pm I' 16 (vLk k sd key i)) k 0 I4 (Nat.zero_le _) ⟨m4, p4⟩ ?_ ?_
      · intro fv I5 ⟨a5, b5⟩
        have wk : MF I1 I5 11336 19612 (fun p => 4 ≤ p) := a3.trans (a5.w (Nat.le_refl _) (by decide) (fun p z => by omega))
        obtain ⟨w7, w8, wT, wH, wS, wM, wK, wF⟩ := k1 I5 wk
        refine pk_le k k (fun _ => ?_) (fun z => absurd z (by omega)) w7
        refine c_bw (lo := 11336) (hi := 16476) (P := fun p => p = 16 ∨ p = 17 ∨ p = 18) (p := 16) hC wT (by decide) b5 (Or.inl rfl) (Or.inr (Or.inr rfl)) (fun I6 f6 o6 p6 => ?_)
        rw [show I6 mo 7 = nI k by rw [f6.2.1 7 (by decide) (by decide)]; exact w7, show (2 : Int32) = nI 2 from rfl, pk_mul]
        refine c_noised (sd := 19804) (p := 17) (eta := 2) (g := c33 (sgF sd) (2 * k)) hC (f6.t wT) (by decide) (Or.inl rfl) (Or.inr (by decide)) (fun x hx => ?_) ?_ (fun I7 f7 p7 => ?_)
        · rw [f6.m (Or.inr (by omega)), wH x hx]; unfold c33; rw [if_pos hx]
        · unfold c33; rw [if_neg (by decide), pk_tn (by omega), Nat.mod_eq_of_lt (by omega)]
        refine c_plusT (p := 16) (p' := 17) hC (by decide) (by decide) (by decide) (f7.p (by decide) p6) p7 (fun I8 f8 p8 => ?_)
        have x8 : MF I5 I8 11336 16476 (fun p => p = 16 ∨ p = 17 ∨ p = 18) := (f6.trans (f7.w (Nat.le_refl _) (Nat.le_refl _) (fun p z => by omega))).trans (FP.f f8 (Or.inl rfl))
        have M8 : Mb I8 19740 32 mf := wM.f x8 (Or.inr (by decide))
        refine c_readPol (p := 17) (d := 1) (fr := 19740) hC (by decide) (by decide) (by decide) (by decide) (fun I9 f9 p9 => ?_)
        have p9' : Pm I9 17 (dec 1 mf) := p9.c (fun i hi => dec_c (fun y hy => M8 y (by omega)) hi)
        refine c_stretched (p := 17) (d := 1) hC (by decide) p9' (by decide) (by decide) (fun I10 f10 p10 => ?_)
        have p8' : Pm I8 16 (fun x => rad (bk (vLk k sd key k) x) (nP 2 (sgF sd) (2 * k) x)) := p8
        refine c_plusT (p := 16) (p' := 17) hC (by decide) (by decide) (by decide) (f10.o (by decide) (f9.o (by decide) p8')) p10 (fun I11 f11 p11 => ?_)
        have x11 : MF I5 I11 11336 16476 (fun p => p = 16 ∨ p = 17 ∨ p = 18) := ((x8.trans (FP.f f9 (Or.inr (Or.inl rfl)))).trans (FP.f f10 (Or.inr (Or.inl rfl)))).trans (FP.f f11 (Or.inl rfl))
        have p11' : Pm I11 16 (vLf k sd key mf) := p11
        have y7 : I11 mo 7 = nI k := by rw [x11.2.1 7 (by decide) (by decide)]; exact w7
        refine c_dv y7 (by omega) ?_
        refine c_pressed (p := 16) hC (by decide) p11' (by omega) (by omega) (fun I12 f12 p12 => ?_)
        have y12 : I12 mo 7 = nI k := by rw [f12.1 mo (by decide)]; exact y7
        refine c_dv y12 (by omega) ?_
        refine c_du y12 (by omega) ?_
        rw [y12, show (32 : Int32) = nI 32 from rfl, pk_mul, pk_mul, show (18044 : Int32) = nI 18044 from rfl, nI_add]
        refine c_written (p := 16) hC (by decide) p12 (by omega) (by omega) (by omega) (fun I13 f13 b13 => ?_)
        have x13 : MF I1 I13 11336 19612 (fun p => 4 ≤ p) := ((wk.trans (x11.w (Nat.le_refl _) (by decide) (fun p z => by omega))).trans (FP.f f12 (by decide))).trans (f13.f (by omega) (by omega))
        obtain ⟨z7, z8, zT, zH, zS, zM, zK, zF⟩ := k1 I13 x13
        refine h1 I13 zF zS d3 (fun x hx => ?_)
        rcases Nat.lt_or_ge x (32 * duK k * k) with z | z
        · have e1 : mb I13 (18044 + x) = mb I12 (18044 + x) := by unfold mb; rw [f13.2.1 _ (by omega)]
          have e2 : mb I12 (18044 + x) = mb I11 (18044 + x) := by unfold mb; rw [f12.1 me (by decide)]
          rw [e1, e2, x11.m (Or.inr (by omega)), a5.m (Or.inr (by omega)), c3 x z]
        · have := b13 (x - 32 * duK k * k) (by omega)
          rw [show 18044 + 32 * duK k * k + (x - 32 * duK k * k) = 18044 + x by omega] at this
          rw [this]
          have e3 := ctF_v (k := k) (sd := sd) (key := key) (mf := mf) (most := most) (x := x - 32 * duK k * k)
          rw [show 32 * duK k * k + (x - 32 * duK k * k) = x by omega] at e3
          rw [e3]
      · intro fv i I5 hi ⟨a5, b5⟩ ih
        have wk : MF I1 I5 11336 19612 (fun p => 4 ≤ p) := a3.trans (a5.w (Nat.le_refl _) (by decide) (fun p z => by omega))
        obtain ⟨w7, w8, wT, wH, wS, wM, wK, wF⟩ := k1 I5 wk
        refine pk_le k i (fun z => absurd z (by omega)) (fun _ => ?_) w7
        rw [show (384 : Int32) = nI 384 from rfl, pk_mul, nI_add, show (4 : Int32) + nI i = nI (4 + i) from nI_add 4 i]
        refine c_readPol (p := 17) (d := 12) hC (by decide) (by decide) (by decide) (by omega) (fun I6 f6 p6 => ?_)
        have p6' : Pm I6 17 (kyP key i) := p6.c (fun x hx => dec_c (fun y hy => by rw [show ka + 384 * i + y = ka + (384 * i + y) by omega]; exact wK _ (by omega)) hx)
        refine c_mprodT (p := 17) (to := 16) hC (wT.fp f6) (by decide) (by omega) (by decide) (by decide) (by omega) p6' (f6.o (by omega) (a5.p (by omega) (b3 i hi))) (f6.o (by decide) b5) (fun I7 f7 p7 x2 e2 => ?_)
        rw [e2, nI_1]
        exact ih I7 ⟨(a5.trans (FP.f f6 (Or.inr (Or.inl rfl)))).trans (FP.f f7 (Or.inl rfl)), p7⟩
    · intro fu i I3 hi ⟨a3, b3, c3, d3⟩ ih
      obtain ⟨v7, v8, vT, vH, vS, vM, vK, vF⟩ := k1 I3 a3
      have hb := ps_b (W := 32 * duK k) hi
      refine pk_le k i (fun z => absurd z (by omega)) (fun _ => ?_) v7
      refine c_zero (p := 16) hC (by decide) (fun I4 f4 p4 => ?_)
      have m4 : MF I3 I4 11336 16476 (fun p => p = 16 ∨ p = 17 ∨ p = 18) := FP.f f4 (Or.inl rfl)
      refine pk_loop (σ := MI) (fun fv j I' => wl_X8_locks_68 X J q (wl_X8_locks_52 X J q mo (nI ka) fu) mo (nI ka) (nI i) fv (nI j) I' L) (fun j I' => MF I3 I' 11336 16476 (fun p => p = 16 ∨ p = 17 ∨ p = 18) ∧ Pm I' 16 (uLk k sd key most i j) ∧ ∀ j', j' < j → uR (rhF k key) i j' most ≠ 0) k 0 I4 (Nat.zero_le _) ⟨m4, p4, fun j hj => absurd hj (by omega)⟩ ?_ ?_
      · intro fv I5 ⟨a5, b5, c5⟩
        have wk : MF I1 I5 11336 19612 (fun p => 4 ≤ p) := a3.trans (a5.w (Nat.le_refl _) (by decide) (fun p z => by omega))
        obtain ⟨w7, w8, wT, wH, wS, wM, wK, wF⟩ := k1 I5 wk
        refine pk_le k k (fun _ => ?_) (fun z => absurd z (by omega)) w7
        refine c_bw (lo := 11336) (hi := 16476) (P := fun p => p = 16 ∨ p = 17 ∨ p = 18) (p := 16) hC wT (by decide) b5 (Or.inl rfl) (Or.inr (Or.inr rfl)) (fun I6 f6 o6 p6 => ?_)
        rw [show I6 mo 7 = nI k by rw [f6.2.1 7 (by decide) (by decide)]; exact w7, nI_add]
        refine c_noised (sd := 19804) (p := 17) (eta := 2) (g := c33 (sgF sd) (k + i)) hC (f6.t wT) (by decide) (Or.inl rfl) (Or.inr (by decide)) (fun x hx => ?_) ?_ (fun I7 f7 p7 => ?_)
        · rw [f6.m (Or.inr (by omega)), wH x hx]; unfold c33; rw [if_pos hx]
        · unfold c33; rw [if_neg (by decide), pk_tn (by omega), Nat.mod_eq_of_lt (by omega)]
        refine c_plusT (p := 16) (p' := 17) hC (by decide) (by decide) (by decide) (f7.p (by decide) p6) p7 (fun I8 f8 p8 => ?_)
        have x8 : MF I5 I8 11336 16476 (fun p => p = 16 ∨ p = 17 ∨ p = 18) := (f6.trans (f7.w (Nat.le_refl _) (Nat.le_refl _) (fun p z => by omega))).trans (FP.f f8 (Or.inl rfl))
        have p8' : Pm I8 16 (uLf k sd key most i) := p8
        have y8 : I8 mo 7 = nI k := by rw [x8.2.1 7 (by decide) (by decide)]; exact w7
        refine c_du y8 (by omega) ?_
        refine c_pressed (p := 16) hC (by decide) p8' (by omega) (by omega) (fun I9 f9 p9 => ?_)
        have y9 : I9 mo 7 = nI k := by rw [f9.1 mo (by decide)]; exact y8
        refine c_du y9 (by omega) (c_du y9 (by omega) ?_)
        rw [show (32 : Int32) = nI 32 from rfl, pk_mul, pk_mul, show (18044 : Int32) = nI 18044 from rfl, nI_add]
        refine c_written (p := 16) hC (by decide) p9 (by omega) (by omega) (by omega) (fun I10 f10 b10 x2 e2 => ?_)
        rw [e2, nI_1]
        have x9 : MF I3 I9 11336 16476 (fun p => p = 16 ∨ p = 17 ∨ p = 18) := (a5.trans x8).trans (FP.f f9 (Or.inl rfl))
        refine ih I10 ⟨(a3.trans (x9.w (Nat.le_refl _) (by decide) (fun p z => by omega))).trans (f10.f (by omega) (by omega)), fun j hj => ?_, fun x hx => ?_, fun i' hi' => ?_⟩
        · exact (FW.f (lo := 0) (hi := 20000) (P := fun _ => False) f10 (by omega) (by omega)).p (fun z => z) (x9.p (by omega) (b3 j hj))
        · rw [Nat.mul_add, Nat.mul_one] at hx
          rcases Nat.lt_or_ge x (32 * duK k * i) with z | z
          · have e1 : mb I10 (18044 + x) = mb I9 (18044 + x) := by unfold mb; rw [f10.2.1 _ (by omega)]
            rw [e1, x9.m (Or.inr (by omega)), c3 x z]
          · have := b10 (x - 32 * duK k * i) (by omega)
            rw [show 18044 + 32 * duK k * i + (x - 32 * duK k * i) = 18044 + x by omega] at this
            rw [this]
            have e3 := ctF_u (k := k) (sd := sd) (key := key) (mf := mf) (most := most) (x := x - 32 * duK k * i) hi (by omega)
            rw [show 32 * duK k * i + (x - 32 * duK k * i) = x by omega] at e3
            rw [e3]
        · by_cases ei : i' = i
          · subst ei; exact c5
          · exact d3 i' (by omega)
      · intro fv j I5 hj ⟨a5, b5, c5⟩ ih2
        have wk : MF I1 I5 11336 19612 (fun p => 4 ≤ p) := a3.trans (a5.w (Nat.le_refl _) (by decide) (fun p z => by omega))
        obtain ⟨w7, w8, wT, wH, wS, wM, wK, wF⟩ := k1 I5 wk
        refine pk_le k j (fun z => absurd z (by omega)) (fun _ => ?_) w7
        rw [w7, show (384 : Int32) = nI 384 from rfl, pk_mul, nI_add, show (4 : Int32) + nI j = nI (4 + j) from nI_add 4 j]
        refine c_matrix (sd := ka + 384 * k) (p := 17) (g := c34 (rhF k key) i j) hC wT (by decide) hm w8 (Or.inl (by omega)) (fun x hx => ?_) ?_ ?_ (fun I9 f9 z9 p9 => ?_) (fun I9 f9 z9 => ?_)
        · rw [Nat.add_assoc, wK _ (by omega)]; unfold c34 rhF; rw [if_pos hx]
        · unfold c34; rw [if_neg (by decide), if_pos rfl, pk_tn (by omega), Nat.mod_eq_of_lt (by omega)]
        · unfold c34; rw [if_neg (by decide), if_neg (by decide), pk_tn (by omega), Nat.mod_eq_of_lt (by omega)]
        · refine ⟨fun _ => ?_, fun z => absurd z (sR_ne _ hm).2⟩
          refine c_mprodT (p := 17) (to := 16) hC (f9.t wT) (by decide) (by omega) (by decide) (by decide) (by omega) p9 (f9.p (by omega) (a5.p (by omega) (b3 j hj))) (f9.p (by omega) b5) (fun I10 f10 p10 x2 e2 => ?_)
          rw [e2, nI_1]
          refine ih2 I10 ⟨(a5.trans (f9.w (Nat.le_refl _) (Nat.le_refl _) (fun p z => by omega))).trans (FP.f f10 (Or.inl rfl)), p10, fun j' hj' => ?_⟩
          by_cases ej : j' = j
          · subst ej; exact z9
          · exact c5 j' (by omega)
        · refine ⟨fun z => absurd rfl z, fun _ => h0 I9 (wF.trans (f9.w (Nat.le_refl _) (by decide) (fun p z => by omega))) (fun ok => ok i hi j hj z9)⟩
  · intro fu i I2 hi ⟨a2, b2⟩ ih
    obtain ⟨u7, u8, uT, uH, uS, uM, uK, uF⟩ := k1 I2 a2
    refine pk_le k i (fun z => absurd z (by omega)) (fun _ => ?_) u7
    refine c_eta1 u7 (by omega) ?_
    rw [show (4 : Int32) + nI i = nI (4 + i) from nI_add 4 i]
    refine c_noised (sd := 19804) (g := c33 (sgF sd) i) hC uT (by omega) (e1K_b k) (Or.inr (by decide)) (fun x hx => ?_) ?_ (fun I6 f6 p6 => ?_)
    · rw [uH x hx]; unfold c33; rw [if_pos hx]
    · unfold c33; rw [if_neg (by decide), pk_tn (by omega), Nat.mod_eq_of_lt (by omega)]
    refine c_fw (lo := 11336) (hi := 16476) (P := fun p => 4 ≤ p) hC (f6.t uT) (by omega) p6 (by omega) (by decide) (fun I8 f8 o8 p8 x1 e1 => ?_)
    rw [e1, nI_1]
    refine ih I8 ⟨(a2.trans (f6.w (Nat.le_refl _) (by decide) (fun p z => by omega))).trans (f8.w (Nat.le_refl _) (by decide) (fun p z => z)), fun j hj => ?_⟩
    by_cases ej : j = i
    · subst ej; exact p8
    · exact o8 _ (by omega) (by omega) _ (f6.p (by omega) (b2 j (by omega)))
theorem c_unlocks (hC : MC X J) (hT : MT I) {k : Nat} (hk : I mo 7 = nI k) (hk2 : 2 ≤ k ∧ k ≤ 4) {ka n7 : Nat} (hka : ka + 384 * k ≤ 11336) {key ct : Nat → Nat} (hK : Mb I ka (384 * k) key) (hX : Mb I 8736 n7 ct) (hn7 : n7 = 32 * duK k * k + 32 * dvK k) {q : MI → ML → Prop}
    (hq : ∀ I', MF I I' 11336 20000 (fun p => 4 ≤ p) → Mb I' 19740 32 (msF k key ct) → q I' L) : wp_X8_unlocks X J mo (nI ka) I L q := by
  obtain ⟨⟨j1, j2, j3, j4, j5, j6, j7, j8, j9⟩, s1, s2, s3, s4, s5, s6, s7, s8, s9⟩ := id hC
  have hw := Wk hk2.2
  have hdu := duK_b k
  have hdv := dvK_b k
  refine c_zero (p := 16) hC (by decide) (fun I1 f1 p1 => ?_)
  have m1 : MF I I1 11336 16476 (fun p => 4 ≤ p) := FP.f f1 (by decide)
  have k1 : ∀ I', MF I I' 11336 16476 (fun p => 4 ≤ p) → I' mo 7 = nI k ∧ MT I' ∧ Mb I' 8736 n7 ct ∧ Mb I' ka (384 * k) key := fun I' f => ⟨by rw [f.2.1 7 (by decide) (by decide)]; exact hk, f.t hT, hX.f f (Or.inl (by omega)), hK.f f (Or.inl (by omega))⟩
  refine pk_loop (σ := MI) (fun fu i I' => wl_X8_unlocks_8 X J q mo (nI ka) fu (nI i) I' L) (fun i I' => MF I I' 11336 16476 (fun p => 4 ≤ p) ∧ Pm I' 16 (wLk k key ct i)) k 0 I1 (Nat.zero_le _) ⟨m1, p1⟩ ?_ ?_
  · intro fu I2 ⟨a2, b2⟩
    obtain ⟨u7, uT, uX, uK⟩ := k1 I2 a2
    refine pk_le k k (fun _ => ?_) (fun z => absurd z (by omega)) u7
    refine c_bw (lo := 11336) (hi := 16476) (P := fun p => 4 ≤ p) (p := 16) hC uT (by decide) b2 (by decide) (by decide) (fun I3 f3 o3 p3 => ?_)
    have m3 := a2.trans f3
    obtain ⟨v7, vT, vX, vK⟩ := k1 I3 m3
    refine c_dv v7 (by omega) (c_du v7 (by omega) ?_)
    rw [v7, show (32 : Int32) = nI 32 from rfl, pk_mul, pk_mul, show (8736 : Int32) = nI 8736 from rfl, nI_add]
    refine c_readPol (p := 17) hC (by decide) (by omega) (by omega) (by omega) (fun I4 f4 p4 => ?_)
    have p4' : Pm I4 17 (dec (dvK k) (fun y => ct (32 * duK k * k + y))) := p4.c (fun x hx => dec_c (fun y hy => by rw [Nat.add_assoc]; exact vX _ (by omega)) hx)
    have m4 := m3.trans (FP.f (p := 17) f4 (by decide))
    obtain ⟨w7, wT, wX, wK⟩ := k1 I4 m4
    refine c_dv w7 (by omega) ?_
    refine c_stretched (p := 17) hC (by decide) p4' (by omega) (by omega) (fun I5 f5 p5 => ?_)
    refine c_plusF (p := 17) (p' := 16) hC (by decide) (by decide) (by decide) p5 (f5.o (by decide) (f4.o (by decide) p3)) (fun I6 f6 p6 => ?_)
    refine c_pressed (p := 17) (d := 1) hC (by decide) p6 (by decide) (by decide) (fun I7 f7 p7 => ?_)
    have p7' : Pm I7 17 (mPl k key ct) := p7
    refine c_written (p := 17) (d := 1) (to := 19740) hC (by decide) p7' (by decide) (by decide) (by decide) (fun I8 f8 b8 => ?_)
    refine hq I8 ((((m4.trans (FP.f (p := 17) f5 (by decide))).trans (FP.f (p := 17) f6 (by decide))).trans (FP.f (p := 17) f7 (by decide))).w (Nat.le_refl _) (by decide) (fun _ z => z) |>.trans (f8.f (by decide) (by decide))) (fun i hi => b8 i hi)
  · intro fu i I2 hi ⟨a2, b2⟩ ih
    obtain ⟨u7, uT, uX, uK⟩ := k1 I2 a2
    have hb := ps_b (W := 32 * duK k) hi
    refine pk_le k i (fun z => absurd z (by omega)) (fun _ => ?_) u7
    refine c_du u7 (by omega) (c_du u7 (by omega) ?_)
    rw [show (32 : Int32) = nI 32 from rfl, pk_mul, pk_mul, show (8736 : Int32) = nI 8736 from rfl, nI_add]
    refine c_readPol (p := 17) hC (by decide) (by omega) (by omega) (by omega) (fun I3 f3 p3 => ?_)
    have p3' : Pm I3 17 (dec (duK k) (fun y => ct (32 * duK k * i + y))) := p3.c (fun x hx => dec_c (fun y hy => by rw [Nat.add_assoc]; exact uX _ (by omega)) hx)
    have m3 := a2.trans (FP.f (p := 17) f3 (by decide))
    obtain ⟨v7, vT, vX, vK⟩ := k1 I3 m3
    refine c_du v7 (by omega) ?_
    refine c_stretched (p := 17) hC (by decide) p3' (by omega) (by omega) (fun I4 f4 p4 => ?_)
    have m4 := m3.trans (FP.f (p := 17) f4 (by decide))
    refine c_fw (lo := 11336) (hi := 16476) (P := fun p => 4 ≤ p) (p := 17) hC (m4.t hT) (by decide) p4 (by decide) (by decide) (fun I5 f5 o5 p5 => ?_)
    have m5 := m4.trans f5
    obtain ⟨w7, wT, wX, wK⟩ := k1 I5 m5
    rw [show (384 : Int32) = nI 384 from rfl, pk_mul, nI_add]
    refine c_readPol (p := 12) (d := 12) hC (by decide) (by decide) (by decide) (by omega) (fun I6 f6 p6 => ?_)
    have p6' : Pm I6 12 (kyP key i) := p6.c (fun x hx => dec_c (fun y hy => by rw [Nat.add_assoc]; exact wK _ (by omega)) hx)
    have p5' : Pm I5 17 (unP k ct i) := p5
    have s6 : Pm I6 16 (wLk k key ct i) := f6.o (by decide) (o5 _ (by decide) (by decide) _ (f4.o (by decide) (f3.o (by decide) b2)))
    refine c_mprodT (p := 17) (p2 := 12) (to := 16) hC (wT.fp f6) (by decide) (by decide) (by decide) (by decide) (by decide) (f6.o (by decide) p5') p6' s6 (fun I7 f7 p7 x2 e2 => ?_)
    rw [e2, nI_1]
    refine ih I7 ⟨(m5.trans (FP.f (p := 12) f6 (by decide))).trans (FP.f (p := 16) f7 (by decide)), p7.c (fun x _ => ?_)⟩
    show rad (wLk k key ct i x) (prd (unP k ct i) (kyP key i) x) = rad (wLk k key ct i x) (prd (kyP key i) (unP k ct i) x)
    rw [prd_comm]
end MLK
