section MK
variable {X : XT} {J : MJ} {I : MI} {L : ML} {e : Nat} {S : VS}
theorem enc_c (d : Nat) (f : Nat → Nat) (k : Nat) : enc d f k = enc d f k := rfl
theorem j_make (hV : VJ X J e) (h : Iv X J e S I) : wp_X7_make X J 0 I L (fun r I' L' => wp_X8_make X J mo I' L' (fun r' I'' _ => Po X J e r r' I'')) := by
  obtain ⟨hL, hC, ⟨v0, v1, v2, v3, v4, v5, v6, v7, v8, v9, v10, v11⟩, vP, s13, s14⟩ := id hV
  obtain ⟨⟨l0, l1, l2, l3, l4, l5, l6, l7, l8⟩, lS, lP, lv, s30, s256⟩ := id hL
  have hsz := fun w hw => h.1.sz (w := w) hw
  have ht : RC X J I 1 4000 (S.1 5) (S.2.1 5) := h.1.1 5 (by decide)
  have hn5 : S.1 5 ≤ 4000 := ht.1.2.2.2.2.1
  obtain ⟨he, hk, hm1, hm2, hw0, hw1, hw2⟩ := id h.2.2
  have hm : S.2.2.2.2 < 1000 := by omega
  refine ⟨1, v0, c_size ht.1 ?_⟩
  rw [show (64 : Int32) = nI 64 from rfl, nI_eq (by omega) (by decide)]
  -- the reference up to its test
  have ref : ∀ (I1 : MI) (L1 : ML) (q : Int32 → MI → ML → Prop), Rv I1 S → (∀ I2, I2 = ms I1 mo 1 0 → Rv I2 (setR S 5 0 (S.2.1 5)) → RX I1 I2 (fun _ => False) (fun j => j = 1) (fun _ => False) → Mb I2 0 (S.1 5) (S.2.1 5) → ((S.1 5 = 64) → (wp_X8_made X J mo I2 L1 (fun v_6 I_4 L_5 => ((¬ (v_6 = 0) → (wp_X8_ekBytes X J mo I_4 L_5 (fun v_9 I_7 L_8 => (wp_X8_copy X J mo 16476 4000 v_9 I_7 L_8 (fun I_10 L_11 => (wp_X8_ekBytes X J mo I_10 L_11 (fun v_14 I_12 L_13 => (∀ I_15, I_15 = ms I_12 mo 2 v_14 → ∃ fu0 : Nat, wl_X8_make_45 X J q mo fu0 0 I_15 L_13)))))))) ∧ ((v_6 = 0) → q (-2) I_4 L_5))))) ∧ (¬ (S.1 5 = 64) → q (-1) I2 L1)) → wp_X8_make X J mo I1 L1 q := by
    intro I1 L1 q q1 hq x1 ex I2 e2
    have rx := RX_sz (B := fun _ => False) (P := fun _ => False) (Z := fun j => j = 1) e2 rfl
    have := hq I2 e2 (Rv_clr q1 hsz e2) rx (rx.b (q1.1 5 (by decide)).2 (fun _ _ z => z))
    rw [ex, show I1 mo 1 = nI (S.1 5) from (q1.1 5 (by decide)).1, show (64 : Int32) = nI 64 from rfl, nI_eq (by omega) (by decide)]
    exact this
  refine ⟨fun z => ⟨fun _ => ⟨1, v0, c_clr h.1 (fun I1 f1 _ c1 => ⟨fun b => absurd rfl b, fun _ => ?_⟩)⟩, fun b => absurd rfl b⟩, fun z => ⟨fun b => absurd b (by decide), fun _ => ⟨21, v9, e, v11, 1, v0, ?_⟩⟩⟩
  · exact ref I1 L _ (h.r (I' := I1) (fun k hk => f1 k (by omega) (by omega))) (fun I2 e2 q2 f2 _ => ⟨fun b => absurd b z, fun _ => ⟨rfl, _, Cv_fr c1 f2.c, q2, h.2.2⟩⟩)
  rw [h.1.2.2.1]
  have ht' : RC X J I 1 4000 64 (S.2.1 5) := by rw [← z]; exact ht
  refine c_makeKeys hL he ht' h.1.2.2.2 hm rfl (fun I1 L1 f1 sh1 ok1 d1 => ⟨fun b => absurd b (by decide), fun _ => ?_⟩) (fun I1 L1 f1 sh1 ok1 => ⟨fun _ => ?_, fun b => absurd rfl b⟩)
  · -- made
    have c1 : Cv X J I1 S := Cv_same h.1 (fun k hk => f1 k (Or.inl hk)) sh1
    generalize hsd : xof 72 6 33 (c33 (S.2.1 5) (e + 2)) = sd at ok1 d1
    generalize hkk : e + 2 = k at *
    have hk2 : 2 ≤ k ∧ k ≤ 4 := by omega
    refine ⟨1, v0, c_clr c1 (fun I2 f2 _ c2 => ⟨fun _ => ⟨fun _ => ⟨5, v2, 21, v9, 22, l2, 22, rfl, ?_⟩, fun b => absurd b (by decide)⟩, fun b => absurd b (by decide)⟩)⟩
    have d2 := d1.f (f2 22 (by decide) (by decide)) (f2 23 (by decide) (by decide))
    have p2 : RC X J I2 5 3168 (S.1 1) (S.2.1 1) := c2.1 1 (by decide)
    refine c_become p2.1 d2.1 (by decide) (by omega) (fun I3 f3 r3 b3 => ⟨3, v1, ?_⟩)
    have c3 : Cv X J I3 (setR (setR S 5 0 (S.2.1 5)) 1 (768 * k + 96) (dkF k sd S.2.2.2.2 (sgF (S.2.1 5)))) := Cv_row c2 (w := 1) (by decide) ⟨r3, fun i hi => (b3 i hi).trans (d2.2 i hi)⟩ (fun x _ a b => f3.1 x a b) (c2.2.2.2.f (fun x hx => f3.1 x (by omega) (by omega)))
    have e3 : RC X J I3 3 1568 (S.1 0) (S.2.1 0) := c3.1 0 (by decide)
    refine c_clear e3.1 (fun I4 f4 r4 _ => ⟨e, v11, ?_⟩)
    have c4 : Cv X J I4 (setR (setR (setR S 5 0 (S.2.1 5)) 1 (768 * k + 96) (dkF k sd S.2.2.2.2 (sgF (S.2.1 5)))) 0 0 (ekF k sd S.2.2.2.2)) := Cv_row c3 (w := 0) (by decide) ⟨r4, fun i hi => absurd hi (by omega)⟩ (fun x _ a b => f4.1 x a b) (c3.2.2.2.f (fun x hx => f4.1 x (by omega) (by omega)))
    have p4 : RC X J I4 5 3168 (768 * k + 96) (dkF k sd S.2.2.2.2 (sgF (S.2.1 5))) := c4.1 1 (by decide)
    have e4 : RC X J I4 3 1568 0 (ekF k sd S.2.2.2.2) := c4.1 0 (by decide)
    show wp_X4_appendPart X J 3 5 (384 * enI 0 e) (384 * enI 0 e + 32) I4 L1 _
    rw [enI_0 he, hkk, show (384 : Int32) = nI 384 from rfl, pk_mul, show (32 : Int32) = nI 32 from rfl, nI_add]
    refine c_partC e4 p4 (by decide) (by omega) (by omega) (fun i hi => ?_) (fun I5 f5 _ r5 => ⟨7, v3, ?_⟩)
    · rw [Nat.zero_add]
      unfold dkF
      rw [if_neg (by omega), if_pos (by omega)]
      congr 1
      omega
    rw [Nat.zero_add] at r5
    have c5 := Cv_row c4 (w := 0) (by decide) r5 (fun x _ a b => f5 x a b) (c4.2.2.2.f (fun x hx => f5 x (by omega) (by omega)))
    have t5 : RC X J I5 7 1568 (S.1 2) (S.2.1 2) := c5.1 2 (by decide)
    refine c_clear t5.1 (fun I6 f6 r6 _ => ⟨9, v4, ?_⟩)
    have c6 := Cv_row c5 (w := 2) (by decide) (f := S.2.1 2) ⟨r6, fun i hi => absurd hi (by omega)⟩ (fun x _ a b => f6.1 x a b) (c5.2.2.2.f (fun x hx => f6.1 x (by omega) (by omega)))
    have s6 : RC X J I6 9 32 (S.1 3) (S.2.1 3) := c6.1 3 (by decide)
    refine c_clear s6.1 (fun I7 f7 r7 _ => ?_)
    have c7 := Cv_row c6 (w := 3) (by decide) (f := S.2.1 3) ⟨r7, fun i hi => absurd hi (by omega)⟩ (fun x _ a b => f7.1 x a b) (c6.2.2.2.f (fun x hx => f7.1 x (by omega) (by omega)))
    have e7 : RC X J I7 3 1568 (384 * k + 32) (ekF k sd S.2.2.2.2) := c7.1 0 (by decide)
    refine c_size e7.1 ?_
    have F7 : ∀ x, 38 ≤ x → I7 x = I x := fun x hx => by rw [f7.1 x (by omega) (by omega), f6.1 x (by omega) (by omega), f5 x (by omega) (by omega), f4.1 x (by omega) (by omega), f3.1 x (by omega) (by omega), f2 x (by omega) (by omega), f1 x (by omega)]
    refine ref I7 L1 _ (h.r F7) (fun J2 g2 q2 x2 b2 => ⟨fun _ => ?_, fun b => absurd z b⟩)
    refine c_made (k := k) (most := S.2.2.2.2) (tp := S.2.1 5) (sd := sd) hC q2.2.2.2.2.1 (by rw [← hk]; exact q2.2.2.1) hk2 q2.2.2.2.1 hm (by rw [← z]; exact b2) hsd.symm (fun J3 m3 _ S3 N3 => ⟨fun _ => ?_, fun b => absurd b (by decide)⟩) (fun J3 m3 nok => absurd ok1 nok)
    have k3 : J3 mo 7 = nI k := by rw [m3.2.1 7 (by decide) (by decide), ← hk]; exact q2.2.2.1
    have T3 : Mb J3 0 64 (S.2.1 5) := Mb.f (by rw [← z]; exact b2) m3 (Or.inl (by decide))
    refine c_ekBytes k3 ?_
    refine c_copy (fr := 16476) (to := 4000) hC (by omega) (by omega) (by omega) (fun J4 f4' b4' => ?_)
    have k4 : J4 mo 7 = nI k := by rw [f4'.1 mo (by decide)]; exact k3
    refine c_ekBytes k4 (fun J5 e5' => ?_)
    have E4 : Mb J4 4000 (384 * k + 32) (ekF k sd S.2.2.2.2) := fun i hi => by rw [b4' i hi]; exact N3 i hi
    have x3 : RX J2 J3 (fun i => (4000 ≤ i ∧ i < 8736) ∨ 11336 ≤ i) (fun j => 1 ≤ j ∧ j ≤ 5) (fun p => 4 ≤ p) := m3.x (fun i a _ => Or.inr a) (fun _ z => z)
    have x4 : RX J3 J4 (fun i => (4000 ≤ i ∧ i < 8736) ∨ 11336 ≤ i) (fun j => 1 ≤ j ∧ j ≤ 5) (fun p => 4 ≤ p) := (f4'.f (lo := 4000) (hi := 5568) (P := fun _ => False) (Nat.le_refl _) (by omega)).x (fun i a b => Or.inl ⟨a, by omega⟩) (fun _ z => absurd z id)
    have x5 : RX J4 J5 (fun i => (4000 ≤ i ∧ i < 8736) ∨ 11336 ≤ i) (fun j => 1 ≤ j ∧ j ≤ 5) (fun p => 4 ≤ p) := RX_sz e5' (by decide)
    have y5 := (x3.trans x4).trans x5
    have me5 : J5 me = J4 me := ms_o e5' (by decide)
    have mb5 : ∀ i, mb J5 i = mb J4 i := fun i => by unfold mb; rw [me5]
    have z5 : J5 mo 2 = nI (384 * k + 32) := by rw [ms_k e5', va_up_self]
    have k5 : J5 mo 7 = nI k := by rw [ms_k e5', va_up_ne _ _ (by decide)]; exact k4
    have S5 : ∀ j, j < k → Pm J5 (4 + j) (skP k sd j) := fun j hj => fun i hi => by
      have := (FW.f (lo := 0) (hi := 20000) (P := fun _ => False) f4' (by omega) (by omega)).p (fun z => z) (S3 j hj) i hi
      refine ⟨this.1, ?_⟩
      rw [ms_o e5' (by decide)]
      exact this.2
    have E5 : Mb J5 4000 (384 * k + 32) (ekF k sd S.2.2.2.2) := fun i hi => by rw [mb5]; exact E4 i hi
    have T5 : Mb J5 0 64 (S.2.1 5) := fun i hi => by
      rw [mb5]
      exact (Mb.f T3 (f4'.f (lo := 4000) (hi := 5568) (P := fun _ => False) (Nat.le_refl _) (by omega)) (Or.inl (by decide))) i hi
    generalize hD : dkF k sd S.2.2.2.2 (sgF (S.2.1 5)) = D at c7
    refine pk_loop (σ := MI) (fun fu i I' => wl_X8_make_45 X J _ mo fu (nI i) I' L1) (fun i I' => MF J5 I' 5568 8736 (fun _ => False) ∧ Mb I' 5568 (384 * i) D) k 0 J5 (Nat.zero_le _) ⟨MF.rf, fun i hi => absurd hi (by omega)⟩ ?_ ?_
    · intro fu J6 ⟨m6, B6⟩
      have k6 : J6 mo 7 = nI k := by rw [m6.2.1 7 (by decide) (by decide)]; exact k5
      have z6 : J6 mo 2 = nI (384 * k + 32) := by rw [m6.2.1 2 (by decide) (by decide)]; exact z5
      refine pk_le k k (fun _ => ?_) (fun b => absurd b (by omega)) k6
      rw [k6, z6, show (384 : Int32) = nI 384 from rfl, pk_mul, show (5568 : Int32) = nI 5568 from rfl, nI_add]
      refine c_copy (fr := 4000) hC (by omega) (by omega) (by omega) (fun J7 f7' b7' => ?_)
      have m7 : MF J6 J7 5568 8736 (fun _ => False) := f7'.f (by omega) (by omega)
      have k7 : J7 mo 7 = nI k := by rw [m7.2.1 7 (by decide) (by decide)]; exact k6
      have z7 : J7 mo 2 = nI (384 * k + 32) := by rw [m7.2.1 2 (by decide) (by decide)]; exact z6
      rw [k7, z7, show (768 : Int32) = nI 768 from rfl, pk_mul, nI_add, show (32 : Int32) = nI 32 from rfl, nI_add]
      have E7 : Mb J7 4000 (384 * k + 32) (ekF k sd S.2.2.2.2) := (E5.f m6 (Or.inl (by omega))).f m7 (Or.inl (by omega))
      refine c_h (fr := 4000) hC (m7.t (m6.t (y5.t q2.2.2.2.2.1))) (by omega) (by omega) E7 (fun J8 m8 H8 => ?_)
      have k8 : J8 mo 7 = nI k := by rw [m8.2.1 7 (by decide) (by decide)]; exact k7
      rw [k8, pk_mul, nI_add, show (64 : Int32) = nI 64 from rfl, nI_add]
      refine c_copy (fr := 32) (n := 32) hC (by decide) (by omega) (by omega) (fun J9 f9' b9' => ?_)
      have m8' : MF J7 J8 5568 8736 (fun _ => False) := m8.w (by omega) (by omega) (fun _ z => z)
      have m9 : MF J8 J9 5568 8736 (fun _ => False) := f9'.f (by omega) (by omega)
      have k9 : J9 mo 7 = nI k := by rw [m9.2.1 7 (by decide) (by decide)]; exact k8
      intro J10 e10 J11 e11 J12 e12
      rw [k9, pk_mul, show (96 : Int32) = nI 96 from rfl, nI_add] at e10
      have mg : MF J5 J9 5568 8736 (fun _ => False) := ((m6.trans m7).trans m8').trans m9
      have xg : RX J5 J12 (fun i => (4000 ≤ i ∧ i < 8736) ∨ 11336 ≤ i) (fun j => 1 ≤ j ∧ j ≤ 5) (fun p => 4 ≤ p) := (((mg.x (fun i a b => Or.inl ⟨by omega, b⟩) (fun _ z => absurd z id)).trans (RX_sz e10 (by decide))).trans (RX_sz e11 (by decide))).trans (RX_sz e12 (by decide))
      have mm : ∀ i, mb J12 i = mb J9 i := fun i => by unfold mb; rw [ms_o e12 (by decide), ms_o e11 (by decide), ms_o e10 (by decide)]
      have w2 : J12 mo 2 = nI (384 * k + 32) := by rw [ms_k e12, va_up_ne _ _ (by decide), ms_k e11, va_up_ne _ _ (by decide), ms_k e10, va_up_ne _ _ (by decide), mg.2.1 2 (by decide) (by decide)]; exact z5
      have w3 : J12 mo 3 = nI (768 * k + 96) := by rw [ms_k e12, va_up_ne _ _ (by decide), ms_k e11, va_up_ne _ _ (by decide), ms_k e10, va_up_self]
      have w4 : J12 mo 4 = nI 0 := by rw [ms_k e12, va_up_ne _ _ (by decide), ms_k e11, va_up_self]; rfl
      have w5 : J12 mo 5 = nI 0 := by rw [ms_k e12, va_up_self]; rfl
      have w1 : J12 mo 1 = nI 0 := by rw [ms_k e12, va_up_ne _ _ (by decide), ms_k e11, va_up_ne _ _ (by decide), ms_k e10, va_up_ne _ _ (by decide), mg.2.1 1 (by decide) (by decide), ms_k e5', va_up_ne _ _ (by decide), f4'.1 mo (by decide), m3.2.1 1 (by decide) (by decide), ms_k g2, va_up_self]; rfl
      have E12 : Mb J12 4000 (384 * k + 32) (ekF k sd S.2.2.2.2) := fun i hi => by rw [mm, mg.m (by omega)]; exact E5 i hi
      have D12 : Mb J12 5568 (768 * k + 96) D := fun i hi => by
        rw [mm]
        rcases Nat.lt_or_ge i (384 * k) with a | a
        · have u9 : mb J9 (5568 + i) = mb J8 (5568 + i) := by unfold mb; rw [f9'.2.1 _ (by omega)]
          have u7 : mb J7 (5568 + i) = mb J6 (5568 + i) := by unfold mb; rw [f7'.2.1 _ (by omega)]
          rw [u9, m8.m (by omega), u7]
          exact B6 i a
        rcases Nat.lt_or_ge i (768 * k + 32) with b | b
        · have u9 : mb J9 (5568 + i) = mb J8 (5568 + i) := by unfold mb; rw [f9'.2.1 _ (by omega)]
          have u7 := b7' (i - 384 * k) (by omega)
          rw [show 5568 + 384 * k + (i - 384 * k) = 5568 + i by omega] at u7
          rw [u9, m8.m (by omega), u7, m6.m (by omega), E5 _ (by omega), ← hD]
          unfold dkF
          rw [if_neg (by omega), if_pos b]
        rcases Nat.lt_or_ge i (768 * k + 64) with c | c
        · have u9 : mb J9 (5568 + i) = mb J8 (5568 + i) := by unfold mb; rw [f9'.2.1 _ (by omega)]
          have u8 := H8 (i - (768 * k + 32)) (by omega)
          rw [show 5568 + 768 * k + 32 + (i - (768 * k + 32)) = 5568 + i by omega] at u8
          rw [u9, u8, ← hD]
          unfold dkF
          rw [if_neg (by omega), if_neg (by omega), if_pos c]
        · have u9 := b9' (i - (768 * k + 64)) (by omega)
          rw [show 5568 + 768 * k + 64 + (i - (768 * k + 64)) = 5568 + i by omega] at u9
          rw [u9, m8.m (by omega), m7.m (by omega), m6.m (by omega)]
          have := T5 (32 + (i - (768 * k + 64))) (by omega)
          rw [Nat.zero_add] at this
          rw [this, ← hD]
          unfold dkF sgF
          rw [if_neg (by omega), if_neg (by omega), if_neg (by omega)]
      rw [w2]
      have xall : RX J2 J12 (fun i => (4000 ≤ i ∧ i < 8736) ∨ 11336 ≤ i) (fun j => 1 ≤ j ∧ j ≤ 5) (fun p => 4 ≤ p) := y5.trans xg
      refine ⟨rfl, _, Cv_fr c7 (fun x hx => by rw [xall.c x hx, x2.c x hx]), Rv_end q2 xall ?_ (fun p hp => Or.inl ⟨rfl, fun z => by omega⟩) (Or.inl ⟨rfl, by decide⟩) (Or.inl ⟨rfl, by decide⟩), ?_⟩
      · refine six (Or.inr ⟨w2, E12⟩) (Or.inr ⟨w3, D12⟩) (Or.inr ⟨w4, fun i hi => absurd hi (by show ¬ i < 0; omega)⟩) (Or.inr ⟨w5, fun i hi => absurd hi (by show ¬ i < 0; omega)⟩) (Or.inl ⟨rfl, rfl, fun i hi y => ?_, by decide⟩) (Or.inr ⟨w1, fun i hi => absurd hi (by show ¬ i < 0; omega)⟩)
        have a4 : S.1 4 ≤ 1000 := hsz 4 (by decide)
        have hi' : i < S.1 4 := hi
        have y' : (4000 ≤ 10336 + i ∧ 10336 + i < 8736) ∨ 11336 ≤ 10336 + i := y
        omega
      · exact ⟨he, by rw [hkk]; exact hk, hm1, hm2, Or.inr (by rw [hkk]; rfl), Or.inr (by rw [hkk]; rfl), Or.inl rfl⟩
    · intro fu i J6 hi ⟨m6, B6⟩ ih
      have k6 : J6 mo 7 = nI k := by rw [m6.2.1 7 (by decide) (by decide)]; exact k5
      refine pk_le k i (fun b => absurd b (by omega)) (fun _ => ?_) k6
      rw [show (4 : Int32) + nI i = nI (4 + i) from nI_add 4 i, show (384 : Int32) = nI 384 from rfl, pk_mul, show (5568 : Int32) = nI 5568 from rfl, nI_add]
      refine c_written (d := 12) hC (by omega) (m6.p (fun z => z) (S5 i hi)) (by decide) (by decide) (by omega) (fun J7 f7' b7' x1 ex1 => ?_)
      rw [ex1, nI_1]
      refine ih J7 ⟨m6.trans (f7'.f (by omega) (by omega)), fun x hx => ?_⟩
      rcases Nat.lt_or_ge x (384 * i) with a | a
      · have u7 : mb J7 (5568 + x) = mb J6 (5568 + x) := by unfold mb; rw [f7'.2.1 _ (by omega)]
        rw [u7]; exact B6 x a
      · have u7 := b7' (x - 384 * i) (by omega)
        rw [show 5568 + 384 * i + (x - 384 * i) = 5568 + x by omega] at u7
        rw [u7, ← hD]
        unfold dkF
        rw [if_pos (by omega), show x / 384 = i by omega, show x % 384 = x - 384 * i by omega]
  · -- LONG
    have c1 : Cv X J I1 S := Cv_same h.1 (fun k hk => f1 k (Or.inl hk)) sh1
    refine ⟨1, v0, c_clr c1 (fun I2 f2 _ c2 => ⟨fun _ => ⟨fun b => absurd rfl b, fun _ => ?_⟩, fun b => absurd b (by decide)⟩)⟩
    refine ref I2 L1 _ (h.r (fun x hx => by rw [f2 x (by omega) (by omega), f1 x (by omega)])) (fun J2 g2 q2 x2 b2 => ⟨fun _ => ?_, fun b => absurd z b⟩)
    refine c_made (k := e + 2) (most := S.2.2.2.2) (tp := S.2.1 5) hC q2.2.2.2.2.1 (by rw [← hk]; exact q2.2.2.1) (by omega) q2.2.2.2.1 hm (by rw [← z]; exact b2) rfl (fun J3 m3 ok _ _ => absurd ok ok1) (fun J3 m3 nok => ⟨fun b => absurd rfl b, fun _ => ?_⟩)
    have x3 : RX J2 J3 (fun i => 11336 ≤ i) (fun _ => False) (fun p => 4 ≤ p) := m3.x (fun i a _ => a) (fun _ z => z)
    refine ⟨rfl, _, Cv_fr c2 (fun x hx => by rw [x3.c x hx, x2.c x hx]), Rv_end q2 x3 (fun w hw => Or.inl ⟨rfl, rfl, fun i hi y => ?_, fun y => y⟩) (fun p' hp' => Or.inl ⟨rfl, fun y => by omega⟩) (Or.inl ⟨rfl, fun y => y⟩) (Or.inl ⟨rfl, fun y => y⟩), h.2.2⟩
    have a1 := sz_clr hsz w hw
    have a2 := rm_b w hw
    omega
end MK
