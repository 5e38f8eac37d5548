section WRP
variable {X : XT} {J : MJ} {I : MI} {L : ML} {e : Nat} {S : VS}
theorem j_wrap (hV : VJ X J e) (h : Iv X J e S I) : wp_X7_wrap X J 0 I L (fun r I' L' => wp_X8_wrap X J mo I' L' (fun r' I'' _ => Po X J e r r' I'')) := by
  obtain ⟨hL, hC, ⟨v0, v1, v2, v3, v4, v5, v6, v7, v8, v9, v10, v11⟩, vP, s13, s14⟩ := id hV
  obtain ⟨⟨l0, l1, l2, l3, l4, l5, l6, l7, l8⟩, lS, lP, lv, s30, s256⟩ := id hL
  have hsz := fun w hw => h.1.sz (w := w) hw
  have ht : RC X J I 1 4000 (S.1 5) (S.2.1 5) := h.1.1 5 (by decide)
  have hek : RC X J I 3 1568 (S.1 0) (S.2.1 0) := h.1.1 0 (by decide)
  have hn5 : S.1 5 ≤ 4000 := ht.1.2.2.2.2.1
  have hn0 : S.1 0 ≤ 1568 := hek.1.2.2.2.2.1
  obtain ⟨he, hk, hm1, hm2, hw0, hw1, hw2⟩ := id h.2.2
  have hm : S.2.2.2.2 < 1000 := by omega
  have hdu := duK_b (e + 2)
  have hdv := dvK_b (e + 2)
  have hwk := Wk (k := e + 2) (by omega)
  -- the reference up to its tests
  have ref : ∀ (I1 : MI) (L1 : ML) (r : Int32), (∀ k, 38 ≤ k → I1 k = I k) → (∀ I2, Rv I2 (setR S 5 0 (S.2.1 5)) → RX I1 I2 (fun _ => False) (fun j => j = 1) (fun _ => False) → Mb I2 0 (S.1 5) (S.2.1 5) → ((S.1 5 = 32 ∧ S.1 0 ≠ 0) → (wp_X8_copy X J mo 0 19740 32 I2 L1 (fun I_4 L_5 => (wp_X8_h X J mo 4000 (I_4 mo 2) 11400 I_4 L_5 (fun I_6 L_7 => (wp_X8_copy X J mo 19740 11336 32 I_6 L_7 (fun I_8 L_9 => (wp_X8_copy X J mo 11400 11368 32 I_8 L_9 (fun I_10 L_11 => (wp_X8_g X J mo 64 I_10 L_11 (fun I_12 L_13 => (wp_X8_locks X J mo 4000 I_12 L_13 (fun v_16 I_14 L_15 => ((¬ (v_16 = 0) → (wp_X8_textBytes X J mo I_14 L_15 (fun v_19 I_17 L_18 => (wp_X8_copy X J mo 18044 8736 v_19 I_17 L_18 (fun I_20 L_21 => (wp_X8_textBytes X J mo I_20 L_21 (fun v_24 I_22 L_23 => (∀ I_25, I_25 = ms I_22 mo 4 v_24 → (wp_X8_copy X J mo 19612 10304 32 I_25 L_23 (fun I_26 L_27 => (∀ I_28, I_28 = ms I_26 mo 5 32 → (fun r' I'' _ => Po X J e r r' I'') (I_28 mo 4) I_28 L_27))))))))))) ∧ ((v_16 = 0) → (fun r' I'' _ => Po X J e r r' I'') (-2) I_14 L_15))))))))))))))) ∧ (¬ (S.1 5 = 32 ∧ S.1 0 ≠ 0) → Po X J e r (-1) I2)) → wp_X8_wrap X J mo I1 L1 (fun r' I'' _ => Po X J e r r' I'') := by
    intro I1 L1 r f1 hq x1 ex I2 e2
    have q1 := h.r f1
    have rx := RX_sz (B := fun _ => False) (P := fun _ => False) (Z := fun j => j = 1) e2 rfl
    have q2 := Rv_clr q1 hsz e2
    have hh := hq I2 q2 rx (rx.b (q1.1 5 (by decide)).2 (fun _ _ z => z))
    have z2 : I2 mo 2 = nI (S.1 0) := (q2.1 0 (by decide)).1
    rw [ex, show I1 mo 1 = nI (S.1 5) from (q1.1 5 (by decide)).1, show (32 : Int32) = nI 32 from rfl, nI_eq (by omega) (by decide), z2, show (0 : Int32) = nI 0 from rfl, nI_eq (by omega) (by decide)]
    exact ⟨fun a => hh.2 (fun b => a b.1), fun a => ⟨fun b => hh.1 ⟨a, b⟩, fun b => hh.2 (fun c => c.2 b)⟩⟩
  have no : ∀ (I1 : MI) (L1 : ML), ¬ (S.1 5 = 32 ∧ S.1 0 ≠ 0) → (∀ k, k ≠ 1 → k ≠ 2 → I1 k = I k) → Cv X J I1 (setR S 5 0 (S.2.1 5)) → wp_X8_wrap X J mo I1 L1 (fun r' I'' _ => Po X J e (-1) r' I'') := fun I1 L1 z f1 c1 => ref I1 L1 (-1) (fun k hk => f1 k (by omega) (by omega)) (fun I2 q2 x2 _ => ⟨fun b => absurd b z, fun _ => ⟨rfl, _, Cv_fr c1 x2.c, q2, h.2.2⟩⟩)
  refine ⟨1, v0, c_size ht.1 ?_⟩
  rw [show (32 : Int32) = nI 32 from rfl, nI_eq (by omega) (by decide)]
  refine ⟨fun z => ⟨fun _ => ⟨1, v0, c_clr h.1 (fun I1 f1 _ c1 => ⟨fun b => absurd rfl b, fun _ => no I1 L (fun b => z b.1) f1 c1⟩)⟩, fun b => absurd rfl b⟩, fun z => ⟨3, v1, c_size hek.1 (pk_le (S.1 0) 0 (fun y => ⟨fun _ => ⟨1, v0, c_clr h.1 (fun I1 f1 _ c1 => ⟨fun b => absurd rfl b, fun _ => no I1 L (fun b => b.2 (by omega)) f1 c1⟩)⟩, fun b => absurd rfl b⟩) (fun y => ⟨fun b => absurd b (by decide), fun _ => ⟨21, v9, e, v11, 3, v1, 1, v0, ?_⟩⟩))⟩⟩
  have hn0' : S.1 0 = 384 * (e + 2) + 32 := by omega
  have ht2 : RC X J I 1 4000 32 (S.2.1 5) := by rw [← z]; exact ht
  have hek2 : RC X J I 3 1568 (384 * (e + 2) + 32) (S.2.1 0) := by rw [← hn0']; exact hek
  generalize hkk : e + 2 = k at *
  have hk2 : 2 ≤ k ∧ k ≤ 4 := by omega
  refine c_readMessage hL he hkk ht2 hek2 h.1.2.2.2 (fun I1 L1 f1 sh1 M1 G1 => ?_)
  rw [show I1 0 12 = nI S.2.2.2.2 by rw [f1 0 (by decide)]; exact h.1.2.2.1]
  have hek3 : RC X J I1 3 1568 (384 * k + 32) (S.2.1 0) := hek2.f (f1 3 (by decide)) (f1 4 (by decide))
  generalize hsd : gF (S.2.1 5) (xof 136 6 (384 * k + 32) (S.2.1 0)) = sd at G1
  -- the reference up to its locks
  have rlk : ∀ (I4 : MI) (L4 : ML) (r : Int32), (∀ k, 38 ≤ k → I4 k = I k) → (∀ I5, Rv I5 (setR S 5 0 (S.2.1 5)) → (∀ x, x < 38 → I5 x = I4 x) → Mb I5 19612 64 sd → lkOK k (S.2.1 0) S.2.2.2.2 → Mb I5 18044 (32 * duK k * k + 32 * dvK k) (ctF k sd (S.2.1 0) S.2.2.2.2 (S.2.1 5)) → (wp_X8_textBytes X J mo I5 L4 (fun v_19 I_17 L_18 => (wp_X8_copy X J mo 18044 8736 v_19 I_17 L_18 (fun I_20 L_21 => (wp_X8_textBytes X J mo I_20 L_21 (fun v_24 I_22 L_23 => (∀ I_25, I_25 = ms I_22 mo 4 v_24 → (wp_X8_copy X J mo 19612 10304 32 I_25 L_23 (fun I_26 L_27 => (∀ I_28, I_28 = ms I_26 mo 5 32 → (fun r' I'' _ => Po X J e r r' I'') (I_28 mo 4) I_28 L_27))))))))))) → (∀ I5, Rv I5 (setR S 5 0 (S.2.1 5)) → (∀ x, x < 38 → I5 x = I4 x) → ¬ lkOK k (S.2.1 0) S.2.2.2.2 → Po X J e r (-2) I5) → wp_X8_wrap X J mo I4 L4 (fun r' I'' _ => Po X J e r r' I'') := by
    intro I4 L4 r f4 hy hn
    refine ref I4 L4 r f4 (fun I2 q2 x2 b2 => ⟨fun _ => ?_, fun b => absurd ⟨z, by omega⟩ b⟩)
    have b2' : Mb I2 0 32 (S.2.1 5) := by rw [← z]; exact b2
    have E2 : Mb I2 4000 (384 * k + 32) (S.2.1 0) := by rw [← hn0']; exact (q2.1 0 (by decide)).2
    have z2 : I2 mo 2 = nI (384 * k + 32) := by rw [← hn0']; exact (q2.1 0 (by decide)).1
    have T2 : MT I2 := q2.2.2.2.2.1
    refine c_copy (fr := 0) (to := 19740) (n := 32) hC (by decide) (by decide) (by decide) (fun A1 g1 c1 => ?_)
    have m1 : MF I2 A1 11336 20000 (fun p => 4 ≤ p) := g1.f (by decide) (by decide)
    rw [m1.2.1 2 (by decide) (by decide), z2]
    have M1' : Mb A1 19740 32 (S.2.1 5) := fun i hi => by rw [c1 i hi]; exact b2' i hi
    refine c_h (fr := 4000) (to := 11400) hC (m1.t T2) (by omega) (by decide) (E2.f m1 (Or.inl (by omega))) (fun A2 g2 c2 => ?_)
    have m2 : MF I2 A2 11336 20000 (fun p => 4 ≤ p) := m1.trans (g2.w (by decide) (by decide) (fun _ z => absurd z id))
    have M2' : Mb A2 19740 32 (S.2.1 5) := M1'.f g2 (Or.inr (by decide))
    refine c_copy (fr := 19740) (to := 11336) (n := 32) hC (by decide) (by decide) (by decide) (fun A3 g3 c3 => ?_)
    have g3' : MF A2 A3 11336 11368 (fun _ => False) := g3.f (Nat.le_refl _) (Nat.le_refl _)
    have m3 : MF I2 A3 11336 20000 (fun p => 4 ≤ p) := m2.trans (g3'.w (Nat.le_refl _) (by decide) (fun _ z => absurd z id))
    refine c_copy (fr := 11400) (to := 11368) (n := 32) hC (by decide) (by decide) (by decide) (fun A4 g4 c4 => ?_)
    have g4' : MF A3 A4 11368 11400 (fun _ => False) := g4.f (Nat.le_refl _) (Nat.le_refl _)
    have m4 : MF I2 A4 11336 20000 (fun p => 4 ≤ p) := m3.trans (g4'.w (by decide) (by decide) (fun _ z => absurd z id))
    have G4 : Mb A4 11336 64 (fun i => if i < 32 then S.2.1 5 i else xof 136 6 (384 * k + 32) (S.2.1 0) (i - 32)) := fun i hi => by
      show _ = (if i < 32 then S.2.1 5 i else xof 136 6 (384 * k + 32) (S.2.1 0) (i - 32))
      by_cases c : i < 32
      · rw [if_pos c, g4'.m (by omega), c3 i c]; exact M2' i c
      · rw [if_neg c]
        have := c4 (i - 32) (by omega)
        rw [show 11368 + (i - 32) = 11336 + i by omega] at this
        rw [this, g3'.m (by omega)]
        exact c2 (i - 32) (by omega)
    refine c_g (n := 64) hC (m4.t T2) (by decide) G4 (fun A5 g5 c5 => ?_)
    have m5 : MF I2 A5 11336 20000 (fun p => 4 ≤ p) := m4.trans (g5.w (by decide) (by decide) (fun _ z => absurd z id))
    have c5' : Mb A5 19612 64 sd := by rw [← hsd]; exact c5
    have M5 : Mb A5 19740 32 (S.2.1 5) := ((M2'.f g3' (Or.inr (by decide))).f g4' (Or.inr (by decide))).f g5 (Or.inr (by decide))
    have E5 : Mb A5 4000 (384 * k + 32) (S.2.1 0) := E2.f m5 (Or.inl (by omega))
    have rend : ∀ A6, MF A5 A6 11336 20000 (fun p => 4 ≤ p) → Rv A6 (setR S 5 0 (S.2.1 5)) ∧ ∀ x, x < 38 → A6 x = I4 x := fun A6 m6 => by
      have x6 : RX I2 A6 (fun i => 11336 ≤ i) (fun _ => False) (fun p => 4 ≤ p) := (m5.trans m6).x (fun i a _ => a) (fun _ z => z)
      refine ⟨Rv_end q2 x6 (fun w hw => Or.inl ⟨rfl, rfl, fun i hi y => by have a1 := sz_clr hsz w hw; have a2 := rm_b w hw; omega, fun y => y⟩) (fun p' hp' => Or.inl ⟨rfl, fun y => by omega⟩) (Or.inl ⟨rfl, fun y => y⟩) (Or.inl ⟨rfl, fun y => y⟩), fun x hx => by rw [x6.c x hx, x2.c x hx]⟩
    refine c_locks (k := k) (most := S.2.2.2.2) (ka := 4000) hC (m5.t T2) (by rw [m5.2.1 7 (by decide) (by decide), ← hk]; exact q2.2.2.1) hk2 (by rw [m5.2.1 8 (by decide) (by decide)]; exact q2.2.2.2.1) hm (by omega) E5 c5' M5 (fun A6 m6 S6 ok6 C6 => ⟨fun _ => ?_, fun b => absurd b (by decide)⟩) (fun A6 m6 nok => ⟨fun b => absurd rfl b, fun _ => hn A6 (rend A6 m6).1 (rend A6 m6).2 nok⟩)
    exact hy A6 (rend A6 m6).1 (rend A6 m6).2 S6 ok6 C6
  refine c_lockMessage (s0 := 0) (key := S.2.1 0) hL he hkk hek3 (by decide) (by omega) (fun x _ => by rw [Nat.zero_add]) sh1 G1 M1 hm (fun I2 L2 f2 sh2 G2 ok2 D2 => ?_) (fun I2 L2 f2 sh2 nok2 => ?_)
  · have c2 : Cv X J I2 S := Cv_same h.1 (fun x hx => by rw [f2 x (Or.inl hx), f1 x (Or.inl hx)]) sh2
    refine ⟨1, v0, c_clr c2 (fun I3 f3 _ c3 => ⟨fun _ => ⟨fun _ => ⟨7, v3, 21, v9, 22, l2, 22, rfl, ?_⟩, fun b => absurd b (by decide)⟩, fun b => absurd b (by decide)⟩)⟩
    have D3 := D2.f (f3 22 (by decide) (by decide)) (f3 23 (by decide) (by decide))
    have t3 : RC X J I3 7 1568 (S.1 2) (S.2.1 2) := c3.1 2 (by decide)
    refine c_become t3.1 D3.1 (by decide) (by omega) (fun I4 f4 r4 b4 => ⟨9, v4, ?_⟩)
    have c4 := Cv_row c3 (w := 2) (by decide) (f := ctF k sd (S.2.1 0) S.2.2.2.2 (S.2.1 5)) ⟨r4, fun i hi => (b4 i hi).trans (D3.2 i hi)⟩ (fun x _ a b => f4.1 x a b) (c3.2.2.2.f (fun x hx => f4.1 x (by omega) (by omega)))
    have s4 : RC X J I4 9 32 (S.1 3) (S.2.1 3) := c4.1 3 (by decide)
    refine c_clear s4.1 (fun I5 f5 r5 _ => ⟨24, l3, 24, rfl, ?_⟩)
    have c5 := Cv_row c4 (w := 3) (by decide) (f := sd) ⟨r5, fun i hi => absurd hi (by omega)⟩ (fun x _ a b => f5.1 x a b) (c4.2.2.2.f (fun x hx => f5.1 x (by omega) (by omega)))
    have G5 : RC X J I5 24 64 64 sd := ((G2.f (f3 24 (by decide) (by decide)) (f3 25 (by decide) (by decide))).f (f4.1 24 (by decide) (by decide)) (f4.1 25 (by decide) (by decide))).f (f5.1 24 (by decide) (by decide)) (f5.1 25 (by decide) (by decide))
    have s5 : RC X J I5 9 32 0 sd := ⟨r5, fun i hi => absurd hi (by omega)⟩
    refine c_partC (s0 := 0) (cn := 32) s5 G5 (by decide) (by decide) (by decide) (fun i hi => rfl) (fun I6 f6 _ r6 => ?_)
    have c6 := Cv_row c5 (w := 3) (by decide) (n := 32) (f := sd) r6 (fun x _ a b => f6 x a b) (c5.2.2.2.f (fun x hx => f6 x (by omega) (by omega)))
    have t6 : RC X J I6 7 1568 (32 * duK k * k + 32 * dvK k) (ctF k sd (S.2.1 0) S.2.2.2.2 (S.2.1 5)) := c6.1 2 (by decide)
    refine c_size t6.1 ?_
    have F6 : ∀ x, 38 ≤ x → I6 x = I x := fun x hx => by rw [f6 x (by omega) (by omega), f5.1 x (by omega) (by omega), f4.1 x (by omega) (by omega), f3 x (by omega) (by omega), f2 x (by omega), f1 x (by omega)]
    refine rlk I6 L2 _ F6 (fun A6 q6 y6 S6 _ C6 => ?_) (fun A6 _ _ nok => absurd ok2 nok)
    generalize hct : ctF k sd (S.2.1 0) S.2.2.2.2 (S.2.1 5) = ct at *
    have k6 : A6 mo 7 = nI k := by rw [← hk]; exact q6.2.2.1
    refine c_textBytes k6 (by omega) ?_
    rw [show 32 * (duK k * k + dvK k) = 32 * duK k * k + 32 * dvK k by rw [Nat.mul_add, ← Nat.mul_assoc]]
    refine c_copy (fr := 18044) (to := 8736) hC (by omega) (by omega) (by omega) (fun A7 g7 b7 => ?_)
    have m7 : MF A6 A7 8736 10304 (fun _ => False) := g7.f (Nat.le_refl _) (by omega)
    have k7 : A7 mo 7 = nI k := by rw [m7.2.1 7 (by decide) (by decide)]; exact k6
    refine c_textBytes k7 (by omega) (fun A8 e8 => ?_)
    rw [show 32 * (duK k * k + dvK k) = 32 * duK k * k + 32 * dvK k by rw [Nat.mul_add, ← Nat.mul_assoc]] at e8
    refine c_copy (fr := 19612) (to := 10304) (n := 32) hC (by decide) (by decide) (by decide) (fun A9 g9 b9 A10 e10 => ?_)
    have m9 : MF A8 A9 10304 10336 (fun _ => False) := g9.f (Nat.le_refl _) (by decide)
    have w4 : A10 mo 4 = nI (32 * duK k * k + 32 * dvK k) := by rw [ms_k e10, va_up_ne _ _ (by decide), m9.2.1 4 (by decide) (by decide), ms_k e8, va_up_self]
    have w5 : A10 mo 5 = nI 32 := by rw [ms_k e10, va_up_self]; rfl
    rw [w4]
    have xall : RX A6 A10 (fun i => 8736 ≤ i ∧ i < 10336) (fun j => j = 4 ∨ j = 5) (fun _ => False) := (((m7.x (fun i a b => ⟨a, by omega⟩) (fun _ z => z)).trans (RX_sz e8 (Or.inl rfl))).trans (m9.x (fun i a b => ⟨by omega, b⟩) (fun _ z => z))).trans (RX_sz e10 (Or.inr rfl))
    have C10 : Mb A10 8736 (32 * duK k * k + 32 * dvK k) ct := fun i hi => by
      have a1 : mb A10 (8736 + i) = mb A9 (8736 + i) := by unfold mb; rw [ms_o e10 (by decide)]
      have a2 : mb A8 (8736 + i) = mb A7 (8736 + i) := by unfold mb; rw [ms_o e8 (by decide)]
      rw [a1, m9.m (by omega), a2, b7 i hi]; exact C6 i hi
    have S10 : Mb A10 10304 32 sd := fun i hi => by
      have a1 : mb A10 (10304 + i) = mb A9 (10304 + i) := by unfold mb; rw [ms_o e10 (by decide)]
      have a2 : mb A8 (19612 + i) = mb A7 (19612 + i) := by unfold mb; rw [ms_o e8 (by decide)]
      rw [a1, b9 i hi, a2, m7.m (by omega)]; exact S6 i (by omega)
    refine ⟨rfl, _, Cv_fr c6 (fun x hx => by rw [xall.c x hx, y6 x hx]), Rv_end q6 xall ?_ (fun p hp => Or.inl ⟨rfl, fun z => z⟩) (Or.inl ⟨rfl, by decide⟩) (Or.inl ⟨rfl, by decide⟩), ?_⟩
    · refine six (Or.inl ⟨rfl, rfl, fun i hi y => ?_, by decide⟩) (Or.inl ⟨rfl, rfl, fun i hi y => ?_, by decide⟩) (Or.inr ⟨w4, C10⟩) (Or.inr ⟨w5, S10⟩) (Or.inl ⟨rfl, rfl, fun i hi y => ?_, by decide⟩) (Or.inl ⟨rfl, rfl, fun i hi y => absurd hi (by show ¬ i < 0; omega), by decide⟩)
      · have a : i < S.1 0 := hi
        have y' : 8736 ≤ 4000 + i ∧ 4000 + i < 10336 := y
        omega
      · have a : i < S.1 1 := hi
        have b : S.1 1 ≤ 3168 := hsz 1 (by decide)
        have y' : 8736 ≤ 5568 + i ∧ 5568 + i < 10336 := y
        omega
      · have y' : 8736 ≤ 10336 + i ∧ 10336 + i < 10336 := y
        omega
    · exact ⟨he, by rw [hkk]; exact hk, hm1, hm2, by rw [hkk]; exact hw0, by rw [hkk]; exact hw1, Or.inr (by rw [hkk]; rfl)⟩
  · have c2 : Cv X J I2 S := Cv_same h.1 (fun x hx => by rw [f2 x (Or.inl hx), f1 x (Or.inl hx)]) sh2
    refine ⟨1, v0, c_clr c2 (fun I3 f3 _ c3 => ⟨fun _ => ⟨fun b => absurd rfl b, fun _ => ?_⟩, fun b => absurd b (by decide)⟩)⟩
    exact rlk I3 L2 _ (fun x hx => by rw [f3 x (by omega) (by omega), f2 x (by omega), f1 x (by omega)]) (fun A6 _ _ _ ok _ => absurd ok nok2) (fun A6 q6 y6 _ => ⟨rfl, _, Cv_fr c3 y6, q6, h.2.2⟩)
end WRP
