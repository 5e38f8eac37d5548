section RW4
variable {X : XT} {J : MJ} {I : MI} {L : ML} {e : Nat} {S : VS}
theorem up_comm {α : Type} (f : Nat → α) {w v : Nat} (h : w ≠ v) (a b : α) : va_up (va_up f w a) v b = va_up (va_up f v b) w a := by
  funext i
  by_cases e1 : i = v
  · rw [e1, va_up_self, va_up_ne _ _ (Ne.symm h), va_up_self]
  · rw [va_up_ne _ _ e1]
    by_cases e2 : i = w
    · rw [e2, va_up_self, va_up_self]
    · rw [va_up_ne _ _ e2, va_up_ne _ _ e2, va_up_ne _ _ e1]
theorem setR_comm (S : VS) {w v : Nat} (h : w ≠ v) (n m : Nat) (f g : Nat → Nat) : setR (setR S w n f) v m g = setR (setR S v m g) w n f := by
  unfold setR
  rw [up_comm _ h, up_comm _ h]
theorem j_hash (hV : VJ X J e) (h : Iv X J e S I) (x y : Int32) : wp_X7_hash X J 0 x y I L (fun r I' L' => wp_X8_hash X J mo x y I' L' (fun r' I'' _ => Po X J e r r' I'')) := by
  obtain ⟨hL, hC, ⟨v0, v1, v2, v3, v4, v5, v6, v7, v8, v9, v10, v11⟩, vP, s13, s14⟩ := id hV
  obtain ⟨⟨l0, l1, l2, l3, l4, l5, l6, l7, l8⟩, lS, lP, lv, s30, s256⟩ := id hL
  have hsz := fun w hw => h.1.sz (w := w) hw
  have ht : RC X J I 1 4000 (S.1 5) (S.2.1 5) := h.1.1 5 (by decide)
  have ho : RC X J I 11 1000 (S.1 4) (S.2.1 4) := h.1.1 4 (by decide)
  have hn5 : S.1 5 ≤ 4000 := ht.1.2.2.2.2.1
  -- the class, from its first call on
  have cls : ∀ (w t : Nat) (q : Int32 → MI → ML → Prop), w < 4 → t ≤ 1000 → (∀ I' L', (∀ k, 38 ≤ k → I' k = I k) → Cv X J I' (setR (setR S 4 t (xof (raN w) (sxN w) (S.1 5) (S.2.1 5))) 5 0 (S.2.1 5)) → q (nI t) I' L') →
      (∃ r_4 : Nat, J 0 7 = some r_4 ∧ (wp_X6_begin X J r_4 (nI w) I L (fun I_5 L_6 => (∃ r_7 : Nat, J 0 0 = some r_7 ∧ (wp_X4_size X J r_7 I_5 L_6 (fun v_10 I_8 L_9 => (wp_X6_absorb X J r_4 r_7 0 v_10 I_8 L_9 (fun I_11 L_12 => (wp_X6_finish X J r_4 I_11 L_12 (fun I_13 L_14 => (∃ r_15 : Nat, J 0 5 = some r_15 ∧ (wp_X4_clear X J r_15 I_13 L_14 (fun I_16 L_17 => (wp_X6_tellTo X J r_4 r_15 (nI t) I_16 L_17 (fun I_18 L_19 => (wp_X4_clear X J r_7 I_18 L_19 (fun I_20 L_21 => q (nI t) I_20 L_21))))))))))))))))) := by
    intro w t q hw htt hq
    refine ⟨18, v7, c_begin lP hw (fun I1 L1 f1 _ _ t1 => ⟨1, v0, c_size (ht.1.frame (f1 1 (by decide))) ?_⟩)⟩
    have hr : 0 < raN w ∧ 8 ≤ raN w := by rcases (show w = 0 ∨ w = 1 ∨ w = 2 ∨ w = 3 by omega) with rfl | rfl | rfl | rfl <;> decide
    have t1' : Sp I1 L1 18 19 (raN w) (sxN w) (kAb (raN w) (S.2.1 5) 0) := t1
    refine c_absorb (f := S.2.1 5) (n0 := 0) (st := 0) lP t1' (ht.1.frame (f1 1 (by decide))) ⟨by decide, by decide⟩ (by omega) (fun i hi => by rw [f1 (1 + 1) (by decide), Nat.zero_add]; exact (ht.2 i hi).symm) (fun I2 L2 f2 t2 => ?_)
    rw [Nat.zero_add] at t2
    refine c_finish lP t2 (kAb_p hr.1 _ _) (fun I3 L3 f3 t3 => ⟨11, v5, ?_⟩)
    refine c_clear (ho.1.frame (by rw [f3.1 11 (by decide), f2.1 11 (by decide), f1 11 (by decide)])) (fun I4 f4 r4 _ => ?_)
    have ex : xof (raN w) (sxN w) (S.1 5) (S.2.1 5) = kO (raN w) (kEn (raN w) (sxN w) (kAb (raN w) (S.2.1 5) (S.1 5))) := rfl
    rw [ex] at hq
    generalize kEn (raN w) (sxN w) (kAb (raN w) (S.2.1 5) (S.1 5)) = T at t3 hq
    have t4 : Sp I4 L3 18 19 (raN w) (sxN w) (kS (raN w) T 0) := Sp_o t3 (f4.1 18 (by decide) (by decide))
    refine c_tellTo lP t4 r4 ⟨by decide, by decide⟩ (by omega) (fun I5 L5 g1 _ _ _ _ r5 b5 _ => ?_)
    rw [Nat.zero_add] at r5
    have F5 : ∀ k, k ≠ 18 → k ≠ 11 → k ≠ 12 → I5 k = I k := fun k a b c => by rw [g1 k a b c, f4.1 k b c, f3.1 k a, f2.1 k a, f1 k a]
    have c5 : Cv X J I5 (setR S 4 t (kO (raN w) T)) := Cv_row h.1 (w := 4) (by decide) ⟨r5, fun i hi => by have := b5 i hi; rw [Nat.zero_add] at this; exact this⟩ (fun k hk a b => F5 k (by omega) a b) (h.1.2.2.2.f (fun k hk => F5 k (by omega) (by omega) (by omega)))
    exact c_clr c5 (fun I6 f6 _ c6 => hq I6 L5 (fun k hk => by rw [f6 k (by omega) (by omega), F5 k (by omega) (by omega) (by omega)]) c6)
  -- the reference, from its used() on
  have ref : ∀ (w t : Nat) (I1 : MI) (L1 : ML) (fx : Bool), w < 4 → t ≤ 1000 → (if fx then 6 else 31) = sxN w → (∀ k, 38 ≤ k → I1 k = I k) → Cv X J I1 (setR (setR S 4 t (xof (raN w) (sxN w) (S.1 5) (S.2.1 5))) 5 0 (S.2.1 5)) → ∀ I2, I2 = ms I1 mo 1 0 → wj_X8_hash_91 X J (fun r' I'' _ => Po X J e (nI t) r' I'') mo (nI t) mo (nI (raN w)) 0 (nI (S.1 5)) (bI fx) I2 L1 := by
    intro w t I1 L1 fx hw htt hfx f1 c1 I2 e2
    have q1 := h.r f1
    have q2 := Rv_clr q1 hsz e2
    have rx := RX_sz (B := fun _ => False) (P := fun _ => False) (Z := fun j => j = 1) e2 rfl
    have b2 : Mb I2 0 (S.1 5) (S.2.1 5) := rx.b (q1.1 5 (by decide)).2 (fun _ _ z => z)
    have hr : 8 ≤ raN w ∧ raN w ≤ 200 := by rcases (show w = 0 ∨ w = 1 ∨ w = 2 ∨ w = 3 by omega) with rfl | rfl | rfl | rfl <;> decide
    refine c_mabsorb (fr := 0) hC q2.2.2.2.2.1 hr.1 hr.2 (by omega) fx (fun I3 f3 m3 => ?_)
    rw [kAb_c (g := S.2.1 5) (fun i hi => b2 i hi), hfx] at m3
    have ex : xof (raN w) (sxN w) (S.1 5) (S.2.1 5) = kO (raN w) (kEn (raN w) (sxN w) (kAb (raN w) (S.2.1 5) (S.1 5))) := rfl
    rw [ex] at c1
    generalize kEn (raN w) (sxN w) (kAb (raN w) (S.2.1 5) (S.1 5)) = T at m3 c1
    have m3' : Mq I3 (raN w) (kS (raN w) T 0) := m3
    refine c_tells (to := 10336) (n := t) hC (f3.t q2.2.2.2.2.1) hr.1 hr.2 m3' (by omega) (fun I4 f4 m4 b4 I5 e5 => ?_)
    have x5 : RX I2 I5 (fun i => 10336 ≤ i ∧ i < 11336) (fun j => j = 6) (fun _ => False) := ((MF.x (lo := 10336) (hi := 10336) (P' := fun _ => False) f3.f (fun i a b => by omega) (fun _ z => z)).trans ((f4.f (lo := 10336) (hi := 10336 + t) (P := fun _ => False) (Nat.le_refl _) (Nat.le_refl _)).x (fun i a b => ⟨a, by omega⟩) (fun _ z => z))).trans (RX_sz e5 rfl)
    rw [setR_comm S (by decide)] at c1
    refine ⟨rfl, _, Cv_fr (Cv_fr c1 rx.c) x5.c, Rv_row q2 (sz_clr hsz) x5 (w := 4) (g := kO (raN w) T) (by decide) (by rw [ms_k e5]; show va_up _ 6 _ 6 = _; rw [va_up_self]) (fun i hi => ?_) (fun i a => Or.inl a) (fun j a => a) (fun p z => absurd z id), h.2.2⟩
    have := b4 i hi
    rw [Nat.zero_add] at this
    rw [← this]
    unfold mb
    rw [ms_o e5 (by decide)]
    rfl
  have pos1 : ∀ t, t ≤ 1000 → ¬ nI t = -1 := fun t ht z => by have := nI_pos (n := t) (by omega); rw [z] at this; exact this (by decide)
  rcases xs x 4 (by decide) with z | ⟨w, hw, rfl⟩
  · have zi := xs_i (by decide) z
    refine ⟨fun _ => ⟨fun b => absurd rfl b, fun _ => ?_⟩, fun b => absurd b (xs_ne (by decide) z (by decide)), fun b => absurd b (xs_ne (by decide) z (by decide)), fun b => absurd b (xs_ne (by decide) z (by decide)), fun b => absurd b (xs_ne (by decide) z (by decide))⟩
    refine ⟨fun _ => same h, fun b1 => ⟨fun _ => same h, fun b2 => absurd z (fun z => z.elim b1 (fun y => b2 (Int32.lt_of_lt_of_le (show (3 : Int32) < nI 4 by decide) y)))⟩⟩
  rcases (show w = 0 ∨ w = 1 ∨ w = 2 ∨ w = 3 by omega) with rfl | rfl | rfl | rfl
  · refine ⟨fun b => absurd b (by decide), fun _ => ⟨fun _ => cls 0 32 (fun r I' L' => wp_X8_hash X J mo (nI 0) y I' L' (fun r' I'' _ => Po X J e r r' I'')) (by decide) (by decide) (fun I1 L1 f1 c1 => ?_), fun b => absurd b (by decide)⟩, fun b => absurd b (by decide), fun b => absurd b (by decide), fun b => absurd b (by decide)⟩
    refine ⟨fun b => absurd b (by decide), fun _ => ⟨fun b => absurd b (by decide), fun _ => ⟨fun _ => ?_, fun b => absurd (by decide) b⟩⟩⟩
    intro x1 ex I2 e2
    rw [ex, show I1 mo 1 = nI (S.1 5) from ((h.r f1).1 5 (by decide)).1]
    exact ⟨fun b => absurd rfl b, fun _ => ⟨fun _ => ⟨fun _ => ⟨fun b => absurd b (by decide), fun _ => ref 0 32 I1 L1 true (by decide) (by decide) rfl f1 c1 I2 e2⟩, fun b => absurd b (by decide)⟩, fun b => absurd b (by decide)⟩⟩
  · refine ⟨fun b => absurd b (by decide), fun b => absurd b (by decide), fun _ => ⟨fun _ => cls 1 64 (fun r I' L' => wp_X8_hash X J mo (nI 1) y I' L' (fun r' I'' _ => Po X J e r r' I'')) (by decide) (by decide) (fun I1 L1 f1 c1 => ?_), fun b => absurd b (by decide)⟩, fun b => absurd b (by decide), fun b => absurd b (by decide)⟩
    refine ⟨fun b => absurd b (by decide), fun _ => ⟨fun b => absurd b (by decide), fun _ => ⟨fun _ => ?_, fun b => absurd (by decide) b⟩⟩⟩
    intro x1 ex I2 e2
    rw [ex, show I1 mo 1 = nI (S.1 5) from ((h.r f1).1 5 (by decide)).1]
    exact ⟨fun _ => ⟨fun b => absurd rfl b, fun _ => ⟨fun b => absurd rfl b, fun _ => ⟨fun b => absurd b (by decide), fun _ => ref 1 64 I1 L1 true (by decide) (by decide) rfl f1 c1 I2 e2⟩⟩⟩, fun b => absurd b (by decide)⟩
  · refine ⟨fun b => absurd b (by decide), fun b => absurd b (by decide), fun b => absurd b (by decide), fun _ => ?_, fun b => absurd b (by decide)⟩
    rcases xs y 1001 (by decide) with z | ⟨t, htt, rfl⟩
    · have k1 : wp_X8_hash X J mo (nI 2) y I L (fun r' I'' _ => Po X J e (-1) r' I'') := ⟨fun b => absurd b (by decide), fun _ => ⟨fun b => absurd b (by decide), fun _ => ⟨fun b => absurd b (by decide), fun _ => ii_le (n := 1000) (by decide) rfl z (same h)⟩⟩⟩
      refine ⟨fun _ => ⟨fun b => absurd rfl b, fun _ => k1⟩, fun b1 => ⟨fun _ => ⟨fun b => absurd rfl b, fun _ => k1⟩, fun b2 => absurd z (fun z => z.elim b1 (fun y => b2 (Int32.lt_of_lt_of_le (show (1000 : Int32) < nI 1001 by decide) y)))⟩⟩
    · refine ⟨fun b => absurd b (nI_pos (by omega)), fun _ => pk_lt 1000 t (fun b => absurd b (by omega)) (fun _ => ⟨fun _ => cls 2 t (fun r I' L' => wp_X8_hash X J mo (nI 2) (nI t) I' L' (fun r' I'' _ => Po X J e r r' I'')) (by decide) (by omega) (fun I1 L1 f1 c1 => ?_), fun b => absurd b (pos1 t (by omega))⟩)⟩
      refine ⟨fun b => absurd b (by decide), fun _ => ⟨fun b => absurd b (by decide), fun _ => ⟨fun b => absurd b (by decide), fun _ => i_le (n := 1000) rfl (by decide) (by omega) ?_⟩⟩⟩
      intro x1 ex I2 e2
      rw [ex, show I1 mo 1 = nI (S.1 5) from ((h.r f1).1 5 (by decide)).1]
      exact ⟨fun _ => ⟨fun _ => ⟨fun _ => ⟨fun b => absurd rfl b, fun _ => ⟨fun _ => ref 2 t I1 L1 false (by decide) (by omega) rfl f1 c1 I2 e2, fun b => absurd (by decide) b⟩⟩, fun b => absurd b (by decide)⟩, fun b => absurd b (by decide)⟩, fun b => absurd b (by decide)⟩
  · refine ⟨fun b => absurd b (by decide), fun b => absurd b (by decide), fun b => absurd b (by decide), fun b => absurd b (by decide), fun _ => ?_⟩
    rcases xs y 1001 (by decide) with z | ⟨t, htt, rfl⟩
    · have k1 : wp_X8_hash X J mo (nI 3) y I L (fun r' I'' _ => Po X J e (-1) r' I'') := ⟨fun b => absurd b (by decide), fun _ => ⟨fun b => absurd b (by decide), fun _ => ⟨fun b => absurd b (by decide), fun _ => ii_le (n := 1000) (by decide) rfl z (same h)⟩⟩⟩
      refine ⟨fun _ => ⟨fun b => absurd rfl b, fun _ => k1⟩, fun b1 => ⟨fun _ => ⟨fun b => absurd rfl b, fun _ => k1⟩, fun b2 => absurd z (fun z => z.elim b1 (fun y => b2 (Int32.lt_of_lt_of_le (show (1000 : Int32) < nI 1001 by decide) y)))⟩⟩
    · refine ⟨fun b => absurd b (nI_pos (by omega)), fun _ => pk_lt 1000 t (fun b => absurd b (by omega)) (fun _ => ⟨fun _ => cls 3 t (fun r I' L' => wp_X8_hash X J mo (nI 3) (nI t) I' L' (fun r' I'' _ => Po X J e r r' I'')) (by decide) (by omega) (fun I1 L1 f1 c1 => ?_), fun b => absurd b (pos1 t (by omega))⟩)⟩
      refine ⟨fun b => absurd b (by decide), fun _ => ⟨fun b => absurd b (by decide), fun _ => ⟨fun b => absurd b (by decide), fun _ => i_le (n := 1000) rfl (by decide) (by omega) ?_⟩⟩⟩
      intro x1 ex I2 e2
      rw [ex, show I1 mo 1 = nI (S.1 5) from ((h.r f1).1 5 (by decide)).1]
      exact ⟨fun _ => ⟨fun _ => ⟨fun _ => ⟨fun _ => ⟨fun _ => ref 3 t I1 L1 false (by decide) (by omega) rfl f1 c1 I2 e2, fun b => absurd (by decide) b⟩, fun b => absurd b (by decide)⟩, fun b => absurd b (by decide)⟩, fun b => absurd b (by decide)⟩, fun b => absurd b (by decide)⟩
theorem j_bound (hV : VJ X J e) (h : Iv X J e S I) (x : Int32) : wp_X7_bound X J 0 x I L (fun r I' L' => wp_X8_bound X J mo x I' L' (fun r' I'' _ => Po X J e r r' I'')) := by
  rcases dd x (n := 280) (by decide) with z | ⟨d, h1, h2, rfl⟩
  · exact dd_c rfl (by decide) z (dd_c rfl (by decide) z (same h))
  refine dd_i rfl (by decide) h1 h2 (fun I1 e1 => dd_i rfl (by decide) h1 h2 (fun I2 e2 => ?_))
  have f1 : ∀ k, k ≠ 0 → I1 k = I k := fun k hk => ms_o e1 hk
  have c1 : Cv X J I1 (S.1, S.2.1, S.2.2.1, S.2.2.2.1, d) := ⟨fun w hw => by have := cw_b w hw; exact (h.1.1 w hw).f (f1 _ (by omega)) (f1 _ (by omega)), fun p hp => (h.1.2.1 p hp).f (f1 _ (by omega)), by rw [ms_k e1, va_up_self], h.1.2.2.2.f (fun k hk => f1 k (by omega))⟩
  have q1 := h.r (I' := I1) (fun k hk => f1 k (by omega))
  have x2 := RX_sz (B := fun _ => False) (P := fun _ => False) (Z := fun j => j = 8) e2 rfl
  refine ⟨rfl, _, Cv_fr c1 x2.c, Rv_end q1 x2 (fun w hw => Or.inl ⟨rfl, rfl, fun _ _ z => z, fun z => by have := sf_b w hw; omega⟩) (fun p hp => Or.inl ⟨rfl, fun z => z⟩) (Or.inl ⟨rfl, by decide⟩) (Or.inr (by rw [ms_k e2, va_up_self])), ?_⟩
  obtain ⟨a1, a2, a3, a4, a5⟩ := h.2.2
  exact ⟨a1, a2, h1, h2, a5⟩
theorem j_end (hV : VJ X J e) (h : Iv X J e S I) (x : Int32) : wp_X7_end X J 0 x I L (fun r I' L' => wp_X8_end X J mo x I' L' (fun r' I'' _ => Po X J e r r' I'')) := by
  obtain ⟨hL, hC, ⟨v0, v1, v2, v3, v4, v5, v6, v7, v8, v9, v10, v11⟩, vP, s13, s14⟩ := id hV
  have hsz := fun w hw => h.1.sz (w := w) hw
  have ht : RC X J I 1 4000 (S.1 5) (S.2.1 5) := h.1.1 5 (by decide)
  have hn5 : S.1 5 ≤ 4000 := ht.1.2.2.2.2.1
  have h1 : I mo 1 = nI (S.1 5) := (h.2.1.1 5 (by decide)).1
  rcases xs x (S.1 5 + 1) (by omega) with z | ⟨j, hj, rfl⟩
  · have k1 : wp_X8_end X J mo x I L (fun r' I'' _ => Po X J e (-1) r' I'') := ii_le (n := S.1 5) (by omega) h1 z (same h)
    refine ⟨fun _ => k1, fun a => ⟨1, v0, c_size ht.1 ⟨fun b => ?_, fun _ => k1⟩⟩⟩
    exact absurd b ((ii_le (n := S.1 5) (M := nI (S.1 5)) (A := False) (C := True) (by omega) rfl z trivial).2 a).1
  · refine ⟨fun b => absurd b (nI_pos (by omega)), fun _ => ⟨1, v0, c_size ht.1 (pk_le j (S.1 5) (fun _ => ?_) (fun b => absurd b (by omega)))⟩⟩
    refine c_cutTo ht.1 (by omega) (fun I1 f1 r1 w1 => ?_)
    have c1 : Cv X J I1 (setR S 5 j (S.2.1 5)) := Cv_row h.1 (w := 5) (by decide) ⟨r1, fun i hi => by show rb (I1 (1 + 1)) i = _; rw [w1]; exact ht.2 i (by omega)⟩ (fun k _ a b => f1.1 k a b) (h.1.2.2.2.f (fun k hk => f1.1 k (by omega) (by omega)))
    have q1 := h.r (I' := I1) (fun k hk => f1.1 k (by omega) (by omega))
    have g1 : I1 mo 1 = nI (S.1 5) := (q1.1 5 (by decide)).1
    refine i_le (n := S.1 5) g1 (by omega) (by omega) (fun I2 e2 => ?_)
    have x2 := RX_sz (B := fun _ => False) (P := fun _ => False) (Z := fun j => j = 1) e2 rfl
    exact ⟨rfl, _, Cv_fr c1 x2.c, Rv_row q1 hsz x2 (w := 5) (by decide) (by rw [ms_k e2]; show va_up _ 1 _ 1 = _; rw [va_up_self]) (fun i hi => x2.b (q1.1 5 (by decide)).2 (fun _ _ z => z) i (by omega)) (fun i z => absurd z id) (fun j z => z) (fun p z => absurd z id), h.2.2⟩
theorem j_alter (hV : VJ X J e) (h : Iv X J e S I) (x y : Int32) : wp_X7_alter X J 0 x y I L (fun r I' L' => wp_X8_alter X J mo x y I' L' (fun r' I'' _ => Po X J e r r' I'')) := by
  obtain ⟨hL, hC, ⟨v0, v1, v2, v3, v4, v5, v6, v7, v8, v9, v10, v11⟩, vP, s13, s14⟩ := id hV
  obtain ⟨⟨j1, j2, j3, j4, j5, j6, j7, j8, j9⟩, s1, s2, s3, s4, s5, s6, s7, s8, s9⟩ := id hC
  have hsz := fun w hw => h.1.sz (w := w) hw
  have ht : RC X J I 1 4000 (S.1 5) (S.2.1 5) := h.1.1 5 (by decide)
  have hn5 : S.1 5 ≤ 4000 := ht.1.2.2.2.2.1
  have h1 : I mo 1 = nI (S.1 5) := (h.2.1.1 5 (by decide)).1
  refine ⟨1, v0, ?_⟩
  rcases xs x (S.1 5) (by omega) with z | ⟨j, hj, rfl⟩
  · exact c_replaceOut ht.1 z y ⟨Or.inl rfl, ii_lt h1 z (same h)⟩
  · refine c_replace ht.1 hj y (fun I1 f1 b1 o1 => ⟨Or.inr rfl, ?_⟩)
    have c1 : Cv X J I1 (setR S 5 (S.1 5) (va_up (S.2.1 5) j (y.toBitVec.toNat % 256))) := Cv_row h.1 (w := 5) (by decide) ⟨ht.1.frame (f1 1 (by decide)), fun i hi => by
      by_cases e : i = j
      · rw [e, va_up_self]; exact b1
      · rw [va_up_ne _ _ e]
        have := o1 i e
        exact this.trans (ht.2 i hi)⟩ (fun k _ a b => f1 k b) (h.1.2.2.2.f (fun k hk => f1 k (by omega)))
    have q1 := h.r (I' := I1) (fun k hk => f1 k (by omega))
    have g1 : I1 mo 1 = nI (S.1 5) := (q1.1 5 (by decide)).1
    refine i_lt g1 (by omega) hj ⟨me, j1, ?_⟩
    rw [show (0 : Int32) + nI j = nI j by rw [show (0 : Int32) = nI 0 from rfl, nI_add, Nat.zero_add], nI_clamp (n := j) (by omega)]
    refine ⟨by rw [s1]; exact vp_in_nI (by omega) (by decide), fun I2 e2 => ?_⟩
    have x2 : RX I1 I2 (fun i => i = j) (fun _ => False) (fun _ => False) := ((FW_up e2).f (lo := j) (hi := j + 1) (P := fun _ => False) (Nat.le_refl _) (Nat.le_refl _)).x (fun i a b => by omega) (fun _ z => z)
    refine ⟨rfl, _, Cv_fr c1 x2.c, Rv_row q1 hsz x2 (w := 5) (by decide) (by show I2 mo 1 = _; rw [x2.2.1 1 (by decide) (by decide) id]; exact g1) (fun i hi => ?_) (fun i z => Or.inl ⟨Nat.zero_le _, by show i < 0 + 4000; omega⟩) (fun j z => absurd z id) (fun p z => absurd z id), h.2.2⟩
    show mb I2 (0 + i) = _
    rw [Nat.zero_add]
    by_cases e : i = j
    · rw [e, va_up_self]; exact mb_up e2
    · rw [va_up_ne _ _ e, mb_un e2 e]
      have := (q1.1 5 (by decide)).2 i hi
      rw [show mbs 5 + i = i from Nat.zero_add i] at this
      exact this
end RW4
