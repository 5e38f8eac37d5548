section RW3
variable {X : XT} {J : MJ} {I : MI} {L : ML} {e : Nat} {S : VS}
theorem sz_clr (h : ∀ w, w < 6 → S.1 w ≤ rmW w) : ∀ w, w < 6 → (setR S 5 0 (S.2.1 5)).1 w ≤ rmW w := fun w hw => by
  show va_up S.1 5 0 w ≤ _
  by_cases e5 : w = 5
  · rw [e5, va_up_self]; exact Nat.zero_le _
  · rw [va_up_ne _ _ e5]; exact h w hw
theorem j_sample (hV : VJ X J e) (h : Iv X J e S I) (x y w : Int32) : wp_X7_sample X J 0 x y w I L (fun r I' L' => wp_X8_sample X J mo x y w I' L' (fun r' I'' _ => Po X J e r r' I'')) := by
  obtain ⟨hL, hC, ⟨v0, v1, v2, v3, v4, v5, v6, v7, v8, v9, v10, v11⟩, vP, s13, s14⟩ := id hV
  obtain ⟨⟨l0, l1, l2, l3, l4, l5, l6, l7, l8⟩, lS, lP, lv, s30, s256⟩ := id hL
  have hsz := fun w hw => h.1.sz (w := w) hw
  have ht : RC X J I 1 4000 (S.1 5) (S.2.1 5) := h.1.1 5 (by decide)
  have hn5 : S.1 5 ≤ 4000 := ht.1.2.2.2.2.1
  have hmost : S.2.2.2.2 < 1000 := by have := h.2.2.2.2.2.1; omega
  rcases xs x 4 (by decide) with z | ⟨p, hp, rfl⟩
  · exact c_isP0 z ⟨fun b => absurd rfl b, fun _ => c_isQ0 z ⟨fun b => absurd rfl b, fun _ => same h⟩⟩
  refine c_isP1 hp ⟨fun _ => ⟨1, v0, c_size ht.1 ?_⟩, fun b => absurd b (by decide)⟩
  rw [show (32 : Int32) = nI 32 from rfl, nI_eq (by omega) (by decide)]
  -- the reference, from its test on
  have ref : ∀ (I1 : MI) (L1 : ML) (q : Int32 → MI → ML → Prop), Rv I1 S → (∀ I2, I2 = ms I1 mo 1 0 → Rv I2 (setR S 5 0 (S.2.1 5)) → (∀ k, k < 38 → I2 k = I1 k) → Mb I2 0 (S.1 5) (S.2.1 5) → ((S.1 5 = 32) → wp_X8_matrix X J mo 0 w y (nI p) I2 L1 (fun v_9 I_7 L_8 => ((¬ (v_9 = (-1)) → q v_9 I_7 L_8) ∧ ((v_9 = (-1)) → q (-2) I_7 L_8)))) ∧ (¬ (S.1 5 = 32) → q (-1) I2 L1)) → wp_X8_sample X J mo (nI p) y w I1 L1 q := by
    intro I1 L1 q q1 hq
    refine c_isQ1 hp ⟨fun _ => ?_, fun b => absurd b (by decide)⟩
    intro x1 ex I2 e2
    have rx := RX_sz (B := fun _ => False) (P := fun _ => False) (Z := fun j => j = 1) e2 rfl
    have := hq I2 e2 (Rv_clr q1 hsz e2) rx.c (rx.b (q1.1 5 (by decide)).2 (fun _ _ z => z))
    rw [ex, show I1 mo 1 = nI (S.1 5) from (q1.1 5 (by decide)).1, show (32 : Int32) = nI 32 from rfl, nI_eq (by omega) (by decide)]
    exact this
  refine ⟨fun z => ⟨1, v0, c_clr h.1 (fun I1 f1 _ c1 => ⟨fun _ => ?_, fun b => absurd (show (-1 : Int32) ≤ 0 by decide) b⟩)⟩, fun z => ⟨20, v8, 37, v10, ?_⟩⟩
  · exact ref I1 L _ (h.r (I' := I1) (fun k hk => f1 k (by omega) (by omega))) (fun I2 e2 q2 f2 _ => ⟨fun b => absurd b z, fun _ => ⟨rfl, _, Cv_fr c1 f2, q2, h.2.2⟩⟩)
  rw [h.1.2.2.1]
  have hg0 : ∀ i, i < 32 → c34 (S.2.1 5) (w.toBitVec.toNat % 256) (y.toBitVec.toNat % 256) i = S.2.1 5 i := fun i hi => by unfold c34; rw [if_pos hi]
  generalize hg : c34 (S.2.1 5) (w.toBitVec.toNat % 256) (y.toBitVec.toNat % 256) = g at hg0
  have hg1 : g 32 = w.toBitVec.toNat % 256 := by rw [← hg]; unfold c34; rw [if_neg (by decide), if_pos rfl]
  have hg2 : g 33 = y.toBitVec.toNat % 256 := by rw [← hg]; unfold c34; rw [if_neg (by decide), if_neg (by decide)]
  refine c_drawUniform (g := g) (st0 := 0) lS lP (s256 37 (by decide) (by decide)) (by decide) ht.1 ⟨by decide, by decide⟩ (by omega) hmost (fun i hi => by rw [Nat.zero_add, ht.2 i (by omega)]; exact hg0 i hi) hg1 hg2 (fun I1 L1 f1 z1 p1 => ?_) (fun I1 L1 f1 z1 => ?_)
  · have c1 : Cv X J I1 S := Cv_same h.1 (fun k hk => f1 k (by omega) (by omega)) (h.1.2.2.2.f (fun k hk => f1 k (by omega) (by omega)))
    have hR := sR_le (xof 168 31 34 g) S.2.2.2.2
    refine ⟨1, v0, c_clr c1 (fun I2 f2 _ c2 => pk_le (sR (xof 168 31 34 g) S.2.2.2.2) 0 (fun b => absurd b (by omega)) (fun _ => ⟨37, v10, 13, v6, by rw [s13]; exact vp_in_nI hp (by decide), 14 + p, by rw [nI_clamp (by omega)]; exact vP p hp, by decide, by decide, by decide, by rw [s256 37 (by decide) (by decide)]; decide, by rw [s14 p hp]; decide, fun I3 e3 => ?_⟩))⟩
    have o3 : O1 I2 I3 (14 + p) := fun k hk => by rw [e3, va_up_ne _ _ hk]
    have p3 : Pa I3 (14 + p) (us (xof 168 31 34 g) (sR (xof 168 31 34 g) S.2.2.2.2)).2 := fun j hj => by
      have hh := p1 j hj
      refine ⟨hh.1, ?_⟩
      rw [e3, va_up_self]
      show va_cpy (I2 37) (I2 (14 + p)) 0 0 256 j = _
      rw [pk_cpy_in (by omega) (by omega), show 0 + (j - 0) = j by omega, f2 37 (by decide) (by decide)]
      exact hh.2
    have c3 := Cv_pol c2 hp p3 (fun k _ hk => o3 k hk) (SH_o c2.2.2.2 (by omega) o3)
    refine ref I3 L1 _ (h.r (I' := I3) (fun k hk => by rw [o3 k (by omega), f2 k (by omega) (by omega), f1 k (by omega) (by omega)])) (fun I4 e4 q4 f4 b4 => ⟨fun _ => ?_, fun b => absurd z b⟩)
    refine c_matrix (sd := 0) (g := g) hC q4.2.2.2.2.1 (by omega) hmost q4.2.2.2.1 (Or.inl (by decide)) (fun i hi => by rw [b4 i (by omega)]; exact (hg0 i hi).symm) hg1 hg2 (fun I5 f5 _ p5 => ⟨fun _ => ?_, fun b => absurd b (sR_ne _ hmost).2⟩) (fun I5 f5 b => absurd b z1)
    have x5 : RX I4 I5 (fun i => 11336 ≤ i) (fun _ => False) (fun i => i = p ∨ i = 18) := f5.x (fun i a _ => a) (fun _ z => z)
    exact ⟨rfl, _, Cv_fr (Cv_fr c3 f4) x5.c, Rv_pol q4 (sz_clr hsz) x5 p5 (fun _ z => z) (fun _ z => z) (fun p' z => by omega), h.2.2⟩
  · have c1 : Cv X J I1 S := Cv_same h.1 (fun k hk => f1 k (by omega) (by omega)) (h.1.2.2.2.f (fun k hk => f1 k (by omega) (by omega)))
    refine ⟨1, v0, c_clr c1 (fun I2 f2 _ c2 => ⟨fun _ => ?_, fun b => absurd (show (-2 : Int32) ≤ 0 by decide) b⟩)⟩
    refine ref I2 L1 _ (h.r (I' := I2) (fun k hk => by rw [f2 k (by omega) (by omega), f1 k (by omega) (by omega)])) (fun I4 e4 q4 f4 b4 => ⟨fun _ => ?_, fun b => absurd z b⟩)
    refine c_matrix (sd := 0) (g := g) hC q4.2.2.2.2.1 (by omega) hmost q4.2.2.2.1 (Or.inl (by decide)) (fun i hi => by rw [b4 i (by omega)]; exact (hg0 i hi).symm) hg1 hg2 (fun I5 f5 b _ => absurd z1 b) (fun I5 f5 b => ⟨fun c => absurd rfl c, fun _ => ?_⟩)
    have x5 : RX I4 I5 (fun i => 11336 ≤ i) (fun _ => False) (fun i => i = 18) := f5.x (fun i a _ => a) (fun _ z => z)
    refine ⟨rfl, _, Cv_fr (Cv_fr c2 f4) x5.c, Rv_end q4 x5 (fun w hw => Or.inl ⟨rfl, rfl, fun i hi y => ?_, fun y => y⟩) (fun p' hp' => Or.inl ⟨rfl, fun y => by omega⟩) (Or.inl ⟨rfl, fun y => y⟩) (Or.inl ⟨rfl, fun y => y⟩), h.2.2⟩
    have a1 := sz_clr hsz w hw
    have a2 := rm_b w hw
    omega
theorem j_noise (hV : VJ X J e) (h : Iv X J e S I) (x y w : Int32) : wp_X7_noise X J 0 x y w I L (fun r I' L' => wp_X8_noise X J mo x y w I' L' (fun r' I'' _ => Po X J e r r' I'')) := by
  obtain ⟨hL, hC, ⟨v0, v1, v2, v3, v4, v5, v6, v7, v8, v9, v10, v11⟩, vP, s13, s14⟩ := id hV
  obtain ⟨⟨l0, l1, l2, l3, l4, l5, l6, l7, l8⟩, lS, lP, lv, s30, s256⟩ := id hL
  have hsz := fun w hw => h.1.sz (w := w) hw
  have ht : RC X J I 1 4000 (S.1 5) (S.2.1 5) := h.1.1 5 (by decide)
  have hn5 : S.1 5 ≤ 4000 := ht.1.2.2.2.2.1
  rcases xs x 4 (by decide) with z | ⟨p, hp, rfl⟩
  · exact c_isP0 z ⟨fun _ => c_isQ0 z ⟨fun _ => same h, fun b => absurd rfl b⟩, fun b => absurd rfl b⟩
  have ref : ∀ (I1 : MI) (L1 : ML) (q : Int32 → MI → ML → Prop), Rv I1 S → (∀ I2, I2 = ms I1 mo 1 0 → Rv I2 (setR S 5 0 (S.2.1 5)) → (∀ k, k < 38 → I2 k = I1 k) → Mb I2 0 (S.1 5) (S.2.1 5) → ((S.1 5 = 32) → wp_X8_noised X J mo 0 w y (nI p) I2 L1 (fun I_7 L_8 => q 256 I_7 L_8)) ∧ (¬ (S.1 5 = 32) → q (-1) I2 L1)) → wj_X8_noise_19 X J q mo (nI p) y w I1 L1 := by
    intro I1 L1 q q1 hq x1 ex I2 e2
    have rx := RX_sz (B := fun _ => False) (P := fun _ => False) (Z := fun j => j = 1) e2 rfl
    have := hq I2 e2 (Rv_clr q1 hsz e2) rx.c (rx.b (q1.1 5 (by decide)).2 (fun _ _ z => z))
    rw [ex, show I1 mo 1 = nI (S.1 5) from (q1.1 5 (by decide)).1, show (32 : Int32) = nI 32 from rfl, nI_eq (by omega) (by decide)]
    exact this
  have main : ∀ eta : Nat, (eta = 2 ∨ eta = 3) → y = nI eta → wj_X7_noise_19 X J (fun r I' L' => wp_X8_noise X J mo (nI p) y w I' L' (fun r' I'' _ => Po X J e r r' I'')) 0 (nI p) y w I L := by
    intro eta he hy
    have back : ∀ (I1 : MI) (L1 : ML) (q : Int32 → MI → ML → Prop), wj_X8_noise_19 X J q mo (nI p) y w I1 L1 → wp_X8_noise X J mo (nI p) y w I1 L1 q := by
      intro I1 L1 q hq
      refine c_isQ1 hp ⟨fun b => absurd b (by decide), fun _ => ⟨fun _ => hq, fun b1 => ⟨fun _ => hq, fun b2 => ?_⟩⟩⟩
      rcases he with rfl | rfl
      · exact absurd hy b1
      · exact absurd hy b2
    refine ⟨1, v0, c_size ht.1 ?_⟩
    rw [show (32 : Int32) = nI 32 from rfl, nI_eq (by omega) (by decide)]
    refine ⟨fun z => ⟨fun _ => ⟨1, v0, c_clr h.1 (fun I1 f1 _ c1 => ⟨fun _ => back I1 L _ ?_, fun b => absurd rfl b⟩)⟩, fun b => absurd rfl b⟩, fun z => ⟨fun b => absurd b (by decide), fun _ => ⟨20, v8, 13, v6, by rw [s13]; exact vp_in_nI hp (by decide), 14 + p, by rw [nI_clamp (by omega)]; exact vP p hp, 1, v0, ?_⟩⟩⟩
    · exact ref I1 L _ (h.r (I' := I1) (fun k hk => f1 k (by omega) (by omega))) (fun I2 e2 q2 f2 _ => ⟨fun b => absurd b z, fun _ => ⟨rfl, _, Cv_fr c1 f2, q2, h.2.2⟩⟩)
    have hg0 : ∀ i, i < 32 → c33 (S.2.1 5) (w.toBitVec.toNat % 256) i = S.2.1 5 i := fun i hi => by unfold c33; rw [if_pos hi]
    generalize hg : c33 (S.2.1 5) (w.toBitVec.toNat % 256) = g at hg0
    have hg1 : g 32 = w.toBitVec.toNat % 256 := by rw [← hg]; unfold c33; rw [if_neg (by decide)]
    rw [hy]
    refine c_drawNoise (g := g) (st0 := 0) lS lP (s14 p hp) (by omega) ht.1 ⟨by decide, by decide⟩ (by omega) he (fun i hi => by rw [Nat.zero_add, ht.2 i (by omega)]; exact hg0 i hi) hg1 (fun I1 L1 f1 p1 => ?_)
    have c1 := Cv_pol h.1 hp p1 (fun k hk hk2 => f1 k (by omega) hk2) (h.1.2.2.2.f (fun k hk => f1 k (by omega) (by omega)))
    refine ⟨1, v0, c_clr c1 (fun I2 f2 _ c2 => ⟨fun b => absurd b (by decide), fun _ => ?_⟩)⟩
    rw [← hy]
    refine back I2 L1 _ (ref I2 L1 _ (h.r (I' := I2) (fun k hk => by rw [f2 k (by omega) (by omega), f1 k (by omega) (by omega)])) (fun I4 e4 q4 f4 b4 => ⟨fun _ => ?_, fun b => absurd z b⟩))
    rw [hy]
    refine c_noised (sd := 0) (g := g) hC q4.2.2.2.2.1 (by omega) he (Or.inl (by decide)) (fun i hi => by rw [b4 i (by omega)]; exact (hg0 i hi).symm) hg1 (fun I5 f5 p5 => ?_)
    have x5 : RX I4 I5 (fun i => 11336 ≤ i) (fun _ => False) (fun i => i = p) := f5.x (fun i a _ => a) (fun _ z => z)
    exact ⟨rfl, _, Cv_fr (Cv_fr c2 f4) x5.c, Rv_pol q4 (sz_clr hsz) x5 p5 (fun _ z => z) (fun _ z => z) (fun p' z => Or.inl z), h.2.2⟩
  refine c_isP1 hp ⟨fun b => absurd b (by decide), fun _ => ⟨fun z => main 2 (Or.inl rfl) z, fun z1 => ⟨fun z => main 3 (Or.inr rfl) z, fun z2 => ?_⟩⟩⟩
  exact c_isQ1 hp ⟨fun b => absurd b (by decide), fun _ => ⟨fun z => absurd z z1, fun _ => ⟨fun z => absurd z z2, fun _ => same h⟩⟩⟩
end RW3
