section UWR
variable {X : XT} {J : MJ} {I : MI} {L : ML} {e : Nat} {S : VS}
/-- what stands for the SECRET when the TEXT is refused -/
def rfF (k n : Nat) (key ct : Nat → Nat) : Nat → Nat := xof 136 31 (32 + n) (fun i => if i < 32 then key (768 * k + 64 + i) else ct (i - 32))
theorem j_unwrap (hV : VJ X J e) (h : Iv X J e S I) : wp_X7_unwrap X J 0 I L (fun r I' L' => wp_X8_unwrap X J mo I' L' (fun r' I'' _ => Po X J e r r' I'')) := by
  obtain ⟨hL, hC, ⟨v0, v1, v2, v3, v4, v5, v6, v7, v8, v9, v10, v11⟩, vP, s13, s14⟩ := id hV
  obtain ⟨⟨l0, l1, l2, l3, l4, l5, l6, l7, l8⟩, lS, lP, lv, s30, s256⟩ := id hL
  obtain ⟨⟨j1, j2, j3, j4, j5, j6, j7, j8, j9⟩, s1, s2, s3, s4, s5, s6, s7, s8, s9⟩ := id hC
  have hsz := fun w hw => h.1.sz (w := w) hw
  have hdk : RC X J I 5 3168 (S.1 1) (S.2.1 1) := h.1.1 1 (by decide)
  have htx : RC X J I 7 1568 (S.1 2) (S.2.1 2) := h.1.1 2 (by decide)
  have hn1 : S.1 1 ≤ 3168 := hdk.1.2.2.2.2.1
  have hn2 : S.1 2 ≤ 1568 := htx.1.2.2.2.2.1
  obtain ⟨he, hk, hm1, hm2, hw0, hw1, hw2⟩ := id h.2.2
  have hm : S.2.2.2.2 < 1000 := by omega
  have hdu := duK_b (e + 2)
  have hdv := dvK_b (e + 2)
  have hwk := Wk (k := e + 2) (by omega)
  have z3 : I mo 3 = nI (S.1 1) := (h.2.1.1 1 (by decide)).1
  have z4 : I mo 4 = nI (S.1 2) := (h.2.1.1 2 (by decide)).1
  refine ⟨5, v2, c_size hdk.1 ?_⟩
  rw [show (0 : Int32) = nI 0 from rfl, nI_eq (by omega) (by decide)]
  refine ⟨fun z => ⟨fun _ => same h, fun b => absurd (by rw [z3, z]; rfl) b⟩, fun z => ⟨7, v3, c_size htx.1 ?_⟩⟩
  rw [nI_eq (by omega) (by decide)]
  have z3' : ¬ I mo 3 = 0 := by rw [z3]; exact nI_ne0 (by omega) (by omega)
  refine ⟨fun y => ⟨21, v9, e, v11, ?_⟩, fun y => ⟨fun b => absurd b z3', fun _ => ⟨fun b => absurd (by rw [z4, y]; rfl) b, fun _ => same h⟩⟩⟩
  have hN1 : S.1 1 = 768 * (e + 2) + 96 := by omega
  have hN2 : S.1 2 = 32 * duK (e + 2) * (e + 2) + 32 * dvK (e + 2) := by omega
  have hdk2 : RC X J I 5 3168 (768 * (e + 2) + 96) (S.2.1 1) := by rw [← hN1]; exact hdk
  generalize hkk : e + 2 = k at *
  have hk2 : 2 ≤ k ∧ k ≤ 4 := by omega
  have hE : enI 0 e = nI k := by rw [← hkk]; exact enI_0 he
  generalize hmf : msF k (S.2.1 1) (S.2.1 2) = mf
  generalize hsd : gF mf (fun i => S.2.1 1 (768 * k + 32 + i)) = sd
  generalize hct : ctF k sd (fun x => S.2.1 1 (384 * k + x)) S.2.2.2.2 mf = ct
  -- the reference up to its locks
  have rlk : ∀ (I4 : MI) (L4 : ML) (r : Int32), (∀ k, 38 ≤ k → I4 k = I k) → (∀ I5, Rv I5 S → (∀ x, x < 38 → I5 x = I4 x) → Mb I5 19612 64 sd → lkOK k (fun x => S.2.1 1 (384 * k + x)) S.2.2.2.2 → Mb I5 18044 (32 * duK k * k + 32 * dvK k) ct → ∃ fu0 : Nat, wl_X8_unwrap_91 X J (fun r' I'' _ => Po X J e r r' I'') mo fu0 1 0 I5 L4) → (∀ I5, Rv I5 S → (∀ x, x < 38 → I5 x = I4 x) → ¬ lkOK k (fun x => S.2.1 1 (384 * k + x)) S.2.2.2.2 → Po X J e r (-2) I5) → wp_X8_unwrap X J mo I4 L4 (fun r' I'' _ => Po X J e r r' I'') := by
    intro I4 L4 r f4 hy hn
    have q4 := h.r f4
    have w3 : I4 mo 3 = nI (S.1 1) := (q4.1 1 (by decide)).1
    have w4 : I4 mo 4 = nI (S.1 2) := (q4.1 2 (by decide)).1
    refine ⟨fun b => absurd b (by rw [w3]; exact nI_ne0 (by omega) (by omega)), fun _ => ⟨fun _ => ?_, fun b => absurd b (by rw [w4]; exact nI_ne0 (by omega) (by omega))⟩⟩
    have k4 : I4 mo 7 = nI k := by rw [← hk]; exact q4.2.2.1
    have D4 : Mb I4 5568 (768 * k + 96) (S.2.1 1) := by rw [← hN1]; exact (q4.1 1 (by decide)).2
    have X4 : Mb I4 8736 (S.1 2) (S.2.1 2) := (q4.1 2 (by decide)).2
    have T4 : MT I4 := q4.2.2.2.2.1
    refine c_unlocks (k := k) (ka := 5568) hC T4 k4 hk2 (by omega) (fun i hi => D4 i (by omega)) X4 hN2 (fun A1 m1 M1 => ?_)
    rw [hmf] at M1
    refine c_copy (fr := 19740) (to := 11336) (n := 32) hC (by decide) (by decide) (by decide) (fun A2 g2 c2 => ?_)
    have g2' : MF A1 A2 11336 11368 (fun _ => False) := g2.f (Nat.le_refl _) (Nat.le_refl _)
    have m2 : MF I4 A2 11336 20000 (fun p => 4 ≤ p) := m1.trans (g2'.w (Nat.le_refl _) (by decide) (fun _ z => absurd z id))
    have k2' : A2 mo 7 = nI k := by rw [m2.2.1 7 (by decide) (by decide)]; exact k4
    rw [k2', show (768 : Int32) = nI 768 from rfl, pk_mul, show (5568 : Int32) = nI 5568 from rfl, nI_add, show (32 : Int32) = nI 32 from rfl, nI_add]
    refine c_copy (to := 11368) (n := 32) hC (by omega) (by decide) (by omega) (fun A3 g3 c3 => ?_)
    have g3' : MF A2 A3 11368 11400 (fun _ => False) := g3.f (Nat.le_refl _) (Nat.le_refl _)
    have m3 : MF I4 A3 11336 20000 (fun p => 4 ≤ p) := m2.trans (g3'.w (by decide) (by decide) (fun _ z => absurd z id))
    have G3 : Mb A3 11336 64 (fun i => if i < 32 then mf i else (fun j => S.2.1 1 (768 * k + 32 + j)) (i - 32)) := fun i hi => by
      show _ = (if i < 32 then mf i else S.2.1 1 (768 * k + 32 + (i - 32)))
      by_cases c : i < 32
      · rw [if_pos c, g3'.m (by omega), c2 i c]; exact M1 i c
      · rw [if_neg c]
        have := c3 (i - 32) (by omega)
        rw [show 11368 + (i - 32) = 11336 + i by omega] at this
        rw [this, m2.m (by omega), show 5568 + 768 * k + 32 + (i - 32) = 5568 + (768 * k + 32 + (i - 32)) by omega]
        exact D4 _ (by omega)
    refine c_g (n := 64) hC (m3.t T4) (by decide) G3 (fun A5 g5 c5 => ?_)
    have m5 : MF I4 A5 11336 20000 (fun p => 4 ≤ p) := m3.trans (g5.w (by decide) (by decide) (fun _ z => absurd z id))
    have c5' : Mb A5 19612 64 sd := by rw [← hsd]; exact c5
    have M5 : Mb A5 19740 32 mf := ((M1.f g2' (Or.inr (by decide))).f g3' (Or.inr (by decide))).f g5 (Or.inr (by decide))
    have D5 : Mb A5 (5568 + 384 * k) (384 * k + 32) (fun x => S.2.1 1 (384 * k + x)) := fun i hi => by
      rw [m5.m (by omega), show 5568 + 384 * k + i = 5568 + (384 * k + i) by omega]
      exact D4 _ (by omega)
    have rend : ∀ A6, MF A5 A6 11336 20000 (fun p => 4 ≤ p) → Rv A6 S ∧ ∀ x, x < 38 → A6 x = I4 x := fun A6 m6 => by
      have x6 : RX I4 A6 (fun i => 11336 ≤ i) (fun _ => False) (fun p => 4 ≤ p) := (m5.trans m6).x (fun i a _ => a) (fun _ z => z)
      refine ⟨Rv_end q4 x6 (fun w hw => Or.inl ⟨rfl, rfl, fun i hi y => by have a1 := hsz w hw; have a2 := rm_b w hw; omega, fun y => y⟩) (fun p' hp' => Or.inl ⟨rfl, fun y => by omega⟩) (Or.inl ⟨rfl, fun y => y⟩) (Or.inl ⟨rfl, fun y => y⟩), x6.c⟩
    rw [m5.2.1 7 (by decide) (by decide), k4, show (384 : Int32) = nI 384 from rfl, pk_mul, nI_add]
    refine c_locks (k := k) (most := S.2.2.2.2) (ka := 5568 + 384 * k) hC (m5.t T4) (by rw [m5.2.1 7 (by decide) (by decide)]; exact k4) hk2 (by rw [m5.2.1 8 (by decide) (by decide)]; exact q4.2.2.2.1) hm (by omega) D5 c5' M5 (fun A6 m6 S6 ok6 C6 => ⟨fun _ => ?_, fun b => absurd b (by decide)⟩) (fun A6 m6 nok => ⟨fun b => absurd rfl b, fun _ => hn A6 (rend A6 m6).1 (rend A6 m6).2 nok⟩)
    rw [hct] at C6
    exact hy A6 (rend A6 m6).1 (rend A6 m6).2 S6 ok6 C6
  -- the reference from its locks on
  have rfin : ∀ (A : MI) (L4 : ML) (r : Int32) (f : Nat → Nat) (I4 : MI), Rv A S → (∀ x, x < 38 → A x = I4 x) → Cv X J I4 (setR S 3 32 f) → Mb A 19612 64 sd → Mb A 18044 (32 * duK k * k + 32 * dvK k) ct → ((∀ i, i < S.1 2 → ct i = S.2.1 2 i) → r = 1 ∧ f = sd) → (¬ (∀ i, i < S.1 2 → ct i = S.2.1 2 i) → r = 0 ∧ f = rfF k (S.1 2) (S.2.1 1) (S.2.1 2)) → ∃ fu0 : Nat, wl_X8_unwrap_91 X J (fun r' I'' _ => Po X J e r r' I'') mo fu0 1 0 A L4 := by
    intro A L4 r f I4 qA fA cA SA CA h1 h0
    have kA : A mo 7 = nI k := by rw [← hk]; exact qA.2.2.1
    have w4 : A mo 4 = nI (S.1 2) := (qA.1 2 (by decide)).1
    have XA : Mb A 8736 (S.1 2) (S.2.1 2) := (qA.1 2 (by decide)).2
    have DA : Mb A 5568 (768 * k + 96) (S.2.1 1) := by rw [← hN1]; exact (qA.1 1 (by decide)).2
    -- the end, whatever the flag
    have last : ∀ (B : MI) (b : Bool) (L5 : ML), r = bI b → RX A B (fun i => (10304 ≤ i ∧ i < 10336) ∨ 11336 ≤ i) (fun _ => False) (fun _ => False) → Mb B 10304 32 f → wj_X8_unwrap_222 X J (fun r' I'' _ => Po X J e r r' I'') mo (bI b) B L5 := by
      intro B b L5 hr xB fB C eC
      have xC : RX A C (fun i => (10304 ≤ i ∧ i < 10336) ∨ 11336 ≤ i) (fun j => j = 5) (fun _ => False) := RX.trans (I2 := B) ⟨xB.1, fun j a b _ => xB.2.1 j a b id, xB.2.2.1, xB.2.2.2.1, xB.2.2.2.2⟩ (RX_sz eC rfl)
      have fC : Mb C 10304 32 f := fun i hi => by
        have : mb C (10304 + i) = mb B (10304 + i) := by unfold mb; rw [ms_o eC (by decide)]
        rw [this]; exact fB i hi
      have fi : Iv X J e (setR S 3 32 f) C := ⟨Cv_fr cA (fun x hx => by rw [xC.c x hx, fA x hx]), Rv_row qA hsz xC (w := 3) (by decide) (by rw [ms_k eC]; show va_up _ 5 _ 5 = _; rw [va_up_self]; rfl) fC (fun i z => z) (fun j z => z) (fun p z => absurd z id), h.2.2⟩
      cases b
      · exact ⟨fun _ => ⟨hr, _, fi⟩, fun c => absurd rfl c⟩
      · exact ⟨fun c => absurd c (by decide), fun _ => ⟨hr, _, fi⟩⟩
    refine pk_loop (σ := Int32) (fun fu i s => wl_X8_unwrap_91 X J (fun r' I'' _ => Po X J e r r' I'') mo fu s (nI i) A L4) (fun i s => (s = 1 ∧ ∀ j, j < i → ct j = S.2.1 2 j) ∨ (s = 0 ∧ ¬ (∀ i, i < S.1 2 → ct i = S.2.1 2 i))) (S.1 2) 0 1 (Nat.zero_le _) (Or.inl ⟨rfl, fun j hj => absurd hj (by omega)⟩) ?_ ?_
    · intro fu s hs
      refine pk_le (S.1 2) (S.1 2) (fun _ => ?_) (fun b => absurd b (by omega)) w4
      rcases hs with ⟨rfl, a⟩ | ⟨rfl, a⟩
      · obtain ⟨hr, hf⟩ := h1 a
        refine ⟨fun b => absurd b (by decide), fun _ => ?_⟩
        refine c_copy (fr := 19612) (to := 10304) (n := 32) hC (by decide) (by decide) (by decide) (fun B g b => ?_)
        refine last B true L4 hr ((g.f (lo := 10304) (hi := 10336) (P := fun _ => False) (Nat.le_refl _) (by decide)).x (fun i a b => Or.inl ⟨a, b⟩) (fun _ z => z)) (fun i hi => ?_)
        rw [b i hi, hf]; exact SA i (by omega)
      · obtain ⟨hr, hf⟩ := h0 a
        refine ⟨fun _ => ?_, fun b => absurd rfl b⟩
        rw [kA, show (768 : Int32) = nI 768 from rfl, pk_mul, show (5568 : Int32) = nI 5568 from rfl, nI_add, show (64 : Int32) = nI 64 from rfl, nI_add]
        refine c_copy (to := 11336) (n := 32) hC (by omega) (by decide) (by omega) (fun B1 g1 b1 => ?_)
        have m1 : MF A B1 11336 11368 (fun _ => False) := g1.f (Nat.le_refl _) (Nat.le_refl _)
        rw [show B1 mo 4 = nI (S.1 2) by rw [m1.2.1 4 (by decide) (by decide)]; exact w4]
        refine c_copy (fr := 8736) (to := 11368) hC (by omega) (by omega) (by omega) (fun B2 g2 b2 => ?_)
        have m2 : MF B1 B2 11368 13000 (fun _ => False) := g2.f (Nat.le_refl _) (by omega)
        rw [show B2 mo 4 = nI (S.1 2) by rw [m2.2.1 4 (by decide) (by decide), m1.2.1 4 (by decide) (by decide)]; exact w4, show (32 : Int32) + nI (S.1 2) = nI (32 + S.1 2) from nI_add 32 _]
        have G2 : Mb B2 11336 (32 + S.1 2) (fun i => if i < 32 then S.2.1 1 (768 * k + 64 + i) else S.2.1 2 (i - 32)) := fun i hi => by
          show _ = (if i < 32 then S.2.1 1 (768 * k + 64 + i) else S.2.1 2 (i - 32))
          by_cases c : i < 32
          · rw [if_pos c, m2.m (by omega), b1 i c, show 5568 + 768 * k + 64 + i = 5568 + (768 * k + 64 + i) by omega]
            exact DA _ (by omega)
          · rw [if_neg c]
            have := b2 (i - 32) (by omega)
            rw [show 11368 + (i - 32) = 11336 + i by omega] at this
            rw [this, m1.m (by omega)]
            exact XA _ (by omega)
        refine c_mabsorb (rate := 136) (fr := 11336) hC (m2.t (m1.t qA.2.2.2.2.1)) (by decide) (by decide) (by omega) false (fun B3 f3 n3 => ?_)
        rw [kAb_c (fun i hi => G2 i hi), if_neg (by decide)] at n3
        have ex : rfF k (S.1 2) (S.2.1 1) (S.2.1 2) = kO 136 (kEn 136 31 (kAb 136 (fun i => if i < 32 then S.2.1 1 (768 * k + 64 + i) else S.2.1 2 (i - 32)) (32 + S.1 2))) := rfl
        rw [ex] at hf
        generalize kEn 136 31 (kAb 136 (fun i => if i < 32 then S.2.1 1 (768 * k + 64 + i) else S.2.1 2 (i - 32)) (32 + S.1 2)) = T at n3 hf
        have n3' : Mq B3 136 (kS 136 T 0) := n3
        refine c_tells (to := 10304) (n := 32) hC (f3.t (m2.t (m1.t qA.2.2.2.2.1))) (by decide) (by decide) n3' (by decide) (fun B4 f4 _ b4 => ?_)
        refine last B4 false L4 hr ((((m1.x (fun i a b => Or.inr a) (fun _ z => z)).trans (m2.x (fun i a b => Or.inr (by omega)) (fun _ z => z))).trans (MF.x (lo := 11336) (hi := 11336) (P' := fun _ => False) f3.f (fun i a b => by omega) (fun _ z => z))).trans ((f4.f (lo := 10304) (hi := 10336) (P := fun _ => False) (Nat.le_refl _) (by decide)).x (fun i a b => Or.inl ⟨a, b⟩) (fun _ z => z))) (fun i hi => ?_)
        rw [b4 i hi, hf, Nat.zero_add]
    · intro fu i s hi hs ih
      refine pk_le (S.1 2) i (fun b => absurd b (by omega)) (fun _ => ?_) w4
      rcases hs with ⟨rfl, a⟩ | ⟨rfl, a⟩
      · refine ⟨fun b => absurd b (by decide), fun _ => ⟨me, j1, ?_⟩⟩
        rw [show (8736 : Int32) + nI i = nI (8736 + i) from nI_add 8736 i, show (18044 : Int32) + nI i = nI (18044 + i) from nI_add 18044 i, nI_clamp (n := 8736 + i) (by omega), nI_clamp (n := 18044 + i) (by omega)]
        have tr : A me (8736 + i) = A me (18044 + i) ↔ ct i = S.2.1 2 i := by
          rw [cy_i (qA.2.2.2.2.2 _ (by omega)) (qA.2.2.2.2.2 _ (by omega)), XA i hi, CA i (by omega)]
          exact ⟨fun z => z.symm, fun z => z.symm⟩
        refine ⟨by rw [s1]; exact vp_in_nI (by omega) (by decide), by rw [s1]; exact vp_in_nI (by omega) (by decide), fun b x2 e2 => ?_, fun b x2 e2 => ?_⟩
        · rw [e2, nI_1]
          exact ih 0 (Or.inr ⟨rfl, fun c => b (tr.mpr (c i hi))⟩)
        · rw [e2, nI_1]
          refine ih 1 (Or.inl ⟨rfl, fun j hj => ?_⟩)
          by_cases ej : j = i
          · rw [ej]; exact tr.mp b
          · exact a j (by omega)
      · refine ⟨fun _ x2 e2 => ?_, fun b => absurd rfl b⟩
        rw [e2, nI_1]
        exact ih 0 (Or.inr ⟨rfl, a⟩)
  refine c_unlockText hL he hkk hdk2 htx hN2 h.1.2.2.2 (fun I1 L1 f1 sh1 M1 G1 => ?_)
  rw [hmf] at M1 G1
  rw [hsd] at G1
  show wp_X1_lockMessage X J 21 e 5 (384 * enI 0 e) (I1 0 12) I1 L1 _
  rw [show I1 0 12 = nI S.2.2.2.2 by rw [f1 0 (by decide)]; exact h.1.2.2.1, hE, show (384 : Int32) = nI 384 from rfl, pk_mul]
  have hdk3 : RC X J I1 5 3168 (768 * k + 96) (S.2.1 1) := hdk2.f (f1 5 (by decide)) (f1 6 (by decide))
  refine c_lockMessage (s0 := 384 * k) (key := fun x => S.2.1 1 (384 * k + x)) hL he hkk hdk3 (by decide) (by omega) (fun x _ => rfl) sh1 G1 M1 hm (fun I2 L2 f2 sh2 G2 ok2 D2 => ⟨fun _ => ⟨9, v4, ?_⟩, fun b => absurd b (by decide)⟩) (fun I2 L2 f2 sh2 nok2 => ⟨fun b => absurd rfl b, fun _ => ?_⟩)
  · rw [hct] at D2
    have F2 : ∀ x, (x < 18 ∨ 37 ≤ x) → I2 x = I x := fun x hx => by rw [f2 x hx, f1 x hx]
    have c2 : Cv X J I2 S := Cv_same h.1 (fun x hx => F2 x (Or.inl hx)) sh2
    have se2 : RC X J I2 9 32 (S.1 3) (S.2.1 3) := c2.1 3 (by decide)
    refine c_clear se2.1 (fun I3 f3 r3 _ => ⟨22, l2, 22, rfl, ?_⟩)
    have c3 := fun f => Cv_row c2 (w := 3) (by decide) (n := 0) (f := f) ⟨r3, fun i hi => absurd hi (by omega)⟩ (fun x _ a b => f3.1 x a b) (c2.2.2.2.f (fun x hx => f3.1 x (by omega) (by omega)))
    have D3 := D2.f (f3.1 22 (by decide) (by decide)) (f3.1 23 (by decide) (by decide))
    have t3 : RC X J I3 7 1568 (S.1 2) (S.2.1 2) := (c3 sd).1 2 (by decide)
    have tr : (32 * duK k * k + 32 * dvK k = S.1 2 ∧ ∀ i, i < 32 * duK k * k + 32 * dvK k → rb (I3 (22 + 1)) i = rb (I3 (7 + 1)) i) ↔ ∀ i, i < S.1 2 → ct i = S.2.1 2 i := by
      refine ⟨fun z i hi => ?_, fun z => ⟨hN2.symm, fun i hi => ?_⟩⟩
      · have := z.2 i (by omega)
        rw [D3.2 i (by omega), t3.2 i hi] at this
        exact this
      · rw [D3.2 i hi, t3.2 i (by omega)]; exact z i (by omega)
    refine c_sameAs D3.1 t3.1 (fun z => ⟨fun b => absurd b (by decide), fun _ => ⟨24, l3, 24, rfl, ?_⟩⟩) (fun z => ⟨fun _ => ?_, fun b => absurd rfl b⟩)
    · have G3 : RC X J I3 24 64 64 sd := G2.f (f3.1 24 (by decide) (by decide)) (f3.1 25 (by decide) (by decide))
      have s3' : RC X J I3 9 32 0 sd := (c3 sd).1 3 (by decide)
      refine c_partC (s0 := 0) (cn := 32) s3' G3 (by decide) (by decide) (by decide) (fun i hi => rfl) (fun I4 f4 _ r4 => ?_)
      have c4 : Cv X J I4 (setR S 3 32 sd) := Cv_row c2 (w := 3) (by decide) (n := 32) (f := sd) r4 (fun x hx a b => by rw [f4 x a b, f3.1 x a b]) (c2.2.2.2.f (fun x hx => by rw [f4 x (by omega) (by omega), f3.1 x (by omega) (by omega)]))
      refine rlk I4 L2 1 (fun x hx => by rw [f4 x (by omega) (by omega), f3.1 x (by omega) (by omega), F2 x (by omega)]) (fun A qA fA SA _ CA => ?_) (fun A _ _ nok => absurd ok2 nok)
      exact rfin A L2 1 sd I4 qA fA c4 SA CA (fun _ => ⟨rfl, rfl⟩) (fun b => absurd (tr.mp z) b)
    · have dk3 : RC X J I3 5 3168 (768 * k + 96) (S.2.1 1) := by rw [← hN1]; exact (c3 sd).1 1 (by decide)
      have s3' : RC X J I3 9 32 0 sd := (c3 sd).1 3 (by decide)
      refine c_tellRefusal hL he hkk dk3 t3 hN2 s3' (fun I4 L4 f4 r4 => ?_)
      have c4 : Cv X J I4 (setR S 3 32 (rfF k (S.1 2) (S.2.1 1) (S.2.1 2))) := Cv_row c2 (w := 3) (by decide) (n := 32) r4 (fun x hx a b => by rw [f4 x (by omega) a b, f3.1 x a b]) (c2.2.2.2.f (fun x hx => by rw [f4 x (by omega) (by omega) (by omega), f3.1 x (by omega) (by omega)]))
      refine rlk I4 L4 0 (fun x hx => by rw [f4 x (by omega) (by omega) (by omega), f3.1 x (by omega) (by omega), F2 x (by omega)]) (fun A qA fA SA _ CA => ?_) (fun A _ _ nok => absurd ok2 nok)
      exact rfin A L4 0 (rfF k (S.1 2) (S.2.1 1) (S.2.1 2)) I4 qA fA c4 SA CA (fun b => absurd (tr.mpr b) z) (fun _ => ⟨rfl, rfl⟩)
  · have F2 : ∀ x, (x < 18 ∨ 37 ≤ x) → I2 x = I x := fun x hx => by rw [f2 x hx, f1 x hx]
    have c2 : Cv X J I2 S := Cv_same h.1 (fun x hx => F2 x (Or.inl hx)) sh2
    exact rlk I2 L2 _ (fun x hx => F2 x (by omega)) (fun A _ _ _ ok _ => absurd ok nok2) (fun A qA fA _ => ⟨rfl, _, Cv_fr c2 fA, qA, h.2.2⟩)
end UWR
