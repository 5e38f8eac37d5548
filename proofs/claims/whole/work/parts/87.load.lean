section LD
variable {X : XT} {J : MJ} {I : MI} {L : ML} {e : Nat} {S : VS}
theorem smOK_c {k : Nat} {f g : Nat → Nat} (h : ∀ i, i < 384 * k → f i = g i) : smOK k f → smOK k g := fun s i hi => by
  rw [← gv_c (d := 12) (b := f) (fun j hj => h j (by omega))]
  exact s i hi
/-- the reference's load up to its test of length -/
theorem j_load (hV : VJ X J e) (h : Iv X J e S I) (x : Int32) : wp_X7_load X J 0 x I L (fun r I' L' => wp_X8_load X J mo x I' L' (fun r' I'' _ => Po X J e r r' I'')) := by
  obtain ⟨hL, hC, ⟨v0, v1, v2, v3, v4, v5, v6, v7, v8, v9, v10, v11⟩, vP, s13, s14⟩ := id hV
  obtain ⟨⟨l0, l1, l2, l3, l4, l5, l6, l7, l8⟩, lS, lP, lv, s30, s256⟩ := id hL
  obtain ⟨⟨j1, j2, j3, j4, j5, j6, j7, j8, j9⟩, s1, s2, s3, s4, s5, s6, s7, s8, s9⟩ := id hC
  have hsz := fun w hw => h.1.sz (w := w) hw
  have ht : RC X J I 1 4000 (S.1 5) (S.2.1 5) := h.1.1 5 (by decide)
  have hn5 : S.1 5 ≤ 4000 := ht.1.2.2.2.2.1
  obtain ⟨he, hk, hm1, hm2, hw0, hw1, hw2⟩ := id h.2.2
  -- the reference after used(), with its length z1
  have ref : ∀ (w n1 : Nat) (I1 : MI) (L1 : ML) (q : Int32 → MI → ML → Prop), w < 3 → n1 = (if w = 0 then 384 * (e + 2) + 32 else if w = 1 then 768 * (e + 2) + 96 else 32 * duK (e + 2) * (e + 2) + 32 * dvK (e + 2)) → Rv I1 S → (∀ I2, I2 = ms I1 mo 1 0 → Rv I2 (setR S 5 0 (S.2.1 5)) → RX I1 I2 (fun _ => False) (fun j => j = 1) (fun _ => False) → Mb I2 0 (S.1 5) (S.2.1 5) → wj_X8_load_51 X J q mo (nI w) (nI (S.1 5)) (nI (S.1 5)) (nI n1) I2 L1) → wp_X8_load X J mo (nI w) I1 L1 q := by
    intro w n1 I1 L1 q hw hn1 q1 hq
    refine i_le (n := 2) rfl (by decide) (by omega) ?_
    intro x1 ex I2 e2
    have rx := RX_sz (B := fun _ => False) (P := fun _ => False) (Z := fun j => j = 1) e2 rfl
    have q2 := Rv_clr q1 hsz e2
    have k2 : I2 mo 7 = nI (e + 2) := by rw [← hk]; exact q2.2.2.1
    have := hq I2 e2 q2 rx (rx.b (q1.1 5 (by decide)).2 (fun _ _ z => z))
    rw [ex, show I1 mo 1 = nI (S.1 5) from (q1.1 5 (by decide)).1]
    rcases (show w = 0 ∨ w = 1 ∨ w = 2 by omega) with rfl | rfl | rfl
    · refine ⟨fun b => absurd rfl b, fun _ => c_ekBytes k2 ?_⟩
      rw [hn1] at this; exact this
    · refine ⟨fun _ => ⟨fun b => absurd rfl b, fun _ => ?_⟩, fun b => absurd b (by decide)⟩
      rw [k2, show (768 : Int32) = nI 768 from rfl, pk_mul, show (96 : Int32) = nI 96 from rfl, nI_add]
      rw [hn1] at this; exact this
    · refine ⟨fun _ => ⟨fun _ => c_textBytes k2 (by omega) ?_, fun b => absurd b (by decide)⟩, fun b => absurd b (by decide)⟩
      rw [Nat.mul_add, ← Nat.mul_assoc]
      rw [hn1] at this; exact this
  -- what is refused: the TAPE is gone on both sides
  have bad : ∀ (w n1 : Nat) (I1 : MI) (L1 : ML), w < 3 → n1 = (if w = 0 then 384 * (e + 2) + 32 else if w = 1 then 768 * (e + 2) + 96 else 32 * duK (e + 2) * (e + 2) + 32 * dvK (e + 2)) → n1 < 5000 → S.1 5 ≠ n1 → (∀ k, 38 ≤ k → I1 k = I k) → Cv X J I1 (setR S 5 0 (S.2.1 5)) → wp_X8_load X J mo (nI w) I1 L1 (fun r' I'' _ => Po X J e (-1) r' I'') := by
    intro w n1 I1 L1 hw hn1 hn1b hne f1 c1
    refine ref w n1 I1 L1 _ hw hn1 (h.r f1) (fun I2 e2 q2 x2 _ => ?_)
    unfold wj_X8_load_51
    rw [nI_eq (by omega) (by omega)]
    exact ⟨fun b => absurd b hne, fun _ => ⟨rfl, _, Cv_fr c1 x2.c, q2, h.2.2⟩⟩
  -- what is taken
  have hdu := duK_b (e + 2)
  have hdv := dvK_b (e + 2)
  have hwk := Wk (k := e + 2) (by omega)
  have gd : ∀ (w : Nat) (I1 : MI) (L1 : ML) (q : Int32 → MI → ML → Prop), w < 3 → S.1 5 ≤ rmW w → Cv X J I1 S → (∀ I' L', (∀ k, 38 ≤ k → I' k = I1 k) → Cv X J I' (setR (setR S w (S.1 5) (S.2.1 5)) 5 0 (S.2.1 5)) → q (nI (S.1 5)) I' L') → wp_X4_become X J (cw w) 1 I1 L1 (fun I_12 L_13 => wj_X7_load_44 X J q 0 (nI (S.1 5)) I_12 L_13) := by
    intro w I1 L1 q hw hr c1 hq
    have rw1 := c1.1 w (by omega)
    have t1 : RC X J I1 1 4000 (S.1 5) (S.2.1 5) := c1.1 5 (by decide)
    have hcw : cw w = 2 * w + 3 := by unfold cw; rw [if_neg (by omega)]
    refine c_become rw1.1 t1.1 ⟨by omega, by omega, by omega, by omega⟩ hr (fun I2 f2 r2 b2 => ?_)
    have c2 : Cv X J I2 (setR S w (S.1 5) (S.2.1 5)) := Cv_row c1 (w := w) (by omega) ⟨r2, fun i hi => (b2 i hi).trans (t1.2 i hi)⟩ (fun k _ a b => f2.1 k a b) (c1.2.2.2.f (fun k hk => f2.1 k (by omega) (by omega)))
    refine ⟨1, v0, c_clr c2 (fun I3 f3 _ c3 => hq I3 L1 (fun k hk => by rw [f3 k (by omega) (by omega), f2.1 k (by omega) (by omega)]) ?_)⟩
    have : (setR S w (S.1 5) (S.2.1 5)).2.1 5 = S.2.1 5 := va_up_ne _ _ (by omega)
    rw [this] at c3
    exact c3
  have pos : ¬ nI (S.1 5) < 0 := nI_pos (by omega)
  have fin : ∀ (w : Nat) (I1 I2 : MI) (L1 : ML) (B : Nat → Prop), w < 3 → S.1 5 ≤ rmW w → (S.1 5 = (if w = 0 then 384 * (e + 2) + 32 else if w = 1 then 768 * (e + 2) + 96 else 32 * duK (e + 2) * (e + 2) + 32 * dvK (e + 2))) → Cv X J I1 (setR (setR S w (S.1 5) (S.2.1 5)) 5 0 (S.2.1 5)) → (∀ x, x < 38 → I2 x = I1 x) → Rv I2 (setR S 5 0 (S.2.1 5)) → Mb I2 0 (S.1 5) (S.2.1 5) → wp_X8_copy X J mo 0 (nI (mbs w)) (nI (S.1 5)) I2 L1 (fun I_7 L_8 => (∀ I_9, I_9 = ms I_7 mo (sfW w) (nI (S.1 5)) → Po X J e (nI (S.1 5)) (nI (S.1 5)) I_9)) := by
    intro w I1 I2 L1 B hw hr hn c1 f2 q2 b2
    have hmb : 4000 ≤ mbs w := by rcases (show w = 0 ∨ w = 1 ∨ w = 2 by omega) with rfl | rfl | rfl <;> decide
    have hrm := rm_b w (by omega)
    refine c_copy (fr := 0) hC (by omega) (by omega) (by omega) (fun I3 f3 b3 I4 e4 => ?_)
    have x4 : RX I2 I4 (fun i => mbs w ≤ i ∧ i < mbs w + rmW w) (fun j => j = sfW w) (fun _ => False) := ((f3.f (lo := mbs w) (hi := mbs w + rmW w) (P := fun _ => False) (Nat.le_refl _) (by omega)).x (fun i a b => ⟨a, b⟩) (fun _ z => z)).trans (RX_sz e4 rfl)
    rw [setR_comm S (by omega)] at c1
    refine ⟨rfl, _, Cv_fr c1 (fun x hx => by rw [x4.c x hx, f2 x hx]), Rv_row q2 (sz_clr hsz) x4 (w := w) (by omega) (by rw [ms_k e4, va_up_self]) (fun i hi => ?_) (fun i a => Or.inl a) (fun j a => a) (fun p z => absurd z id), ?_⟩
    · have a1 := b3 i hi
      have : mb I4 (mbs w + i) = mb I3 (mbs w + i) := by unfold mb; rw [ms_o e4 (by decide)]
      rw [this, a1]; exact b2 i hi
    · rcases (show w = 0 ∨ w = 1 ∨ w = 2 by omega) with rfl | rfl | rfl
      · exact ⟨he, hk, hm1, hm2, Or.inr hn, hw1, hw2⟩
      · exact ⟨he, hk, hm1, hm2, hw0, Or.inr hn, hw2⟩
      · exact ⟨he, hk, hm1, hm2, hw0, hw1, Or.inr hn⟩
  have badc : ∀ (w : Nat) (r : Int32) (I1 : MI) (L1 : ML) (q : Int32 → MI → ML → Prop), w < 3 → r < 0 → Cv X J I1 S → (∀ I' L', (∀ k, 38 ≤ k → I' k = I1 k) → Cv X J I' (setR S 5 0 (S.2.1 5)) → q r I' L') → wp_X7_rowOf X J 0 (nI w) I1 L1 (fun o_6 I_4 L_5 => (o_6 = none → (((r < 0) → wj_X7_load_44 X J q 0 r I_4 L_5) ∧ (¬ (r < 0) → wj_X7_load_44 X J q 0 r I_4 L_5))) ∧ (∀ r_7, o_6 = some r_7 → (((r < 0) → wj_X7_load_44 X J q 0 r I_4 L_5) ∧ (¬ (r < 0) → (∃ r_11 : Nat, J 0 0 = some r_11 ∧ (wp_X4_become X J r_7 r_11 I_4 L_5 (fun I_12 L_13 => wj_X7_load_44 X J q 0 r I_12 L_13))))))) := by
    intro w r I1 L1 q hw hr c1 hq
    refine c_rowOf hV (by omega) ⟨fun b => absurd b (Option.some_ne_none _), fun r7 b => ⟨fun _ => ⟨1, v0, c_clr c1 (fun I2 f2 _ c2 => hq I2 L1 (fun k hk => f2 k (by omega) (by omega)) c2)⟩, fun b => absurd hr b⟩⟩
  have goodc : ∀ (w : Nat) (I1 : MI) (L1 : ML) (q : Int32 → MI → ML → Prop), w < 3 → S.1 5 ≤ rmW w → Cv X J I1 S → (∀ I' L', (∀ k, 38 ≤ k → I' k = I1 k) → Cv X J I' (setR (setR S w (S.1 5) (S.2.1 5)) 5 0 (S.2.1 5)) → q (nI (S.1 5)) I' L') → wp_X7_rowOf X J 0 (nI w) I1 L1 (fun o_6 I_4 L_5 => (o_6 = none → (((nI (S.1 5) < 0) → wj_X7_load_44 X J q 0 (nI (S.1 5)) I_4 L_5) ∧ (¬ (nI (S.1 5) < 0) → wj_X7_load_44 X J q 0 (nI (S.1 5)) I_4 L_5))) ∧ (∀ r_7, o_6 = some r_7 → (((nI (S.1 5) < 0) → wj_X7_load_44 X J q 0 (nI (S.1 5)) I_4 L_5) ∧ (¬ (nI (S.1 5) < 0) → (∃ r_11 : Nat, J 0 0 = some r_11 ∧ (wp_X4_become X J r_7 r_11 I_4 L_5 (fun I_12 L_13 => wj_X7_load_44 X J q 0 (nI (S.1 5)) I_12 L_13))))))) := by
    intro w I1 L1 q hw hr c1 hq
    refine c_rowOf hV (by omega) ⟨fun b => absurd b (Option.some_ne_none _), fun r7 b => ⟨fun b => absurd b pos, fun _ => ⟨1, v0, ?_⟩⟩⟩
    cases b
    exact gd w I1 L1 q hw hr c1 hq
  have hE : enI 0 e = nI (e + 2) := enI_0 he
  rcases xs x 3 (by decide) with z | ⟨w, hw, rfl⟩
  · refine ⟨fun b => absurd b (xs_ne (j := 0) (by decide) z (by decide)), fun _ => ⟨fun b => absurd b (xs_ne (j := 1) (by decide) z (by decide)), fun _ => ⟨fun b => absurd b (xs_ne (j := 2) (by decide) z (by decide)), fun _ => ?_⟩⟩⟩
    exact ii_le (n := 2) (by decide) rfl z (same h)
  rcases (show w = 0 ∨ w = 1 ∨ w = 2 by omega) with rfl | rfl | rfl
  · -- EK
    refine ⟨fun _ => ⟨fun b => absurd rfl b, fun _ => ⟨1, v0, c_size ht.1 ⟨e, v11, ?_⟩⟩⟩, fun b => absurd rfl b⟩
    show (nI (S.1 5) = 384 * enI 0 e + 32 → wp_X0_groupsAreSmall X J 1 (384 * enI 0 e) I L _) ∧ _
    rw [hE, show (384 : Int32) * nI (e + 2) = nI (384 * (e + 2)) from pk_mul 384 _, show nI (384 * (e + 2)) + 32 = nI (384 * (e + 2) + 32) from nI_add _ 32]
    rw [nI_eq (by omega) (by omega)]
    refine ⟨fun z => ?_, fun z => badc 0 (-1) I L _ (by decide) (by decide) h.1 (fun I1 L1 f1 c1 => bad 0 _ I1 L1 (by decide) rfl (by show 384 * (e + 2) + 32 < 5000; omega) z f1 c1)⟩
    have hrb : RC X J I 1 4000 (S.1 5) (rb (I 2)) := ⟨ht.1, fun i _ => rfl⟩
    have eqr : ∀ i, i < 384 * (e + 2) → rb (I 2) i = S.2.1 5 i := fun i hi => ht.2 i (by omega)
    -- the reference's loop over the groups
    have refl : ∀ (I1 : MI) (L1 : ML) (r : Int32), (∀ k, 38 ≤ k → I1 k = I k) → (smOK (e + 2) (S.2.1 5) → r = nI (S.1 5) ∧ Cv X J I1 (setR (setR S 0 (S.1 5) (S.2.1 5)) 5 0 (S.2.1 5))) → (¬ smOK (e + 2) (S.2.1 5) → r = -2 ∧ Cv X J I1 (setR S 5 0 (S.2.1 5))) → wp_X8_load X J mo (nI 0) I1 L1 (fun r' I'' _ => Po X J e r r' I'') := by
      intro I1 L1 r f1 g1 g0
      refine ref 0 (384 * (e + 2) + 32) I1 L1 _ (by decide) rfl (h.r f1) (fun I2 e2 q2 x2 b2 => ?_)
      unfold wj_X8_load_51
      rw [nI_eq (by omega) (by omega)]
      refine ⟨fun _ => ⟨fun b => absurd rfl b, fun _ => ?_⟩, fun b => absurd z b⟩
      have k2 : I2 mo 7 = nI (e + 2) := by rw [← hk]; exact q2.2.2.1
      have e2k : (256 : Int32) * I2 mo 7 = nI (256 * (e + 2)) := by rw [k2]; exact pk_mul 256 _
      refine pk_loop (σ := Unit) (fun fu i _ => wl_X8_load_62 X J _ mo (nI (S.1 5)) fu (nI i) I2 L1) (fun i _ => ∀ j, j < i → gv 12 (S.2.1 5) j < 3329) (256 * (e + 2)) 0 () (Nat.zero_le _) (fun j hj => absurd hj (by omega)) ?_ ?_
      · intro fu _ a
        refine pk_le (256 * (e + 2)) (256 * (e + 2)) (fun _ => ?_) (fun b => absurd b (by omega)) e2k
        obtain ⟨er, c1⟩ := g1 a
        subst er
        exact fin 0 I1 I2 L1 (fun _ => False) (by decide) (by rw [z]; show 384 * (e + 2) + 32 ≤ 1568; omega) (by rw [z]; rfl) c1 x2.c q2 b2
      · intro fu i _ hi a ih
        refine pk_le (256 * (e + 2)) i (fun b => absurd b (by omega)) (fun _ => ?_) e2k
        refine c_group (fr := 0) (d := 12) hC (by decide) (by decide) (by omega) (by omega) ?_
        have eg : gv 12 (fun k => mb I2 (0 + k)) i = gv 12 (S.2.1 5) i := gv_c (fun k hk => b2 k (by omega))
        rw [eg]
        have hg := gv_lt 12 (S.2.1 5) i
        refine pk_lt (gv 12 (S.2.1 5) i) 3329 (fun y x3 e3 => ?_) (fun y => ?_) rfl rfl (by omega) (by decide)
        · rw [e3, nI_1]
          refine ih () (fun j hj => ?_)
          by_cases ej : j = i
          · rw [ej]; exact y
          · exact a j (by omega)
        · obtain ⟨er, c1⟩ := g0 (fun s => by have := s i hi; omega)
          exact ⟨er, _, Cv_fr c1 x2.c, q2, h.2.2⟩
    refine c_groups (k := e + 2) hrb (by omega) (by omega) (fun i => rb_lt _ _) (fun s => ⟨fun b => absurd b (by decide), fun _ => c_size ht.1 ?_⟩) (fun s => ⟨fun _ => ?_, fun b => absurd rfl b⟩)
    · exact goodc 0 I L _ (by decide) (by rw [z]; show 384 * (e + 2) + 32 ≤ 1568; omega) h.1 (fun I1 L1 f1 c1 => refl I1 L1 _ f1 (fun _ => ⟨rfl, c1⟩) (fun ns => absurd (smOK_c eqr s) ns))
    · exact badc 0 (-2) I L _ (by decide) (by decide) h.1 (fun I1 L1 f1 c1 => refl I1 L1 _ f1 (fun s2 => absurd (smOK_c (fun i hi => (eqr i hi).symm) s2) s) (fun _ => ⟨rfl, c1⟩))
  · -- DK
    refine ⟨fun b => absurd b (by decide), fun _ => ⟨fun _ => ⟨fun _ => ⟨fun b => absurd rfl b, fun _ => ⟨1, v0, c_size ht.1 ⟨e, v11, ?_⟩⟩⟩, fun b => absurd b (by decide)⟩, fun b => absurd rfl b⟩⟩
    show (nI (S.1 5) = 768 * enI 0 e + 96 → _) ∧ _
    rw [hE, show (768 : Int32) * nI (e + 2) = nI (768 * (e + 2)) from pk_mul 768 _, show nI (768 * (e + 2)) + 96 = nI (768 * (e + 2) + 96) from nI_add _ 96]
    rw [nI_eq (by omega) (by omega)]
    refine ⟨fun z => ⟨21, v9, ?_⟩, fun z => badc 1 (-1) I L _ (by decide) (by decide) h.1 (fun I1 L1 f1 c1 => bad 1 _ I1 L1 (by decide) rfl (by show 768 * (e + 2) + 96 < 5000; omega) z f1 c1)⟩
    have ht2 : RC X J I 1 4000 (768 * (e + 2) + 96) (S.2.1 5) := by rw [← z]; exact ht
    generalize hkk : e + 2 = k at *
    have hk2 : 2 ≤ k ∧ k ≤ 4 := by omega
    have refl : ∀ (I1 : MI) (L1 : ML) (r : Int32), (∀ k, 38 ≤ k → I1 k = I k) → ((∀ i, i < 32 → xof 136 6 (384 * k + 32) (fun x => S.2.1 5 (384 * k + x)) i = S.2.1 5 (768 * k + 32 + i)) → r = nI (S.1 5) ∧ Cv X J I1 (setR (setR S 1 (S.1 5) (S.2.1 5)) 5 0 (S.2.1 5))) → (¬ (∀ i, i < 32 → xof 136 6 (384 * k + 32) (fun x => S.2.1 5 (384 * k + x)) i = S.2.1 5 (768 * k + 32 + i)) → r = -3 ∧ Cv X J I1 (setR S 5 0 (S.2.1 5))) → wp_X8_load X J mo (nI 1) I1 L1 (fun r' I'' _ => Po X J e r r' I'') := by
      intro I1 L1 r f1 g1 g0
      refine ref 1 (768 * k + 96) I1 L1 _ (by decide) rfl (h.r f1) (fun I2 e2 q2 x2 b2 => ?_)
      unfold wj_X8_load_51
      rw [nI_eq (by omega) (by omega)]
      have k2 : I2 mo 7 = nI k := by rw [← hk]; exact q2.2.2.1
      refine ⟨fun _ => ⟨fun _ => ⟨fun b => absurd rfl b, fun _ => c_ekBytes k2 ?_⟩, fun b => absurd b (by decide)⟩, fun b => absurd z b⟩
      rw [k2, show (384 : Int32) * nI k = nI (384 * k) from pk_mul 384 _, show (0 : Int32) + nI (384 * k) = nI (384 * k) by rw [show (0 : Int32) = nI 0 from rfl, nI_add, Nat.zero_add]]
      have b2' : Mb I2 (384 * k) (384 * k + 32) (fun x => S.2.1 5 (384 * k + x)) := fun i hi => by
        have := b2 (384 * k + i) (by omega)
        rw [Nat.zero_add] at this
        exact this
      refine c_h (to := 15436) hC q2.2.2.2.2.1 (by omega) (by decide) b2' (fun I3 m3 H3 => ?_)
      have x3 : RX I2 I3 (fun i => 11336 ≤ i) (fun _ => False) (fun _ => False) := m3.x (fun i a _ => by omega) (fun _ z => z)
      have q3 : Rv I3 (setR S 5 0 (S.2.1 5)) := Rv_end q2 x3 (fun w hw => Or.inl ⟨rfl, rfl, fun i hi y => by have a1 := sz_clr hsz w hw; have a2 := rm_b w hw; omega, fun y => y⟩) (fun p' hp' => Or.inl ⟨rfl, fun y => y⟩) (Or.inl ⟨rfl, fun y => y⟩) (Or.inl ⟨rfl, fun y => y⟩)
      have b3 : Mb I3 0 (S.1 5) (S.2.1 5) := b2.f m3 (Or.inl (by omega))
      have k3 : I3 mo 7 = nI k := by rw [← hk]; exact q3.2.2.1
      refine pk_loop (σ := Unit) (fun fu i _ => wl_X8_load_142 X J _ mo (nI (S.1 5)) fu (nI i) I3 L1) (fun i _ => ∀ j, j < i → xof 136 6 (384 * k + 32) (fun x => S.2.1 5 (384 * k + x)) j = S.2.1 5 (768 * k + 32 + j)) 32 0 () (Nat.zero_le _) (fun j hj => absurd hj (by omega)) ?_ ?_
      · intro fu _ a
        refine pk_le 32 32 (fun _ => ?_) (fun b => absurd b (by omega))
        obtain ⟨er, c1⟩ := g1 a
        subst er
        exact fin 1 I1 I3 L1 (fun _ => False) (by decide) (by rw [z]; show 768 * k + 96 ≤ 3168; omega) (by rw [z]; rfl) c1 (fun x hx => by rw [x3.c x hx, x2.c x hx]) q3 b3
      · intro fu i _ hi a ih
        refine pk_le 32 i (fun b => absurd b (by omega)) (fun _ => ⟨me, j1, ?_⟩)
        rw [k3, show (768 : Int32) * nI k = nI (768 * k) from pk_mul 768 _, show (0 : Int32) + nI (768 * k) = nI (768 * k) by rw [show (0 : Int32) = nI 0 from rfl, nI_add, Nat.zero_add], show (32 : Int32) = nI 32 from rfl, nI_add, nI_add, show (15436 : Int32) = nI 15436 from rfl, nI_add, nI_clamp (n := 15436 + i) (by omega), nI_clamp (n := 768 * k + 32 + i) (by omega)]
        have tr : I3 me (15436 + i) = I3 me (768 * k + 32 + i) ↔ xof 136 6 (384 * k + 32) (fun x => S.2.1 5 (384 * k + x)) i = S.2.1 5 (768 * k + 32 + i) := by
          rw [cy_i (q3.2.2.2.2.2 _ (by omega)) (q3.2.2.2.2.2 _ (by omega)), H3 i hi]
          have := b3 (768 * k + 32 + i) (by omega)
          rw [Nat.zero_add] at this
          rw [this]
        refine ⟨by rw [s1]; exact vp_in_nI (by omega) (by decide), by rw [s1]; exact vp_in_nI (by omega) (by decide), fun y x3' e3' => ?_, fun y => ?_⟩
        · rw [e3', nI_1]
          refine ih () (fun j hj => ?_)
          by_cases ej : j = i
          · rw [ej]; exact tr.mp y
          · exact a j (by omega)
        · obtain ⟨er, c1⟩ := g0 (fun s => y (tr.mpr (s i hi)))
          exact ⟨er, _, Cv_fr c1 (fun x hx => by rw [x3.c x hx, x2.c x hx]), q3, h.2.2⟩
    refine c_hashIsTrue hL he hkk ht2 h.1.2.2.2 (fun I1 L1 f1 sh1 t1 => ⟨fun b => absurd b (by decide), fun _ => ?_⟩) (fun I1 L1 f1 sh1 t1 => ⟨fun _ => ?_, fun b => absurd rfl b⟩)
    · have c1 : Cv X J I1 S := Cv_same h.1 (fun x hx => f1 x (Or.inl hx)) sh1
      have t5 : RC X J I1 1 4000 (S.1 5) (S.2.1 5) := c1.1 5 (by decide)
      refine c_size t5.1 ?_
      exact goodc 1 I1 L1 _ (by decide) (by rw [z]; show 768 * k + 96 ≤ 3168; omega) c1 (fun I2 L2 f2 c2 => refl I2 L2 _ (fun x hx => by rw [f2 x hx, f1 x (by omega)]) (fun _ => ⟨rfl, c2⟩) (fun ns => absurd t1 ns))
    · have c1 : Cv X J I1 S := Cv_same h.1 (fun x hx => f1 x (Or.inl hx)) sh1
      exact badc 1 (-3) I1 L1 _ (by decide) (by decide) c1 (fun I2 L2 f2 c2 => refl I2 L2 _ (fun x hx => by rw [f2 x hx, f1 x (by omega)]) (fun s => absurd s t1) (fun _ => ⟨rfl, c2⟩))
  · -- TEXT
    refine ⟨fun b => absurd b (by decide), fun _ => ⟨fun b => absurd b (by decide), fun _ => ⟨fun _ => ⟨fun _ => ⟨fun _ => ⟨1, v0, c_size ht.1 ⟨e, v11, ?_⟩⟩, fun b => absurd b (by decide)⟩, fun b => absurd b (by decide)⟩, fun b => absurd rfl b⟩⟩⟩
    show (¬ nI (S.1 5) = 32 * (enI 3 e * enI 0 e + enI 4 e) → _) ∧ _
    rw [hE, enI_3 he, enI_4 he, pk_mul, nI_add, show (32 : Int32) = nI 32 from rfl, pk_mul, Nat.mul_add, ← Nat.mul_assoc]
    rw [nI_eq (by omega) (by omega)]
    refine ⟨fun z => badc 2 (-1) I L _ (by decide) (by decide) h.1 (fun I1 L1 f1 c1 => bad 2 _ I1 L1 (by decide) rfl (by show 32 * duK (e + 2) * (e + 2) + 32 * dvK (e + 2) < 5000; omega) z f1 c1), fun z => c_size ht.1 ?_⟩
    refine goodc 2 I L _ (by decide) (by rw [z]; show 32 * duK (e + 2) * (e + 2) + 32 * dvK (e + 2) ≤ 1568; omega) h.1 (fun I1 L1 f1 c1 => ?_)
    refine ref 2 (32 * duK (e + 2) * (e + 2) + 32 * dvK (e + 2)) I1 L1 _ (by decide) rfl (h.r f1) (fun I2 e2 q2 x2 b2 => ?_)
    unfold wj_X8_load_51
    rw [nI_eq (by omega) (by omega)]
    refine ⟨fun _ => ⟨fun _ => ⟨fun _ => ?_, fun b => absurd b (by decide)⟩, fun b => absurd b (by decide)⟩, fun b => absurd z b⟩
    exact fin 2 I1 I2 L1 (fun _ => False) (by decide) (by rw [z]; show 32 * duK (e + 2) * (e + 2) + 32 * dvK (e + 2) ≤ 1568; omega) (by rw [z]; rfl) c1 x2.c q2 b2
end LD
