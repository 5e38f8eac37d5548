section PL2
variable {X : XT} {J : MJ} {I : MI} {L : ML} {e : Nat} {S : VS}
theorem ii_lt {x M : Int32} {n : Nat} (hM : M = nI n) (h : x < 0 ∨ nI n ≤ x) {A C : Prop} (c : C) : ((x < 0) → C) ∧ (¬ (x < 0) → ((x < M → A) ∧ (¬ x < M → C))) :=
  ⟨fun _ => c, fun a => ⟨fun b => absurd h (fun z => z.elim a (fun y => Int32.not_lt.mpr (by rw [hM]; exact y) b)), fun _ => c⟩⟩
theorem ii_le {x M : Int32} {n : Nat} (hn : n < 2 ^ 30) (hM : M = nI n) (h : x < 0 ∨ nI (n + 1) ≤ x) {A C : Prop} (c : C) : ((x < 0) → C) ∧ (¬ (x < 0) → ((x ≤ M → A) ∧ (¬ x ≤ M → C))) :=
  ⟨fun _ => c, fun a => ⟨fun b => absurd h (fun z => z.elim a (fun y => by
    subst hM
    have h1 := Int32.le_iff_toInt_le.mp y
    have h2 := Int32.le_iff_toInt_le.mp b
    rw [nI_toInt (by omega)] at h1 h2
    omega)), fun _ => c⟩⟩
theorem i_lt {j n : Nat} {M : Int32} (hM : M = nI n) (hn : n < 2 ^ 30) (h : j < n) {A C C' : Prop} (a : A) : ((nI j < 0) → C) ∧ (¬ (nI j < 0) → ((nI j < M → A) ∧ (¬ nI j < M → C'))) :=
  ⟨fun z => absurd z (nI_pos (by omega)), fun _ => pk_lt j n (fun _ => a) (fun z => absurd z (by omega)) rfl hM⟩
theorem i_le {j n : Nat} {M : Int32} (hM : M = nI n) (hn : n < 2 ^ 30) (h : j ≤ n) {A C C' : Prop} (a : A) : ((nI j < 0) → C) ∧ (¬ (nI j < 0) → ((nI j ≤ M → A) ∧ (¬ nI j ≤ M → C'))) :=
  ⟨fun z => absurd z (nI_pos (by omega)), fun _ => pk_le j n (fun _ => a) (fun z => absurd z (by omega)) rfl hM⟩
theorem c_floorMod (x : Int32) {q : Int32 → MI → ML → Prop} (hq : q (nI (x.toInt % 3329).toNat) I L) : wp_J9_floorMod_7cf53 X J x 3329 I L q := by
  have h0 : (0 ≤ x ^^^ 3329) ↔ 0 ≤ x.toInt := by
    have hm : (x ^^^ 3329).toBitVec.msb = x.toBitVec.msb := by
      rw [Int32.toBitVec_xor, BitVec.msb_xor, show (3329 : Int32).toBitVec.msb = false by decide, Bool.xor_false]
    rw [BitVec.msb_eq_toInt, BitVec.msb_eq_toInt] at hm
    have h1 : (0 ≤ x ^^^ 3329) ↔ 0 ≤ (x ^^^ 3329).toInt := Int32.le_iff_toInt_le
    rw [h1]
    have h2 : ((x ^^^ 3329).toBitVec.toInt < 0) ↔ (x.toBitVec.toInt < 0) := by
      constructor
      · intro z; exact of_decide_eq_true (hm ▸ decide_eq_true z)
      · intro z; exact of_decide_eq_true (hm.symm ▸ decide_eq_true z)
    show 0 ≤ (x ^^^ 3329).toBitVec.toInt ↔ 0 ≤ x.toBitVec.toInt
    omega
  refine ⟨by decide, fun v ev => ?_⟩
  have hv : v.toInt = x.toInt.tmod 3329 := by rw [ev]; exact jrem_t x
  have key : ∀ t : Int32, t.toInt = x.toInt % 3329 → q t I L := fun t ht => by
    have : t = nI (x.toInt % 3329).toNat := by
      apply Int32.toInt_inj.mp
      rw [nI_toInt (by omega), ht]
      omega
    rw [this]; exact hq
  refine ⟨fun z => key v ?_, fun z => ⟨fun y => key v ?_, fun y => key (v + 3329) ?_⟩⟩
  · rw [hv, Int.tmod_eq_emod_of_nonneg (h0.mp z)]
  · have y0 : v.toInt = 0 := by rw [y]; rfl
    rw [y0]
    have := Int.tmod_eq_emod (a := x.toInt) (b := 3329)
    rw [← hv, y0] at this
    have hx : x.toInt < 0 := by
      have := mt h0.mpr z
      omega
    split at this <;> omega
  · have y0 : v.toInt ≠ 0 := fun w => y (Int32.toInt_inj.mp (by rw [w]; rfl))
    have := Int.tmod_eq_emod (a := x.toInt) (b := 3329)
    rw [← hv] at this
    have hx : ¬ 0 ≤ x.toInt := mt h0.mpr z
    have hs : (v + 3329).toInt = v.toInt + 3329 := by
      have hb : -3329 < v.toInt ∧ v.toInt ≤ 0 := by
        have t2 := this
        split at t2 <;> omega
      show (v + 3329).toInt = _
      rw [Int32.toInt_add]
      have : (3329 : Int32).toInt = 3329 := rfl
      rw [this, Int.bmod_eq_of_le (by omega) (by omega)]
    rw [hs]
    split at this <;> omega
theorem j_put (hV : VJ X J e) (h : Iv X J e S I) (x y w : Int32) : wp_X7_put X J 0 x y w I L (fun r I' L' => wp_X8_put X J mo x y w I' L' (fun r' I'' _ => Po X J e r r' I'')) := by
  obtain ⟨hL, hC, ⟨v0, v1, v2, v3, v4, v5, v6, v7, v8, v9, v10, v11⟩, vP, s13, s14⟩ := id hV
  obtain ⟨⟨j1, j2, j3, j4, j5, j6, j7, j8, j9⟩, s1, s2, s3, s4, s5, s6, s7, s8, s9⟩ := id hC
  rcases xs x 4 (by decide) with z | ⟨p, hp, rfl⟩
  · exact c_isP0 z ⟨fun _ => c_isQ0 z ⟨fun _ => same h, fun b => absurd rfl b⟩, fun b => absurd rfl b⟩
  rcases xs y 256 (by decide) with z | ⟨i, hi, rfl⟩
  · exact c_isP1 hp ⟨fun b => absurd b (by decide), fun _ => ii_lt rfl z (c_isQ1 hp ⟨fun b => absurd b (by decide), fun _ => ii_le (n := 255) (by decide) rfl z (same h)⟩)⟩
  have hr1 : vp_in (nI p) (sl X 13) := by rw [s13]; exact vp_in_nI hp (by decide)
  have hr2 : vp_in (nI i) (sl X (14 + p)) := by rw [s14 p hp]; exact vp_in_nI hi (by decide)
  have hj : J 13 (nI p).toNatClampNeg = some (14 + p) := by rw [nI_clamp (by omega)]; exact vP p hp
  refine c_isP1 hp ⟨fun b => absurd b (by decide), fun _ => i_lt rfl (by decide) hi ⟨13, v6, hr1, 14 + p, hj, c_floorMod w ⟨hr2, fun I1 e1 => ⟨hr1, 14 + p, hj, hr2, ?_⟩⟩⟩⟩
  rw [nI_clamp (n := i) (by omega)] at e1 ⊢
  generalize hv : (w.toInt % 3329).toNat = v at e1
  have hvb : v < 3329 := by omega
  have o1 : O1 I I1 (14 + p) := fun k hk => ms_o e1 hk
  have p1 : Pa I1 (14 + p) (va_up (S.2.2.1 p) i v) := fun j hj => by
    have := h.1.2.1 p hp j hj
    rw [ms_k e1]
    by_cases e : j = i
    · rw [e, va_up_self, va_up_self]; exact ⟨hvb, rfl⟩
    · rw [va_up_ne _ _ e, va_up_ne _ _ e]; exact this
  have a1 : I1 (14 + p) i = nI v := by rw [ms_k e1, va_up_self]
  rw [a1]
  have r1 := h.r (o1.r (by omega))
  refine c_isQ1 hp ⟨fun b => absurd b (by decide), fun _ => i_le (n := 255) rfl (by decide) (by omega) ⟨po, j7, c_ring (t := w.toInt) (by rw [Int32.toInt_toInt64]) ?_⟩⟩
  rw [e256, nI_clamp (n := 256 * p + i) (by omega), hv]
  have hin : vp_in (nI (256 * p + i)) (sl X po) := by rw [s7]; exact vp_in_nI (by omega) (by decide)
  refine ⟨hin, fun I2 e2 => ⟨hin, ?_⟩⟩
  have a2 : I2 po (256 * p + i) = nI v := by rw [ms_k e2, va_up_self]
  rw [a2]
  have f2 : FP I1 I2 p := ⟨fun k hk => ms_o e2 hk, fun j hj => by rw [ms_k e2, va_up_ne _ _ (by omega)]⟩
  have p2 : Pm I2 p (va_up (S.2.2.1 p) i v) := fun j hj => by
    have := r1.2.1 p hp j hj
    rw [ms_k e2]
    by_cases e : j = i
    · rw [e, va_up_self, va_up_self]; exact ⟨hvb, rfl⟩
    · rw [va_up_ne _ _ e, va_up_ne _ _ (by omega)]; exact this
  exact ⟨rfl, _, Iv_pol hp h o1 p1 (MF.x (lo := 0) (hi := 0) (P' := fun i => i = p) (P := fun i => i = p) (B := fun _ => False) (Z := fun _ => False) (FP.f f2 rfl) (fun i a b => by omega) (fun _ z => z)) p2 (fun _ z => absurd z id) (fun _ z => z) (fun p' z => by omega)⟩
theorem j_number (hV : VJ X J e) (h : Iv X J e S I) (x y : Int32) : wp_X7_number X J 0 x y I L (fun r I' L' => wp_X8_number X J mo x y I' L' (fun r' I'' _ => Po X J e r r' I'')) := by
  obtain ⟨hL, hC, ⟨v0, v1, v2, v3, v4, v5, v6, v7, v8, v9, v10, v11⟩, vP, s13, s14⟩ := id hV
  obtain ⟨⟨j1, j2, j3, j4, j5, j6, j7, j8, j9⟩, s1, s2, s3, s4, s5, s6, s7, s8, s9⟩ := id hC
  rcases xs x 4 (by decide) with z | ⟨p, hp, rfl⟩
  · exact c_isP0 z ⟨fun _ => c_isQ0 z ⟨fun _ => same h, fun b => absurd rfl b⟩, fun b => absurd rfl b⟩
  rcases xs y 256 (by decide) with z | ⟨i, hi, rfl⟩
  · exact c_isP1 hp ⟨fun b => absurd b (by decide), fun _ => ii_lt rfl z (c_isQ1 hp ⟨fun b => absurd b (by decide), fun _ => ii_le (n := 255) (by decide) rfl z (same h)⟩)⟩
  have hr1 : vp_in (nI p) (sl X 13) := by rw [s13]; exact vp_in_nI hp (by decide)
  have hr2 : vp_in (nI i) (sl X (14 + p)) := by rw [s14 p hp]; exact vp_in_nI hi (by decide)
  have hj : J 13 (nI p).toNatClampNeg = some (14 + p) := by rw [nI_clamp (by omega)]; exact vP p hp
  refine c_isP1 hp ⟨fun b => absurd b (by decide), fun _ => i_lt rfl (by decide) hi ⟨13, v6, hr1, 14 + p, hj, hr2, ?_⟩⟩
  rw [nI_clamp (n := i) (by omega), (h.1.2.1 p hp i hi).2]
  refine c_isQ1 hp ⟨fun b => absurd b (by decide), fun _ => i_le (n := 255) rfl (by decide) (by omega) ⟨po, j7, ?_⟩⟩
  rw [e256, nI_clamp (n := 256 * p + i) (by omega), (h.2.1.2.1 p hp i hi).2]
  exact ⟨by rw [s7]; exact vp_in_nI (by omega) (by decide), same h⟩
theorem j_encode (hV : VJ X J e) (h : Iv X J e S I) (x y : Int32) : wp_X7_encode X J 0 x y I L (fun r I' L' => wp_X8_encode X J mo x y I' L' (fun r' I'' _ => Po X J e r r' I'')) := by
  obtain ⟨hL, hC, ⟨v0, v1, v2, v3, v4, v5, v6, v7, v8, v9, v10, v11⟩, vP, s13, s14⟩ := id hV
  rcases xs x 4 (by decide) with z | ⟨p, hp, rfl⟩
  · exact c_isP0 z ⟨fun _ => c_isQ0 z ⟨fun _ => same h, fun b => absurd rfl b⟩, fun b => absurd rfl b⟩
  rcases dd y (n := 12) (by decide) with z | ⟨d, h1, h2, rfl⟩
  · exact c_isP1 hp ⟨fun b => absurd b (by decide), fun _ => dd_c rfl (by decide) z (c_isQ1 hp ⟨fun b => absurd b (by decide), fun _ => dd_c rfl (by decide) z (same h)⟩)⟩
  refine c_isP1 hp ⟨fun b => absurd b (by decide), fun _ => dd_i rfl (by decide) h1 h2 ⟨11, v5, ?_⟩⟩
  have ho : RC X J I 11 1000 (S.1 4) (S.2.1 4) := h.1.1 4 (by decide)
  refine c_clear ho.1 (fun I1 f1 r1 _ => ⟨13, v6, by rw [s13]; exact vp_in_nI hp (by decide), 14 + p, by rw [nI_clamp (by omega)]; exact vP p hp, ?_⟩)
  refine c_pack (s14 p hp) ((h.1.2.1 p hp).f (f1.1 _ (by omega) (by omega))) h1 h2 r1 ⟨by omega, by omega⟩ (by omega) (fun I2 f2 r2 b2 _ => ?_)
  rw [Nat.zero_add] at r2
  refine c_size r2 ?_
  have fr : ∀ k, k ≠ 11 → k ≠ 12 → I2 k = I k := fun k a b => by rw [f2.1 k a b, f1.1 k a b]
  have rr : RC X J I2 (cw 4) (rmW 4) (32 * d) (enc d (S.2.2.1 p)) := ⟨r2, fun i hi => by have := b2 i hi; rw [Nat.zero_add] at this; exact this⟩
  have cc : Cv X J I2 (setR S 4 (32 * d) (enc d (S.2.2.1 p))) := Cv_row h.1 (w := 4) (by decide) rr (fun k _ a b => fr k a b) (h.1.2.2.2.f (fun k hk => fr k (by omega) (by omega)))
  have q1 := h.r (I' := I2) (fun k hk => fr k (by omega) (by omega))
  refine c_isQ1 hp ⟨fun b => absurd b (by decide), fun _ => dd_i rfl (by decide) h1 h2 (c_written (to := 10336) hC (by omega) (q1.2.1 p hp) h1 h2 (by omega) (fun I3 f3 b3 I4 e4 => ?_))⟩
  rw [show (32 : Int32) * nI d = nI (32 * d) from pk_mul 32 d] at e4
  have sz : I4 mo 6 = nI (32 * d) := by rw [ms_k e4, va_up_self]
  rw [sz]
  have hx : RX I2 I4 (fun i => 10336 ≤ i ∧ i < 11336) (fun j => j = 6) (fun _ => False) := ((f3.f (lo := 10336) (hi := 10336 + 32 * d) (P := fun _ => False) (Nat.le_refl _) (Nat.le_refl _)).x (fun i a b => ⟨a, by omega⟩) (fun _ z => z)).trans (RX_sz e4 rfl)
  refine ⟨rfl, _, Cv_fr cc hx.c, Rv_row q1 (fun w hw => h.1.sz hw) hx (w := 4) (by decide) sz (fun i hi => ?_) (fun i a => Or.inl a) (fun j a => a) (fun p z => absurd z id), h.2.2⟩
  rw [← b3 i hi]
  unfold mb
  rw [ms_o e4 (by decide)]
  rfl
/-- the TAPE cleared on the class's side -/
theorem c_clr {q : MI → ML → Prop} (h : Cv X J I S) (hq : ∀ I', (∀ x, x ≠ 1 → x ≠ 2 → I' x = I x) → I' 2 = I 2 → Cv X J I' (setR S 5 0 (S.2.1 5)) → q I' L) : wp_X4_clear X J 1 I L q := by
  have ht : RC X J I 1 4000 (S.1 5) (S.2.1 5) := h.1 5 (by decide)
  refine c_clear ht.1 (fun I1 f1 r1 w1 => hq I1 (fun x a b => f1.1 x a b) w1 (Cv_row h (w := 5) (by decide) ⟨r1, fun i hi => absurd hi (by omega)⟩ (fun x _ a b => f1.1 x a b) (h.2.2.2.f (fun k hk => f1.1 k (by omega) (by omega)))))
theorem Rv_clr (h : Rv I S) (hc : ∀ w, w < 6 → S.1 w ≤ rmW w) {I' : MI} (e : I' = ms I mo 1 0) : Rv I' (setR S 5 0 (S.2.1 5)) :=
  Rv_row h hc (RX_sz (B := fun _ => False) (P := fun _ => False) (Z := fun j => j = 1) e rfl) (w := 5) (by decide) (by rw [ms_k e]; show va_up _ 1 0 1 = _; rw [va_up_self]; rfl) (fun i hi => absurd hi (by omega)) (fun i z => absurd z id) (fun j z => z) (fun p z => absurd z id)
theorem j_decode (hV : VJ X J e) (h : Iv X J e S I) (x y : Int32) : wp_X7_decode X J 0 x y I L (fun r I' L' => wp_X8_decode X J mo x y I' L' (fun r' I'' _ => Po X J e r r' I'')) := by
  obtain ⟨hL, hC, ⟨v0, v1, v2, v3, v4, v5, v6, v7, v8, v9, v10, v11⟩, vP, s13, s14⟩ := id hV
  have hsz := fun w hw => h.1.sz (w := w) hw
  have ht : RC X J I 1 4000 (S.1 5) (S.2.1 5) := h.1.1 5 (by decide)
  have hn5 : S.1 5 ≤ 4000 := ht.1.2.2.2.2.1
  rcases xs x 4 (by decide) with z | ⟨p, hp, rfl⟩
  · exact c_isP0 z ⟨fun _ => c_isQ0 z ⟨fun _ => same h, fun b => absurd rfl b⟩, fun b => absurd rfl b⟩
  rcases dd y (n := 12) (by decide) with z | ⟨d, h1, h2, rfl⟩
  · exact c_isP1 hp ⟨fun b => absurd b (by decide), fun _ => dd_c rfl (by decide) z (c_isQ1 hp ⟨fun b => absurd b (by decide), fun _ => dd_c rfl (by decide) z (same h)⟩)⟩
  refine c_isP1 hp ⟨fun b => absurd b (by decide), fun _ => dd_i rfl (by decide) h1 h2 ⟨1, v0, c_size ht.1 ?_⟩⟩
  rw [show (32 : Int32) * nI d = nI (32 * d) from pk_mul 32 d, nI_eq (by omega) (by omega)]
  refine ⟨fun z => ⟨fun _ => ⟨1, v0, c_clr h.1 (fun I1 f1 _ c1 => ⟨fun _ => ?_, fun b => absurd rfl b⟩)⟩, fun b => absurd rfl b⟩, fun z => ⟨fun b => absurd b (by decide), fun _ => ⟨13, v6, by rw [s13]; exact vp_in_nI hp (by decide), 14 + p, by rw [nI_clamp (by omega)]; exact vP p hp, 1, v0, ?_⟩⟩⟩
  · have q1 := h.r (I' := I1) (fun k hk => f1 k (by omega) (by omega))
    refine c_isQ1 hp ⟨fun b => absurd b (by decide), fun _ => dd_i rfl (by decide) h1 h2 ?_⟩
    intro x1 ex I2 e2
    rw [ex, show I1 mo 1 = nI (S.1 5) from (q1.1 5 (by decide)).1, show (32 : Int32) * nI d = nI (32 * d) from pk_mul 32 d, nI_eq (by omega) (by omega)]
    exact ⟨fun b => absurd b z, fun _ => ⟨rfl, _, Cv_fr c1 (RX_sz (B := fun _ => False) (P := fun _ => False) (Z := fun j => j = 1) e2 rfl).c, Rv_clr q1 hsz e2, h.2.2⟩⟩
  · refine c_unpack (s0 := 0) (s14 p hp) h1 h2 ht.1 ⟨by omega, by omega⟩ (by omega) (fun I1 o1 p1 => ?_)
    have p1' : Pa I1 (14 + p) (dec d (S.2.1 5)) := p1.c (fun i hi => dec_c (fun k hk => by rw [Nat.zero_add]; exact ht.2 k (by omega)) hi)
    have c1 : Cv X J I1 (setP S p (dec d (S.2.1 5))) := Cv_pol h.1 hp p1' (fun x _ hx => o1 x hx) (SH_o h.1.2.2.2 (by omega) o1)
    refine ⟨1, v0, c_clr c1 (fun I2 f2 _ c2 => ⟨fun b => absurd b (by decide), fun _ => ?_⟩)⟩
    have q2 := h.r (I' := I2) (fun k hk => by rw [f2 k (by omega) (by omega), o1 k (by omega)])
    refine c_isQ1 hp ⟨fun b => absurd b (by decide), fun _ => dd_i rfl (by decide) h1 h2 ?_⟩
    intro x1 ex I3 e3
    rw [ex, show I2 mo 1 = nI (S.1 5) from (q2.1 5 (by decide)).1, show (32 : Int32) * nI d = nI (32 * d) from pk_mul 32 d, nI_eq (by omega) (by omega)]
    refine ⟨fun _ => ?_, fun b => absurd z b⟩
    have q3 := Rv_clr q2 hsz e3
    refine c_readPol (fr := 0) hC (by omega) h1 h2 (by omega) (fun I4 f4 p4 => ?_)
    have b3 : Mb I3 0 (S.1 5) (S.2.1 5) := (RX_sz (B := fun _ => False) (P := fun _ => False) (Z := fun j => j = 1) e3 rfl).b (q2.1 5 (by decide)).2 (fun _ _ z => z)
    have p4' : Pm I4 p (dec d (S.2.1 5)) := p4.c (fun i hi => dec_c (fun k hk => b3 k (by omega)) hi)
    have x4 : RX I3 I4 (fun _ => False) (fun _ => False) (fun i => i = p) := MF.x (lo := 0) (hi := 0) (P' := fun i => i = p) (FP.f f4 rfl) (fun i a b => by omega) (fun _ z => z)
    have hsz2 : ∀ w, w < 6 → (setR S 5 0 (S.2.1 5)).1 w ≤ rmW w := fun w hw => by
      show va_up S.1 5 0 w ≤ _
      by_cases e5 : w = 5
      · rw [e5, va_up_self]; exact Nat.zero_le _
      · rw [va_up_ne _ _ e5]; exact hsz w hw
    exact ⟨rfl, _, Cv_fr (Cv_fr c2 (RX_sz (B := fun _ => False) (P := fun _ => False) (Z := fun j => j = 1) e3 rfl).c) x4.c, Rv_pol q3 hsz2 x4 p4' (fun _ z => absurd z id) (fun _ z => z) (fun p' z => Or.inl z), h.2.2⟩
end PL2
