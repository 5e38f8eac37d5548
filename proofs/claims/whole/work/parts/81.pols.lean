def Po (X : XT) (J : MJ) (e : Nat) (r r' : Int32) (I : MI) : Prop := r = r' ∧ ∃ S', Iv X J e S' I
section PL
variable {X : XT} {J : MJ} {I : MI} {L : ML} {e : Nat} {S : VS}
theorem xs (x : Int32) (n : Nat) (hn : n < 2 ^ 31) : (x < 0 ∨ nI n ≤ x) ∨ ∃ j, j < n ∧ x = nI j := by
  rcases pk_ix x hn with h | h | h
  · exact Or.inl (Or.inl h)
  · exact Or.inl (Or.inr h)
  · exact Or.inr h
theorem xs_i {x : Int32} {n : Nat} (hn : n < 2 ^ 31) (h : x < 0 ∨ nI n ≤ x) : x.toInt < 0 ∨ (n : Int) ≤ x.toInt := by
  rcases h with h | h
  · exact Or.inl (Int32.lt_iff_toInt_lt.mp h)
  · have := Int32.le_iff_toInt_le.mp h
    rw [nI_toInt hn] at this
    exact Or.inr this
theorem xs_ne {x : Int32} {n j : Nat} (hn : n < 2 ^ 31) (h : x < 0 ∨ nI n ≤ x) (hj : j < n) : ¬ x = nI j := by
  intro z
  have := xs_i hn h
  rw [z, nI_toInt (by omega)] at this
  omega
theorem c_isP0 {x : Int32} (h : x < 0 ∨ nI 4 ≤ x) {q : Int32 → MI → ML → Prop} (hq : q 0 I L) : wp_X7_isPolynomial X J x I L q :=
  ⟨fun _ => hq, fun a => ⟨fun _ => hq, fun b => absurd h (fun z => z.elim a b)⟩⟩
theorem c_isP1 {p : Nat} (hp : p < 4) {q : Int32 → MI → ML → Prop} (hq : q 1 I L) : wp_X7_isPolynomial X J (nI p) I L q :=
  ⟨fun a => absurd a (nI_pos (by omega)), fun _ => pk_le 4 p (fun z => absurd z (by omega)) (fun _ => hq)⟩
theorem c_isQ0 {x : Int32} (h : x < 0 ∨ nI 4 ≤ x) {q : Int32 → MI → ML → Prop} (hq : q 0 I L) : wp_X8_isPol X J x I L q :=
  ⟨fun _ => hq, fun a => ⟨fun _ => hq, fun b => absurd h (fun z => z.elim a (fun y => b (Int32.lt_of_lt_of_le (show (3 : Int32) < nI 4 by decide) y)))⟩⟩
theorem c_isQ1 {p : Nat} (hp : p < 4) {q : Int32 → MI → ML → Prop} (hq : q 1 I L) : wp_X8_isPol X J (nI p) I L q :=
  ⟨fun a => absurd a (nI_pos (by omega)), fun _ => pk_lt 3 p (fun z => absurd z (by omega)) (fun _ => hq)⟩
theorem Iv.r (h : Iv X J e S I) {I' : MI} (fr : ∀ x, 38 ≤ x → I' x = I x) : Rv I' S := Rv_fr h.2.1 fr
theorem same {r : Int32} (h : Iv X J e S I) : Po X J e r r I := ⟨rfl, S, h⟩
theorem O1.r {a : Nat} {I' : MI} (ha : a < 38) (h : O1 I I' a) : ∀ x, 38 ≤ x → I' x = I x := fun x hx => h x (by omega)
theorem SH_o {I' : MI} (h : SH X J I) {a : Nat} (ha : a < 22 ∨ 29 < a) (o : O1 I I' a) : SH X J I' := h.f (fun x hx => o x (by omega))
/-- a polynomial new on both sides -/
theorem Iv_pol {I1 I2 : MI} {p : Nat} (hp : p < 4) {f : Nat → Nat} (h : Iv X J e S I) (o : O1 I I1 (14 + p)) (c : Pa I1 (14 + p) f) {B Z P : Nat → Prop} (x : RX I1 I2 B Z P) (m : Pm I2 p f) (hB : ∀ i, B i → 11336 ≤ i) (hZ : ∀ j, ¬ Z j) (hP : ∀ p', P p' → p' = p ∨ 4 ≤ p') : Iv X J e (setP S p f) I2 := by
  have c1 : Cv X J I1 (setP S p f) := Cv_pol h.1 hp c (fun y _ hy => o y hy) (SH_o h.1.2.2.2 (by omega) o)
  have r1 : Rv I1 S := h.r (o.r (by omega))
  exact ⟨Cv_fr c1 x.c, Rv_pol r1 (fun w hw => h.1.sz hw) x m hB hZ hP, h.2.2⟩
theorem j_forward (hV : VJ X J e) (h : Iv X J e S I) (x : Int32) : wp_X7_forward X J 0 x I L (fun r I' L' => wp_X8_forward X J mo x I' L' (fun r' I'' _ => Po X J e r r' I'')) := by
  obtain ⟨hL, hC, ⟨v0, v1, v2, v3, v4, v5, v6, v7, v8, v9, v10, v11⟩, vP, s13, s14⟩ := id hV
  rcases xs x 4 (by decide) with z | ⟨p, hp, rfl⟩
  · exact c_isP0 z ⟨fun y => absurd rfl y, fun _ => c_isQ0 z ⟨fun y => absurd rfl y, fun _ => same h⟩⟩
  · refine c_isP1 hp ⟨fun _ => ⟨13, v6, by rw [s13]; exact vp_in_nI hp (by decide), 14 + p, by rw [nI_clamp (by omega)]; exact vP p hp, ?_⟩, fun y => absurd y (by decide)⟩
    refine c_toPairs (s14 p hp) (h.1.2.1 p hp) (fun I1 o1 p1 => ?_)
    refine c_isQ1 hp ⟨fun _ => ?_, fun y => absurd y (by decide)⟩
    have r1 := h.r (o1.r (by omega))
    refine c_fw (lo := 11336) (hi := 11336) (P := fun i => i = p ∨ i = 18) hC r1.2.2.2.2.1 (by omega) (r1.2.1 p hp) (Or.inl rfl) (Or.inr rfl) (fun I2 f2 _ p2 => ?_)
    exact ⟨rfl, _, Iv_pol hp h o1 p1 (f2.x (B := fun _ => False) (Z := fun _ => False) (fun i a b => by omega) (fun _ z => z)) p2 (fun _ z => absurd z id) (fun _ z => z) (fun p' z => by omega)⟩
theorem j_back (hV : VJ X J e) (h : Iv X J e S I) (x : Int32) : wp_X7_back X J 0 x I L (fun r I' L' => wp_X8_back X J mo x I' L' (fun r' I'' _ => Po X J e r r' I'')) := by
  obtain ⟨hL, hC, ⟨v0, v1, v2, v3, v4, v5, v6, v7, v8, v9, v10, v11⟩, vP, s13, s14⟩ := id hV
  rcases xs x 4 (by decide) with z | ⟨p, hp, rfl⟩
  · exact c_isP0 z ⟨fun y => absurd rfl y, fun _ => c_isQ0 z ⟨fun y => absurd rfl y, fun _ => same h⟩⟩
  · refine c_isP1 hp ⟨fun _ => ⟨13, v6, by rw [s13]; exact vp_in_nI hp (by decide), 14 + p, by rw [nI_clamp (by omega)]; exact vP p hp, ?_⟩, fun y => absurd y (by decide)⟩
    refine c_fromPairs (s14 p hp) (h.1.2.1 p hp) (fun I1 o1 p1 => ?_)
    refine c_isQ1 hp ⟨fun _ => ?_, fun y => absurd y (by decide)⟩
    have r1 := h.r (o1.r (by omega))
    refine c_bw (lo := 11336) (hi := 11336) (P := fun i => i = p ∨ i = 18) hC r1.2.2.2.2.1 (by omega) (r1.2.1 p hp) (Or.inl rfl) (Or.inr rfl) (fun I2 f2 _ p2 => ?_)
    exact ⟨rfl, _, Iv_pol hp h o1 p1 (f2.x (B := fun _ => False) (Z := fun _ => False) (fun i a b => by omega) (fun _ z => z)) p2 (fun _ z => absurd z id) (fun _ z => z) (fun p' z => by omega)⟩
theorem j_pairs (hV : VJ X J e) (h : Iv X J e S I) (x y w : Int32) : wp_X7_pairs X J 0 x y w I L (fun r I' L' => wp_X8_pairs X J mo x y w I' L' (fun r' I'' _ => Po X J e r r' I'')) := by
  obtain ⟨hL, hC, ⟨v0, v1, v2, v3, v4, v5, v6, v7, v8, v9, v10, v11⟩, vP, s13, s14⟩ := id hV
  rcases xs x 4 (by decide) with z | ⟨p, hp, rfl⟩
  · exact c_isP0 z ⟨fun _ => c_isQ0 z ⟨fun _ => same h, fun b => absurd rfl b⟩, fun b => absurd rfl b⟩
  rcases xs y 4 (by decide) with z | ⟨p2, hp2, rfl⟩
  · exact c_isP1 hp ⟨fun b => absurd b (by decide), fun _ => c_isP0 z ⟨fun _ => c_isQ1 hp ⟨fun b => absurd b (by decide), fun _ => c_isQ0 z ⟨fun _ => same h, fun b => absurd rfl b⟩⟩, fun b => absurd rfl b⟩⟩
  rcases xs w 4 (by decide) with z | ⟨p3, hp3, rfl⟩
  · exact c_isP1 hp ⟨fun b => absurd b (by decide), fun _ => c_isP1 hp2 ⟨fun b => absurd b (by decide), fun _ => c_isP0 z ⟨fun b => absurd rfl b, fun _ => c_isQ1 hp ⟨fun b => absurd b (by decide), fun _ => c_isQ1 hp2 ⟨fun b => absurd b (by decide), fun _ => c_isQ0 z ⟨fun b => absurd rfl b, fun _ => same h⟩⟩⟩⟩⟩⟩
  refine c_isP1 hp ⟨fun b => absurd b (by decide), fun _ => c_isP1 hp2 ⟨fun b => absurd b (by decide), fun _ => c_isP1 hp3 ⟨fun _ => ⟨13, v6, by rw [s13]; exact vp_in_nI hp (by decide), 14 + p, by rw [nI_clamp (by omega)]; exact vP p hp, by rw [s13]; exact vp_in_nI hp2 (by decide), 14 + p2, by rw [nI_clamp (by omega)]; exact vP p2 hp2, by rw [s13]; exact vp_in_nI hp3 (by decide), 14 + p3, by rw [nI_clamp (by omega)]; exact vP p3 hp3, ?_⟩, fun b => absurd b (by decide)⟩⟩⟩
  refine c_mulPairs (s14 p hp) (s14 p2 hp2) (s14 p3 hp3) (h.1.2.1 p hp) (h.1.2.1 p2 hp2) (fun I1 o1 p1 => ?_)
  refine c_isQ1 hp ⟨fun b => absurd b (by decide), fun _ => c_isQ1 hp2 ⟨fun b => absurd b (by decide), fun _ => c_isQ1 hp3 ⟨fun _ => ?_, fun b => absurd b (by decide)⟩⟩⟩
  have r1 := h.r (o1.r (by omega))
  refine c_mprod (to := 17) hC r1.2.2.2.2.1 (by omega) (by omega) (by decide) (by omega) (by omega) (r1.2.1 p hp) (r1.2.1 p2 hp2) (s := fun _ => 0) false (fun b => absurd b (by decide)) (fun I2 f2 q2 => ?_)
  have q2' : Pm I2 17 (prd (S.2.2.1 p) (S.2.2.1 p2)) := q2.c (fun i _ => if_neg (by decide))
  refine c_copyPol (p := 17) hC (by decide) (by omega) (by omega) q2' (fun I3 f3 q3 => ?_)
  have x2 : RX I1 I3 (fun _ => False) (fun _ => False) (fun i => i = p3 ∨ i = 17) := (MF.x (lo := 0) (hi := 0) (P' := fun i => i = 17) (FP.f f2 rfl) (fun i a b => by omega) (fun _ z => Or.inr z)).trans (MF.x (lo := 0) (hi := 0) (P' := fun i => i = p3) (FP.f f3 rfl) (fun i a b => by omega) (fun _ z => Or.inl z))
  exact ⟨rfl, _, Iv_pol hp3 h o1 p1 x2 q3 (fun _ z => absurd z id) (fun _ z => z) (fun p' z => by omega)⟩
theorem j_add (hV : VJ X J e) (h : Iv X J e S I) (x y w : Int32) : wp_X7_add X J 0 x y w I L (fun r I' L' => wp_X8_add X J mo x y w I' L' (fun r' I'' _ => Po X J e r r' I'')) := by
  obtain ⟨hL, hC, ⟨v0, v1, v2, v3, v4, v5, v6, v7, v8, v9, v10, v11⟩, vP, s13, s14⟩ := id hV
  rcases xs x 4 (by decide) with z | ⟨p, hp, rfl⟩
  · exact c_isP0 z ⟨fun _ => c_isQ0 z ⟨fun _ => same h, fun b => absurd rfl b⟩, fun b => absurd rfl b⟩
  rcases xs y 4 (by decide) with z | ⟨p2, hp2, rfl⟩
  · exact c_isP1 hp ⟨fun b => absurd b (by decide), fun _ => c_isP0 z ⟨fun _ => c_isQ1 hp ⟨fun b => absurd b (by decide), fun _ => c_isQ0 z ⟨fun _ => same h, fun b => absurd rfl b⟩⟩, fun b => absurd rfl b⟩⟩
  have main : ∀ sg : Bool, w = (if sg then 1 else -1) → wj_X7_add_26 X J (fun r I' L' => wp_X8_add X J mo (nI p) (nI p2) w I' L' (fun r' I'' _ => Po X J e r r' I'')) 0 (nI p) (nI p2) w I L := by
    intro sg hw
    refine ⟨13, v6, by rw [s13]; exact vp_in_nI hp (by decide), 14 + p, by rw [nI_clamp (by omega)]; exact vP p hp, by rw [s13]; exact vp_in_nI hp2 (by decide), 14 + p2, by rw [nI_clamp (by omega)]; exact vP p2 hp2, ?_⟩
    subst hw
    refine c_addTimes (s14 p hp) (s14 p2 hp2) (h.1.2.1 p hp) (h.1.2.1 p2 hp2) sg (fun I1 o1 p1 => ?_)
    have r1 := h.r (o1.r (by omega))
    have fin : wj_X8_add_26 X J (fun r' I'' _ => Po X J e 1 r' I'') mo (nI p) (nI p2) (if sg then 1 else -1) I1 L := by
      refine c_copyPol (p' := 17) hC (by omega) (by decide) (by omega) (r1.2.1 p2 hp2) (fun I2 f2 q2 => ?_)
      refine c_plus (p' := 17) hC (by omega) (by decide) (by omega) (f2.o (by omega) (r1.2.1 p hp)) q2 sg (fun I3 f3 q3 => ?_)
      have x2 : RX I1 I3 (fun _ => False) (fun _ => False) (fun i => i = p ∨ i = 17) := (MF.x (lo := 0) (hi := 0) (P' := fun i => i = 17) (FP.f f2 rfl) (fun i a b => by omega) (fun _ z => Or.inr z)).trans (MF.x (lo := 0) (hi := 0) (P' := fun i => i = p) (FP.f f3 rfl) (fun i a b => by omega) (fun _ z => Or.inl z))
      exact ⟨rfl, _, Iv_pol hp h o1 p1 x2 q3 (fun _ z => absurd z id) (fun _ z => z) (fun p' z => by omega)⟩
    refine c_isQ1 hp ⟨fun b => absurd b (by decide), fun _ => c_isQ1 hp2 ⟨fun b => absurd b (by decide), fun _ => ⟨fun _ => fin, fun b => ⟨fun _ => fin, fun c => ?_⟩⟩⟩⟩
    cases sg
    · exact absurd rfl c
    · exact absurd rfl b
  refine c_isP1 hp ⟨fun b => absurd b (by decide), fun _ => c_isP1 hp2 ⟨fun b => absurd b (by decide), fun _ => ⟨fun z => main true z, fun z1 => ⟨fun z => main false z, fun z2 => ?_⟩⟩⟩⟩
  exact c_isQ1 hp ⟨fun b => absurd b (by decide), fun _ => c_isQ1 hp2 ⟨fun b => absurd b (by decide), fun _ => ⟨fun z => absurd z z1, fun _ => ⟨fun z => absurd z z2, fun _ => same h⟩⟩⟩⟩
theorem dd (x : Int32) {n : Nat} (hn : n < 2 ^ 30) : (x < 1 ∨ nI (n + 1) ≤ x) ∨ ∃ d, 1 ≤ d ∧ d ≤ n ∧ x = nI d := by
  rcases xs x (n + 1) (by omega) with (z | z) | ⟨d, hd, rfl⟩
  · exact Or.inl (Or.inl (Int32.lt_of_lt_of_le z (by decide)))
  · exact Or.inl (Or.inr z)
  · by_cases e0 : d = 0
    · exact Or.inl (Or.inl (by rw [e0]; decide))
    · exact Or.inr ⟨d, by omega, by omega, rfl⟩
theorem dd_c {x M : Int32} {n : Nat} (hM : M = nI n) (hn : n < 2 ^ 30) (h : x < 1 ∨ nI (n + 1) ≤ x) {A C : Prop} (c : C) : ((x < 1) → C) ∧ (¬ (x < 1) → ((x ≤ M → A) ∧ (¬ x ≤ M → C))) :=
  ⟨fun _ => c, fun a => ⟨fun b => absurd h (fun z => z.elim a (fun y => by
    subst hM
    have h1 := Int32.le_iff_toInt_le.mp y
    have h2 := Int32.le_iff_toInt_le.mp b
    rw [nI_toInt (by omega)] at h1 h2
    omega)), fun _ => c⟩⟩
theorem dd_i {d n : Nat} {M : Int32} (hM : M = nI n) (hn : n < 2 ^ 30) (h1 : 1 ≤ d) (h2 : d ≤ n) {A C C' : Prop} (a : A) : ((nI d < 1) → C) ∧ (¬ (nI d < 1) → ((nI d ≤ M → A) ∧ (¬ nI d ≤ M → C'))) :=
  pk_lt d 1 (fun z => absurd z (by omega)) (fun _ => pk_le d n (fun _ => a) (fun z => absurd z (by omega)) rfl hM)
theorem j_press (hV : VJ X J e) (h : Iv X J e S I) (x y : Int32) : wp_X7_press X J 0 x y I L (fun r I' L' => wp_X8_press X J mo x y I' L' (fun r' I'' _ => Po X J e r r' I'')) := by
  obtain ⟨hL, hC, ⟨v0, v1, v2, v3, v4, v5, v6, v7, v8, v9, v10, v11⟩, vP, s13, s14⟩ := id hV
  rcases xs x 4 (by decide) with z | ⟨p, hp, rfl⟩
  · exact c_isP0 z ⟨fun _ => c_isQ0 z ⟨fun _ => same h, fun b => absurd rfl b⟩, fun b => absurd rfl b⟩
  rcases dd y (n := 11) (by decide) with z | ⟨d, h1, h2, rfl⟩
  · exact c_isP1 hp ⟨fun b => absurd b (by decide), fun _ => dd_c rfl (by decide) z (c_isQ1 hp ⟨fun b => absurd b (by decide), fun _ => dd_c rfl (by decide) z (same h)⟩)⟩
  refine c_isP1 hp ⟨fun b => absurd b (by decide), fun _ => dd_i rfl (by decide) h1 h2 ⟨13, v6, by rw [s13]; exact vp_in_nI hp (by decide), 14 + p, by rw [nI_clamp (by omega)]; exact vP p hp, ?_⟩⟩
  refine c_compress (s14 p hp) (h.1.2.1 p hp) h1 h2 (fun I1 o1 p1 => ?_)
  have r1 := h.r (o1.r (by omega))
  refine c_isQ1 hp ⟨fun b => absurd b (by decide), fun _ => dd_i rfl (by decide) h1 h2 (c_pressed hC (by omega) (r1.2.1 p hp) h1 h2 (fun I2 f2 q2 => ?_))⟩
  exact ⟨rfl, _, Iv_pol hp h o1 p1 (MF.x (lo := 0) (hi := 0) (P' := fun i => i = p) (P := fun i => i = p) (B := fun _ => False) (Z := fun _ => False) (FP.f f2 rfl) (fun i a b => by omega) (fun _ z => z)) q2 (fun _ z => absurd z id) (fun _ z => z) (fun p' z => by omega)⟩
theorem j_stretch (hV : VJ X J e) (h : Iv X J e S I) (x y : Int32) : wp_X7_stretch X J 0 x y I L (fun r I' L' => wp_X8_stretch X J mo x y I' L' (fun r' I'' _ => Po X J e r r' I'')) := by
  obtain ⟨hL, hC, ⟨v0, v1, v2, v3, v4, v5, v6, v7, v8, v9, v10, v11⟩, vP, s13, s14⟩ := id hV
  rcases xs x 4 (by decide) with z | ⟨p, hp, rfl⟩
  · exact c_isP0 z ⟨fun _ => c_isQ0 z ⟨fun _ => same h, fun b => absurd rfl b⟩, fun b => absurd rfl b⟩
  rcases dd y (n := 11) (by decide) with z | ⟨d, h1, h2, rfl⟩
  · exact c_isP1 hp ⟨fun b => absurd b (by decide), fun _ => dd_c rfl (by decide) z (c_isQ1 hp ⟨fun b => absurd b (by decide), fun _ => dd_c rfl (by decide) z (same h)⟩)⟩
  refine c_isP1 hp ⟨fun b => absurd b (by decide), fun _ => dd_i rfl (by decide) h1 h2 ⟨13, v6, by rw [s13]; exact vp_in_nI hp (by decide), 14 + p, by rw [nI_clamp (by omega)]; exact vP p hp, ?_⟩⟩
  refine c_decompress (s14 p hp) (h.1.2.1 p hp) h1 h2 (fun I1 o1 p1 => ?_)
  have r1 := h.r (o1.r (by omega))
  refine c_isQ1 hp ⟨fun b => absurd b (by decide), fun _ => dd_i rfl (by decide) h1 h2 (c_stretched hC (by omega) (r1.2.1 p hp) h1 h2 (fun I2 f2 q2 => ?_))⟩
  exact ⟨rfl, _, Iv_pol hp h o1 p1 (MF.x (lo := 0) (hi := 0) (P' := fun i => i = p) (P := fun i => i = p) (B := fun _ => False) (Z := fun _ => False) (FP.f f2 rfl) (fun i a b => by omega) (fun _ z => z)) q2 (fun _ z => absurd z id) (fun _ z => z) (fun p' z => by omega)⟩
end PL
