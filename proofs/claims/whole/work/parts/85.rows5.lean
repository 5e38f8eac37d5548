section RW5
variable {X : XT} {J : MJ} {I : MI} {L : ML} {e : Nat} {S : VS}
theorem c_rowOf (hV : VJ X J e) {w : Nat} (hw : w < 6) {q : Option Nat → MI → ML → Prop} (hq : q (some (cw w)) I L) : wp_X7_rowOf X J 0 (nI w) I L q := by
  obtain ⟨hL, hC, ⟨v0, v1, v2, v3, v4, v5, v6, v7, v8, v9, v10, v11⟩, vP, s13, s14⟩ := id hV
  rcases (show w = 0 ∨ w = 1 ∨ w = 2 ∨ w = 3 ∨ w = 4 ∨ w = 5 by omega) with rfl | rfl | rfl | rfl | rfl | rfl
  · exact ⟨fun b => absurd b (by decide), fun _ => ⟨_, v1, hq⟩, fun b => absurd b (by decide), fun b => absurd b (by decide), fun b => absurd b (by decide), fun b => absurd b (by decide), fun b => absurd b (by decide)⟩
  · exact ⟨fun b => absurd b (by decide), fun b => absurd b (by decide), fun _ => ⟨_, v2, hq⟩, fun b => absurd b (by decide), fun b => absurd b (by decide), fun b => absurd b (by decide), fun b => absurd b (by decide)⟩
  · exact ⟨fun b => absurd b (by decide), fun b => absurd b (by decide), fun b => absurd b (by decide), fun _ => ⟨_, v3, hq⟩, fun b => absurd b (by decide), fun b => absurd b (by decide), fun b => absurd b (by decide)⟩
  · exact ⟨fun b => absurd b (by decide), fun b => absurd b (by decide), fun b => absurd b (by decide), fun b => absurd b (by decide), fun _ => ⟨_, v4, hq⟩, fun b => absurd b (by decide), fun b => absurd b (by decide)⟩
  · exact ⟨fun b => absurd b (by decide), fun b => absurd b (by decide), fun b => absurd b (by decide), fun b => absurd b (by decide), fun b => absurd b (by decide), fun _ => ⟨_, v5, hq⟩, fun b => absurd b (by decide)⟩
  · exact ⟨fun b => absurd b (by decide), fun b => absurd b (by decide), fun b => absurd b (by decide), fun b => absurd b (by decide), fun b => absurd b (by decide), fun b => absurd b (by decide), fun _ => ⟨_, v0, hq⟩⟩
theorem c_rowOut {x : Int32} (z : x < 0 ∨ nI 6 ≤ x) {q : Option Nat → MI → ML → Prop} (hq : q none I L) : wp_X7_rowOf X J 0 x I L q :=
  ⟨fun _ => hq, fun b => absurd b (xs_ne (by decide) z (by decide)), fun b => absurd b (xs_ne (by decide) z (by decide)), fun b => absurd b (xs_ne (by decide) z (by decide)), fun b => absurd b (xs_ne (by decide) z (by decide)), fun b => absurd b (xs_ne (by decide) z (by decide)), fun b => absurd b (xs_ne (by decide) z (by decide))⟩
theorem c_len {w : Nat} (hw : w < 6) {q : Int32 → MI → ML → Prop} (hq : q (I mo (sfW w)) I L) : wp_X8_length X J mo (nI w) I L q := by
  rcases (show w = 0 ∨ w = 1 ∨ w = 2 ∨ w = 3 ∨ w = 4 ∨ w = 5 by omega) with rfl | rfl | rfl | rfl | rfl | rfl
  · exact ⟨fun b => absurd b (by decide), fun _ => hq, fun b => absurd b (by decide), fun b => absurd b (by decide), fun b => absurd b (by decide), fun b => absurd b (by decide), fun b => absurd b (by decide)⟩
  · exact ⟨fun b => absurd b (by decide), fun b => absurd b (by decide), fun _ => hq, fun b => absurd b (by decide), fun b => absurd b (by decide), fun b => absurd b (by decide), fun b => absurd b (by decide)⟩
  · exact ⟨fun b => absurd b (by decide), fun b => absurd b (by decide), fun b => absurd b (by decide), fun _ => hq, fun b => absurd b (by decide), fun b => absurd b (by decide), fun b => absurd b (by decide)⟩
  · exact ⟨fun b => absurd b (by decide), fun b => absurd b (by decide), fun b => absurd b (by decide), fun b => absurd b (by decide), fun _ => hq, fun b => absurd b (by decide), fun b => absurd b (by decide)⟩
  · exact ⟨fun b => absurd b (by decide), fun b => absurd b (by decide), fun b => absurd b (by decide), fun b => absurd b (by decide), fun b => absurd b (by decide), fun _ => hq, fun b => absurd b (by decide)⟩
  · exact ⟨fun b => absurd b (by decide), fun b => absurd b (by decide), fun b => absurd b (by decide), fun b => absurd b (by decide), fun b => absurd b (by decide), fun b => absurd b (by decide), fun _ => hq⟩
theorem c_lenOut {x : Int32} (z : x < 0 ∨ nI 6 ≤ x) {q : Int32 → MI → ML → Prop} (hq : q (-1) I L) : wp_X8_length X J mo x I L q :=
  ⟨fun _ => hq, fun b => absurd b (xs_ne (by decide) z (by decide)), fun b => absurd b (xs_ne (by decide) z (by decide)), fun b => absurd b (xs_ne (by decide) z (by decide)), fun b => absurd b (xs_ne (by decide) z (by decide)), fun b => absurd b (xs_ne (by decide) z (by decide)), fun b => absurd b (xs_ne (by decide) z (by decide))⟩
theorem j_length (hV : VJ X J e) (h : Iv X J e S I) (x : Int32) : wp_X7_length X J 0 x I L (fun r I' L' => wp_X8_length X J mo x I' L' (fun r' I'' _ => Po X J e r r' I'')) := by
  rcases xs x 6 (by decide) with z | ⟨w, hw, rfl⟩
  · exact c_rowOut z ⟨fun _ => c_lenOut z (same h), fun r b => by cases b⟩
  · refine c_rowOf hV hw ⟨fun b => absurd b (Option.some_ne_none _), fun r b => ?_⟩
    cases b
    refine c_size (h.1.1 w hw).1 (c_len hw ?_)
    rw [(h.2.1.1 w hw).1]
    exact same h
theorem j_at (hV : VJ X J e) (h : Iv X J e S I) (x y : Int32) : wp_X7_at X J 0 x y I L (fun r I' L' => wp_X8_at X J mo x y I' L' (fun r' I'' _ => Po X J e r r' I'')) := by
  obtain ⟨hL, hC, ⟨v0, v1, v2, v3, v4, v5, v6, v7, v8, v9, v10, v11⟩, vP, s13, s14⟩ := id hV
  rcases xs x 6 (by decide) with z | ⟨w, hw, rfl⟩
  · refine c_rowOut z ⟨fun _ => ⟨fun _ => same h, fun a => c_lenOut z ⟨fun b => ?_, fun _ => same h⟩⟩, fun r b => by cases b⟩
    exact absurd (Int32.lt_trans b (show (-1 : Int32) < 0 by decide)) a
  · refine c_rowOf hV hw ⟨fun b => absurd b (Option.some_ne_none _), fun r b => ?_⟩
    cases b
    have hb := (h.1.1 w hw)
    have hs := h.1.sz hw
    have hr := rm_b w hw
    have h1 := (h.2.1.1 w hw).1
    rcases xs y (S.1 w) (by omega) with z | ⟨i, hi, rfl⟩
    · refine c_byteOut hb.1 z ⟨fun _ => same h, fun a => c_len hw ?_⟩
      rw [h1]
      exact ⟨fun b => absurd z (fun z => z.elim a (fun y => Int32.not_lt.mpr y b)), fun _ => same h⟩
    · refine c_byteAt hb.1 hi ⟨fun b => absurd b (nI_pos (by omega)), fun _ => c_len hw ?_⟩
      rw [h1, hb.2 i hi]
      have m1 := (h.2.1.1 w hw).2 i hi
      have fin : ∀ z0, z0 = nI (mbs w) → wj_X8_at_70 X J (fun r' I'' _ => Po X J e (nI (S.2.1 w i)) r' I'') mo (nI i) z0 I L := by
        intro z0 ez
        subst ez
        show wp_X8_byteAt X J mo (nI (mbs w) + nI i) I L _
        rw [nI_add]
        refine c_mbyteAt hC (by omega) ?_
        rw [m1]
        exact same h
      refine pk_lt i (S.1 w) (fun _ => ?_) (fun b => absurd b (by omega))
      rcases (show w = 0 ∨ w = 1 ∨ w = 2 ∨ w = 3 ∨ w = 4 ∨ w = 5 by omega) with rfl | rfl | rfl | rfl | rfl | rfl
      · exact ⟨fun b => absurd rfl b, fun _ => fin _ rfl⟩
      · exact ⟨fun _ => ⟨fun b => absurd rfl b, fun _ => fin _ rfl⟩, fun b => absurd b (by decide)⟩
      · exact ⟨fun _ => ⟨fun _ => ⟨fun b => absurd rfl b, fun _ => fin _ rfl⟩, fun b => absurd b (by decide)⟩, fun b => absurd b (by decide)⟩
      · exact ⟨fun _ => ⟨fun _ => ⟨fun _ => ⟨fun b => absurd rfl b, fun _ => fin _ rfl⟩, fun b => absurd b (by decide)⟩, fun b => absurd b (by decide)⟩, fun b => absurd b (by decide)⟩
      · exact ⟨fun _ => ⟨fun _ => ⟨fun _ => ⟨fun _ => ⟨fun b => absurd rfl b, fun _ => fin _ rfl⟩, fun b => absurd b (by decide)⟩, fun b => absurd b (by decide)⟩, fun b => absurd b (by decide)⟩, fun b => absurd b (by decide)⟩
      · exact ⟨fun _ => ⟨fun _ => ⟨fun _ => ⟨fun _ => ⟨fun _ => fin _ rfl, fun b => absurd b (by decide)⟩, fun b => absurd b (by decide)⟩, fun b => absurd b (by decide)⟩, fun b => absurd b (by decide)⟩, fun b => absurd b (by decide)⟩
theorem j_take (hV : VJ X J e) (h : Iv X J e S I) (x : Int32) : wp_X7_take X J 0 x I L (fun r I' L' => wp_X8_take X J mo x I' L' (fun r' I'' _ => Po X J e r r' I'')) := by
  obtain ⟨hL, hC, ⟨v0, v1, v2, v3, v4, v5, v6, v7, v8, v9, v10, v11⟩, vP, s13, s14⟩ := id hV
  have hsz := fun w hw => h.1.sz (w := w) hw
  have ht : RC X J I 1 4000 (S.1 5) (S.2.1 5) := h.1.1 5 (by decide)
  rcases xs x 5 (by decide) with z | ⟨w, hw, rfl⟩
  · have k1 : wp_X8_take X J mo x I L (fun r' I'' _ => Po X J e (-1) r' I'') := ii_le (n := 4) (by decide) rfl z (same h)
    refine ⟨fun a => c_rowOut (z.elim Or.inl (fun y => ?_)) ⟨fun _ => k1, fun r b => by cases b⟩, fun _ => k1⟩
    rcases xs x 6 (by decide) with y2 | ⟨j, hj, rfl⟩
    · exact y2
    · exact absurd (show nI j = 5 by
        have := (nI_leI (by decide) (by omega)).mp y
        rw [show j = 5 by omega]; rfl) a
  · have hw6 : w < 6 := by omega
    have hb := (h.1.1 w hw6)
    have hs := h.1.sz hw6
    have hr := rm_b w hw6
    have hcw : cw w = 2 * w + 3 := by unfold cw; rw [if_neg (by omega)]
    refine ⟨fun _ => c_rowOf hV hw6 ⟨fun b => absurd b (Option.some_ne_none _), fun r b => ?_⟩, fun b => absurd b (by rcases (show w = 0 ∨ w = 1 ∨ w = 2 ∨ w = 3 ∨ w = 4 by omega) with rfl | rfl | rfl | rfl | rfl <;> decide)⟩
    cases b
    refine ⟨1, v0, c_become ht.1 hb.1 ⟨by omega, by omega, by omega, by omega⟩ (by omega) (fun I1 f1 r1 b1 => c_size r1 ?_)⟩
    have c1 : Cv X J I1 (setR S 5 (S.1 w) (S.2.1 w)) := Cv_row h.1 (w := 5) (by decide) ⟨r1, fun i hi => (b1 i hi).trans (hb.2 i hi)⟩ (fun k _ a b => f1.1 k a b) (h.1.2.2.2.f (fun k hk => f1.1 k (by omega) (by omega)))
    have q1 := h.r (I' := I1) (fun k hk => f1.1 k (by omega) (by omega))
    have h1 := (q1.1 w hw6).1
    have hmb : 4000 ≤ mbs w := by rcases (show w = 0 ∨ w = 1 ∨ w = 2 ∨ w = 3 ∨ w = 4 by omega) with rfl | rfl | rfl | rfl | rfl <;> decide
    have fin : ∀ z0, z0 = nI (mbs w) → wj_X8_take_57 X J (fun r' I'' _ => Po X J e (nI (S.1 w)) r' I'') mo (nI w) z0 I1 L := by
      intro z0 ez
      subst ez
      refine c_len hw6 ?_
      rw [h1]
      refine c_copy (to := 0) hC (by omega) (by omega) (by omega) (fun I2 f2 b2 I3 e3 => ?_)
      have x3 : RX I1 I3 (fun i => i < 4000) (fun j => j = 1) (fun _ => False) := ((f2.f (lo := 0) (hi := S.1 w) (P := fun _ => False) (Nat.le_refl _) (by omega)).x (fun i a b => by omega) (fun _ z => z)).trans (RX_sz e3 rfl)
      refine ⟨rfl, _, Cv_fr c1 x3.c, Rv_row q1 hsz x3 (w := 5) (by decide) (by rw [ms_k e3]; show va_up _ 1 _ 1 = _; rw [va_up_self]) (fun i hi => ?_) (fun i z => Or.inl ⟨Nat.zero_le _, by show i < 0 + 4000; omega⟩) (fun j z => z) (fun p z => absurd z id), h.2.2⟩
      have a1 := b2 i hi
      have a2 := (q1.1 w hw6).2 i hi
      rw [← a2, ← a1]
      unfold mb
      rw [ms_o e3 (by decide)]
      rfl
    refine i_le (n := 4) rfl (by decide) (by omega) ?_
    rcases (show w = 0 ∨ w = 1 ∨ w = 2 ∨ w = 3 ∨ w = 4 by omega) with rfl | rfl | rfl | rfl | rfl
    · exact ⟨fun b => absurd rfl b, fun _ => fin _ rfl⟩
    · exact ⟨fun _ => ⟨fun b => absurd rfl b, fun _ => fin _ rfl⟩, fun b => absurd b (by decide)⟩
    · exact ⟨fun _ => ⟨fun _ => ⟨fun b => absurd rfl b, fun _ => fin _ rfl⟩, fun b => absurd b (by decide)⟩, fun b => absurd b (by decide)⟩
    · exact ⟨fun _ => ⟨fun _ => ⟨fun _ => ⟨fun b => absurd rfl b, fun _ => fin _ rfl⟩, fun b => absurd b (by decide)⟩, fun b => absurd b (by decide)⟩, fun b => absurd b (by decide)⟩
    · exact ⟨fun _ => ⟨fun _ => ⟨fun _ => ⟨fun _ => fin _ rfl, fun b => absurd b (by decide)⟩, fun b => absurd b (by decide)⟩, fun b => absurd b (by decide)⟩, fun b => absurd b (by decide)⟩
def fdW (a b c d f : Int32) (j : Nat) : Int32 := if j < 4 then a else if j < 8 then b else if j < 12 then c else if j < 16 then d else f
def fdB (a b c d f : Int32) (j : Nat) : Nat := (fdW a b c d f j).toBitVec.toNat / 2 ^ (24 - 8 * (j % 4)) % 256
def fdF (n : Nat) (g : Nat → Nat) (a b c d f : Int32) (i : Nat) : Nat := if i < n then g i else fdB a b c d f (i - n)
theorem sh_b (z : Int32) {s : Nat} (hs : s ≤ 24) : (jshr z (nI s)).toBitVec.toNat % 256 = z.toBitVec.toNat / 2 ^ s % 256 := by
  apply nat_ext
  intro b
  rw [show (256 : Nat) = 2 ^ 8 from rfl, Nat.testBit_mod_two_pow, Nat.testBit_mod_two_pow]
  by_cases hb : b < 8
  · rw [decide_eq_true hb, Bool.true_and, Bool.true_and, Nat.testBit_div_two_pow, Nat.add_comm]
    have := b_sshr s (by omega) z (i := b) (by omega)
    rw [if_pos (by omega)] at this
    exact this
  · simp [hb]
theorem j_feed (hV : VJ X J e) (h : Iv X J e S I) (a b c d f : Int32) : wp_X7_feed X J 0 a b c d f I L (fun r I' L' => wp_X8_feed X J mo a b c d f I' L' (fun r' I'' _ => Po X J e r r' I'')) := by
  obtain ⟨hL, hC, ⟨v0, v1, v2, v3, v4, v5, v6, v7, v8, v9, v10, v11⟩, vP, s13, s14⟩ := id hV
  obtain ⟨⟨j1, j2, j3, j4, j5, j6, j7, j8, j9⟩, s1, s2, s3, s4, s5, s6, s7, s8, s9⟩ := id hC
  have hsz := fun w hw => h.1.sz (w := w) hw
  have ht : RC X J I 1 4000 (S.1 5) (S.2.1 5) := h.1.1 5 (by decide)
  have hn5 : S.1 5 ≤ 4000 := ht.1.2.2.2.2.1
  have h1 : I mo 1 = nI (S.1 5) := (h.2.1.1 5 (by decide)).1
  refine ⟨1, v0, c_size ht.1 (pk_le (S.1 5 + 20) 4000 (fun z => ?_) (fun z => pk_le (S.1 5 + 20) 4000 (fun y => absurd y (by omega)) (fun _ => same h) (by rw [h1]; exact nI_add (S.1 5) 20)) (nI_add (S.1 5) 20))⟩
  generalize hn : S.1 5 = n at *
  generalize hF : S.2.1 5 = F at *
  refine c_appendWord ht.1 (by omega) a (fun I1 f1 r1 b1 o1 => ?_)
  refine c_appendWord r1 (by omega) b (fun I2 f2 r2 b2 o2 => ?_)
  refine c_appendWord r2 (by omega) c (fun I3 f3 r3 b3 o3 => ?_)
  refine c_appendWord r3 (by omega) d (fun I4 f4 r4 b4 o4 => ?_)
  refine c_appendWord r4 (by omega) f (fun I5 f5 r5 b5 o5 => c_size r5 ?_)
  have F5 : Fr I I5 1 2 := (((f1.trans f2).trans f3).trans f4).trans f5
  have R5 : RC X J I5 1 4000 (n + 20) (fdF n F a b c d f) := ⟨r5, fun i hi => by
    unfold fdF
    rcases Nat.lt_or_ge i n with y | y
    · rw [if_pos y, o5 i (by omega), o4 i (by omega), o3 i (by omega), o2 i (by omega), o1 i y]; exact ht.2 i y
    · rw [if_neg (by omega)]
      unfold fdB fdW
      by_cases c4 : i - n < 4
      · rw [if_pos c4, o5 i (by omega), o4 i (by omega), o3 i (by omega), o2 i (by omega)]
        have := b1 (i - n) c4
        rw [show n + (i - n) = i by omega] at this
        rw [this, Nat.mod_eq_of_lt c4]
      by_cases c8 : i - n < 8
      · rw [if_neg c4, if_pos c8, o5 i (by omega), o4 i (by omega), o3 i (by omega)]
        have := b2 (i - n - 4) (by omega)
        rw [show n + 4 + (i - n - 4) = i by omega] at this
        rw [this, show (i - n) % 4 = i - n - 4 by omega]
      by_cases c12 : i - n < 12
      · rw [if_neg c4, if_neg c8, if_pos c12, o5 i (by omega), o4 i (by omega)]
        have := b3 (i - n - 8) (by omega)
        rw [show n + 4 + 4 + (i - n - 8) = i by omega] at this
        rw [this, show (i - n) % 4 = i - n - 8 by omega]
      by_cases c16 : i - n < 16
      · rw [if_neg c4, if_neg c8, if_neg c12, if_pos c16, o5 i (by omega)]
        have := b4 (i - n - 12) (by omega)
        rw [show n + 4 + 4 + 4 + (i - n - 12) = i by omega] at this
        rw [this, show (i - n) % 4 = i - n - 12 by omega]
      · rw [if_neg c4, if_neg c8, if_neg c12, if_neg c16]
        have := b5 (i - n - 16) (by omega)
        rw [show n + 4 + 4 + 4 + 4 + (i - n - 16) = i by omega] at this
        rw [this, show (i - n) % 4 = i - n - 16 by omega]⟩
  have c5 : Cv X J I5 (setR S 5 (n + 20) (fdF n F a b c d f)) := Cv_row h.1 (w := 5) (by decide) R5 (fun k _ a b => F5.1 k a b) (h.1.2.2.2.f (fun k hk => F5.1 k (by omega) (by omega)))
  have q5 := h.r (I' := I5) (fun k hk => F5.1 k (by omega) (by omega))
  have g5 : I5 mo 1 = nI n := by rw [← hn]; exact (q5.1 5 (by decide)).1
  refine pk_le (n + 20) 4000 (fun _ => ?_) (fun y => absurd y (by omega)) (by rw [g5]; exact nI_add n 20)
  have B5 : Mb I5 0 n F := by rw [← hn, ← hF]; exact (q5.1 5 (by decide)).2
  refine pk_loop (σ := MI) (fun fu j I' => wl_X8_feed_18 X J _ mo a b c d f fu (nI j) I' L) (fun j I' => RX I5 I' (fun i => i < 4000) (fun j => j = 1) (fun _ => False) ∧ I' mo 1 = nI (n + j) ∧ Mb I' 0 (n + j) (fdF n F a b c d f)) 20 0 I5 (by decide) ⟨RX.rf, g5, fun i hi => by rw [B5 i hi]; unfold fdF; rw [if_pos (by omega)]⟩ ?_ ?_
  · intro fu I6 ⟨x6, z6, b6⟩
    refine pk_le 20 20 (fun _ => ?_) (fun y => absurd y (by omega))
    rw [z6]
    exact ⟨rfl, _, Cv_fr c5 x6.c, Rv_row q5 hsz x6 (w := 5) (by decide) z6 b6 (fun i z => Or.inl ⟨Nat.zero_le _, by show i < 0 + 4000; omega⟩) (fun j z => z) (fun p z => absurd z id), h.2.2⟩
  · intro fu j I6 hj ⟨x6, z6, b6⟩ ih
    refine pk_le 20 j (fun y => absurd y (by omega)) (fun _ => ?_)
    have fin : ∀ z0, z0 = fdW a b c d f j → wj_X8_feed_71 X J (fun r' I'' _ => Po X J e (nI (n + 4 + 4 + 4 + 4 + 4)) r' I'') (wl_X8_feed_18 X J (fun r' I'' _ => Po X J e (nI (n + 4 + 4 + 4 + 4 + 4)) r' I'') mo a b c d f fu) mo a b c d f (nI j) z0 I6 L := by
      intro z0 ez
      refine ⟨me, j1, ?_⟩
      rw [z6, show (0 : Int32) + nI (n + j) = nI (n + j) by rw [show (0 : Int32) = nI 0 from rfl, nI_add, Nat.zero_add], nI_clamp (n := n + j) (by omega), show (4 : Int32) = nI 4 from rfl, jrem_n (by omega) (by decide) (by decide), show (8 : Int32) = nI 8 from rfl, pk_mul, show (24 : Int32) = nI 24 from rfl, pk_sub (a := 24) (b := 8 * (j % 4)) (by omega)]
      refine ⟨by rw [s1]; exact vp_in_nI (by omega) (by decide), fun I7 e7 I8 e8 x6' e6 => ?_⟩
      have w7 : I7 mo 1 = nI (n + j) := by rw [ms_o e7 (by decide)]; exact z6
      rw [w7, nI_1] at e8
      rw [e6, nI_1]
      refine ih I8 ⟨(x6.trans (((FW_up e7).f (lo := n + j) (hi := n + j + 1) (P := fun _ => False) (Nat.le_refl _) (Nat.le_refl _)).x (fun i a b => by omega) (fun _ z => z))).trans (RX_sz e8 rfl), by rw [ms_k e8, va_up_self, Nat.add_assoc], fun i hi => ?_⟩
      have m8 : mb I8 (0 + i) = mb I7 (0 + i) := by unfold mb; rw [ms_o e8 (by decide)]
      rw [m8]
      by_cases ei : i = n + j
      · rw [ei, Nat.zero_add, mb_up e7, sh_b _ (by omega), ez]
        unfold fdF fdB
        rw [if_neg (by omega), show n + j - n = j by omega]
      · rw [mb_un e7 (by omega)]
        exact b6 i (by omega)
    unfold fdW at fin
    refine pk_le 4 j (fun y4 => pk_le 8 j (fun y8 => pk_le 12 j (fun y12 => pk_le 16 j (fun y16 => ?_) (fun y16 => ?_)) (fun y12 => ?_)) (fun y8 => ?_)) (fun y4 => ?_)
    · exact fin f (by rw [if_neg (by omega), if_neg (by omega), if_neg (by omega), if_neg (by omega)])
    · exact fin d (by rw [if_neg (by omega), if_neg (by omega), if_neg (by omega), if_pos (by omega)])
    · exact fin c (by rw [if_neg (by omega), if_neg (by omega), if_pos (by omega)])
    · exact fin b (by rw [if_neg (by omega), if_pos (by omega)])
    · exact fin a (by rw [if_pos (by omega)])
end RW5
