section ROWS2
variable {X : XT} {J : MJ} {I : MI} {L : ML} {r w m n r2 w2 m2 n2 : Nat}
theorem c_appendWord (h : Rw X J I r w m n) (hn : n + 4 ≤ m) (v : Int32) {q : MI → ML → Prop}
    (hq : ∀ I' : MI, Fr I I' r w → Rw X J I' r w m (n + 4) → (∀ i, i < 4 → rb (I' w) (n + i) = v.toBitVec.toNat / 2 ^ (24 - 8 * i) % 256) → (∀ j, j < n → rb (I' w) j = rb (I w) j) → q I' L) : wp_X4_appendWord X J r v I L q := by
  unfold wp_X4_appendWord
  refine c_append h (by omega) _ (fun I1 f1 r1 b1 o1 => ?_)
  refine c_append r1 (by omega) _ (fun I2 f2 r2 b2 o2 => ?_)
  refine c_append r2 (by omega) _ (fun I3 f3 r3 b3 o3 => ?_)
  refine c_append r3 (by omega) _ (fun I4 f4 r4 b4 o4 => hq I4 (((f1.trans f2).trans f3).trans f4) r4 (fun i hi => ?_) (fun j hj => ?_))
  · rcases (show i = 0 ∨ i = 1 ∨ i = 2 ∨ i = 3 by omega) with rfl | rfl | rfl | rfl
    · rw [o4 _ (by omega), o3 _ (by omega), o2 _ (by omega), Nat.add_zero, b1]
      rw [show (24 : Int32) = nI 24 from rfl, jushr_t _ (by decide)]
    · rw [o4 _ (by omega), o3 _ (by omega), b2]
      rw [show (16 : Int32) = nI 16 from rfl, jushr_t _ (by decide)]
    · rw [o4 _ (by omega), b3]
      rw [show (8 : Int32) = nI 8 from rfl, jushr_t _ (by decide)]
    · rw [b4]
      simp
  · rw [o4 _ (by omega), o3 _ (by omega), o2 _ (by omega), o1 _ hj]
theorem c_appendPart (h : Rw X J I r w m n) (h2 : Rw X J I r2 w2 m2 n2) (hrr : r2 ≠ r ∧ r2 ≠ w ∧ w2 ≠ r ∧ w2 ≠ w) {st cn : Nat} (hs : st + cn ≤ n2) (hn : n + cn ≤ m) {q : MI → ML → Prop}
    (hq : ∀ I' : MI, Fr I I' r w → Rw X J I' r w m (n + cn) → (∀ i, i < cn → rb (I' w) (n + i) = rb (I w2) (st + i)) → (∀ j, j < n → rb (I' w) j = rb (I w) j) → q I' L) : wp_X4_appendPart X J r r2 (nI st) (nI cn) I L q := by
  have hm2 : n2 ≤ 4000 := Nat.le_trans h2.2.2.2.2.1 h2.2.2.2.2.2.2
  refine pk_loop (σ := MI) (fun fu i I' => wl_X4_appendPart_3 X J q r r2 (nI st) (nI cn) fu (nI i) I' L) (fun i I' => Fr I I' r w ∧ Rw X J I' r w m (n + i) ∧ (∀ j, j < i → rb (I' w) (n + j) = rb (I w2) (st + j)) ∧ (∀ j, j < n → rb (I' w) j = rb (I w) j)) cn 0 I (Nat.zero_le _) ⟨Fr.rf, h, fun j hj => absurd hj (by omega), fun _ _ => rfl⟩ ?_ ?_
  · intro fu I' ⟨a, b, c, d⟩
    exact pk_le cn cn (fun _ => hq I' a b c d) (fun z => absurd z (by omega))
  · intro fu i I' hi ⟨a, b, c, d⟩ ih
    refine pk_le cn i (fun z => absurd z (by omega)) (fun _ => ?_)
    rw [nI_add]
    have hR2 : Rw X J I' r2 w2 m2 n2 := h2.frame (a.1 r2 hrr.1 hrr.2.1)
    refine c_byteAt hR2 (by omega) ?_
    refine c_append b (by omega) _ (fun I1 f1 r1 b1 o1 => ?_)
    intro x4 e4
    rw [e4, nI_1]
    refine ih I1 ⟨a.trans f1, r1, fun j hj => ?_, fun j hj => by rw [o1 j (by omega), d j hj]⟩
    by_cases e : j = i
    · subst e
      rw [b1, pk_tn (Nat.lt_of_lt_of_le (rb_lt _ _) (by decide)), Nat.mod_eq_of_lt (rb_lt _ _), a.1 w2 hrr.2.2.1 hrr.2.2.2]
    · rw [o1 _ (by omega), c j (by omega)]
theorem c_become (h : Rw X J I r w m n) (h2 : Rw X J I r2 w2 m2 n2) (hrr : r2 ≠ r ∧ r2 ≠ w ∧ w2 ≠ r ∧ w2 ≠ w) (hn : n2 ≤ m) {q : MI → ML → Prop}
    (hq : ∀ I' : MI, Fr I I' r w → Rw X J I' r w m n2 → (∀ i, i < n2 → rb (I' w) i = rb (I w2) i) → q I' L) : wp_X4_become X J r r2 I L q := by
  obtain ⟨h21, h22, h23, h24, h25, h26, h27⟩ := id h2
  obtain ⟨h11, h12, h13, h14, h15, h16, h17⟩ := id h
  unfold wp_X4_become
  rw [h24, h13]
  refine pk_le n2 m (fun _ => ?_) (fun z => absurd z (by omega))
  have e4 : (nI n2 + 3) / 4 = nI ((n2 + 3) / 4) := by
    rw [show (3 : Int32) = nI 3 from rfl, nI_add, show (4 : Int32) = nI 4 from rfl, pk_div (by omega) (by decide) (by decide)]
  rw [e4, nI_clamp (by omega), show (0 : Int32).toNatClampNeg = 0 from rfl]
  refine ⟨w2, h21, w, h11, by decide, by decide, nI_pos (by omega), by rw [h26]; omega, by rw [h16]; omega, fun I4 e4 I5 e5 => ?_⟩
  have hr2 : I4 r2 = I r2 := by rw [e4]; exact va_up_ne _ _ hrr.2.1
  have hr : I4 r = I r := by rw [e4]; exact va_up_ne _ _ h12
  have hw : I4 w = va_cpy (I w2) (I w) 0 0 ((n2 + 3) / 4) := by rw [e4, va_up_self]
  have hr5 : I5 r = va_up (I r) 2 (nI n2) := by rw [e5, ms_eq, hr, hr2, h24]
  have hw5 : I5 w = I4 w := by rw [e5]; exact ms_ne (Ne.symm h12)
  refine hq I5 ⟨fun k a b => by rw [e5, ms_ne a, e4, va_up_ne _ _ b], fun j hj => by rw [hr5, va_up_ne _ _ hj]⟩ ⟨h11, h12, by rw [hr5, va_up_ne _ _ (by decide)]; exact h13, by rw [hr5, va_up_self], hn, h16, h17⟩ (fun i hi => ?_)
  unfold rb
  rw [hw5, hw, pk_cpy_in (by omega) (by omega), show 0 + (i / 4 - 0) = i / 4 by omega]
theorem c_partIsSame (h : Rw X J I r w m n) (h2 : Rw X J I r2 w2 m2 n2) {st os cn : Nat} (hs : st + cn ≤ n) (ho : os + cn ≤ n2) {q : Int32 → MI → ML → Prop}
    (h1 : (∀ i, i < cn → rb (I w) (st + i) = rb (I w2) (os + i)) → q 1 I L) (h0 : ¬ (∀ i, i < cn → rb (I w) (st + i) = rb (I w2) (os + i)) → q 0 I L) : wp_X4_partIsSame X J r (nI st) r2 (nI os) (nI cn) I L q := by
  have hm2 : n2 ≤ 4000 := Nat.le_trans h2.2.2.2.2.1 h2.2.2.2.2.2.2
  have hm1 : n ≤ 4000 := Nat.le_trans h.2.2.2.2.1 h.2.2.2.2.2.2
  refine pk_loop (σ := Unit) (fun fu i _ => wl_X4_partIsSame_3 X J q r (nI st) r2 (nI os) (nI cn) fu (nI i) I L) (fun i _ => ∀ j, j < i → rb (I w) (st + j) = rb (I w2) (os + j)) cn 0 () (Nat.zero_le _) (fun j hj => absurd hj (by omega)) ?_ ?_
  · intro fu _ a
    exact pk_le cn cn (fun _ => h1 a) (fun z => absurd z (by omega))
  · intro fu i _ hi a ih
    refine pk_le cn i (fun z => absurd z (by omega)) (fun _ => ?_)
    rw [nI_add, nI_add]
    refine c_byteAt h (by omega) ?_
    refine c_byteAt h2 (by omega) ?_
    refine pk_eq (rb (I w) (st + i)) (rb (I w2) (os + i)) (fun e => ?_) (fun e => h0 (fun z => e (z i hi))) rfl rfl (Nat.lt_of_lt_of_le (rb_lt _ _) (by decide)) (Nat.lt_of_lt_of_le (rb_lt _ _) (by decide))
    intro x5 e5
    rw [e5, nI_1]
    refine ih () (fun j hj => ?_)
    by_cases e' : j = i
    · subst e'; exact e
    · exact a j (by omega)
theorem c_sameAs (h : Rw X J I r w m n) (h2 : Rw X J I r2 w2 m2 n2) {q : Int32 → MI → ML → Prop}
    (h1 : (n = n2 ∧ ∀ i, i < n → rb (I w) i = rb (I w2) i) → q 1 I L) (h0 : ¬ (n = n2 ∧ ∀ i, i < n → rb (I w) i = rb (I w2) i) → q 0 I L) : wp_X4_sameAs X J r r2 I L q := by
  have hm2 : n2 ≤ 4000 := Nat.le_trans h2.2.2.2.2.1 h2.2.2.2.2.2.2
  have hm1 : n ≤ 4000 := Nat.le_trans h.2.2.2.2.1 h.2.2.2.2.2.2
  unfold wp_X4_sameAs
  rw [h.2.2.2.1, h2.2.2.2.1]
  rw [nI_eq (by omega) (by omega)]
  refine ⟨fun z => h0 (fun y => z y.1), fun e => ?_⟩
  subst e
  refine c_partIsSame (st := 0) (os := 0) h h2 (by omega) (by omega) (fun a => ?_) (fun a => ?_)
  · exact ⟨fun z => absurd z (by decide), fun _ => h1 ⟨rfl, fun i hi => by simpa using a i hi⟩⟩
  · exact ⟨fun _ => h0 (fun y => a (fun i hi => by simpa using y.2 i hi)), fun z => absurd rfl z⟩
end ROWS2
