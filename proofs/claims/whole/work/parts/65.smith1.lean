/-! ===== the class's Locksmith: its cells ===== -/
def LC (X : XT) (J : MJ) : Prop := (J 21 0 = some 18 ∧ J 21 1 = some 20 ∧ J 21 2 = some 22 ∧ J 21 3 = some 24 ∧ J 21 4 = some 26 ∧ J 21 5 = some 28 ∧ J 21 6 = some 30 ∧ J 21 7 = some 35 ∧ J 21 8 = some 36) ∧ J 20 0 = some 18 ∧ Spj X J 18 19 ∧ (∀ i, i < 4 → J 30 i = some (31 + i)) ∧ sl X 30 = 4 ∧ ∀ a, 31 ≤ a → a ≤ 37 → sl X a = 256
/-- a row and its BYTES -/
def RC (X : XT) (J : MJ) (I : MI) (r m n : Nat) (f : Nat → Nat) : Prop := Rw X J I r (r + 1) m n ∧ ∀ i, i < n → rb (I (r + 1)) i = f i
def SH (X : XT) (J : MJ) (I : MI) : Prop := (∃ n, Rw X J I 22 23 3168 n) ∧ (∃ n, Rw X J I 24 25 64 n) ∧ (∃ n, Rw X J I 26 27 32 n) ∧ ∃ n, Rw X J I 28 29 32 n
theorem enI_0 {e : Nat} (he : e < 3) : enI 0 e = nI (e + 2) := by rcases (show e = 0 ∨ e = 1 ∨ e = 2 by omega) with rfl | rfl | rfl <;> rfl
theorem enI_1 {e : Nat} (he : e < 3) : enI 1 e = nI (e1K (e + 2)) := by rcases (show e = 0 ∨ e = 1 ∨ e = 2 by omega) with rfl | rfl | rfl <;> rfl
theorem enI_2 {e : Nat} (he : e < 3) : enI 2 e = nI 2 := by rcases (show e = 0 ∨ e = 1 ∨ e = 2 by omega) with rfl | rfl | rfl <;> rfl
theorem enI_3 {e : Nat} (he : e < 3) : enI 3 e = nI (duK (e + 2)) := by rcases (show e = 0 ∨ e = 1 ∨ e = 2 by omega) with rfl | rfl | rfl <;> rfl
theorem enI_4 {e : Nat} (he : e < 3) : enI 4 e = nI (dvK (e + 2)) := by rcases (show e = 0 ∨ e = 1 ∨ e = 2 by omega) with rfl | rfl | rfl <;> rfl
theorem e1K_b (k : Nat) : e1K k = 2 ∨ e1K k = 3 := by unfold e1K; split <;> omega
theorem duK_b (k : Nat) : duK k = 10 ∨ duK k = 11 := by unfold duK; split <;> omega
theorem dvK_b (k : Nat) : dvK k = 4 ∨ dvK k = 5 := by unfold dvK; split <;> omega
section SM1
variable {X : XT} {J : MJ} {I : MI} {L : ML}
theorem RC.f {I' : MI} {r m n : Nat} {f : Nat → Nat} (h : RC X J I r m n f) (h1 : I' r = I r) (h2 : I' (r + 1) = I (r + 1)) : RC X J I' r m n f := ⟨h.1.frame h1, fun i hi => by rw [h2]; exact h.2 i hi⟩
theorem RC.c {r m n : Nat} {f g : Nat → Nat} (h : RC X J I r m n f) (hg : ∀ i, i < n → f i = g i) : RC X J I r m n g := ⟨h.1, fun i hi => by rw [h.2 i hi]; exact hg i hi⟩
theorem Pa.f {I' : MI} {a : Nat} {f : Nat → Nat} (h : Pa I a f) (h1 : I' a = I a) : Pa I' a f := fun j hj => ⟨(h j hj).1, by rw [h1]; exact (h j hj).2⟩
theorem Pa.c {a : Nat} {f g : Nat → Nat} (h : Pa I a f) (hg : ∀ i, i < 256 → f i = g i) : Pa I a g := fun j hj => by rw [← hg j hj]; exact h j hj
theorem tb_c {b b' : Nat → Nat} {n : Nat} (h : b (n / 8) = b' (n / 8)) : tb b n = tb b' n := by unfold tb; rw [h]
theorem gv_c {d : Nat} {b b' : Nat → Nat} {i : Nat} (h : ∀ k, 8 * k < d * i + d → b k = b' k) : gv d b i = gv d b' i := by
  unfold gv
  refine V_congr (fun j hj => tb_c (h _ (by omega)))
theorem dec_c {d : Nat} {b b' : Nat → Nat} (h : ∀ k, k < 32 * d → b k = b' k) {i : Nat} (hi : i < 256) : dec d b i = dec d b' i := by
  unfold dec
  have hm : d * i + d ≤ d * 256 := by
    have := Nat.mul_le_mul_left d (show i + 1 ≤ 256 by omega)
    rw [Nat.mul_add, Nat.mul_one] at this
    exact this
  rw [gv_c (fun k hk => h k (by omega))]
theorem c_fillI {a : Nat} (hl : sl X a = 256) {q : MI → ML → Prop} (hq : ∀ I', O1 I I' a → Pa I' a (fun _ => 0) → q I' L) : wp_J7_fill_53178 X J a 0 I L q := by
  intro x3 e3
  rw [e3, hl]
  refine pk_loop (σ := MI) (fun fu i I' => wl_J7_fill_53178_5 X J q a 0 (nI 256) fu (nI i) I' L) (fun i I' => O1 I I' a ∧ ∀ j, j < i → I' a j = nI 0) 256 0 I (Nat.zero_le _) ⟨fun _ _ => rfl, fun j hj => absurd hj (by omega)⟩ ?_ ?_
  · intro fu I1 ⟨a1, a2⟩
    exact pk_le 256 256 (fun _ => hq I1 a1 (fun j hj => ⟨(show (0 : Nat) < 3329 by decide), a2 j hj⟩)) (fun z => absurd z (by omega))
  · intro fu i I1 hi ⟨a1, a2⟩ ih
    refine pk_le 256 i (fun z => absurd z (by omega)) (fun _ => ?_)
    rw [hl, nI_clamp (n := i) (by omega)]
    refine ⟨vp_in_nI hi (by decide), fun I2 e2 x3 e3 => ?_⟩
    rw [e3, nI_1]
    refine ih I2 ⟨fun c hc => (ms_o e2 hc).trans (a1 c hc), fun j hj => ?_⟩
    rw [ms_k e2]
    by_cases e : j = i
    · subst e; rw [va_up_self]; rfl
    · rw [va_up_ne _ _ e]; exact a2 j (by omega)
theorem c_addT {A B : Nat} (hA : sl X A = 256) (hB : sl X B = 256) {f g : Nat → Nat} (hf : Pa I A f) (hg : Pa I B g) {q : MI → ML → Prop} (hq : ∀ I', O1 I I' A → Pa I' A (fun i => rad (f i) (g i)) → q I' L) : wp_X3_addTimes X J A B 1 I L q := by
  have := c_addTimes (J := J) (L := L) hA hB hf hg true (q := q) (fun I' o p => hq I' o (p.c (fun i _ => if_pos rfl)))
  rw [if_pos rfl] at this
  exact this
theorem c_addF {A B : Nat} (hA : sl X A = 256) (hB : sl X B = 256) {f g : Nat → Nat} (hf : Pa I A f) (hg : Pa I B g) {q : MI → ML → Prop} (hq : ∀ I', O1 I I' A → Pa I' A (fun i => rsb (f i) (g i)) → q I' L) : wp_X3_addTimes X J A B (-1) I L q := by
  have := c_addTimes (J := J) (L := L) hA hB hf hg false (q := q) (fun I' o p => hq I' o (p.c (fun i _ => if_neg (by decide))))
  rw [if_neg (by decide)] at this
  exact this
theorem c_addProduct (hL : LC X J) {c : Nat} (h1 : 31 ≤ c) (h2 : c ≤ 34) {t f s : Nat → Nat} (ht : Pa I 36 t) (hf : Pa I c f) (hs : Pa I 35 s) {q : MI → ML → Prop} (hq : ∀ I', (∀ k, k ≠ 35 → k ≠ 36 → I' k = I k) → Pa I' 35 (fun x => rad (s x) (prd t f x)) → q I' L) : wp_X1_addProduct X J 21 c I L q := by
  obtain ⟨⟨l0, l1, l2, l3, l4, l5, l6, l7, l8⟩, lS, lP, lv, s30, s256⟩ := id hL
  refine ⟨36, l8, c_mulPairs (s256 36 (by decide) (by decide)) (s256 c h1 (by omega)) (s256 36 (by decide) (by decide)) ht hf (fun I1 o1 p1 => ⟨35, l7, ?_⟩)⟩
  refine c_addT (s256 35 (by decide) (by decide)) (s256 36 (by decide) (by decide)) (hs.f (o1 35 (by decide))) p1 (fun I2 o2 p2 => hq I2 (fun k a b => (o2 k a).trans (o1 k b)) p2)
theorem c_unpackStretched {a : Nat} (hl : sl X a = 256) {d : Nat} (h1 : 1 ≤ d) (h : d ≤ 11) {r m n : Nat} {f : Nat → Nat} (hR : RC X J I r m n f) (hra : r ≠ a ∧ r + 1 ≠ a) {s0 : Nat} (hn : s0 + 32 * d ≤ n) {q : MI → ML → Prop}
    (hq : ∀ I', O1 I I' a → Pa I' a (fun i => dcm d (dec d (fun k => f (s0 + k)) i)) → q I' L) : wp_X1_unpackStretched X J a r (nI s0) (nI d) I L q := by
  refine c_unpack hl h1 (by omega) hR.1 hra hn (fun I1 o1 p1 => ?_)
  refine c_decompress hl (p1.c (fun i hi => dec_c (b' := fun k => f (s0 + k)) (fun k hk => hR.2 _ (by omega)) hi)) h1 h (fun I2 o2 p2 => hq I2 (fun k hk => (o2 k hk).trans (o1 k hk)) p2)
theorem c_packC (hL : LC X J) {d : Nat} (h1 : 1 ≤ d) (h : d ≤ 11) {s : Nat → Nat} (hs : Pa I 35 s) {n : Nat} {F : Nat → Nat} (hR : RC X J I 22 3168 n F) (hn : n + 32 * d ≤ 3168) (hF : ∀ i, i < 32 * d → F (n + i) = enc d (fun x => cmp d (s x)) i) {q : MI → ML → Prop}
    (hq : ∀ I', (∀ k, k ≠ 35 → k ≠ 22 → k ≠ 23 → I' k = I k) → RC X J I' 22 3168 (n + 32 * d) F → q I' L) : wp_X1_packCompressed X J 21 (nI d) I L q := by
  obtain ⟨⟨l0, l1, l2, l3, l4, l5, l6, l7, l8⟩, lS, lP, lv, s30, s256⟩ := id hL
  refine ⟨35, l7, c_compress (s256 35 (by decide) (by decide)) hs h1 h (fun I1 o1 p1 => ⟨22, l2, ?_⟩)⟩
  refine c_pack (s256 35 (by decide) (by decide)) p1 h1 (by omega) (hR.f (o1 22 (by decide)) (o1 23 (by decide))).1 ⟨by decide, by decide⟩ hn (fun I2 o2 r2 b2 k2 => hq I2 (fun k a b c => (o2.1 k b c).trans (o1 k a)) ⟨r2, fun i hi => ?_⟩)
  rcases Nat.lt_or_ge i n with z | z
  · rw [k2 i z, o1 23 (by decide)]; exact hR.2 i z
  · have := b2 (i - n) (by omega)
    rw [show n + (i - n) = i by omega] at this
    rw [this, ← hF (i - n) (by omega), show n + (i - n) = i by omega]
theorem c_pack12 (hL : LC X J) {a : Nat} (ha1 : 31 ≤ a) (ha2 : a ≤ 36) {s : Nat → Nat} (hs : Pa I a s) {n : Nat} {F : Nat → Nat} (hR : RC X J I 22 3168 n F) (hn : n + 384 ≤ 3168) (hF : ∀ i, i < 384 → F (n + i) = enc 12 s i) {q : MI → ML → Prop}
    (hq : ∀ I', (∀ k, k ≠ 22 → k ≠ 23 → I' k = I k) → RC X J I' 22 3168 (n + 384) F → q I' L) : wp_X0_pack X J a 12 22 I L q := by
  obtain ⟨⟨l0, l1, l2, l3, l4, l5, l6, l7, l8⟩, lS, lP, lv, s30, s256⟩ := id hL
  refine c_pack (d := 12) (s256 a ha1 (by omega)) hs (by decide) (by decide) hR.1 ⟨by omega, by omega⟩ hn (fun I2 o2 r2 b2 k2 => hq I2 (fun k b c => o2.1 k b c) ⟨r2, fun i hi => ?_⟩)
  rcases Nat.lt_or_ge i n with z | z
  · rw [k2 i z]; exact hR.2 i z
  · have := b2 (i - n) (by omega)
    rw [show n + (i - n) = i by omega] at this
    rw [this, ← hF (i - n) (by omega), show n + (i - n) = i by omega]
theorem c_partC {r m n r2 m2 n2 : Nat} {F f : Nat → Nat} (hR : RC X J I r m n F) (hR2 : RC X J I r2 m2 n2 f) (hd : r2 ≠ r ∧ r2 ≠ r + 1 ∧ r2 + 1 ≠ r ∧ r2 + 1 ≠ r + 1) {s0 cn : Nat} (hs : s0 + cn ≤ n2) (hn : n + cn ≤ m) (hF : ∀ i, i < cn → F (n + i) = f (s0 + i)) {q : MI → ML → Prop}
    (hq : ∀ I', (∀ k, k ≠ r → k ≠ r + 1 → I' k = I k) → (∀ j, j ≠ 2 → I' r j = I r j) → RC X J I' r m (n + cn) F → q I' L) : wp_X4_appendPart X J r r2 (nI s0) (nI cn) I L q := by
  refine c_appendPart hR.1 hR2.1 hd hs hn (fun I' f1 r1 b1 k1 => hq I' f1.1 f1.2 ⟨r1, fun i hi => ?_⟩)
  rcases Nat.lt_or_ge i n with z | z
  · rw [k1 i z]; exact hR.2 i z
  · have := b1 (i - n) (by omega)
    rw [show n + (i - n) = i by omega] at this
    rw [this, hR2.2 _ (by omega), ← hF (i - n) (by omega), show n + (i - n) = i by omega]
theorem c_tellSeeds (hL : LC X J) {rate sx : Nat} {s : KS × Nat} (h : Sp I L 18 19 rate sx s) (hp : s.2 < rate) {n0 : Nat} (hR : Rw X J I 24 25 64 n0) {q : MI → ML → Prop}
    (hq : ∀ I' L', (∀ k, k ≠ 18 → k ≠ 24 → k ≠ 25 → I' k = I k) → RC X J I' 24 64 64 (kO rate (kEn rate sx s)) → q I' L') : wp_X1_tellSeeds X J 21 I L q := by
  obtain ⟨⟨l0, l1, l2, l3, l4, l5, l6, l7, l8⟩, lS, lP, lv, s30, s256⟩ := id hL
  refine ⟨18, l0, c_finish lP h hp (fun I1 L1 f1 s1 => ⟨24, l3, ?_⟩)⟩
  refine c_clear (hR.frame (f1.1 24 (by decide))) (fun I2 f2 r2 w2 => ?_)
  have s2 : Sp I2 L1 18 19 rate sx (kS rate (kEn rate sx s) 0) := Sp_o s1 (f2.1 18 (by decide) (by decide))
  refine c_tellTo (cn := 64) lP s2 r2 ⟨by decide, by decide⟩ (by decide) (fun I3 L3 g1 _ _ _ _ r3 b3 _ => hq I3 L3 (fun k a b c => by rw [g1 k a b c, f2.1 k b c, f1.1 k a]) ⟨r3, fun i hi => ?_⟩)
  have := b3 i hi
  rw [Nat.zero_add] at this
  exact this
theorem c_tellDigest (hL : LC X J) {r m n : Nat} {f : Nat → Nat} (hR : RC X J I r m n f) (hr : r + 1 < 18 ∨ r = 22) {n0 : Nat} (hD : Rw X J I 28 29 32 n0) {s0 cn : Nat} (hs : s0 + cn ≤ n) {q : MI → ML → Prop}
    (hq : ∀ I' L', (∀ k, k ≠ 18 → k ≠ 28 → k ≠ 29 → I' k = I k) → RC X J I' 28 32 32 (xof 136 6 cn (fun i => f (s0 + i))) → q I' L') : wp_X1_tellDigest X J 21 r (nI s0) (nI cn) I L q := by
  obtain ⟨⟨l0, l1, l2, l3, l4, l5, l6, l7, l8⟩, lS, lP, lv, s30, s256⟩ := id hL
  refine ⟨18, l0, c_begin (k := 0) lP (by decide) (fun I1 L1 f1 _ _ s1 => ?_)⟩
  have s1' : Sp I1 L1 18 19 136 6 (kAb 136 (fun i => f (s0 + i)) 0) := s1
  refine c_absorb (f := fun i => f (s0 + i)) (n0 := 0) (cn := cn) lP s1' (hR.1.frame (f1 r (by omega))) ⟨by omega, by omega⟩ hs (fun i hi => by rw [Nat.zero_add, f1 (r + 1) (by omega)]; exact (hR.2 _ (by omega)).symm) (fun I2 L2 f2 s2 => ?_)
  rw [Nat.zero_add] at s2
  refine c_finish lP s2 (kAb_p (by decide) _ _) (fun I3 L3 f3 s3 => ⟨28, l5, ?_⟩)
  refine c_clear (hD.frame (by rw [f3.1 28 (by decide), f2.1 28 (by decide), f1 28 (by decide)])) (fun I4 f4 r4 w4 => ?_)
  have ex : xof 136 6 cn (fun i => f (s0 + i)) = kO 136 (kEn 136 6 (kAb 136 (fun i => f (s0 + i)) cn)) := rfl
  rw [ex] at hq
  generalize kEn 136 6 (kAb 136 (fun i => f (s0 + i)) cn) = S at s3 hq
  have s4 : Sp I4 L3 18 19 136 6 (kS 136 S 0) := Sp_o s3 (f4.1 18 (by decide) (by decide))
  refine c_tellTo (cn := 32) lP s4 r4 ⟨by decide, by decide⟩ (by decide) (fun I5 L5 g1 _ _ _ _ r5 b5 _ => hq I5 L5 (fun k a b c => by rw [g1 k a b c, f4.1 k b c, f3.1 k a, f2.1 k a, f1 k a]) ⟨r5, fun i hi => ?_⟩)
  have := b5 i hi
  rw [Nat.zero_add] at this
  exact this
theorem c_seedFrom (hL : LC X J) {r m n : Nat} {f mf : Nat → Nat} (hR : RC X J I r m n f) (hr : r + 1 < 18 ∨ r = 28) (hM : RC X J I 26 32 32 mf) {n0 : Nat} (hS : Rw X J I 24 25 64 n0) {s0 : Nat} (hs : s0 + 32 ≤ n) {q : MI → ML → Prop}
    (hq : ∀ I' L', (∀ k, k ≠ 18 → k ≠ 24 → k ≠ 25 → I' k = I k) → RC X J I' 24 64 64 (xof 72 6 64 (fun i => if i < 32 then mf i else f (s0 + (i - 32)))) → q I' L') : wp_X1_seedFromMessage X J 21 r (nI s0) I L q := by
  obtain ⟨⟨l0, l1, l2, l3, l4, l5, l6, l7, l8⟩, lS, lP, lv, s30, s256⟩ := id hL
  refine ⟨18, l0, c_begin (k := 1) lP (by decide) (fun I1 L1 f1 _ _ s1 => ⟨26, l4, ?_⟩)⟩
  generalize hg : (fun i => if i < 32 then mf i else f (s0 + (i - 32))) = g at hq
  have s1' : Sp I1 L1 18 19 72 6 (kAb 72 g 0) := s1
  refine c_absorb (f := g) (n0 := 0) (cn := 32) lP s1' (hM.1.frame (f1 26 (by decide))) ⟨by decide, by decide⟩ (st := 0) (by decide) (fun i hi => by rw [Nat.zero_add, f1 (26 + 1) (by decide), ← hg]; show (if i < 32 then mf i else _) = _; rw [if_pos hi]; exact (hM.2 _ hi).symm) (fun I2 L2 f2 s2 => ?_)
  rw [Nat.zero_add] at s2
  refine c_absorb (f := g) (n0 := 32) (cn := 32) lP s2 (hR.1.frame (by rw [f2.1 r (by omega), f1 r (by omega)])) ⟨by omega, by omega⟩ hs (fun i hi => by rw [f2.1 (r + 1) (by omega), f1 (r + 1) (by omega), ← hg]; show (if 32 + i < 32 then _ else f (s0 + (32 + i - 32))) = _; rw [if_neg (by omega), show 32 + i - 32 = i by omega]; exact (hR.2 _ (by omega)).symm) (fun I3 L3 f3 s3 => ?_)
  refine c_tellSeeds hL s3 (kAb_p (by decide) _ _) (hS.frame (by rw [f3.1 24 (by decide), f2.1 24 (by decide), f1 24 (by decide)])) (fun I4 L4 f4 r4 => hq I4 L4 (fun k a b c => by rw [f4 k a b c, f3.1 k a, f2.1 k a, f1 k a]) r4)
end SM1
