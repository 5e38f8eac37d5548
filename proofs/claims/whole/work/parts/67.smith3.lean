/-! ===== LOCKED, UNLOCKED ===== -/
def rhF (k : Nat) (key : Nat → Nat) (x : Nat) : Nat := key (384 * k + x)
def kyP (key : Nat → Nat) (j : Nat) : Nat → Nat := dec 12 (fun x => key (384 * j + x))
def uLk (k : Nat) (sd key : Nat → Nat) (most i : Nat) : Nat → Nat → Nat := acc (fun _ => 0) (fun j => uP (rhF k key) i j most) (skP k sd)
def uLf (k : Nat) (sd key : Nat → Nat) (most i x : Nat) : Nat := rad (bk (uLk k sd key most i k) x) (nP 2 (sgF sd) (k + i) x)
def vLk (k : Nat) (sd key : Nat → Nat) : Nat → Nat → Nat := acc (fun _ => 0) (kyP key) (skP k sd)
def vLf (k : Nat) (sd key mf : Nat → Nat) (x : Nat) : Nat := rad (rad (bk (vLk k sd key k) x) (nP 2 (sgF sd) (2 * k) x)) (dcm 1 (dec 1 mf x))
def ctF (k : Nat) (sd key : Nat → Nat) (most : Nat) (mf : Nat → Nat) (x : Nat) : Nat :=
  if x < 32 * duK k * k then enc (duK k) (fun y => cmp (duK k) (uLf k sd key most (x / (32 * duK k)) y)) (x % (32 * duK k)) else enc (dvK k) (fun y => cmp (dvK k) (vLf k sd key mf y)) (x - 32 * duK k * k)
def lkOK (k : Nat) (key : Nat → Nat) (most : Nat) : Prop := ∀ i, i < k → ∀ j, j < k → uR (rhF k key) i j most ≠ 0
theorem ps_d {W i x : Nat} (h : x < W) : (W * i + x) / W = i := by rw [Nat.mul_add_div (by omega), Nat.div_eq_of_lt h, Nat.add_zero]
theorem ps_m {W i x : Nat} (h : x < W) : (W * i + x) % W = x := by rw [Nat.mul_add_mod, Nat.mod_eq_of_lt h]
theorem ps_b {W i k : Nat} (h : i < k) : W * i + W ≤ W * k := by
  have := Nat.mul_le_mul_left W (show i + 1 ≤ k by omega)
  rw [Nat.mul_add, Nat.mul_one] at this
  exact this
theorem ctF_u {k : Nat} {sd key mf : Nat → Nat} {most i x : Nat} (hi : i < k) (hx : x < 32 * duK k) : ctF k sd key most mf (32 * duK k * i + x) = enc (duK k) (fun y => cmp (duK k) (uLf k sd key most i y)) x := by
  have := ps_b (W := 32 * duK k) hi
  unfold ctF
  rw [if_pos (by omega), ps_d hx, ps_m hx]
theorem ctF_v {k : Nat} {sd key mf : Nat → Nat} {most x : Nat} : ctF k sd key most mf (32 * duK k * k + x) = enc (dvK k) (fun y => cmp (dvK k) (vLf k sd key mf y)) x := by
  unfold ctF
  rw [if_neg (by omega), Nat.add_sub_cancel_left]
theorem Wk {k : Nat} (hk : k ≤ 4) : 32 * duK k * k ≤ 1408 := by
  have h := duK_b k
  exact Nat.mul_le_mul (show 32 * duK k ≤ 352 by omega) hk
theorem sR_le (t : Nat → Nat) : ∀ m, sR t m ≤ m
  | 0 => Nat.le_refl _
  | m + 1 => by
    have := sR_le t m
    unfold sR
    split
    · split <;> omega
    · omega
theorem sR_ne (t : Nat → Nat) {m : Nat} (hm : m < 1000) : ¬ nI (sR t m) = -2 ∧ ¬ nI (sR t m) = -1 := by
  have := nI_pos (n := sR t m) (by have := sR_le t m; omega)
  exact ⟨fun z => by rw [z] at this; exact this (by decide), fun z => by rw [z] at this; exact this (by decide)⟩
section SM3
variable {X : XT} {J : MJ} {I : MI} {L : ML}
/-- what a lock may change of the class -/
theorem c_lockLast (hL : LC X J) {e k : Nat} (he : e < 3) (hk : e + 2 = k) {r m n : Nat} {f sd mf key : Nat → Nat} (hR : RC X J I r m n f) (hr : r + 1 < 18) {s0 : Nat} (hs : s0 + 384 * k ≤ n) (hkey : ∀ x, x < 384 * k → key x = f (s0 + x)) (hS : RC X J I 24 64 64 sd) (hM : RC X J I 26 32 32 mf) (hP : ∀ j, j < k → Pa I (31 + j) (skP k sd j)) {most : Nat} (hD : RC X J I 22 3168 (32 * duK k * k) (ctF k sd key most mf)) {q : MI → ML → Prop}
    (hq : ∀ I' L', (∀ x, x ≠ 18 → x ≠ 22 → x ≠ 23 → x ≠ 35 → x ≠ 36 → I' x = I x) → RC X J I' 22 3168 (32 * duK k * k + 32 * dvK k) (ctF k sd key most mf) → q I' L') : wp_X1_lockLast X J 21 e r (nI s0) I L q := by
  obtain ⟨⟨l0, l1, l2, l3, l4, l5, l6, l7, l8⟩, lS, lP, lv, s30, s256⟩ := id hL
  have hm0 : n ≤ 4000 := Nat.le_trans hR.1.2.2.2.2.1 hR.1.2.2.2.2.2.2
  refine ⟨35, l7, c_fillI (s256 35 (by decide) (by decide)) (fun I1 o1 p1 => ?_)⟩
  generalize hF : ctF k sd key most mf = F at *
  have hk2 : 2 ≤ k ∧ k ≤ 4 := by omega
  have hE : enI 0 e = nI k := by rw [← hk]; exact enI_0 he
  refine pk2 (fun fu i I' L' => wl_X1_lockLast_11 X J q 21 e r (nI s0) fu (nI i) I' L') (fun i I' L' => (∀ x, x ≠ 35 → x ≠ 36 → I' x = I x) ∧ Pa I' 35 (vLk k sd key i)) k 0 I1 L (Nat.zero_le _) ⟨fun x a _ => o1 x a, p1⟩ ?_ ?_
  · intro fu I2 L2 ⟨a2, b2⟩
    refine pk_le k k (fun _ => ⟨35, l7, ?_⟩) (fun z => absurd z (by omega)) hE
    refine c_fromPairs (s256 35 (by decide) (by decide)) b2 (fun I3 o3 p3 => ⟨20, l1, 36, l8, 24, l3, ?_⟩)
    have S3 : RC X J I3 24 64 64 sd := hS.f (by rw [o3 24 (by decide), a2 24 (by decide) (by decide)]) (by rw [o3 25 (by decide), a2 25 (by decide) (by decide)])
    rw [enI_2 he, hE, show (2 : Int32) = nI 2 from rfl, pk_mul]
    refine c_drawNoise (g := c33 (sgF sd) (2 * k)) lS lP (s256 36 (by decide) (by decide)) (by decide) S3.1 ⟨by decide, by decide⟩ (st0 := 32) (by decide) (Or.inl rfl) (fun x hx => ?_) ?_ (fun I4 L4 f4 p4 => ?_)
    · rw [S3.2 _ (by omega)]; unfold c33; rw [if_pos hx]; rfl
    · unfold c33; rw [if_neg (by decide), pk_tn (by omega), Nat.mod_eq_of_lt (by omega)]
    refine c_addT (s256 35 (by decide) (by decide)) (s256 36 (by decide) (by decide)) (p3.f (f4 35 (by decide) (by decide))) p4 (fun I5 o5 p5 => ⟨26, l4, ?_⟩)
    have M5 : RC X J I5 26 32 32 mf := hM.f (by rw [o5 26 (by decide), f4 26 (by decide) (by decide), o3 26 (by decide), a2 26 (by decide) (by decide)]) (by rw [o5 27 (by decide), f4 27 (by decide) (by decide), o3 27 (by decide), a2 27 (by decide) (by decide)])
    refine c_unpackStretched (s0 := 0) (d := 1) (s256 36 (by decide) (by decide)) (by decide) (by decide) M5 ⟨by decide, by decide⟩ (by decide) (fun I6 o6 p6 => ?_)
    have p6' : Pa I6 36 (fun i => dcm 1 (dec 1 mf i)) := p6.c (fun i _ => by simp only [Nat.zero_add])
    have p5' : Pa I5 35 (fun x => rad (bk (vLk k sd key k) x) (nP 2 (sgF sd) (2 * k) x)) := p5
    refine c_addT (s256 35 (by decide) (by decide)) (s256 36 (by decide) (by decide)) (p5'.f (o6 35 (by decide))) p6' (fun I7 o7 p7 => ?_)
    rw [enI_4 he, hk]
    have F7 : ∀ x, x ≠ 18 → x ≠ 35 → x ≠ 36 → I7 x = I x := fun x a b c => by rw [o7 x b, o6 x c, o5 x b, f4 x a c, o3 x b, a2 x b c]
    have hw := Wk hk2.2
    refine c_packC hL (d := dvK k) (by have := dvK_b k; omega) (by have := dvK_b k; omega) p7 (hD.f (F7 22 (by decide) (by decide) (by decide)) (F7 23 (by decide) (by decide) (by decide))) (by have := dvK_b k; omega) (fun i hi => ?_) (fun I8 f8 r8 => hq I8 L4 (fun x a b c d g => by rw [f8 x d b c, F7 x a d g]) r8)
    rw [← hF, ctF_v]
    rfl
  · intro fu i I2 L2 hi ⟨a2, b2⟩ ih
    refine pk_le k i (fun z => absurd z (by omega)) (fun _ => ⟨36, l8, ?_⟩) hE
    rw [show (384 : Int32) = nI 384 from rfl, pk_mul, nI_add]
    have R2 : RC X J I2 r m n f := hR.f (a2 r (by omega) (by omega)) (a2 (r + 1) (by omega) (by omega))
    refine c_unpack (d := 12) (s256 36 (by decide) (by decide)) (by decide) (by decide) R2.1 ⟨by omega, by omega⟩ (by omega) (fun I3 o3 p3 => ⟨30, l6, ?_⟩)
    rw [nI_clamp (n := i) (by omega)]
    refine ⟨by rw [s30]; exact vp_in_nI (by omega) (by decide), 31 + i, lv i (by omega), ?_⟩
    have p3' : Pa I3 36 (kyP key i) := p3.c (fun x hx => dec_c (fun y hy => by rw [R2.2 _ (by omega), hkey _ (by omega)]; congr 1; omega) hx)
    refine c_addProduct hL (by omega) (by omega) p3' ((hP i hi).f (by rw [o3 _ (by omega), a2 _ (by omega) (by omega)])) (b2.f (o3 35 (by decide))) (fun I4 f4 p4 x4 e4 => ?_)
    rw [e4, nI_1]
    exact ih I4 L2 ⟨fun x a b => by rw [f4 x a b, o3 x b, a2 x a b], p4⟩
theorem c_lockMessage (hL : LC X J) {e k : Nat} (he : e < 3) (hk : e + 2 = k) {r m n : Nat} {f sd mf key : Nat → Nat} (hR : RC X J I r m n f) (hr : r + 1 < 18) {s0 : Nat} (hs : s0 + 384 * k + 32 ≤ n) (hkey : ∀ x, x < 384 * k + 32 → key x = f (s0 + x)) (hH : SH X J I) (hS : RC X J I 24 64 64 sd) (hM : RC X J I 26 32 32 mf) {most : Nat} (hm : most < 1000) {q : Int32 → MI → ML → Prop}
    (h1 : ∀ I' L', (∀ x, (x < 18 ∨ 37 ≤ x) → I' x = I x) → SH X J I' → RC X J I' 24 64 64 sd → lkOK k key most → RC X J I' 22 3168 (32 * duK k * k + 32 * dvK k) (ctF k sd key most mf) → q 1 I' L')
    (h0 : ∀ I' L', (∀ x, (x < 18 ∨ 37 ≤ x) → I' x = I x) → SH X J I' → ¬ lkOK k key most → q 0 I' L') : wp_X1_lockMessage X J 21 e r (nI s0) (nI most) I L q := by
  obtain ⟨⟨l0, l1, l2, l3, l4, l5, l6, l7, l8⟩, lS, lP, lv, s30, s256⟩ := id hL
  obtain ⟨⟨n22, r22⟩, ⟨n24, r24⟩, ⟨n26, r26⟩, ⟨n28, r28⟩⟩ := id hH
  have hm0 : n ≤ 4000 := Nat.le_trans hR.1.2.2.2.2.1 hR.1.2.2.2.2.2.2
  refine c_drawVector hL he hS (fun I5 L5 f5 p5 => ⟨22, l2, ?_⟩)
  refine c_clear (r22.frame (f5 22 (by decide) (by decide))) (fun I6 f6 r6 _ => ?_)
  have G6 : ∀ x, x ≠ 18 → x ≠ 22 → x ≠ 23 → (x < 31 ∨ 34 < x) → I6 x = I x := fun x a b c d => by rw [f6.1 x b c, f5 x a d]
  rw [hk] at p5
  generalize hF : ctF k sd key most mf = F at *
  have hk2 : 2 ≤ k ∧ k ≤ 4 := by omega
  have hE : enI 0 e = nI k := by rw [← hk]; exact enI_0 he
  have hw := Wk hk2.2
  have hd := duK_b k
  have P6 : ∀ j, j < k → Pa I6 (31 + j) (skP k sd j) := fun j hj => (p5 j hj).f (f6.1 _ (by omega) (by omega))
  have shp : ∀ I', (∀ x, x ≠ 18 → x ≠ 22 → x ≠ 23 → x ≠ 35 → x ≠ 36 → I' x = I6 x) → (∃ n, Rw X J I' 22 23 3168 n) → SH X J I' := fun I' a b => ⟨b, ⟨64, hS.1.frame (by rw [a 24 (by decide) (by decide) (by decide) (by decide) (by decide), G6 24 (by decide) (by decide) (by decide) (by decide)])⟩, ⟨32, hM.1.frame (by rw [a 26 (by decide) (by decide) (by decide) (by decide) (by decide), G6 26 (by decide) (by decide) (by decide) (by decide)])⟩, ⟨n28, r28.frame (by rw [a 28 (by decide) (by decide) (by decide) (by decide) (by decide), G6 28 (by decide) (by decide) (by decide) (by decide)])⟩⟩
  refine pk2 (fun fu i I' L' => wl_X1_lockMessage_15 X J q 21 e r (nI s0) (nI most) fu (nI i) I' L') (fun i I' L' => (∀ x, x ≠ 18 → x ≠ 22 → x ≠ 23 → x ≠ 35 → x ≠ 36 → I' x = I6 x) ∧ RC X J I' 22 3168 (32 * duK k * i) F ∧ ∀ i', i' < i → ∀ j, j < k → uR (rhF k key) i' j most ≠ 0) k 0 I6 L5 (Nat.zero_le _) ⟨fun _ _ _ _ _ _ => rfl, ⟨r6, fun i hi => absurd hi (by omega)⟩, fun i hi => absurd hi (by omega)⟩ ?_ ?_
  · intro fu I7 L7 ⟨a7, b7, c7⟩
    refine pk_le k k (fun _ => ?_) (fun z => absurd z (by omega)) hE
    have g7 : ∀ x, x ≠ 18 → x ≠ 22 → x ≠ 23 → x ≠ 35 → x ≠ 36 → (x < 31 ∨ 34 < x) → I7 x = I x := fun x a b c d f g => by rw [a7 x a b c d f, G6 x a b c g]
    refine c_lockLast (most := most) (key := key) hL he hk (hR.f (g7 r (by omega) (by omega) (by omega) (by omega) (by omega) (by omega)) (g7 (r + 1) (by omega) (by omega) (by omega) (by omega) (by omega) (by omega))) hr (by omega) (fun x hx => hkey x (by omega)) (hS.f (g7 24 (by decide) (by decide) (by decide) (by decide) (by decide) (by decide)) (g7 25 (by decide) (by decide) (by decide) (by decide) (by decide) (by decide))) (hM.f (g7 26 (by decide) (by decide) (by decide) (by decide) (by decide) (by decide)) (g7 27 (by decide) (by decide) (by decide) (by decide) (by decide) (by decide))) (fun j hj => (P6 j hj).f (a7 _ (by omega) (by omega) (by omega) (by omega) (by omega))) (mf := mf) (by rw [hF]; exact b7) (fun I8 L8 f8 r8 => ?_)
    rw [hF] at r8
    have a8 : ∀ x, x ≠ 18 → x ≠ 22 → x ≠ 23 → x ≠ 35 → x ≠ 36 → I8 x = I6 x := fun x a b c d f => by rw [f8 x a b c d f, a7 x a b c d f]
    have g8 : ∀ x, x ≠ 18 → x ≠ 22 → x ≠ 23 → x ≠ 35 → x ≠ 36 → (x < 31 ∨ 34 < x) → I8 x = I x := fun x a b c d f g => by rw [a8 x a b c d f, G6 x a b c g]
    exact h1 I8 L8 (fun x hx => g8 x (by omega) (by omega) (by omega) (by omega) (by omega) (by omega)) (shp I8 a8 ⟨_, r8.1⟩) (hS.f (g8 24 (by decide) (by decide) (by decide) (by decide) (by decide) (by decide)) (g8 25 (by decide) (by decide) (by decide) (by decide) (by decide) (by decide))) c7 r8
  · intro fu i I7 L7 hi ⟨a7, b7, c7⟩ ih
    refine pk_le k i (fun z => absurd z (by omega)) (fun _ => ⟨35, l7, ?_⟩) hE
    have hb := ps_b (W := 32 * duK k) hi
    refine c_fillI (s256 35 (by decide) (by decide)) (fun I8 o8 p8 => ?_)
    refine pk2 (fun fv j I' L' => wl_X1_lockMessage_35 X J q (wl_X1_lockMessage_15 X J q 21 e r (nI s0) (nI most) fu) 21 e r (nI s0) (nI most) (nI i) fv (nI j) I' L') (fun j I' L' => (∀ x, x ≠ 18 → x ≠ 35 → x ≠ 36 → I' x = I7 x) ∧ Pa I' 35 (uLk k sd key most i j) ∧ ∀ j', j' < j → uR (rhF k key) i j' most ≠ 0) k 0 I8 L7 (Nat.zero_le _) ⟨fun x _ b _ => o8 x b, p8, fun j hj => absurd hj (by omega)⟩ ?_ ?_
    · intro fv I9 L9 ⟨a9, b9, c9⟩
      refine pk_le k k (fun _ => ⟨35, l7, ?_⟩) (fun z => absurd z (by omega)) hE
      have g9 : ∀ x, x ≠ 18 → x ≠ 22 → x ≠ 23 → x ≠ 35 → x ≠ 36 → (x < 31 ∨ 34 < x) → I9 x = I x := fun x a b c d f g => by rw [a9 x a d f, a7 x a b c d f, G6 x a b c g]
      refine c_fromPairs (s256 35 (by decide) (by decide)) b9 (fun I10 o10 p10 => ⟨20, l1, 36, l8, 24, l3, ?_⟩)
      have S10 : RC X J I10 24 64 64 sd := hS.f (by rw [o10 24 (by decide), g9 24 (by decide) (by decide) (by decide) (by decide) (by decide) (by decide)]) (by rw [o10 25 (by decide), g9 25 (by decide) (by decide) (by decide) (by decide) (by decide) (by decide)])
      rw [enI_2 he, hE, nI_add]
      refine c_drawNoise (g := c33 (sgF sd) (k + i)) lS lP (s256 36 (by decide) (by decide)) (by decide) S10.1 ⟨by decide, by decide⟩ (st0 := 32) (by decide) (Or.inl rfl) (fun x hx => ?_) ?_ (fun I11 L11 f11 p11 => ?_)
      · rw [S10.2 _ (by omega)]; unfold c33; rw [if_pos hx]; rfl
      · unfold c33; rw [if_neg (by decide), pk_tn (by omega), Nat.mod_eq_of_lt (by omega)]
      refine c_addT (s256 35 (by decide) (by decide)) (s256 36 (by decide) (by decide)) (p10.f (f11 35 (by decide) (by decide))) p11 (fun I12 o12 p12 => ?_)
      rw [enI_3 he, hk]
      have F12 : ∀ x, x ≠ 18 → x ≠ 35 → x ≠ 36 → I12 x = I7 x := fun x a b c => by rw [o12 x b, f11 x a c, o10 x b, a9 x a b c]
      refine c_packC hL (d := duK k) (by omega) (by omega) p12 (b7.f (F12 22 (by decide) (by decide) (by decide)) (F12 23 (by decide) (by decide) (by decide))) (by omega) (fun x hx => ?_) (fun I13 f13 r13 x5 e5 => ?_)
      · rw [← hF, ctF_u hi hx]
        rfl
      · rw [e5, nI_1]
        refine ih I13 L11 ⟨fun x a b c d f => by rw [f13 x d b c, F12 x a d f, a7 x a b c d f], by rw [Nat.mul_add, Nat.mul_one]; exact r13, fun i' hi' => ?_⟩
        by_cases ei : i' = i
        · subst ei; exact c9
        · exact c7 i' (by omega)
    · intro fv j I9 L9 hj ⟨a9, b9, c9⟩ ih2
      refine pk_le k j (fun z => absurd z (by omega)) (fun _ => ⟨20, l1, 36, l8, ?_⟩) hE
      have g9 : ∀ x, x ≠ 18 → x ≠ 22 → x ≠ 23 → x ≠ 35 → x ≠ 36 → (x < 31 ∨ 34 < x) → I9 x = I x := fun x a b c d f g => by rw [a9 x a d f, a7 x a b c d f, G6 x a b c g]
      show wp_X5_drawUniform X J 20 36 r (nI s0 + 384 * enI 0 e) (nI i) (nI j) (nI most) I9 L9 _
      rw [hE, show (384 : Int32) = nI 384 from rfl, pk_mul, nI_add]
      have R9 : RC X J I9 r m n f := hR.f (g9 r (by omega) (by omega) (by omega) (by omega) (by omega) (by omega)) (g9 (r + 1) (by omega) (by omega) (by omega) (by omega) (by omega) (by omega))
      refine c_drawUniform (g := c34 (rhF k key) i j) lS lP (s256 36 (by decide) (by decide)) (by decide) R9.1 ⟨by omega, by omega⟩ (by omega) hm (fun x hx => ?_) ?_ ?_ (fun I12 L12 f12 z12 p12 => ?_) (fun I12 L12 f12 z12 => ?_)
      · rw [R9.2 _ (by omega)]; unfold c34 rhF; rw [if_pos hx, hkey _ (by omega)]; congr 1; omega
      · unfold c34; rw [if_neg (by decide), if_pos rfl, pk_tn (by omega), Nat.mod_eq_of_lt (by omega)]
      · unfold c34; rw [if_neg (by decide), if_neg (by decide), pk_tn (by omega), Nat.mod_eq_of_lt (by omega)]
      · refine ⟨fun _ => ⟨30, l6, ?_⟩, fun z => absurd z (sR_ne _ hm).1⟩
        rw [nI_clamp (n := j) (by omega)]
        refine ⟨by rw [s30]; exact vp_in_nI (by omega) (by decide), 31 + j, lv j (by omega), ?_⟩
        have P12 : Pa I12 (31 + j) (skP k sd j) := (P6 j hj).f (by rw [f12 _ (by omega) (by omega), a9 _ (by omega) (by omega) (by omega), a7 _ (by omega) (by omega) (by omega) (by omega) (by omega)])
        refine c_addProduct hL (by omega) (by omega) p12 P12 (b9.f (f12 35 (by decide) (by decide))) (fun I13 f13 p13 x5 e5 => ?_)
        rw [e5, nI_1]
        refine ih2 I13 L12 ⟨fun x a b c => by rw [f13 x b c, f12 x a c, a9 x a b c], p13, fun j' hj' => ?_⟩
        by_cases ej : j' = j
        · subst ej; exact z12
        · exact c9 j' (by omega)
      · refine ⟨fun z => absurd rfl z, fun _ => ?_⟩
        have a12 : ∀ x, x ≠ 18 → x ≠ 22 → x ≠ 23 → x ≠ 35 → x ≠ 36 → I12 x = I6 x := fun x a b c d f => by rw [f12 x a f, a9 x a d f, a7 x a b c d f]
        exact h0 I12 L12 (fun x hx => by rw [a12 x (by omega) (by omega) (by omega) (by omega) (by omega), G6 x (by omega) (by omega) (by omega) (by omega)]) (shp I12 a12 ⟨_, b7.1.frame (by rw [f12 22 (by decide) (by decide), a9 22 (by decide) (by decide) (by decide)])⟩) (fun ok => ok i hi j hj z12)
end SM3
