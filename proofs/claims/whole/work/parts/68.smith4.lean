def unP (k : Nat) (ct : Nat → Nat) (j : Nat) : Nat → Nat := fwd (fun i => dcm (duK k) (dec (duK k) (fun x => ct (32 * duK k * j + x)) i))
def wLk (k : Nat) (key ct : Nat → Nat) : Nat → Nat → Nat := acc (fun _ => 0) (kyP key) (unP k ct)
def mPl (k : Nat) (key ct : Nat → Nat) (x : Nat) : Nat := cmp 1 (rsb (dcm (dvK k) (dec (dvK k) (fun y => ct (32 * duK k * k + y)) x)) (bk (wLk k key ct k) x))
def msF (k : Nat) (key ct : Nat → Nat) : Nat → Nat := enc 1 (mPl k key ct)
/-- G of a message and a digest -/
def gF (mf hf : Nat → Nat) : Nat → Nat := xof 72 6 64 (fun i => if i < 32 then mf i else hf (i - 32))
theorem gF_c {m m' h h' : Nat → Nat} (a : ∀ i, i < 32 → m i = m' i) (b : ∀ i, i < 32 → h i = h' i) : gF m h = gF m' h' := by
  unfold gF
  refine funext (fun j => xof_c (fun i hi => ?_) j)
  split
  · exact a i (by assumption)
  · exact b _ (by omega)
section SM4
variable {X : XT} {J : MJ} {I : MI} {L : ML}
theorem SH.f {I' : MI} (h : SH X J I) (f : ∀ x, x = 22 ∨ x = 24 ∨ x = 26 ∨ x = 28 → I' x = I x) : SH X J I' := by
  obtain ⟨⟨a, a'⟩, ⟨b, b'⟩, ⟨c, c'⟩, ⟨d, d'⟩⟩ := h
  exact ⟨⟨a, a'.frame (f 22 (by decide))⟩, ⟨b, b'.frame (f 24 (by decide))⟩, ⟨c, c'.frame (f 26 (by decide))⟩, ⟨d, d'.frame (f 28 (by decide))⟩⟩
theorem c_readMessage (hL : LC X J) {e k : Nat} (he : e < 3) (hk : e + 2 = k) {tp ek : Nat → Nat} {m1 m3 : Nat} (hT : RC X J I 1 m1 32 tp) (hE : RC X J I 3 m3 (384 * k + 32) ek) (hH : SH X J I) {q : MI → ML → Prop}
    (hq : ∀ I' L', (∀ x, (x < 18 ∨ 37 ≤ x) → I' x = I x) → SH X J I' → RC X J I' 26 32 32 tp → RC X J I' 24 64 64 (gF tp (xof 136 6 (384 * k + 32) ek)) → q I' L') : wp_X1_readMessage X J 21 e 3 1 I L q := by
  obtain ⟨⟨l0, l1, l2, l3, l4, l5, l6, l7, l8⟩, lS, lP, lv, s30, s256⟩ := id hL
  obtain ⟨⟨n22, r22⟩, ⟨n24, r24⟩, ⟨n26, r26⟩, ⟨n28, r28⟩⟩ := id hH
  refine ⟨26, l4, c_become r26 hT.1 (by decide) (by decide) (fun I1 f1 r1 b1 => ?_)⟩
  have M1 : RC X J I1 26 32 32 tp := ⟨r1, fun i hi => by rw [b1 i hi]; exact hT.2 i hi⟩
  show wp_X1_tellDigest X J 21 3 0 (384 * enI 0 e + 32) I1 L _
  rw [enI_0 he, hk, show (384 : Int32) = nI 384 from rfl, pk_mul, show (32 : Int32) = nI 32 from rfl, nI_add]
  refine c_tellDigest (s0 := 0) hL (hE.f (f1.1 3 (by decide) (by decide)) (f1.1 4 (by decide) (by decide))) (Or.inl (by decide)) (r28.frame (f1.1 28 (by decide) (by decide))) (by omega) (fun I2 L2 f2 d2 => ⟨28, l5, ?_⟩)
  refine c_seedFrom (s0 := 0) hL d2 (Or.inr rfl) (M1.f (f2 26 (by decide) (by decide) (by decide)) (f2 27 (by decide) (by decide) (by decide))) (r24.frame (by rw [f2 24 (by decide) (by decide) (by decide), f1.1 24 (by decide) (by decide)])) (by decide) (fun I3 L3 f3 r3 => ?_)
  refine hq I3 L3 (fun x hx => by rw [f3 x (by omega) (by omega) (by omega), f2 x (by omega) (by omega) (by omega), f1.1 x (by omega) (by omega)]) ⟨⟨n22, r22.frame (by rw [f3 22 (by decide) (by decide) (by decide), f2 22 (by decide) (by decide) (by decide), f1.1 22 (by decide) (by decide)])⟩, ⟨64, r3.1⟩, ⟨32, r1.frame (by rw [f3 26 (by decide) (by decide) (by decide), f2 26 (by decide) (by decide) (by decide)])⟩, ⟨32, d2.1.frame (by rw [f3 28 (by decide) (by decide) (by decide)])⟩⟩ (M1.f (by rw [f3 26 (by decide) (by decide) (by decide), f2 26 (by decide) (by decide) (by decide)]) (by rw [f3 27 (by decide) (by decide) (by decide), f2 27 (by decide) (by decide) (by decide)])) ?_
  have ez : (fun i => ek (0 + i)) = ek := funext (fun i => by rw [Nat.zero_add])
  rw [ez] at r3
  have ex : gF tp (xof 136 6 (384 * k + 32) ek) = xof 72 6 64 (fun i => if i < 32 then tp i else xof 136 6 (384 * k + 32) ek (0 + (i - 32))) := by
    unfold gF
    congr 1
    funext i
    rw [Nat.zero_add]
  rw [ex]
  exact r3
theorem c_unlockText (hL : LC X J) {e k : Nat} (he : e < 3) (hk : e + 2 = k) {key ct : Nat → Nat} {m5 m7 n7 : Nat} (hD : RC X J I 5 m5 (768 * k + 96) key) (hC : RC X J I 7 m7 n7 ct) (hn7 : n7 = 32 * duK k * k + 32 * dvK k) (hH : SH X J I) {q : MI → ML → Prop}
    (hq : ∀ I' L', (∀ x, (x < 18 ∨ 37 ≤ x) → I' x = I x) → SH X J I' → RC X J I' 26 32 32 (msF k key ct) → RC X J I' 24 64 64 (gF (msF k key ct) (fun i => key (768 * k + 32 + i))) → q I' L') : wp_X1_unlockText X J 21 e 5 7 I L q := by
  obtain ⟨⟨l0, l1, l2, l3, l4, l5, l6, l7, l8⟩, lS, lP, lv, s30, s256⟩ := id hL
  obtain ⟨⟨n22, r22⟩, ⟨n24, r24⟩, ⟨n26, r26⟩, ⟨n28, r28⟩⟩ := id hH
  have hk2 : 2 ≤ k ∧ k ≤ 4 := by omega
  have hE : enI 0 e = nI k := by rw [← hk]; exact enI_0 he
  have hE3 : enI 3 e = nI (duK k) := by rw [← hk]; exact enI_3 he
  have hE4 : enI 4 e = nI (dvK k) := by rw [← hk]; exact enI_4 he
  have hw := Wk hk2.2
  have hdu := duK_b k
  have hdv := dvK_b k
  refine ⟨30, l6, by rw [s30]; exact vp_in_nI (n := 0) (by decide) (by decide), 31, lv 0 (by decide), 35, l7, c_fillI (s256 35 (by decide) (by decide)) (fun I1 o1 p1 => ?_)⟩
  refine pk2 (fun fu i I' L' => wl_X1_unlockText_19 X J q 21 e 5 7 31 fu (nI i) I' L') (fun i I' L' => (∀ x, x ≠ 31 → x ≠ 35 → x ≠ 36 → I' x = I x) ∧ Pa I' 35 (wLk k key ct i)) k 0 I1 L (Nat.zero_le _) ⟨fun x _ b _ => o1 x b, p1⟩ ?_ ?_
  · intro fu I2 L2 ⟨a2, b2⟩
    refine pk_le k k (fun _ => ⟨35, l7, ?_⟩) (fun z => absurd z (by omega)) hE
    refine c_fromPairs (s256 35 (by decide) (by decide)) b2 (fun I3 o3 p3 => ⟨36, l8, ?_⟩)
    have C3 : RC X J I3 7 m7 n7 ct := hC.f (by rw [o3 7 (by decide), a2 7 (by decide) (by decide) (by decide)]) (by rw [o3 8 (by decide), a2 8 (by decide) (by decide) (by decide)])
    rw [hE3, hE, hE4, show (32 : Int32) = nI 32 from rfl, pk_mul, pk_mul]
    refine c_unpackStretched (s256 36 (by decide) (by decide)) (by omega) (by omega) C3 ⟨by decide, by decide⟩ (by omega) (fun I4 o4 p4 => ?_)
    refine c_addF (s256 36 (by decide) (by decide)) (s256 35 (by decide) (by decide)) p4 (p3.f (o4 35 (by decide))) (fun I5 o5 p5 => ?_)
    refine c_compress (d := 1) (s256 36 (by decide) (by decide)) p5 (by decide) (by decide) (fun I6 o6 p6 => ⟨26, l4, ?_⟩)
    have p6' : Pa I6 36 (mPl k key ct) := p6
    have F6 : ∀ x, x ≠ 31 → x ≠ 35 → x ≠ 36 → I6 x = I x := fun x a b c => by rw [o6 x c, o5 x c, o4 x c, o3 x b, a2 x a b c]
    refine c_clear (r26.frame (F6 26 (by decide) (by decide) (by decide))) (fun I7 f7 r7 _ => ?_)
    refine c_pack (d := 1) (s256 36 (by decide) (by decide)) (p6'.f (f7.1 36 (by decide) (by decide))) (by decide) (by decide) r7 ⟨by decide, by decide⟩ (by decide) (fun I8 f8 r8 b8 _ => ?_)
    show wp_X1_seedFromMessage X J 21 5 ((384 * enI 0 e) + (384 * enI 0 e + 32)) I8 L2 _
    rw [hE, show (384 : Int32) = nI 384 from rfl, pk_mul, show (32 : Int32) = nI 32 from rfl, nI_add, nI_add]
    have F8 : ∀ x, x ≠ 26 → x ≠ 27 → x ≠ 31 → x ≠ 35 → x ≠ 36 → I8 x = I x := fun x a b c d f => by rw [f8.1 x a b, f7.1 x a b, F6 x c d f]
    have M8 : RC X J I8 26 32 32 (msF k key ct) := ⟨r8, fun i hi => by have := b8 i hi; rw [Nat.zero_add] at this; exact this⟩
    refine c_seedFrom hL (hD.f (F8 5 (by decide) (by decide) (by decide) (by decide) (by decide)) (F8 6 (by decide) (by decide) (by decide) (by decide) (by decide))) (Or.inl (by decide)) M8 (r24.frame (F8 24 (by decide) (by decide) (by decide) (by decide) (by decide))) (by omega) (fun I9 L9 f9 r9 => ?_)
    refine hq I9 L9 (fun x hx => by rw [f9 x (by omega) (by omega) (by omega), F8 x (by omega) (by omega) (by omega) (by omega) (by omega)]) ⟨⟨n22, r22.frame (by rw [f9 22 (by decide) (by decide) (by decide), F8 22 (by decide) (by decide) (by decide) (by decide) (by decide)])⟩, ⟨64, r9.1⟩, ⟨32, r8.frame (f9 26 (by decide) (by decide) (by decide))⟩, ⟨n28, r28.frame (by rw [f9 28 (by decide) (by decide) (by decide), F8 28 (by decide) (by decide) (by decide) (by decide) (by decide)])⟩⟩ (M8.f (f9 26 (by decide) (by decide) (by decide)) (f9 27 (by decide) (by decide) (by decide))) ?_
    have ex : gF (msF k key ct) (fun i => key (768 * k + 32 + i)) = xof 72 6 64 (fun i => if i < 32 then msF k key ct i else key (384 * k + (384 * k + 32) + (i - 32))) := by
      unfold gF
      congr 1
      funext i
      show (if i < 32 then msF k key ct i else key (768 * k + 32 + (i - 32))) = _
      rw [show 768 * k + 32 + (i - 32) = 384 * k + (384 * k + 32) + (i - 32) by omega]
    rw [ex]
    exact r9
  · intro fu i I2 L2 hi ⟨a2, b2⟩ ih
    have hb := ps_b (W := 32 * duK k) hi
    refine pk_le k i (fun z => absurd z (by omega)) (fun _ => ?_) hE
    have C2 : RC X J I2 7 m7 n7 ct := hC.f (a2 7 (by decide) (by decide) (by decide)) (a2 8 (by decide) (by decide) (by decide))
    rw [hE3, show (32 : Int32) = nI 32 from rfl, pk_mul, pk_mul]
    refine c_unpackStretched (s256 31 (by decide) (by decide)) (by omega) (by omega) C2 ⟨by decide, by decide⟩ (by omega) (fun I3 o3 p3 => ?_)
    refine c_toPairs (s256 31 (by decide) (by decide)) p3 (fun I4 o4 p4 => ⟨36, l8, ?_⟩)
    have D4 : RC X J I4 5 m5 (768 * k + 96) key := hD.f (by rw [o4 5 (by decide), o3 5 (by decide), a2 5 (by decide) (by decide) (by decide)]) (by rw [o4 6 (by decide), o3 6 (by decide), a2 6 (by decide) (by decide) (by decide)])
    rw [show (384 : Int32) = nI 384 from rfl, pk_mul]
    refine c_unpack (d := 12) (s256 36 (by decide) (by decide)) (by decide) (by decide) D4.1 ⟨by decide, by decide⟩ (by omega) (fun I5 o5 p5 => ?_)
    have p5' : Pa I5 36 (kyP key i) := p5.c (fun x hx => dec_c (fun y hy => D4.2 _ (by omega)) hx)
    have p4' : Pa I4 31 (unP k ct i) := p4
    refine c_addProduct (c := 31) hL (by decide) (by decide) p5' (p4'.f (o5 31 (by decide))) (b2.f (by rw [o5 35 (by decide), o4 35 (by decide), o3 35 (by decide)])) (fun I6 f6 p6 x5 e5 => ?_)
    rw [e5, nI_1]
    exact ih I6 L2 ⟨fun x a b c => by rw [f6 x b c, o5 x c, o4 x a, o3 x a, a2 x a b c], p6⟩
theorem c_tellRefusal (hL : LC X J) {e k : Nat} (he : e < 3) (hk : e + 2 = k) {key ct F0 : Nat → Nat} {m5 m7 n7 : Nat} (hD : RC X J I 5 m5 (768 * k + 96) key) (hC : RC X J I 7 m7 n7 ct) (hn7 : n7 = 32 * duK k * k + 32 * dvK k) (hS : RC X J I 9 32 0 F0) {q : MI → ML → Prop}
    (hq : ∀ I' L', (∀ x, x ≠ 18 → x ≠ 9 → x ≠ 10 → I' x = I x) → RC X J I' 9 32 32 (xof 136 31 (32 + n7) (fun i => if i < 32 then key (768 * k + 64 + i) else ct (i - 32))) → q I' L') : wp_X1_tellRefusal X J 21 e 5 7 9 I L q := by
  obtain ⟨⟨l0, l1, l2, l3, l4, l5, l6, l7, l8⟩, lS, lP, lv, s30, s256⟩ := id hL
  have hk2 : 2 ≤ k ∧ k ≤ 4 := by omega
  have hw := Wk hk2.2
  have hdu := duK_b k
  have hdv := dvK_b k
  refine ⟨18, l0, c_begin (k := 3) lP (by decide) (fun I1 L1 f1 _ _ t1 => ?_)⟩
  generalize hg : (fun i => if i < 32 then key (768 * k + 64 + i) else ct (i - 32)) = g at hq
  have t1' : Sp I1 L1 18 19 136 31 (kAb 136 g 0) := t1
  show wp_X6_absorb X J 18 5 ((768 * enI 0 e + 96) - 32) 32 I1 L1 _
  rw [enI_0 he, hk, show (768 : Int32) = nI 768 from rfl, pk_mul, show (96 : Int32) = nI 96 from rfl, nI_add, show (32 : Int32) = nI 32 from rfl, pk_sub (a := 768 * k + 96) (b := 32) (by omega)]
  refine c_absorb (f := g) (n0 := 0) (cn := 32) lP t1' (hD.1.frame (f1 5 (by decide))) ⟨by decide, by decide⟩ (by omega) (fun i hi => by rw [Nat.zero_add, f1 (5 + 1) (by decide), hD.2 _ (by omega), ← hg]; show (if i < 32 then key (768 * k + 64 + i) else _) = _; rw [if_pos hi]; rw [show 768 * k + 96 - 32 = 768 * k + 64 by omega]) (fun I2 L2 f2 t2 => ?_)
  rw [Nat.zero_add] at t2
  show wp_X6_absorb X J 18 7 0 (nI 32 * (enI 3 e * enI 0 e + enI 4 e)) I2 L2 _
  rw [enI_0 he, enI_3 he, enI_4 he, hk, pk_mul, nI_add, pk_mul, show 32 * (duK k * k + dvK k) = n7 by rw [hn7, Nat.mul_add, Nat.mul_assoc]]
  refine c_absorb (f := g) (n0 := 32) (st := 0) (cn := n7) lP t2 (hC.1.frame (by rw [f2.1 7 (by decide), f1 7 (by decide)])) ⟨by decide, by decide⟩ (by omega) (fun i hi => by rw [f2.1 (7 + 1) (by decide), f1 (7 + 1) (by decide), Nat.zero_add, hC.2 _ (by omega), ← hg]; show (if 32 + i < 32 then _ else ct (32 + i - 32)) = _; rw [if_neg (by omega)]; congr 1; omega) (fun I3 L3 f3 t3 => ?_)
  refine c_finish lP t3 (kAb_p (by decide) _ _) (fun I4 L4 f4 t4 => ?_)
  have ex : xof 136 31 (32 + n7) g = kO 136 (kEn 136 31 (kAb 136 g (32 + n7))) := rfl
  rw [ex] at hq
  generalize kEn 136 31 (kAb 136 g (32 + n7)) = S at t4 hq
  have t4' : Sp I4 L4 18 19 136 31 (kS 136 S 0) := t4
  refine c_tellTo (cn := 32) lP t4' (hS.1.frame (by rw [f4.1 9 (by decide), f3.1 9 (by decide), f2.1 9 (by decide), f1 9 (by decide)])) ⟨by decide, by decide⟩ (by decide) (fun I5 L5 g1 _ _ _ _ r5 b5 _ => hq I5 L5 (fun k a b c => by rw [g1 k a b c, f4.1 k a, f3.1 k a, f2.1 k a, f1 k a]) ⟨r5, fun i hi => ?_⟩)
  have := b5 i hi
  rw [Nat.zero_add] at this
  exact this
theorem c_hashIsTrue (hL : LC X J) {e k : Nat} (he : e < 3) (hk : e + 2 = k) {tp : Nat → Nat} {m1 : Nat} (hT : RC X J I 1 m1 (768 * k + 96) tp) (hH : SH X J I) {q : Int32 → MI → ML → Prop}
    (h1 : ∀ I' L', (∀ x, (x < 18 ∨ 37 ≤ x) → I' x = I x) → SH X J I' → (∀ i, i < 32 → xof 136 6 (384 * k + 32) (fun x => tp (384 * k + x)) i = tp (768 * k + 32 + i)) → q 1 I' L')
    (h0 : ∀ I' L', (∀ x, (x < 18 ∨ 37 ≤ x) → I' x = I x) → SH X J I' → ¬ (∀ i, i < 32 → xof 136 6 (384 * k + 32) (fun x => tp (384 * k + x)) i = tp (768 * k + 32 + i)) → q 0 I' L') : wp_X1_hashIsTrue X J 21 e 1 I L q := by
  obtain ⟨⟨l0, l1, l2, l3, l4, l5, l6, l7, l8⟩, lS, lP, lv, s30, s256⟩ := id hL
  obtain ⟨⟨n22, r22⟩, ⟨n24, r24⟩, ⟨n26, r26⟩, ⟨n28, r28⟩⟩ := id hH
  show wp_X1_tellDigest X J 21 1 (384 * enI 0 e) (384 * enI 0 e + 32) I L _
  have hE : enI 0 e = nI k := by rw [← hk]; exact enI_0 he
  have e1 : (384 : Int32) * enI 0 e = nI (384 * k) := by rw [hE]; exact pk_mul 384 k
  have e2 : (384 : Int32) * enI 0 e + 32 = nI (384 * k + 32) := by rw [e1]; exact nI_add _ 32
  rw [e2, e1]
  refine c_tellDigest hL hT (Or.inl (by decide)) r28 (by omega) (fun I1 L1 f1 d1 => ⟨28, l5, ?_⟩)
  show wp_X4_partIsSame X J 28 0 1 ((384 * enI 0 e) + (384 * enI 0 e + 32)) 32 I1 L1 _
  rw [e2, e1, nI_add]
  have T1 : RC X J I1 1 m1 (768 * k + 96) tp := hT.f (f1 1 (by decide) (by decide) (by decide)) (f1 2 (by decide) (by decide) (by decide))
  have F1 : ∀ x, (x < 18 ∨ 37 ≤ x) → I1 x = I x := fun x hx => f1 x (by omega) (by omega) (by omega)
  have H1 : SH X J I1 := ⟨⟨n22, r22.frame (f1 22 (by decide) (by decide) (by decide))⟩, ⟨n24, r24.frame (f1 24 (by decide) (by decide) (by decide))⟩, ⟨n26, r26.frame (f1 26 (by decide) (by decide) (by decide))⟩, ⟨32, d1.1⟩⟩
  have tr : ∀ i, i < 32 → (rb (I1 (28 + 1)) (0 + i) = rb (I1 (1 + 1)) (384 * k + (384 * k + 32) + i) ↔ xof 136 6 (384 * k + 32) (fun x => tp (384 * k + x)) i = tp (768 * k + 32 + i)) := fun i hi => by
    rw [Nat.zero_add, d1.2 i hi, T1.2 _ (by omega), show 384 * k + (384 * k + 32) + i = 768 * k + 32 + i by omega]
  refine c_partIsSame (st := 0) (os := 384 * k + (384 * k + 32)) (cn := 32) d1.1 T1.1 (by decide) (by omega) (fun a => ⟨Or.inr rfl, h1 I1 L1 F1 H1 (fun i hi => (tr i hi).mp (a i hi))⟩) (fun a => ⟨Or.inl rfl, h0 I1 L1 F1 H1 (fun b => a (fun i hi => (tr i hi).mpr (b i hi)))⟩)
theorem gv12_ev (b : Nat → Nat) (hb : ∀ i, b i < 256) (i : Nat) : gv 12 b (2 * i) = b (3 * i) + 256 * (b (3 * i + 1) % 16) := by
  have h8 : ∀ k n, n ≤ 8 → V (tb b) (8 * k) n = b k % 2 ^ n := fun k n hn => by
    rw [← V_of (b k) n]
    refine V_congr (fun j hj => ?_)
    unfold tb
    rw [show (8 * k + j) / 8 = k by omega, show (8 * k + j) % 8 = j by omega, Nat.zero_add]
  have h0 := h8 (3 * i) 8 (by decide)
  have h1 := h8 (3 * i + 1) 4 (by decide)
  unfold gv
  rw [show (12 : Nat) = 8 + 4 from rfl, V_add, show (8 + 4) * (2 * i) = 8 * (3 * i) by omega, h0, show 8 * (3 * i) + 8 = 8 * (3 * i + 1) by omega, h1]
  have := hb (3 * i)
  rw [Nat.mod_eq_of_lt (show b (3 * i) < 2 ^ 8 by omega)]
theorem gv12_od (b : Nat → Nat) (hb : ∀ i, b i < 256) (i : Nat) : gv 12 b (2 * i + 1) = b (3 * i + 1) / 16 + 16 * b (3 * i + 2) := by
  have h8 : ∀ k, V (tb b) (8 * k) 8 = b k := fun k => by
    rw [← Nat.mod_eq_of_lt (show b k < 2 ^ 8 from hb k), ← V_of (b k) 8]
    refine V_congr (fun j hj => ?_)
    unfold tb
    rw [show (8 * k + j) / 8 = k by omega, show (8 * k + j) % 8 = j by omega, Nat.zero_add]
  have hd := V_div (tb b) (8 * (3 * i + 1)) (n := 8) (k := 4) (by decide)
  rw [h8] at hd
  unfold gv
  rw [show (12 : Nat) = 4 + 8 from rfl, V_add, show (4 + 8) * (2 * i + 1) = 8 * (3 * i + 1) + 4 by omega, show 8 * (3 * i + 1) + 4 + 4 = 8 * (3 * i + 2) by omega, h8]
  have hd' : V (tb b) (8 * (3 * i + 1) + 4) 4 = b (3 * i + 1) / 2 ^ 4 := hd.symm
  rw [hd']
def smOK (k : Nat) (tp : Nat → Nat) : Prop := ∀ i, i < 256 * k → gv 12 tp i < 3329
theorem c_groups {k m n : Nat} {tp : Nat → Nat} (hT : RC X J I 1 m n tp) (hk : k ≤ 4) (hn : 384 * k ≤ n) (htp : ∀ i, tp i < 256) {q : Int32 → MI → ML → Prop} (h1 : smOK k tp → q 1 I L) (h0 : ¬ smOK k tp → q 0 I L) : wp_X0_groupsAreSmall X J 1 (nI (384 * k)) I L q := by
  refine pk_loop (σ := Unit) (fun fu i _ => wl_X0_groupsAreSmall_2 X J q 1 (nI (384 * k)) fu (nI (3 * i)) I L) (fun i _ => ∀ j, j < 2 * i → gv 12 tp j < 3329) (128 * k) 0 () (Nat.zero_le _) (fun j hj => absurd hj (by omega)) ?_ ?_
  · intro fu _ a
    exact pk_le (384 * k) (3 * (128 * k) + 2) (fun _ => h1 (fun i hi => a i (by omega))) (fun z => absurd z (by omega)) rfl (nI_add (3 * (128 * k)) 2)
  · intro fu i _ hi a ih
    refine pk_le (384 * k) (3 * i + 2) (fun z => absurd z (by omega)) (fun _ => ?_) rfl (nI_add (3 * i) 2)
    rw [nI_1]
    refine c_byteAt hT.1 (by omega) ?_
    refine c_byteAt hT.1 (by omega) ?_
    rw [hT.2 _ (by omega), hT.2 _ (by omega)]
    have b0 := htp (3 * i)
    have b1 := htp (3 * i + 1)
    have b2 := htp (3 * i + 2)
    refine c_firstGroup b0 b1 ?_
    have ge := gv12_ev tp htp i
    have go := gv12_od tp htp i
    refine pk_le 3329 (tp (3 * i) + 256 * (tp (3 * i + 1) % 16)) (fun z => h0 (fun s => by have := s (2 * i) (by omega); omega)) (fun z => ?_)
    rw [show nI (3 * i) + 2 = nI (3 * i + 2) from nI_add _ 2]
    refine c_byteAt hT.1 (by omega) ?_
    rw [hT.2 _ (by omega)]
    refine c_secondGroup b1 b2 ?_
    refine pk_lt (tp (3 * i + 1) / 16 + 16 * tp (3 * i + 2)) 3329 (fun y => ?_) (fun y => h0 (fun s => by have := s (2 * i + 1) (by omega); omega))
    intro x2 e2
    rw [e2, show nI (3 * i) + 3 = nI (3 * (i + 1)) by rw [show (3 : Int32) = nI 3 from rfl, nI_add, Nat.mul_add]]
    refine ih () (fun j hj => ?_)
    by_cases e0 : j = 2 * i
    · rw [e0]; omega
    · by_cases e1 : j = 2 * i + 1
      · rw [e1]; omega
      · exact a j (by omega)
end SM4
