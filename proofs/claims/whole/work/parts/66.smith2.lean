/-! ===== MADE ===== -/
def sgF (sd : Nat → Nat) (i : Nat) : Nat := sd (32 + i)
def skP (k : Nat) (sd : Nat → Nat) (j : Nat) : Nat → Nat := fwd (nP (e1K k) (sgF sd) j)
def epP (k : Nat) (sd : Nat → Nat) (i : Nat) : Nat → Nat := fwd (nP (e1K k) (sgF sd) (k + i))
def tP (k : Nat) (sd : Nat → Nat) (most i : Nat) : Nat → Nat → Nat := acc (epP k sd i) (fun j => uP sd j i most) (skP k sd)
def ekF (k : Nat) (sd : Nat → Nat) (most x : Nat) : Nat := if x < 384 * k then enc 12 (tP k sd most (x / 384) k) (x % 384) else sd (x - 384 * k)
def dkF (k : Nat) (sd : Nat → Nat) (most : Nat) (z : Nat → Nat) (x : Nat) : Nat :=
  if x < 384 * k then enc 12 (skP k sd (x / 384)) (x % 384) else if x < 768 * k + 32 then ekF k sd most (x - 384 * k) else if x < 768 * k + 64 then xof 136 6 (384 * k + 32) (ekF k sd most) (x - (768 * k + 32)) else z (x - (768 * k + 64))
def mkOK (k : Nat) (sd : Nat → Nat) (most : Nat) : Prop := ∀ i, i < k → ∀ j, j < k → uR sd j i most ≠ 0
section SM2
variable {X : XT} {J : MJ} {I : MI} {L : ML}
theorem c_drawVector (hL : LC X J) {e : Nat} (he : e < 3) {sd : Nat → Nat} (hS : RC X J I 24 64 64 sd) {q : MI → ML → Prop}
    (hq : ∀ I' L', (∀ k, k ≠ 18 → (k < 31 ∨ 34 < k) → I' k = I k) → (∀ j, j < e + 2 → Pa I' (31 + j) (skP (e + 2) sd j)) → q I' L') : wp_X1_drawVector X J 21 e I L q := by
  obtain ⟨⟨l0, l1, l2, l3, l4, l5, l6, l7, l8⟩, lS, lP, lv, s30, s256⟩ := id hL
  refine pk2 (fun fu i I' L' => wl_X1_drawVector_2 X J q 21 e fu (nI i) I' L') (fun i I' L' => (∀ k, k ≠ 18 → (k < 31 ∨ 34 < k) → I' k = I k) ∧ ∀ j, j < i → Pa I' (31 + j) (skP (e + 2) sd j)) (e + 2) 0 I L (Nat.zero_le _) ⟨fun _ _ _ => rfl, fun j hj => absurd hj (by omega)⟩ ?_ ?_
  · intro fu I1 L1 ⟨a, b⟩
    exact pk_le (e + 2) (e + 2) (fun _ => hq I1 L1 a b) (fun z => absurd z (by omega)) (enI_0 he)
  · intro fu i I1 L1 hi ⟨a, b⟩ ih
    refine pk_le (e + 2) i (fun z => absurd z (by omega)) (fun _ => ⟨20, l1, 30, l6, ?_⟩) (enI_0 he)
    have hin : vp_in (nI i) (sl X 30) := by rw [s30]; exact vp_in_nI (by omega) (by decide)
    rw [nI_clamp (n := i) (by omega)]
    refine ⟨hin, 31 + i, lv i (by omega), 24, l3, ?_⟩
    rw [enI_1 he]
    have hS1 : RC X J I1 24 64 64 sd := hS.f (a 24 (by decide) (by decide)) (a 25 (by decide) (by decide))
    refine c_drawNoise (g := c33 (sgF sd) i) lS lP (s256 (31 + i) (by omega) (by omega)) (by omega) hS1.1 ⟨by decide, by decide⟩ (st0 := 32) (by decide) (e1K_b _) (fun x hx => ?_) ?_ (fun I2 L2 f2 p2 => ?_)
    · rw [hS1.2 _ (by omega)]; unfold c33; rw [if_pos hx]; rfl
    · unfold c33; rw [if_neg (by decide), pk_tn (by omega), Nat.mod_eq_of_lt (by omega)]
    · refine ⟨hin, 31 + i, lv i (by omega), c_toPairs (s256 (31 + i) (by omega) (by omega)) p2 (fun I3 o3 p3 x2 e2 => ?_)⟩
      rw [e2, nI_1]
      refine ih I3 L2 ⟨fun k a1 a2 => by rw [o3 k (by omega), f2 k a1 (by omega), a k a1 a2], fun j hj => ?_⟩
      by_cases ej : j = i
      · subst ej; exact p3
      · exact (b j (by omega)).f (by rw [o3 _ (by omega), f2 _ (by omega) (by omega)])
theorem c_makeKeys (hL : LC X J) {e : Nat} (he : e < 3) {tp : Nat → Nat} {m0 : Nat} (hR : RC X J I 1 m0 64 tp) (hS : SH X J I) {most : Nat} (hm : most < 1000) {sd : Nat → Nat} (hsd : sd = xof 72 6 33 (c33 tp (e + 2))) {q : Int32 → MI → ML → Prop}
    (h1 : ∀ I' L', (∀ k, (k < 18 ∨ 37 ≤ k) → I' k = I k) → SH X J I' → mkOK (e + 2) sd most → RC X J I' 22 3168 (768 * (e + 2) + 96) (dkF (e + 2) sd most (sgF tp)) → q 1 I' L')
    (h0 : ∀ I' L', (∀ k, (k < 18 ∨ 37 ≤ k) → I' k = I k) → SH X J I' → ¬ mkOK (e + 2) sd most → q 0 I' L') : wp_X1_makeKeys X J 21 e 1 (nI most) I L q := by
  obtain ⟨⟨l0, l1, l2, l3, l4, l5, l6, l7, l8⟩, lS, lP, lv, s30, s256⟩ := id hL
  obtain ⟨⟨n22, r22⟩, ⟨n24, r24⟩, ⟨n26, r26⟩, ⟨n28, r28⟩⟩ := id hS
  refine ⟨18, l0, c_begin (k := 1) lP (by decide) (fun I1 L1 f1 _ _ t1 => ?_)⟩
  have t1' : Sp I1 L1 18 19 72 6 (kAb 72 (c33 tp (e + 2)) 0) := t1
  refine c_absorb (f := c33 tp (e + 2)) (n0 := 0) (st := 0) (cn := 32) lP t1' (hR.1.frame (f1 1 (by decide))) ⟨by decide, by decide⟩ (by decide) (fun i hi => by rw [Nat.zero_add, f1 (1 + 1) (by decide)]; unfold c33; rw [if_pos hi]; exact (hR.2 _ (by omega)).symm) (fun I2 L2 f2 t2 => ?_)
  rw [Nat.zero_add] at t2
  rw [enI_0 he]
  refine c_absorbByte lP t2 (kAb_p (by decide) _ _) _ (fun I3 L3 f3 t3 => ?_)
  have t3' : Sp I3 L3 18 19 72 6 (kAb 72 (c33 tp (e + 2)) 33) := by
    rw [pk_tn (by omega), Nat.mod_eq_of_lt (by omega)] at t3
    exact t3
  refine c_tellSeeds hL t3' (kAb_p (by decide) _ _) (r24.frame (by rw [f3.1 24 (by decide), f2.1 24 (by decide), f1 24 (by decide)])) (fun I4 L4 f4 t4 => ?_)
  have t4' : RC X J I4 24 64 64 sd := by rw [hsd]; exact t4
  refine c_drawVector hL he t4' (fun I5 L5 f5 p5 => ⟨22, l2, ?_⟩)
  have F5 : ∀ k, (k < 18 ∨ 37 ≤ k) → I5 k = I k := fun k hk => by rw [f5 k (by omega) (by omega), f4 k (by omega) (by omega) (by omega), f3.1 k (by omega), f2.1 k (by omega), f1 k (by omega)]
  have G5 : ∀ k, 22 ≤ k → k ≤ 29 → k ≠ 24 → k ≠ 25 → I5 k = I k := fun k a b c d => by rw [f5 k (by omega) (by omega), f4 k (by omega) (by omega) (by omega), f3.1 k (by omega), f2.1 k (by omega), f1 k (by omega)]
  have S5 : RC X J I5 24 64 64 sd := t4'.f (f5 24 (by decide) (by decide)) (f5 25 (by decide) (by decide))
  refine c_clear (r22.frame (G5 22 (by decide) (by decide) (by decide) (by decide))) (fun I6 f6 r6 _ => ?_)
  generalize hF : dkF (e + 2) sd most (sgF tp) = F at h1
  generalize hk : e + 2 = k at *
  have hk2 : 2 ≤ k ∧ k ≤ 4 := by omega
  have F6 : ∀ x, (x < 18 ∨ 37 ≤ x) → I6 x = I x := fun x hx => by rw [f6.1 x (by omega) (by omega), F5 x hx]
  have G6 : ∀ x, 26 ≤ x → x ≤ 29 → I6 x = I x := fun x a b => by rw [f6.1 x (by omega) (by omega), G5 x (by omega) (by omega) (by omega) (by omega)]
  have S6 : RC X J I6 24 64 64 sd := S5.f (f6.1 24 (by decide) (by decide)) (f6.1 25 (by decide) (by decide))
  have P6 : ∀ j, j < k → Pa I6 (31 + j) (skP k sd j) := fun j hj => (p5 j hj).f (f6.1 _ (by omega) (by omega))
  -- what stands through the rest
  have shp : ∀ I', (∃ n, Rw X J I' 22 23 3168 n) → Rw X J I' 24 25 64 64 → (∀ x, 26 ≤ x → x ≤ 27 → I' x = I x) → (∃ n, Rw X J I' 28 29 32 n) → SH X J I' := fun I' a b c d => ⟨a, ⟨64, b⟩, ⟨n26, r26.frame (c 26 (by decide) (by decide))⟩, d⟩
  refine pk2 (fun fu i I' L' => wl_X1_makeKeys_49 X J q 21 e 1 (nI most) fu (nI i) I' L') (fun i I' L' => (∀ x, x ≠ 22 → x ≠ 23 → I' x = I6 x) ∧ RC X J I' 22 3168 (384 * i) F) k 0 I6 L5 (Nat.zero_le _) ⟨fun _ _ _ => rfl, r6, fun i hi => absurd hi (by omega)⟩ ?_ ?_
  · intro fu I7 L7 ⟨a7, b7⟩
    refine pk_le k k (fun _ => ?_) (fun z => absurd z (by omega)) (by rw [← hk]; exact enI_0 he)
    have hdk : ∀ x, 384 * k ≤ x → x < 768 * k + 32 → F x = ekF k sd most (x - 384 * k) := fun x a b => by rw [← hF]; unfold dkF; rw [if_neg (by omega), if_pos b]
    refine pk2 (fun fu i I' L' => wl_X1_makeKeys_83 X J q 21 e 1 (nI most) fu (nI i) I' L') (fun i I' L' => (∀ x, x ≠ 18 → x ≠ 22 → x ≠ 23 → x ≠ 35 → x ≠ 36 → I' x = I6 x) ∧ RC X J I' 22 3168 (384 * k + 384 * i) F ∧ ∀ i', i' < i → ∀ j, j < k → uR sd j i' most ≠ 0) k 0 I7 L7 (Nat.zero_le _) ⟨fun x _ b c _ _ => a7 x b c, b7, fun i hi => absurd hi (by omega)⟩ ?_ ?_
    · intro fu I8 L8 ⟨a8, b8, c8⟩
      refine pk_le k k (fun _ => ⟨22, l2, 24, l3, ?_⟩) (fun z => absurd z (by omega)) (by rw [← hk]; exact enI_0 he)
      have S8 : RC X J I8 24 64 64 sd := S6.f (a8 24 (by decide) (by decide) (by decide) (by decide) (by decide)) (a8 25 (by decide) (by decide) (by decide) (by decide) (by decide))
      refine c_partC (s0 := 0) (cn := 32) b8 S8 (by decide) (by decide) (by omega) (fun i hi => ?_) (fun I9 f9 _ r9 => ?_)
      · rw [hdk _ (by omega) (by omega)]
        unfold ekF
        rw [if_neg (by omega)]
        congr 1
        omega
      show wp_X1_tellDigest X J 21 22 (384 * enI 0 e) (384 * enI 0 e + 32) I9 L8 _
      rw [enI_0 he, hk, show (384 : Int32) = nI 384 from rfl, pk_mul, show (32 : Int32) = nI 32 from rfl, nI_add]
      have D9 : Rw X J I9 28 29 32 n28 := r28.frame (by rw [f9 28 (by decide) (by decide), a8 28 (by decide) (by decide) (by decide) (by decide) (by decide), G6 28 (by decide) (by decide)])
      refine c_tellDigest hL r9 (Or.inr rfl) D9 (by omega) (fun I10 L10 f10 d10 => ⟨28, l5, ?_⟩)
      have hcg : ∀ i, xof 136 6 (384 * k + 32) (fun i => F (384 * k + i)) i = xof 136 6 (384 * k + 32) (ekF k sd most) i := fun i => xof_c (fun j hj => by rw [hdk _ (by omega) (by omega), show 384 * k + j - 384 * k = j by omega]) i
      have r10 : RC X J I10 22 3168 (384 * k + 384 * k + 32) F := r9.f (f10 22 (by decide) (by decide) (by decide)) (f10 23 (by decide) (by decide) (by decide))
      refine c_partC (s0 := 0) (cn := 32) r10 d10 (by decide) (by decide) (by omega) (fun i hi => ?_) (fun I11 f11 _ r11 => ?_)
      · rw [Nat.zero_add, hcg, ← hF]
        unfold dkF
        rw [if_neg (by omega), if_neg (by omega), if_pos (by omega)]
        congr 1
        omega
      have F11 : ∀ x, (x < 18 ∨ 37 ≤ x) → I11 x = I x := fun x hx => by rw [f11 x (by omega) (by omega), f10 x (by omega) (by omega) (by omega), f9 x (by omega) (by omega), a8 x (by omega) (by omega) (by omega) (by omega) (by omega), F6 x hx]
      have T11 : RC X J I11 1 m0 64 tp := hR.f (F11 1 (by decide)) (F11 2 (by decide))
      refine c_partC (s0 := 32) (cn := 32) r11 T11 (by decide) (by decide) (by omega) (fun i hi => ?_) (fun I12 f12 _ r12 => ?_)
      · rw [← hF]
        unfold dkF sgF
        rw [if_neg (by omega), if_neg (by omega), if_neg (by omega)]
        congr 1
        omega
      refine h1 I12 L10 (fun x hx => by rw [f12 x (by omega) (by omega), F11 x hx]) (shp I12 ⟨_, r12.1⟩ ?_ ?_ ?_) c8 ?_
      · exact S8.1.frame (by rw [f12 24 (by decide) (by decide), f11 24 (by decide) (by decide), f10 24 (by decide) (by decide) (by decide), f9 24 (by decide) (by decide)])
      · intro x a b
        rw [f12 x (by omega) (by omega), f11 x (by omega) (by omega), f10 x (by omega) (by omega) (by omega), f9 x (by omega) (by omega), a8 x (by omega) (by omega) (by omega) (by omega) (by omega), G6 x (by omega) (by omega)]
      · exact ⟨32, d10.1.frame (by rw [f12 28 (by decide) (by decide), f11 28 (by decide) (by decide)])⟩
      · rw [show 768 * k + 96 = 384 * k + 384 * k + 32 + 32 + 32 by omega]; exact r12
    · intro fu i I8 L8 hi ⟨a8, b8, c8⟩ ih
      refine pk_le k i (fun z => absurd z (by omega)) (fun _ => ⟨20, l1, 35, l7, 24, l3, ?_⟩) (by rw [← hk]; exact enI_0 he)
      have S8 : RC X J I8 24 64 64 sd := S6.f (a8 24 (by decide) (by decide) (by decide) (by decide) (by decide)) (a8 25 (by decide) (by decide) (by decide) (by decide) (by decide))
      have P8 : ∀ j, j < k → Pa I8 (31 + j) (skP k sd j) := fun j hj => (P6 j hj).f (a8 _ (by omega) (by omega) (by omega) (by omega) (by omega))
      rw [enI_1 he, enI_0 he, hk, nI_add]
      refine c_drawNoise (g := c33 (sgF sd) (k + i)) lS lP (s256 35 (by decide) (by decide)) (by decide) S8.1 ⟨by decide, by decide⟩ (st0 := 32) (by decide) (e1K_b _) (fun x hx => ?_) ?_ (fun I9 L9 f9 p9 => ?_)
      · rw [S8.2 _ (by omega)]; unfold c33; rw [if_pos hx]; rfl
      · unfold c33; rw [if_neg (by decide), pk_tn (by omega), Nat.mod_eq_of_lt (by omega)]
      refine c_toPairs (s256 35 (by decide) (by decide)) p9 (fun I10 o10 p10 => ?_)
      refine pk2 (fun fv j I' L' => wl_X1_makeKeys_130 X J q (wl_X1_makeKeys_83 X J q 21 e 1 (nI most) fu) 21 e 1 (nI most) (nI i) fv (nI j) I' L') (fun j I' L' => (∀ x, x ≠ 18 → x ≠ 35 → x ≠ 36 → I' x = I8 x) ∧ Pa I' 35 (tP k sd most i j) ∧ ∀ j', j' < j → uR sd j' i most ≠ 0) k 0 I10 L9 (Nat.zero_le _) ⟨fun x a b c => by rw [o10 x b, f9 x a b], p10, fun j hj => absurd hj (by omega)⟩ ?_ ?_
      · intro fv I11 L11 ⟨a11, b11, c11⟩
        refine pk_le k k (fun _ => ⟨35, l7, 22, l2, ?_⟩) (fun z => absurd z (by omega)) (by rw [← hk]; exact enI_0 he)
        have r11 : RC X J I11 22 3168 (384 * k + 384 * i) F := b8.f (a11 22 (by decide) (by decide) (by decide)) (a11 23 (by decide) (by decide) (by decide))
        refine c_pack12 hL (by decide) (by decide) b11 r11 (by omega) (fun x hx => ?_) (fun I12 f12 r12 x4 e4 => ?_)
        · rw [hdk _ (by omega) (by omega)]
          unfold ekF
          rw [if_pos (by omega), show (384 * k + 384 * i + x - 384 * k) / 384 = i by omega, show (384 * k + 384 * i + x - 384 * k) % 384 = x by omega]
        · rw [e4, nI_1]
          refine ih I12 L11 ⟨fun x a b c d f => by rw [f12 x b c, a11 x a d f, a8 x a b c d f], by rw [show 384 * k + 384 * (i + 1) = 384 * k + 384 * i + 384 by omega]; exact r12, fun i' hi' => ?_⟩
          by_cases ei : i' = i
          · subst ei; exact c11
          · exact c8 i' (by omega)
      · intro fv j I11 L11 hj ⟨a11, b11, c11⟩ ih2
        refine pk_le k j (fun z => absurd z (by omega)) (fun _ => ⟨20, l1, 36, l8, 24, l3, ?_⟩) (by rw [← hk]; exact enI_0 he)
        have S11 : RC X J I11 24 64 64 sd := S8.f (a11 24 (by decide) (by decide) (by decide)) (a11 25 (by decide) (by decide) (by decide))
        refine c_drawUniform (g := c34 sd j i) lS lP (s256 36 (by decide) (by decide)) (by decide) S11.1 ⟨by decide, by decide⟩ (st0 := 0) (by decide) hm (fun x hx => ?_) ?_ ?_ (fun I12 L12 f12 z12 p12 => ?_) (fun I12 L12 f12 z12 => ?_)
        · rw [Nat.zero_add, S11.2 _ (by omega)]; unfold c34; rw [if_pos hx]
        · unfold c34; rw [if_neg (by decide), if_pos rfl, pk_tn (by omega), Nat.mod_eq_of_lt (by omega)]
        · unfold c34; rw [if_neg (by decide), if_neg (by decide), pk_tn (by omega), Nat.mod_eq_of_lt (by omega)]
        · have hne : ¬ nI (sR (xof 168 31 34 (c34 sd j i)) most) = -2 := by
            have hle : ∀ (t : Nat → Nat) m, sR t m ≤ m := by
              intro t m
              induction m with
              | zero => exact Nat.le_refl _
              | succ m ih => unfold sR; split; split <;> omega; omega
            intro z
            have := nI_pos (n := sR (xof 168 31 34 (c34 sd j i)) most) (by have := hle (xof 168 31 34 (c34 sd j i)) most; omega)
            rw [z] at this
            exact this (by decide)
          refine ⟨fun _ => ⟨30, l6, ?_⟩, fun z => absurd z hne⟩
          rw [nI_clamp (n := j) (by omega)]
          refine ⟨by rw [s30]; exact vp_in_nI (by omega) (by decide), 31 + j, lv j (by omega), ?_⟩
          have P12 : Pa I12 (31 + j) (skP k sd j) := (P8 j hj).f (by rw [f12 _ (by omega) (by omega), a11 _ (by omega) (by omega) (by omega)])
          refine c_addProduct hL (by omega) (by omega) p12 P12 (b11.f (f12 35 (by decide) (by decide))) (fun I13 f13 p13 x5 e5 => ?_)
          rw [e5, nI_1]
          refine ih2 I13 L12 ⟨fun x a b c => by rw [f13 x b c, f12 x a c, a11 x a b c], p13, fun j' hj' => ?_⟩
          by_cases ej : j' = j
          · subst ej; exact z12
          · exact c11 j' (by omega)
        · refine ⟨fun z => absurd rfl z, fun _ => ?_⟩
          have fr : ∀ x, x ≠ 18 → x ≠ 22 → x ≠ 23 → x ≠ 35 → x ≠ 36 → I12 x = I6 x := fun x a b c d f => by rw [f12 x a f, a11 x a d f, a8 x a b c d f]
          refine h0 I12 L12 (fun x hx => by rw [fr x (by omega) (by omega) (by omega) (by omega) (by omega), F6 x hx]) (shp I12 ⟨_, b8.1.frame (by rw [f12 22 (by decide) (by decide), a11 22 (by decide) (by decide) (by decide)])⟩ (S6.1.frame (fr 24 (by decide) (by decide) (by decide) (by decide) (by decide))) (fun x a b => by rw [fr x (by omega) (by omega) (by omega) (by omega) (by omega), G6 x (by omega) (by omega)]) ⟨n28, r28.frame (by rw [fr 28 (by decide) (by decide) (by decide) (by decide) (by decide), G6 28 (by decide) (by decide)])⟩) (fun ok => ok i hi j hj z12)
  · intro fu i I7 L7 hi ⟨a7, b7⟩ ih
    refine pk_le k i (fun z => absurd z (by omega)) (fun _ => ⟨30, l6, ?_⟩) (by rw [← hk]; exact enI_0 he)
    rw [nI_clamp (n := i) (by omega)]
    refine ⟨by rw [s30]; exact vp_in_nI (by omega) (by decide), 31 + i, lv i (by omega), 22, l2, ?_⟩
    refine c_pack12 hL (by omega) (by omega) ((P6 i hi).f (a7 _ (by omega) (by omega))) b7 (by omega) (fun x hx => ?_) (fun I8 f8 r8 x4 e4 => ?_)
    · rw [← hF]
      unfold dkF
      rw [if_pos (by omega), show (384 * i + x) / 384 = i by omega, show (384 * i + x) % 384 = x by omega]
    · rw [e4, nI_1]
      refine ih I8 L7 ⟨fun x a b => by rw [f8 x a b, a7 x a b], by rw [show 384 * (i + 1) = 384 * i + 384 by omega]; exact r8⟩
end SM2
