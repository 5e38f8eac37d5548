section MMD
variable {X : XT} {J : MJ} {I : MI} {L : ML}
theorem Pm.c {p : Nat} {f g : Nat → Nat} (h : Pm I p f) (hg : ∀ i, i < 256 → f i = g i) : Pm I p g := fun j hj => by rw [← hg j hj]; exact h j hj
theorem Mb.c {a n : Nat} {f g : Nat → Nat} (h : Mb I a n f) (hg : ∀ i, i < n → f i = g i) : Mb I a n g := fun j hj => by rw [← hg j hj]; exact h j hj
theorem c_plusT (hC : MC X J) {p p' : Nat} (hp : p < 20) (hp' : p' < 20) (hne : p ≠ p') {f g : Nat → Nat} (hf : Pm I p f) (hg : Pm I p' g) {q : MI → ML → Prop} (hq : ∀ I', FP I I' p → Pm I' p (fun i => rad (f i) (g i)) → q I' L) : wp_X8_plus X J mo (nI p) (nI p') 1 I L q := by
  have := c_plus (L := L) hC hp hp' hne hf hg true (q := q) (fun I' o x => hq I' o (x.c (fun i _ => if_pos rfl)))
  rw [if_pos rfl] at this
  exact this
theorem c_plusF (hC : MC X J) {p p' : Nat} (hp : p < 20) (hp' : p' < 20) (hne : p ≠ p') {f g : Nat → Nat} (hf : Pm I p f) (hg : Pm I p' g) {q : MI → ML → Prop} (hq : ∀ I', FP I I' p → Pm I' p (fun i => rsb (f i) (g i)) → q I' L) : wp_X8_plus X J mo (nI p) (nI p') (-1) I L q := by
  have := c_plus (L := L) hC hp hp' hne hf hg false (q := q) (fun I' o x => hq I' o (x.c (fun i _ => if_neg (by decide))))
  rw [if_neg (by decide)] at this
  exact this
theorem c_mprodT (hC : MC X J) (hT : MT I) {p p2 to : Nat} (hp : p < 20) (hp2 : p2 < 20) (hto : to < 20) (h1 : to ≠ p) (h2 : to ≠ p2) {f g s : Nat → Nat} (hf : Pm I p f) (hg : Pm I p2 g) (hs : Pm I to s) {q : MI → ML → Prop} (hq : ∀ I', FP I I' to → Pm I' to (fun x => rad (s x) (prd f g x)) → q I' L) : wp_X8_product X J mo (nI p) (nI p2) (nI to) 1 I L q :=
  c_mprod (L := L) hC hT hp hp2 hto h1 h2 hf hg true (fun _ => hs) (fun I' o x => hq I' o (x.c (fun i _ => if_pos rfl)))
theorem c_fw (hC : MC X J) (hT : MT I) {p : Nat} (hp : p < 18) {f : Nat → Nat} (hf : Pm I p f) {lo hi : Nat} {P : Nat → Prop} (h1 : P p) (h2 : P 18) {q : MI → ML → Prop} (hq : ∀ I', MF I I' lo hi P → (∀ p', p' ≠ p → p' ≠ 18 → ∀ g, Pm I p' g → Pm I' p' g) → Pm I' p (fwd f) → q I' L) : wp_X8_bringForward X J mo (nI p) I L q :=
  c_mfwd hC hT hp hf (fun I' I1 a b c => hq I' ((FP.f a h2).trans (FP.f b h1)) (fun p' z y g hg => b.o z (a.o y hg)) c)
theorem c_bw (hC : MC X J) (hT : MT I) {p : Nat} (hp : p < 18) {f : Nat → Nat} (hf : Pm I p f) {lo hi : Nat} {P : Nat → Prop} (h1 : P p) (h2 : P 18) {q : MI → ML → Prop} (hq : ∀ I', MF I I' lo hi P → (∀ p', p' ≠ p → p' ≠ 18 → ∀ g, Pm I p' g → Pm I' p' g) → Pm I' p (bk f) → q I' L) : wp_X8_bringBack X J mo (nI p) I L q :=
  c_mbk hC hT hp hf (fun I' I1 a b c => hq I' ((FP.f a h2).trans (FP.f b h1)) (fun p' z y g hg => b.o z (a.o y hg)) c)
theorem c_made (hC : MC X J) (hT : MT I) {k most : Nat} (hk : I mo 7 = nI k) (hk2 : 2 ≤ k ∧ k ≤ 4) (hmo : I mo 8 = nI most) (hm : most < 1000) {tp sd : Nat → Nat} (htp : Mb I 0 64 tp) (hsd : sd = xof 72 6 33 (c33 tp k)) {q : Int32 → MI → ML → Prop}
    (h1 : ∀ I', MF I I' 11336 20000 (fun p => 4 ≤ p) → mkOK k sd most → (∀ j, j < k → Pm I' (4 + j) (skP k sd j)) → Mb I' 16476 (384 * k + 32) (ekF k sd most) → q 1 I' L)
    (h0 : ∀ I', MF I I' 11336 20000 (fun p => 4 ≤ p) → ¬ mkOK k sd most → q 0 I' L) : wp_X8_made X J mo I L q := by
  obtain ⟨⟨j1, j2, j3, j4, j5, j6, j7, j8, j9⟩, s1, s2, s3, s4, s5, s6, s7, s8, s9⟩ := id hC
  refine c_copy (fr := 0) (to := 11336) (n := 32) hC (by decide) (by decide) (by decide) (fun I1 f1 b1 => ?_)
  have m1 : MF I I1 11336 20000 (fun p => 4 ≤ p) := f1.f (by decide) (by decide)
  rw [m1.2.1 7 (by decide) (by decide), hk]
  refine ⟨me, j1, by rw [s1]; exact vp_in_nI (n := 11368) (by decide) (by decide), fun I2 e2 => ?_⟩
  have e2' : I2 = ms I1 me 11368 (jb8 (jb8 (nI k))) := e2
  have m2 : MF I I2 11336 20000 (fun p => 4 ≤ p) := m1.trans ((FW_up e2').f (by decide) (by decide))
  have g2 : Mb I2 11336 33 (c33 tp k) := fun i hi => by
    unfold c33
    by_cases c32 : i = 32
    · rw [c32, if_neg (by decide), mb_up e2', pk_tn (by omega), Nat.mod_eq_of_lt (by omega)]
    · rw [mb_un e2' (by omega), b1 i (by omega), if_pos (by omega)]
      exact htp i (by omega)
  refine c_g (n := 33) hC (m2.t hT) (by decide) g2 (fun I3 f3 g3 => ?_)
  have m3 : MF I I3 11336 20000 (fun p => 4 ≤ p) := m2.trans (f3.w (by decide) (by decide) (fun _ z => absurd z id))
  refine c_copy (fr := 19612) (to := 19804) (n := 64) hC (by decide) (by decide) (by decide) (fun I4 f4 b4 => ?_)
  have m4 : MF I I4 11336 20000 (fun p => 4 ≤ p) := m3.trans (f4.f (by decide) (by decide))
  have H4 : Mb I4 19804 64 sd := fun i hi => by rw [b4 i hi, g3 i hi, hsd]
  have k4 : ∀ I', MF I4 I' 11336 20000 (fun p => 4 ≤ p) → I' mo 7 = nI k ∧ I' mo 8 = nI most ∧ MT I' := fun I' f => ⟨by rw [f.2.1 7 (by decide) (by decide), m4.2.1 7 (by decide) (by decide)]; exact hk, by rw [f.2.1 8 (by decide) (by decide), m4.2.1 8 (by decide) (by decide)]; exact hmo, f.t (m4.t hT)⟩
  refine pk_loop (σ := MI) (fun fu i I' => wl_X8_made_43 X J q mo fu (nI i) I' L) (fun i I' => MF I4 I' 11336 16476 (fun p => 4 ≤ p) ∧ ∀ j, j < i → Pm I' (4 + j) (skP k sd j) ∧ Pm I' (8 + j) (epP k sd j)) k 0 I4 (Nat.zero_le _) ⟨MF.rf, fun j hj => absurd hj (by omega)⟩ ?_ ?_
  · intro fu I5 ⟨a5, b5⟩
    obtain ⟨q7, q8, qT⟩ := k4 I5 (a5.w (Nat.le_refl _) (by decide) (fun _ z => z))
    refine pk_le k k (fun _ => ?_) (fun z => absurd z (by omega)) q7
    have H5 : Mb I5 19804 64 sd := H4.f a5 (Or.inr (by decide))
    have m5 : MF I I5 11336 20000 (fun p => 4 ≤ p) := m4.trans (a5.w (Nat.le_refl _) (by decide) (fun _ z => z))
    have wk : ∀ I', MF I5 I' 11336 18044 (fun p => p = 16 ∨ p = 17 ∨ p = 18) → MF I5 I' 11336 20000 (fun p => 4 ≤ p) := fun I' f => f.w (Nat.le_refl _) (by decide) (fun p z => by omega)
    refine pk_loop (σ := MI) (fun fu i I' => wl_X8_made_110 X J q mo fu (nI i) I' L) (fun i I' => MF I5 I' 11336 18044 (fun p => p = 16 ∨ p = 17 ∨ p = 18) ∧ Mb I' 16476 (384 * i) (ekF k sd most) ∧ ∀ i', i' < i → ∀ j, j < k → uR sd j i' most ≠ 0) k 0 I5 (Nat.zero_le _) ⟨MF.rf, fun j hj => absurd hj (by omega), fun i hi => absurd hi (by omega)⟩ ?_ ?_
    · intro fu I6 ⟨a6, b6, c6⟩
      have q7 : I6 mo 7 = nI k := by rw [a6.2.1 7 (by decide) (by decide)]; exact q7
      refine pk_le k k (fun _ => ?_) (fun z => absurd z (by omega)) q7
      rw [q7, show (384 : Int32) = nI 384 from rfl, pk_mul, show (16476 : Int32) = nI 16476 from rfl, nI_add]
      refine c_copy (fr := 19804) (n := 32) hC (by decide) (by omega) (by omega) (fun I7 f7 b7 => ?_)
      have H6 : Mb I6 19804 64 sd := H5.f a6 (Or.inr (by decide))
      have f7' : MF I6 I7 11336 20000 (fun p => 4 ≤ p) := f7.f (by omega) (by omega)
      refine h1 I7 ((m5.trans (wk I6 a6)).trans f7') c6 (fun j hj => ?_) (fun i hi => ?_)
      · have := a6.p (p := 4 + j) (by omega) (b5 j hj).1
        exact (FW.f (lo := 0) (hi := 20000) (P := fun _ => False) f7 (by omega) (by omega)).p (fun z => z) this
      · rcases Nat.lt_or_ge i (384 * k) with z | z
        · have : mb I7 (16476 + i) = mb I6 (16476 + i) := by unfold mb; rw [f7.2.1 _ (by omega)]
          rw [this, b6 i z]
        · have := b7 (i - 384 * k) (by omega)
          rw [show 16476 + 384 * k + (i - 384 * k) = 16476 + i by omega] at this
          rw [this, H6 _ (by omega)]
          unfold ekF
          rw [if_neg (by omega)]
    · intro fu i I6 hi ⟨a6, b6, c6⟩ ih
      have q7' : I6 mo 7 = nI k := by rw [a6.2.1 7 (by decide) (by decide)]; exact q7
      refine pk_le k i (fun z => absurd z (by omega)) (fun _ => ?_) q7'
      have H6 : Mb I6 19804 64 sd := H5.f a6 (Or.inr (by decide))
      rw [show (8 : Int32) + nI i = nI (8 + i) from nI_add 8 i]
      refine c_copyPol (p' := 16) hC (by omega) (by decide) (by omega) (a6.p (p := 8 + i) (by omega) (b5 i hi).2) (fun I7 f7 p7 => ?_)
      have m7 : MF I6 I7 11336 16476 (fun p => p = 16 ∨ p = 17 ∨ p = 18) := FP.f f7 (Or.inl rfl)
      refine pk_loop (σ := MI) (fun fv j I' => wl_X8_made_130 X J q (wl_X8_made_110 X J q mo fu) mo (nI i) fv (nI j) I' L) (fun j I' => MF I6 I' 11336 16476 (fun p => p = 16 ∨ p = 17 ∨ p = 18) ∧ Pm I' 16 (tP k sd most i j) ∧ ∀ j', j' < j → uR sd j' i most ≠ 0) k 0 I7 (Nat.zero_le _) ⟨m7, p7, fun j hj => absurd hj (by omega)⟩ ?_ ?_
      · intro fv I8 ⟨a8, b8, c8⟩
        refine pk_le k k (fun _ => ?_) (fun z => absurd z (by omega)) (by rw [a8.2.1 7 (by decide) (by decide)]; exact q7')
        rw [show (384 : Int32) = nI 384 from rfl, pk_mul, show (16476 : Int32) = nI 16476 from rfl, nI_add]
        refine c_written (p := 16) (d := 12) hC (by decide) b8 (by decide) (by decide) (by omega) (fun I9 f9 b9 x1 e1 => ?_)
        rw [e1, nI_1]
        refine ih I9 ⟨(a6.trans (a8.w (Nat.le_refl _) (by decide) (fun _ z => z))).trans (f9.f (by omega) (by omega)), fun x hx => ?_, fun i' hi' => ?_⟩
        · rcases Nat.lt_or_ge x (384 * i) with z | z
          · have : mb I9 (16476 + x) = mb I8 (16476 + x) := by unfold mb; rw [f9.2.1 _ (by omega)]
            rw [this, a8.m (by omega), b6 x z]
          · have := b9 (x - 384 * i) (by omega)
            rw [show 16476 + 384 * i + (x - 384 * i) = 16476 + x by omega] at this
            rw [this]
            unfold ekF
            rw [if_pos (by omega), show x / 384 = i by omega, show x % 384 = x - 384 * i by omega]
        · by_cases ei : i' = i
          · subst ei; exact c8
          · exact c6 i' (by omega)
      · intro fv j I8 hj ⟨a8, b8, c8⟩ ih2
        have q7'' : I8 mo 7 = nI k := by rw [a8.2.1 7 (by decide) (by decide)]; exact q7'
        refine pk_le k j (fun z => absurd z (by omega)) (fun _ => ?_) q7''
        have H8 : Mb I8 19804 64 sd := H6.f a8 (Or.inr (by decide))
        have T8 : MT I8 := a8.t (a6.t qT)
        refine c_matrix (sd := 19804) (p := 17) (g := c34 sd j i) hC T8 (by decide) hm (by rw [a8.2.1 8 (by decide) (by decide), a6.2.1 8 (by decide) (by decide)]; exact q8) (Or.inr (by decide)) (fun x hx => ?_) ?_ ?_ (fun I9 f9 z9 p9 => ?_) (fun I9 f9 z9 => ?_)
        · rw [H8 x (by omega)]; unfold c34; rw [if_pos hx]
        · unfold c34; rw [if_neg (by decide), if_pos rfl, pk_tn (by omega), Nat.mod_eq_of_lt (by omega)]
        · unfold c34; rw [if_neg (by decide), if_neg (by decide), pk_tn (by omega), Nat.mod_eq_of_lt (by omega)]
        · refine ⟨fun _ => ?_, fun z => absurd z (sR_ne _ hm).2⟩
          rw [show (4 : Int32) + nI j = nI (4 + j) from nI_add 4 j]
          have S9 : Pm I9 (4 + j) (skP k sd j) := f9.p (by omega) (a8.p (by omega) (a6.p (by omega) (b5 j hj).1))
          refine c_mprodT (p := 17) (to := 16) hC (f9.t T8) (by decide) (by omega) (by decide) (by decide) (by omega) p9 S9 (f9.p (by omega) b8) (fun I10 f10 p10 x2 e2 => ?_)
          rw [e2, nI_1]
          refine ih2 I10 ⟨(a8.trans (f9.w (Nat.le_refl _) (Nat.le_refl _) (fun p z => by omega))).trans (FP.f f10 (Or.inl rfl)), p10, fun j' hj' => ?_⟩
          by_cases ej : j' = j
          · subst ej; exact z9
          · exact c8 j' (by omega)
        · refine ⟨fun z => absurd rfl z, fun _ => h0 I9 (((m5.trans (wk I6 a6)).trans (a8.w (Nat.le_refl _) (by decide) (fun p z => by omega))).trans (f9.w (Nat.le_refl _) (by decide) (fun p z => by omega))) (fun ok => ok i hi j hj z9)⟩
  · intro fu i I5 hi ⟨a5, b5⟩ ih
    obtain ⟨q7, q8, qT⟩ := k4 I5 (a5.w (Nat.le_refl _) (by decide) (fun _ z => z))
    refine pk_le k i (fun z => absurd z (by omega)) (fun _ => ?_) q7
    have H5 : Mb I5 19804 64 sd := H4.f a5 (Or.inr (by decide))
    refine c_eta1 q7 (by omega) ?_
    rw [show (4 : Int32) + nI i = nI (4 + i) from nI_add 4 i, show (8 : Int32) + nI i = nI (8 + i) from nI_add 8 i]
    refine c_noised (sd := 19836) (g := c33 (sgF sd) i) hC qT (by omega) (e1K_b k) (Or.inr (by decide)) (fun x hx => ?_) ?_ (fun I6 f6 p6 => ?_)
    · rw [show 19836 + x = 19804 + (32 + x) by omega, H5 _ (by omega)]; unfold c33 sgF; rw [if_pos hx]
    · unfold c33; rw [if_neg (by decide), pk_tn (by omega), Nat.mod_eq_of_lt (by omega)]
    have q6 : I6 mo 7 = nI k := by rw [f6.2.1 7 (by decide) (by decide)]; exact q7
    refine c_eta1 q6 (by omega) ?_
    rw [q6, nI_add]
    have H6 : Mb I6 19804 64 sd := H5.f f6 (Or.inr (by decide))
    refine c_noised (sd := 19836) (g := c33 (sgF sd) (k + i)) hC (f6.t qT) (by omega) (e1K_b k) (Or.inr (by decide)) (fun x hx => ?_) ?_ (fun I7 f7 p7 => ?_)
    · rw [show 19836 + x = 19804 + (32 + x) by omega, H6 _ (by omega)]; unfold c33 sgF; rw [if_pos hx]
    · unfold c33; rw [if_neg (by decide), pk_tn (by omega), Nat.mod_eq_of_lt (by omega)]
    refine c_fw (lo := 11336) (hi := 16476) (P := fun p => 4 ≤ p) hC (f7.t (f6.t qT)) (by omega) (f7.p (by omega) p6) (by omega) (by decide) (fun I8 f8 o8 p8 => ?_)
    refine c_fw (lo := 11336) (hi := 16476) (P := fun p => 4 ≤ p) hC (f8.t (f7.t (f6.t qT))) (by omega) (o8 _ (by omega) (by omega) _ p7) (by omega) (by decide) (fun I9 f9 o9 p9 x1 e1 => ?_)
    rw [e1, nI_1]
    refine ih I9 ⟨(((a5.trans (f6.w (Nat.le_refl _) (Nat.le_refl _) (fun p z => by omega))).trans (f7.w (Nat.le_refl _) (Nat.le_refl _) (fun p z => by omega))).trans f8).trans f9, fun j hj => ?_⟩
    by_cases ej : j = i
    · subst ej
      exact ⟨o9 _ (by omega) (by omega) _ p8, p9⟩
    · have h2 := b5 j (by omega)
      exact ⟨o9 _ (by omega) (by omega) _ (o8 _ (by omega) (by omega) _ (f7.p (by omega) (f6.p (by omega) h2.1))), o9 _ (by omega) (by omega) _ (o8 _ (by omega) (by omega) _ (f7.p (by omega) (f6.p (by omega) h2.2)))⟩
end MMD
