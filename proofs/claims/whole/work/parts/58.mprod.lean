section MPR
variable {X : XT} {J : MJ} {L : ML}
theorem z64 : (0 : Int32).toInt64 = lN 0 := rfl
theorem c_p225 (hC : MC X J) {I : MI} {to i x1 n old : Nat} {y1 y2 x4 : Int32} (hn : n < 2 ^ 40) (ho : old < 3329) (hx : x1 < 5120) {q : MI → ML → Prop} {k : Int32 → MI → ML → Prop}
    (hk : ∀ I', I' = ms I po x1 (nI ((n + old) % 3329)) → k (nI (i + 1)) I' L) : wj_X8_product_225 X J q k mo y1 y2 (nI to) x4 (nI i) po (nI x1) (lN n) (nI old) I L := by
  obtain ⟨⟨j1, j2, j3, j4, j5, j6, j7, j8, j9⟩, s1, s2, s3, s4, s5, s6, s7, s8, s9⟩ := id hC
  unfold wj_X8_product_225
  rw [nI_l (by omega), lN_add, nI_clamp (n := x1) (by omega)]
  refine c_ringN (by omega) ⟨by rw [s7]; exact vp_in_nI hx (by decide), fun I26 e26 x5 e5 => ?_⟩
  rw [e5, nI_1]
  exact hk I26 e26
theorem c_mprod (hC : MC X J) {I : MI} (hT : MT I) {p p2 to : Nat} (hp : p < 20) (hp2 : p2 < 20) (hto : to < 20) (h1 : to ≠ p) (h2 : to ≠ p2) {f g s : Nat → Nat} (hf : Pm I p f) (hg : Pm I p2 g) (ad : Bool) (hs : ad = true → Pm I to s) {q : MI → ML → Prop}
    (hq : ∀ I', FP I I' to → Pm I' to (fun x => if ad then rad (s x) (prd f g x) else prd f g x) → q I' L) : wp_X8_product X J mo (nI p) (nI p2) (nI to) (bI ad) I L q := by
  obtain ⟨⟨j1, j2, j3, j4, j5, j6, j7, j8, j9⟩, s1, s2, s3, s4, s5, s6, s7, s8, s9⟩ := id hC
  refine pk_loop (σ := MI) (fun fu i I' => wl_X8_product_3 X J q mo (nI p) (nI p2) (nI to) (bI ad) fu (nI i) I' L) (fun i I' => FP I I' to ∧ (∀ x, x < 2 * i → I' po (256 * to + x) = nI (if ad then rad (s x) (prd f g x) else prd f g x)) ∧ ∀ x, 2 * i ≤ x → x < 256 → I' po (256 * to + x) = I po (256 * to + x)) 128 0 I (by decide) ⟨FP.rf, fun x hx => absurd hx (by omega), fun _ _ _ => rfl⟩ ?_ ?_
  · intro fu I' ⟨a, b, c⟩
    refine pk_le 128 128 (fun _ => hq I' a (fun x hx => ⟨?_, b x (by omega)⟩)) (fun z => absurd z (by omega))
    cases ad
    · exact prd_lt f g x
    · exact Nat.mod_lt _ (by decide)
  · intro fu i I' hi ⟨a, b, c⟩ ih
    refine pk_le 128 i (fun z => absurd z (by omega)) (fun _ => ⟨po, j7, ?_⟩)
    have hf' := a.o (Ne.symm h1) hf
    have hg' := a.o (Ne.symm h2) hg
    have f0 := hf' (2 * i) (by omega)
    have f1 := hf' (2 * i + 1) (by omega)
    have g0 := hg' (2 * i) (by omega)
    have g1 := hg' (2 * i + 1) (by omega)
    have ee : ∀ r : Nat, (256 * nI r + 2 * nI i : Int32) = nI (256 * r + 2 * i) := fun r => by
      rw [show (2 : Int32) * nI i = nI (2 * i) from pk_mul 2 i, e256]
    have ho := oddN_lt i hi
    have hT' := hT.fp a
    have hmo := Nat.mod_lt (oddN i) (show 0 < 256 by decide)
    rw [ee p, ee p2, ee to, nI_1, nI_1, nI_clamp (n := 256 * p + 2 * i) (by omega), nI_clamp (n := 256 * p + 2 * i + 1) (by omega), nI_clamp (n := 256 * p2 + 2 * i) (by omega), nI_clamp (n := 256 * p2 + 2 * i + 1) (by omega), nI_clamp (n := 256 * to + 2 * i) (by omega)]
    rw [f0.2, show 256 * p + 2 * i + 1 = 256 * p + (2 * i + 1) by omega, f1.2, g0.2, show 256 * p2 + 2 * i + 1 = 256 * p2 + (2 * i + 1) by omega, g1.2, nI_l (by omega), nI_l (by omega), nI_l (by omega), nI_l (by omega)]
    refine ⟨by rw [s7]; exact vp_in_nI (by omega) (by decide), fun x6 e6 => ⟨by rw [s7]; exact vp_in_nI (by omega) (by decide), fun x8 e8 => ⟨by rw [s7]; exact vp_in_nI (by omega) (by decide), fun x10 e10 => ⟨by rw [s7]; exact vp_in_nI (by omega) (by decide), fun x12 e12 => ⟨pw, j8, od, j9, ?_⟩⟩⟩⟩⟩
    rw [nI_clamp (n := i) (by omega), hT'.2.2.2 i hi, show jrem (nI (oddN i)) 256 = nI (oddN i % 256) from jrem_n (d := 256) (by omega) (by decide) (by decide), nI_clamp (n := oddN i % 256) (by omega), hT'.2.2.1 _ hmo, nI_l (by have := powN_lt (oddN i % 256); omega)]
    refine ⟨by rw [s9]; exact vp_in_nI hi (by decide), by rw [s8]; exact vp_in_nI hmo (by decide), fun x14 e14 x16 e16 => ?_⟩
    have hpw := powN_lt (oddN i % 256)
    have m1 : f (2 * i) * g (2 * i) ≤ 3328 * 3328 := Nat.mul_le_mul (by omega) (by omega)
    have m2 : f (2 * i + 1) * g (2 * i + 1) ≤ 3328 * 3328 := Nat.mul_le_mul (by omega) (by omega)
    have m3 : f (2 * i) * g (2 * i + 1) ≤ 3328 * 3328 := Nat.mul_le_mul (by omega) (by omega)
    have m4 : f (2 * i + 1) * g (2 * i) ≤ 3328 * 3328 := Nat.mul_le_mul (by omega) (by omega)
    have hm := Nat.mod_lt (f (2 * i + 1) * g (2 * i + 1)) (show 0 < 3329 by decide)
    have m5 : f (2 * i + 1) * g (2 * i + 1) % 3329 * powN (oddN i % 256) ≤ 3328 * 3328 := Nat.mul_le_mul (by omega) (by omega)
    rw [e6, e8, e10, e12, lN_mul, lN_mul, show (3329 : Int64) = lN 3329 from rfl, jlrem_n (by omega) (by decide) (by decide), lN_mul, lN_add] at e14
    rw [e6, e8, e10, e12, lN_mul, lN_mul, lN_add] at e16
    have hfin : ∀ (o0 o1 : Nat), o0 < 3329 → o1 < 3329 → (ad = true → o0 = s (2 * i) ∧ o1 = s (2 * i + 1)) → (ad = false → o0 = 0 ∧ o1 = 0) → ∀ I2, I2 = ms (ms I' po (256 * to + 2 * i) (nI ((f (2 * i) * g (2 * i) + f (2 * i + 1) * g (2 * i + 1) % 3329 * powN (oddN i % 256) + o0) % 3329))) po (256 * to + 2 * i + 1) (nI ((f (2 * i) * g (2 * i + 1) + f (2 * i + 1) * g (2 * i) + o1) % 3329)) → wl_X8_product_3 X J q mo (nI p) (nI p2) (nI to) (bI ad) fu (nI (i + 1)) I2 L := by
      intro o0 o1 l0 l1 ha hb I2 e2
      have hpo : I2 po = va_up (va_up (I' po) (256 * to + 2 * i) (nI ((f (2 * i) * g (2 * i) + f (2 * i + 1) * g (2 * i + 1) % 3329 * powN (oddN i % 256) + o0) % 3329))) (256 * to + 2 * i + 1) (nI ((f (2 * i) * g (2 * i + 1) + f (2 * i + 1) * g (2 * i) + o1) % 3329)) := by rw [ms_k e2, ms_eq]
      have hprd0 : prd f g (2 * i) = (f (2 * i) * g (2 * i) + f (2 * i + 1) * g (2 * i + 1) % 3329 * powN (oddN i % 256)) % 3329 := by
        unfold prd
        rw [if_pos (by omega), show 2 * i / 2 = i by omega]
      have hprd1 : prd f g (2 * i + 1) = (f (2 * i) * g (2 * i + 1) + f (2 * i + 1) * g (2 * i)) % 3329 := by
        unfold prd
        rw [if_neg (by omega), show 2 * i + 1 - 1 = 2 * i by omega]
      refine ih I2 ⟨⟨fun k hk => by rw [ms_o e2 hk, ms_ne hk]; exact a.1 k hk, fun x hx => ?_⟩, fun x hx => ?_, fun x hx hx2 => ?_⟩
      · rw [hpo, va_up_ne _ _ (by omega), va_up_ne _ _ (by omega)]; exact a.2 x hx
      · rw [hpo]
        by_cases e1 : x = 2 * i + 1
        · rw [e1, show 256 * to + (2 * i + 1) = 256 * to + 2 * i + 1 by omega, va_up_self, hprd1]
          cases ad with
          | true => rw [(ha rfl).2, if_pos rfl, rad, Nat.add_comm, Nat.add_mod_mod]
          | false => rw [(hb rfl).2, if_neg (by decide), Nat.add_zero]
        rw [va_up_ne _ _ (by omega)]
        by_cases e2 : x = 2 * i
        · rw [e2, va_up_self, hprd0]
          cases ad with
          | true => rw [(ha rfl).1, if_pos rfl, rad, Nat.add_comm, Nat.add_mod_mod]
          | false => rw [(hb rfl).1, if_neg (by decide), Nat.add_zero]
        rw [va_up_ne _ _ (by omega)]
        exact b x (by omega)
      · rw [hpo, va_up_ne _ _ (by omega), va_up_ne _ _ (by omega)]; exact c x (by omega) hx2
    rw [e14, e16]
    have hin : vp_in (nI (256 * to + 2 * i)) (sl X po) := by rw [s7]; exact vp_in_nI (by omega) (by decide)
    have hin1 : vp_in (nI (256 * to + 2 * i + 1)) (sl X po) := by rw [s7]; exact vp_in_nI (by omega) (by decide)
    cases ad with
    | false =>
      refine ⟨fun _ => ?_, fun z => absurd rfl z⟩
      unfold wj_X8_product_175
      rw [z64, lN_add, Nat.add_zero, nI_clamp (n := 256 * to + 2 * i) (by omega)]
      refine c_ringN (by omega) ⟨hin, fun I20 e20 => ⟨po, j7, fun _ => ?_, fun z => absurd rfl z⟩⟩
      rw [ee to, nI_1]
      refine c_p225 (old := 0) hC (by omega) (by decide) (by omega) (fun I26 e26 => ?_)
      refine hfin 0 0 (by decide) (by decide) (fun z => absurd z (by decide)) (fun _ => ⟨rfl, rfl⟩) I26 ?_
      rw [e26, e20]; simp only [Nat.add_zero]
    | true =>
      refine ⟨fun z => absurd z (by decide), fun _ => ⟨hin, ?_⟩⟩
      have t0 := hs rfl (2 * i) (by omega)
      have t1 := hs rfl (2 * i + 1) (by omega)
      rw [c (2 * i) (by omega) (by omega), t0.2]
      unfold wj_X8_product_175
      rw [nI_l (by omega), lN_add, nI_clamp (n := 256 * to + 2 * i) (by omega)]
      refine c_ringN (by omega) ⟨hin, fun I20 e20 => ⟨po, j7, fun z => absurd z (by decide), fun _ => ?_⟩⟩
      rw [ee to, nI_1]
      refine ⟨hin1, ?_⟩
      rw [nI_clamp (n := 256 * to + 2 * i + 1) (by omega), show I20 po (256 * to + 2 * i + 1) = nI (s (2 * i + 1)) by
        rw [ms_k e20, va_up_ne _ _ (by omega), show 256 * to + 2 * i + 1 = 256 * to + (2 * i + 1) by omega, c (2 * i + 1) (by omega) (by omega)]; exact t1.2]
      refine c_p225 hC (by omega) t1.1 (by omega) (fun I26 e26 => ?_)
      refine hfin (s (2 * i)) (s (2 * i + 1)) t0.1 t1.1 (fun _ => ⟨rfl, rfl⟩) (fun z => absurd z (by decide)) I26 ?_
      rw [e26, e20]
end MPR
