theorem up5 {α : Type} (g b : Nat → α) (i : Nat) {y0 y1 y2 y3 y4 : α} (h0 : y0 = g (5 * i)) (h1 : y1 = g (5 * i + 1)) (h2 : y2 = g (5 * i + 2)) (h3 : y3 = g (5 * i + 3)) (h4 : y4 = g (5 * i + 4)) :
    va_up (va_up (va_up (va_up (va_up (fun l => if l < 5 * i then g l else b l) (5 * i) y0) (5 * i + 1) y1) (5 * i + 2) y2) (5 * i + 3) y3) (5 * i + 4) y4 = fun l => if l < 5 * (i + 1) then g l else b l := by
  funext l
  simp only [va_up]
  by_cases e4 : l = 5 * i + 4
  · rw [if_pos e4, if_pos (by omega), h4, e4]
  by_cases e3 : l = 5 * i + 3
  · rw [if_neg e4, if_pos e3, if_pos (by omega), h3, e3]
  by_cases e2 : l = 5 * i + 2
  · rw [if_neg e4, if_neg e3, if_pos e2, if_pos (by omega), h2, e2]
  by_cases e1 : l = 5 * i + 1
  · rw [if_neg e4, if_neg e3, if_neg e2, if_pos e1, if_pos (by omega), h1, e1]
  by_cases e0 : l = 5 * i
  · rw [if_neg e4, if_neg e3, if_neg e2, if_neg e1, if_pos e0, if_pos (by omega), h0, e0]
  rw [if_neg e4, if_neg e3, if_neg e2, if_neg e1, if_neg e0]
  by_cases h : l < 5 * i
  · rw [if_pos h, if_pos (by omega)]
  · rw [if_neg h, if_neg (by omega)]
theorem ms_k {α : Type} {f g : Nat → Nat → α} {k j : Nat} {v : α} (h : g = ms f k j v) : g k = va_up (f k) j v := by rw [h, ms_eq]
theorem ms_o {α : Type} {f g : Nat → Nat → α} {k j : Nat} {v : α} (h : g = ms f k j v) {a : Nat} (ha : a ≠ k) : g a = f a := by rw [h, ms_ne ha]
section RNDS
variable {X : XT} {J : MJ} {I : MI} {ln : Nat}
theorem chL5 (b : Nat → Int64) (i j : Nat) (hj : j < 5) : chL b (5 * i + j) = b (5 * i + j) ^^^ ((b (5 * i + (j + 1) % 5) ^^^ (-1)) &&& b (5 * i + (j + 2) % 5)) := by
  unfold chL
  rw [show (5 * i + j) / 5 = i by omega, show (5 * i + j) % 5 = j by omega]
theorem l345 (h25 : sl X ln = 25) {r : Nat} (hr : r < 24) {L0 : ML} {q : MI → ML → Prop} {k : Int32 → MI → ML → Prop}
    (hk : ∀ L' : ML, (∀ c, c ≠ ln → L' c = L0 c) → kE (SL (L' ln)) (kI r (kX (SL (L0 ln)))) → k (nI (r + 1)) I L') : ∃ fu, wl_X6_doRounds_345 X J q k ln (nI r) fu 0 I L0 := by
  refine pk_loop (σ := ML) (fun fu i L => wl_X6_doRounds_345 X J q k ln (nI r) fu (nI (5 * i)) I L) (fun i L => (∀ c, c ≠ ln → L c = L0 c) ∧ L ln = fun l => if l < 5 * i then chL (L0 ln) l else (L0 ln) l) 5 0 L0 (by decide) ⟨fun _ _ => rfl, by funext l; simp⟩ ?_ ?_
  · intro fu L ⟨a, b⟩
    refine pk_le 25 25 (fun _ => ?_) (fun z => absurd z (by omega))
    rw [h25]
    refine ⟨pk_in 0 25 (by decide), pk_in r 24 hr, pk_in 0 25 (by decide), fun L' e' x2 e2 => ?_⟩
    rw [e2, nI_1]
    rw [nI_clamp (by omega), show (0 : Int32).toNatClampNeg = 0 from rfl] at e'
    refine hk L' (fun c hc => by rw [ms_o e' hc, a c hc]) ?_
    have hb : kE (SL (L ln)) (SL (chL (L0 ln))) := by
      intro l z hl hz
      show lb (L ln l) z = lb _ z
      rw [b]
      show lb (if l < 5 * 5 then _ else _) z = _
      rw [if_pos (by omega)]
    rw [ms_k e']
    exact (io_e _ hr).tr ((kI_e r hb).tr (kI_e r (ch_e _)))
  · intro fu i L hi ⟨a, b⟩ ih
    refine pk_le 25 (5 * i) (fun z => absurd z (by omega)) (fun _ => ?_)
    rw [show nI (5 * i) + 1 = nI (5 * i + 1) from nI_add _ 1, show nI (5 * i) + 2 = nI (5 * i + 2) from nI_add _ 2, show nI (5 * i) + 3 = nI (5 * i + 3) from nI_add _ 3, show nI (5 * i) + 4 = nI (5 * i + 4) from nI_add _ 4, h25]
    rw [nI_clamp (n := 5 * i) (by omega), nI_clamp (n := 5 * i + 1) (by omega), nI_clamp (n := 5 * i + 2) (by omega), nI_clamp (n := 5 * i + 3) (by omega), nI_clamp (n := 5 * i + 4) (by omega)]
    have v0 : vp_in (nI (5 * i)) 25 := pk_in (5 * i) 25 (by omega)
    have v1 : vp_in (nI (5 * i + 1)) 25 := pk_in (5 * i + 1) 25 (by omega)
    have v2 : vp_in (nI (5 * i + 2)) 25 := pk_in (5 * i + 2) 25 (by omega)
    have v3 : vp_in (nI (5 * i + 3)) 25 := pk_in (5 * i + 3) 25 (by omega)
    have v4 : vp_in (nI (5 * i + 4)) 25 := pk_in (5 * i + 4) 25 (by omega)
    have rd : ∀ j, ¬ j < 5 * i → L ln j = L0 ln j := fun j hj => by rw [b]; exact if_neg hj
    refine ⟨v0, fun x0 e0 => ⟨v1, fun x1 e1 => ⟨v2, fun x2 e2 => ⟨v3, fun x3 e3 => ⟨v4, fun x4 e4 => ⟨v0, fun La ea => ⟨v1, fun Lb eb => ⟨v2, fun Lc ec => ⟨v3, fun Ld ed => ⟨v4, fun Le ee x5 e5 => ?_⟩⟩⟩⟩⟩⟩⟩⟩⟩⟩
    rw [e5, show nI (5 * i) + 5 = nI (5 * (i + 1)) from nI_add (5 * i) 5]
    refine ih Le ⟨fun c hc => by rw [ms_o ee hc, ms_o ed hc, ms_o ec hc, ms_o eb hc, ms_o ea hc, a c hc], ?_⟩
    rw [ms_k ee, ms_k ed, ms_k ec, ms_k eb, ms_k ea, b]
    rw [rd _ (by omega)] at e0 e1 e2 e3 e4
    subst e0 e1 e2 e3 e4
    refine up5 (chL (L0 ln)) (L0 ln) i ?_ ?_ ?_ ?_ ?_
    · exact (chL5 (L0 ln) i 0 (by decide)).symm
    · exact (chL5 (L0 ln) i 1 (by decide)).symm
    · exact (chL5 (L0 ln) i 2 (by decide)).symm
    · exact (chL5 (L0 ln) i 3 (by decide)).symm
    · exact (chL5 (L0 ln) i 4 (by decide)).symm
theorem l285 (h25 : sl X ln = 25) {r : Nat} (hr : r < 24) {L0 : ML} {q : MI → ML → Prop} {k : Int32 → MI → ML → Prop}
    (hk : ∀ L' : ML, (∀ c, c ≠ ln → L' c = L0 c) → kE (SL (L' ln)) (kI r (kX (kP (SL (L0 ln))))) → k (nI (r + 1)) I L') : ∃ fu, wl_X6_doRounds_285 X J q k ln (nI r) fu (L0 ln 1) 0 I L0 := by
  refine pk_loop (σ := ML × Int64) (fun fu i s => wl_X6_doRounds_285 X J q k ln (nI r) fu s.2 (nI i) I s.1) (fun i s => (∀ c, c ≠ ln → s.1 c = L0 c) ∧ s.1 ln = (rpL (L0 ln) i).1 ∧ s.2 = (rpL (L0 ln) i).2) 24 0 (L0, L0 ln 1) (by decide) ⟨fun _ _ => rfl, rfl, rfl⟩ ?_ ?_
  · intro fu ⟨L, x⟩ ⟨a, b, c⟩
    refine pk_le 24 24 (fun _ => ?_) (fun z => absurd z (by omega))
    refine l345 h25 hr (fun L' f1 f2 => hk L' (fun c hc => (f1 c hc).trans (a c hc)) (f2.tr ?_))
    show kE (kI r (kX (SL (L ln)))) _
    rw [show L ln = (rpL (L0 ln) 24).1 from b]
    exact kI_e r (kX_e (rp_e _))
  · intro fu i s hi ⟨a, b, c⟩ ih
    refine pk_le 24 i (fun z => absurd z (by omega)) (fun _ => ?_)
    rw [nI_clamp (n := i) (by omega), (wN_ok i hi).1, tN_ok i hi]
    refine ⟨pk_in i 24 hi, fun x26 e26 => ⟨pk_in i 24 hi, fun x27 e27 => ?_⟩⟩
    subst e26 e27
    have hw := (wN_ok i hi).2
    rw [h25, nI_clamp (n := wN i) (by omega)]
    refine ⟨pk_in (wN i) 25 hw, fun x28 e28 => ⟨pk_in (wN i) 25 hw, fun L' e' x25 e25 => ?_⟩⟩
    rw [e25, nI_1]
    refine ih (L', x28) ⟨fun c hc => (ms_o e' hc).trans (a c hc), ?_, ?_⟩
    · show L' ln = (rpL (L0 ln) (i + 1)).1
      rw [ms_k e', b]
      show va_up (rpL (L0 ln) i).1 (wN i) (rot s.2 (nI (tN i))) = va_up (rpL (L0 ln) i).1 (wN i) (rot (rpL (L0 ln) i).2 (nI (tN i)))
      rw [c]
    · show x28 = (rpL (L0 ln) i).1 (wN i)
      rw [e28, b]
theorem l211 (h25 : sl X ln = 25) {r : Nat} (hr : r < 24) {L0 : ML} {q : MI → ML → Prop} {k : Int32 → MI → ML → Prop}
    (hk : ∀ L' : ML, (∀ c, c ≠ ln → L' c = L0 c) → kE (SL (L' ln)) (kR r (SL (L0 ln))) → k (nI (r + 1)) I L') : ∃ fu, wl_X6_doRounds_211 X J q k ln (nI r) (dL (L0 ln) 0) (dL (L0 ln) 1) (dL (L0 ln) 2) (dL (L0 ln) 3) (dL (L0 ln) 4) fu 0 I L0 := by
  refine pk_loop (σ := ML) (fun fu i L => wl_X6_doRounds_211 X J q k ln (nI r) (dL (L0 ln) 0) (dL (L0 ln) 1) (dL (L0 ln) 2) (dL (L0 ln) 3) (dL (L0 ln) 4) fu (nI (5 * i)) I L) (fun i L => (∀ c, c ≠ ln → L c = L0 c) ∧ L ln = fun l => if l < 5 * i then thL (L0 ln) l else (L0 ln) l) 5 0 L0 (by decide) ⟨fun _ _ => rfl, by funext l; simp⟩ ?_ ?_
  · intro fu L ⟨a, b⟩
    refine pk_le 25 25 (fun _ => ?_) (fun z => absurd z (by omega))
    rw [h25]
    refine ⟨pk_in 1 25 (by decide), fun x e => ?_⟩
    subst e
    refine l285 h25 hr (fun L' f1 f2 => hk L' (fun c hc => (f1 c hc).trans (a c hc)) (f2.tr (kI_e r (kX_e (kP_e ?_)))))
    have hb : kE (SL (L ln)) (SL (thL (L0 ln))) := by
      intro l z hl hz
      show lb (L ln l) z = lb _ z
      rw [b]
      show lb (if l < 5 * 5 then _ else _) z = _
      rw [if_pos (by omega)]
    exact hb.tr (th_e _)
  · intro fu i L hi ⟨a, b⟩ ih
    refine pk_le 25 (5 * i) (fun z => absurd z (by omega)) (fun _ => ?_)
    rw [show nI (5 * i) + 1 = nI (5 * i + 1) from nI_add _ 1, show nI (5 * i) + 2 = nI (5 * i + 2) from nI_add _ 2, show nI (5 * i) + 3 = nI (5 * i + 3) from nI_add _ 3, show nI (5 * i) + 4 = nI (5 * i + 4) from nI_add _ 4, h25]
    rw [nI_clamp (n := 5 * i) (by omega), nI_clamp (n := 5 * i + 1) (by omega), nI_clamp (n := 5 * i + 2) (by omega), nI_clamp (n := 5 * i + 3) (by omega), nI_clamp (n := 5 * i + 4) (by omega)]
    have v0 : vp_in (nI (5 * i)) 25 := pk_in (5 * i) 25 (by omega)
    have v1 : vp_in (nI (5 * i + 1)) 25 := pk_in (5 * i + 1) 25 (by omega)
    have v2 : vp_in (nI (5 * i + 2)) 25 := pk_in (5 * i + 2) 25 (by omega)
    have v3 : vp_in (nI (5 * i + 3)) 25 := pk_in (5 * i + 3) 25 (by omega)
    have v4 : vp_in (nI (5 * i + 4)) 25 := pk_in (5 * i + 4) 25 (by omega)
    have rd : ∀ j, ¬ j < 5 * i → L ln j = L0 ln j := fun j hj => by rw [b]; exact if_neg hj
    refine ⟨v0, v0, fun La ea => ⟨v1, v1, fun Lb eb => ⟨v2, v2, fun Lc ec => ⟨v3, v3, fun Ld ed => ⟨v4, v4, fun Le ee x5 e5 => ?_⟩⟩⟩⟩⟩
    rw [e5, show nI (5 * i) + 5 = nI (5 * (i + 1)) from nI_add (5 * i) 5]
    refine ih Le ⟨fun c hc => by rw [ms_o ee hc, ms_o ed hc, ms_o ec hc, ms_o eb hc, ms_o ea hc, a c hc], ?_⟩
    have th5 : ∀ j, j < 5 → thL (L0 ln) (5 * i + j) = L0 ln (5 * i + j) ^^^ dL (L0 ln) j := fun j hj => by
      unfold thL
      rw [show (5 * i + j) % 5 = j by omega]
    rw [ms_k ee, ms_k ed, ms_k ec, ms_k eb, ms_k ea]
    rw [va_up_ne _ _ (show 5 * i + 4 ≠ 5 * i + 3 by omega), va_up_ne _ _ (show 5 * i + 4 ≠ 5 * i + 2 by omega), va_up_ne _ _ (show 5 * i + 4 ≠ 5 * i + 1 by omega), va_up_ne _ _ (show 5 * i + 4 ≠ 5 * i by omega)]
    rw [va_up_ne _ _ (show 5 * i + 3 ≠ 5 * i + 2 by omega), va_up_ne _ _ (show 5 * i + 3 ≠ 5 * i + 1 by omega), va_up_ne _ _ (show 5 * i + 3 ≠ 5 * i by omega)]
    rw [va_up_ne _ _ (show 5 * i + 2 ≠ 5 * i + 1 by omega), va_up_ne _ _ (show 5 * i + 2 ≠ 5 * i by omega)]
    rw [va_up_ne _ _ (show 5 * i + 1 ≠ 5 * i by omega)]
    rw [rd (5 * i) (by omega), rd (5 * i + 1) (by omega), rd (5 * i + 2) (by omega), rd (5 * i + 3) (by omega), rd (5 * i + 4) (by omega), b]
    refine up5 (thL (L0 ln)) (L0 ln) i ?_ ?_ ?_ ?_ ?_
    · exact (th5 0 (by decide)).symm
    · exact (th5 1 (by decide)).symm
    · exact (th5 2 (by decide)).symm
    · exact (th5 3 (by decide)).symm
    · exact (th5 4 (by decide)).symm
theorem c_doRounds {sp : Nat} (hj : J sp 0 = some ln) (h25 : sl X ln = 25) {L : ML} {q : MI → ML → Prop}
    (hq : ∀ L' : ML, (∀ c, c ≠ ln → L' c = L c) → kE (SL (L' ln)) (kF (SL (L ln)) 24) → q I L') : wp_X6_doRounds X J sp I L q := by
  refine ⟨ln, hj, ?_⟩
  refine pk_loop (σ := ML) (fun fu i L' => wl_X6_doRounds_7 X J q ln fu (nI i) I L') (fun i L' => (∀ c, c ≠ ln → L' c = L c) ∧ kE (SL (L' ln)) (kF (SL (L ln)) i)) 24 0 L (by decide) ⟨fun _ _ => rfl, kE.rf⟩ ?_ ?_
  · intro fu L' ⟨a, b⟩
    exact pk_le 24 24 (fun _ => hq L' a b) (fun z => absurd z (by omega))
  · intro fu i L' hi ⟨a, b⟩ ih
    refine pk_le 24 i (fun z => absurd z (by omega)) (fun _ => ?_)
    rw [h25]
    have v : ∀ j, j < 25 → vp_in (nI j) 25 := fun j hj => pk_in j 25 hj
    refine ⟨v 0 (by decide), v 5 (by decide), v 10 (by decide), v 15 (by decide), v 20 (by decide), fun x3 e3 => ⟨v 1 (by decide), v 6 (by decide), v 11 (by decide), v 16 (by decide), v 21 (by decide), fun x5 e5 => ⟨v 2 (by decide), v 7 (by decide), v 12 (by decide), v 17 (by decide), v 22 (by decide), fun x7 e7 => ⟨v 3 (by decide), v 8 (by decide), v 13 (by decide), v 18 (by decide), v 23 (by decide), fun x9 e9 => ⟨v 4 (by decide), v 9 (by decide), v 14 (by decide), v 19 (by decide), v 24 (by decide), fun x11 e11 x13 e13 x15 e15 x17 e17 x19 e19 x21 e21 => ?_⟩⟩⟩⟩⟩
    have g3 : x3 = cL (L' ln) 0 := e3
    have g5 : x5 = cL (L' ln) 1 := e5
    have g7 : x7 = cL (L' ln) 2 := e7
    have g9 : x9 = cL (L' ln) 3 := e9
    have g11 : x11 = cL (L' ln) 4 := e11
    have g13 : x13 = dL (L' ln) 0 := by rw [e13, g11, g5]; rfl
    have g15 : x15 = dL (L' ln) 1 := by rw [e15, g3, g7]; rfl
    have g17 : x17 = dL (L' ln) 2 := by rw [e17, g5, g9]; rfl
    have g19 : x19 = dL (L' ln) 3 := by rw [e19, g7, g11]; rfl
    have g21 : x21 = dL (L' ln) 4 := by rw [e21, g9, g3]; rfl
    rw [g13, g15, g17, g19, g21]
    exact l211 h25 hi (fun L2 f1 f2 => ih L2 ⟨fun c hc => (f1 c hc).trans (a c hc), f2.tr (kR_e i b)⟩)
end RNDS
