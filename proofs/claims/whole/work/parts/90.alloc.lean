/-! ===== new cells: they come behind the old ones, and hold what J, I, L say of them already ===== -/
def RF (J : MJ) (n : Nat) : Prop := ∀ k, k < n → ∀ j r, J k j = some r → r < n
def FR (J : MJ) (I : MI) (L : ML) (n : Nat) : Prop := ∀ k, n ≤ k → (∀ j, J k j = none) ∧ (∀ j, I k j = 0) ∧ ∀ j, L k j = 0
def GJ (X : XT) (n : Nat) (J : MJ) (I : MI) (L : ML) : Prop := WT X n J ∧ RF J n ∧ FR J I L n
theorem Ty.s {X : XT} {n n' k t : Nat} (h : Ty X n k t) (hn : n ≤ n') : Ty X n' k t := ⟨Nat.lt_of_lt_of_le h.1 hn, h.2⟩
theorem GJ.s {X : XT} {n : Nat} {J : MJ} {I : MI} {L : ML} (h : GJ X n J I L) : GJ X (n + 1) J I L := by
  obtain ⟨h1, h2, h3⟩ := h
  refine ⟨fun k j r hk e => ?_, fun k hk j r e => ?_, fun k hk => h3 k (by omega)⟩
  · by_cases z : k = n
    · rw [z, (h3 n (Nat.le_refl _)).1 j] at e; cases e
    · obtain ⟨a, b⟩ := h1 k j r (by omega) e
      exact ⟨fun y => (a y).s (by omega), fun c y => ⟨fun x => ((b c y).1 x).s (by omega), (b c y).2⟩⟩
  · by_cases z : k = n
    · rw [z, (h3 n (Nat.le_refl _)).1 j] at e; cases e
    · have := h2 k (by omega) j r e
      omega
theorem GJ.r {X : XT} {n : Nat} {J : MJ} {I : MI} {L : ML} (h : GJ X n J I L) {k c j r : Nat} (hk : Ty X n k (c + 4)) (hf : fkd c j = 1) (hr : Ty X n r (rty c j)) : GJ X n (ms J k j (some r)) I L := by
  obtain ⟨h1, h2, h3⟩ := h
  refine ⟨fun k' j' r' hk' e => ?_, fun k' hk' j' r' e => ?_, fun k' hk' => ⟨fun j' => ?_, (h3 k' hk').2⟩⟩
  · by_cases z : k' = k
    · rw [z, ms_eq] at e
      by_cases y : j' = j
      · rw [y, va_up_self] at e
        cases e
        rw [z]
        refine ⟨fun q => absurd (hk.2.symm.trans q) (by omega), fun c' q => ?_⟩
        have ec : c = c' := by have := hk.2.symm.trans q; omega
        subst ec
        rw [y]
        exact ⟨fun _ => hr, fun q2 => absurd (hf.symm.trans q2) (by decide)⟩
      · rw [va_up_ne _ _ y] at e
        rw [z]
        exact h1 k j' r' hk.1 e
    · rw [ms_ne z] at e
      exact h1 k' j' r' hk' e
  · by_cases z : k' = k
    · rw [z, ms_eq] at e
      by_cases y : j' = j
      · rw [y, va_up_self] at e
        cases e
        exact hr.1
      · rw [va_up_ne _ _ y] at e
        exact h2 k hk.1 j' r' e
    · rw [ms_ne z] at e
      exact h2 k' hk' j' r' e
  · rw [ms_ne (by have := hk.1; omega)]
    exact (h3 k' hk').1 j'
theorem GJ.e {X : XT} {n : Nat} {J : MJ} {I : MI} {L : ML} (h : GJ X n J I L) {k c j r : Nat} (hk : Ty X n k (c + 4)) (hf : fkd c j = 2) (hr : r < 3) (hrn : r < n) : GJ X n (ms J k j (some r)) I L := by
  obtain ⟨h1, h2, h3⟩ := h
  refine ⟨fun k' j' r' hk' e => ?_, fun k' hk' j' r' e => ?_, fun k' hk' => ⟨fun j' => ?_, (h3 k' hk').2⟩⟩
  · by_cases z : k' = k
    · rw [z, ms_eq] at e
      by_cases y : j' = j
      · rw [y, va_up_self] at e
        cases e
        rw [z]
        refine ⟨fun q => absurd (hk.2.symm.trans q) (by omega), fun c' q => ?_⟩
        have ec : c = c' := by have := hk.2.symm.trans q; omega
        subst ec
        rw [y]
        exact ⟨fun q2 => absurd (hf.symm.trans q2) (by decide), fun _ => hr⟩
      · rw [va_up_ne _ _ y] at e
        rw [z]
        exact h1 k j' r' hk.1 e
    · rw [ms_ne z] at e
      exact h1 k' j' r' hk' e
  · by_cases z : k' = k
    · rw [z, ms_eq] at e
      by_cases y : j' = j
      · rw [y, va_up_self] at e
        cases e
        exact hrn
      · rw [va_up_ne _ _ y] at e
        exact h2 k hk.1 j' r' e
    · rw [ms_ne z] at e
      exact h2 k' hk' j' r' e
  · rw [ms_ne (by have := hk.1; omega)]
    exact (h3 k' hk').1 j'
theorem GJ.i {X : XT} {n : Nat} {J : MJ} {I : MI} {L : ML} (h : GJ X n J I L) {k j : Nat} {v : Int32} (hk : k < n) : GJ X n J (ms I k j v) L :=
  ⟨h.1, h.2.1, fun k' hk' => ⟨(h.2.2 k' hk').1, fun j' => by rw [ms_ne (by omega)]; exact (h.2.2 k' hk').2.1 j', (h.2.2 k' hk').2.2⟩⟩
/-- J with an array of arrays at n: its rows are the four cells behind it -/
def mj (J : MJ) (n : Nat) : MJ := va_up J n (fun i => if i < 4 then some (n + 1 + i) else none)
theorem GJ.m {X : XT} {n : Nat} {J : MJ} {I : MI} {L : ML} (h : GJ X n J I L) (h3 : (X.2.2.1 n).1 = 3) (h0 : ∀ i, i < 4 → (X.2.2.1 (n + 1 + i)).1 = 0) : GJ X (n + 5) (mj J n) I L := by
  obtain ⟨h1, h2, hf⟩ := h
  refine ⟨fun k j r hk e => ?_, fun k hk j r e => ?_, fun k hk => ⟨fun j => ?_, (hf k (by omega)).2⟩⟩
  · unfold mj at e
    by_cases z : k = n
    · rw [z, va_up_self] at e
      by_cases y : j < 4
      · rw [if_pos y] at e
        cases e
        rw [z]
        exact ⟨fun _ => ⟨by omega, h0 j y⟩, fun c q => absurd (h3.symm.trans q) (by omega)⟩
      · rw [if_neg y] at e; cases e
    · rw [va_up_ne _ _ z] at e
      by_cases y : k < n
      · obtain ⟨a, b⟩ := h1 k j r y e
        exact ⟨fun q => (a q).s (by omega), fun c q => ⟨fun x => ((b c q).1 x).s (by omega), (b c q).2⟩⟩
      · rw [(hf k (by omega)).1 j] at e; cases e
  · unfold mj at e
    by_cases z : k = n
    · rw [z, va_up_self] at e
      by_cases y : j < 4
      · rw [if_pos y] at e
        cases e
        omega
      · rw [if_neg y] at e; cases e
    · rw [va_up_ne _ _ z] at e
      by_cases y : k < n
      · have := h2 k y j r e
        omega
      · rw [(hf k (by omega)).1 j] at e; cases e
  · unfold mj
    rw [va_up_ne _ _ (by omega)]
    exact (hf k (by omega)).1 j
theorem cnt_ad {X : XT} {ad ad' : Nat → Nat} {J : MJ} {I : MI} {L : ML} {k : Nat} (t : Nat × Nat) (h : ∀ j r, J k j = some r → ad' r = ad r) : cnt X ad' J I L t k = cnt X ad J I L t k := by
  have hm : ∀ j, (J k j).map ad' = (J k j).map ad := by
    intro j
    cases e : J k j with
    | none => rfl
    | some r => show some (ad' r) = some (ad r); rw [h j r e]
  unfold cnt
  split
  · rfl
  · rfl
  · rfl
  · rw [show (fun j => (J k j).map ad') = (fun j => (J k j).map ad) from funext hm]
  · congr 2
    refine List.map_congr_left fun j _ => ?_
    unfold fvl
    rw [hm]
theorem wd_push {X : XT} {ad ad' : Nat → Nat} {n : Nat} {J : MJ} {I : MI} {L : ML} (hs : ∀ k, k < n → ad' k = ad k) (hr : RF J n) : wd X ad' (n + 1) J I L = wd X ad n J I L ++ [(ad' n, cnt X ad' J I L (X.2.2.1 n) n)] := by
  unfold wd
  rw [List.range_succ, List.map_append]
  congr 1
  refine List.map_congr_left fun k hk => ?_
  have hk' := List.mem_range.mp hk
  rw [hs k hk', cnt_ad _ (fun j r e => hs r (hr k hk' j r e))]
section AL
variable {p : Program} {l : Launch} {e : Env} {R : Room} {s : State} {m : MethodId} {args : Array Value} {below : List Frame} {meth : Method} {c : Code} {H : Heap} {locs : List Loc} {cells slots : Nat} {Q : State → Prop}
variable {cc : ByteArray} {pc : Nat} {ls : Array Slot} {rest : List Value} {D : va_G} {X : XT} {ad : Nat → Nat} {n : Nat} {A : Nat → Prop} {H0 : Heap} {J : MJ} {I : MI} {L : ML}
theorem m_new (hx : p.tables.exec = Jvm.exec) (hb : c.code = cc) {own C : String} {T : u_T} {N ci index : Nat} {Ts : List Cond} (hts : ∀ w ∈ Ts, w.before args s = true) (hin : ∀ w ∈ u_ws C T N, w ∈ Ts) (ty : Nat → FieldType) (hty : ∀ k, k < N → parseFieldDescriptor (T k).2.2.1 = some (ty k)) (hown : s.vm.findClass own = some m.cls) (hcl : (Cond.classLink own index C).before args s = true) (hinst : (Cond.instantiable C N).before args s = true) (hini : (Cond.initialized C).before args s = true)
    (hK : va_K D vwCl (tyl X) s) (hV : Wd D X ad n A H0 J I L H locs) (hA : ∀ q, H0.size ≤ q → A q) (hc : vwCl[ci]? = some (C, T, N)) (hN : nfc ci = N) (hG : GJ X n J I L) (hsh : (X.2.2.1 n).1 = ci + 4) (hd : ∀ j, j < N → defaultValue (ty j) = if fkd ci j = 0 then .int 0 else .null) (hcells : cells + 1 ≤ R.cells) (hslots : slots + N ≤ R.slots) (hdg : decode cc pc = .ok (.new index, 3))
    (kk : ∀ (ad' : Nat → Nat) (H : Heap), (∀ k, k < n → ad' k = ad k) → Wd D X ad' (n + 1) A H0 J I L H locs → W p l e R s m args below meth c H locs (cells + 1) (slots + N) Q (F0 m (pc + 3) ls (.ref (ad' n) :: rest))) : W p l e R s m args below meth c H locs cells slots Q (F0 m pc ls rest) := by
  have hfr := hG.2.2 n (Nat.le_refl _)
  have hfv : ∀ (a : Nat → Nat) j, fvl X.2.1 a J I ci n j = if fkd ci j = 0 then .int 0 else .null := by
    intro a j
    unfold fvl
    rw [hfr.1 j, hfr.2.1 j]
    split
    · rename_i z; rw [if_pos z]
    · rename_i z; rw [if_neg (by rw [z]; decide)]; rfl
    · rename_i z1 z2; rw [if_neg z1]; rfl
  refine va_new (ci := ci) (fs := (List.range N).map (fvl X.2.1 ad J I ci n)) hx hb hts hin ty hty hown hcl hinst hini hK hV.1 hV.2.1 hV.2.2 hA hc (fun j hj => ?_) hcells hslots hdg (fun q H1 hP hD hS => ?_)
  · rw [hd j hj]
    unfold vp_V
    rw [List.getD_eq_getElem?_getD, List.getElem?_map, List.getElem?_range hj]
    show _ = fvl X.2.1 ad J I ci n j
    rw [hfv]
  · have hs : ∀ k, k < n → va_up ad n q k = ad k := fun k hk => va_up_ne _ _ (by omega)
    have hq : va_up ad n q n = q := va_up_self _ _ _
    have hcn : cnt X (va_up ad n q) J I L (X.2.2.1 n) n = .inr (ci, (List.range N).map (fvl X.2.1 ad J I ci n)) := by
      have : X.2.2.1 n = (ci + 4, (X.2.2.1 n).2) := by rw [← hsh]
      rw [this]
      show Sum.inr (ci, (List.range (nfc ci)).map (fvl X.2.1 (va_up ad n q) J I ci n)) = _
      rw [hN]
      congr 2
      refine List.map_congr_left fun j _ => ?_
      rw [hfv, hfv]
    have hw : wd X (va_up ad n q) (n + 1) J I L = wd X ad n J I L ++ [(q, .inr (ci, (List.range N).map (fvl X.2.1 ad J I ci n)))] := by
      rw [wd_push hs hG.2.1, hcn, hq]
    have := kk (va_up ad n q) H1 hs ⟨by rw [hw]; exact hP, by rw [hw]; exact hD, hS⟩
    rw [hq] at this
    exact this
theorem m_newa (hx : p.tables.exec = Jvm.exec) (hb : c.code = cc) {atype : ArrayType} (harr : (Cond.arrayClass (newarray.typeOf atype)).before args s = true) {ty : FieldType} (hty : newarray.typeOf atype = ty) (hK : va_K D vwCl (tyl X) s) (hV : Wd D X ad n A H0 J I L H locs) (hA : ∀ q, H0.size ≤ q → A q) (hG : GJ X n J I L)
    {cX : ClassId} {t0 : Nat} (ht0 : (tyl X)[t0]? = some (cX, ty)) (hra : ∀ (U : State) (cA : ClassId), va_RA U cA ty → U.vm.findClass ("[" ++ ty.toString) = some cA) {x : Int32} {N' : Nat} {a0 : vp_A} (hcn : ∀ ad', cnt X ad' J I L (X.2.2.1 n) n = .inl (cX, a0)) (ha : ∀ cA : ClassId, vp_cell cA a0 = arrV cA N' (fun _ => defaultValue ty)) (hn : ¬ x < 0) (hN : x.toNatClampNeg = N') (hbytes : N' * componentBytes ty ≤ 536870912) (hcells : cells + 1 ≤ R.cells) (hslots : slots + N' ≤ R.slots) (hdg : decode cc pc = .ok (.newarray atype, 2))
    (kk : ∀ (ad' : Nat → Nat) (H : Heap), (∀ k, k < n → ad' k = ad k) → Wd D X ad' (n + 1) A H0 J I L H locs → W p l e R s m args below meth c H locs (cells + 1) (slots + N') Q (F0 m (pc + 2) ls (.ref (ad' n) :: rest))) : W p l e R s m args below meth c H locs cells slots Q (F0 m pc ls (.int x :: rest)) := by
  refine va_newa hx hb harr hty hK hV.1 hV.2.1 hV.2.2 hA ha hn hN hbytes hcells hslots hdg (fun q cA H1 hK1 hP hD hS => ?_)
  have hcA : cA = cX := by
    have h1 := hra s _ (hK.2 t0 _ ht0).2
    have h2 := hra s _ (hK1.2 (tyl X).length (cA, ty) (by simp)).2
    exact Option.some.inj (h2.symm.trans h1)
  subst hcA
  have hs : ∀ k, k < n → va_up ad n q k = ad k := fun k hk => va_up_ne _ _ (by omega)
  have hq : va_up ad n q n = q := va_up_self _ _ _
  have hw : wd X (va_up ad n q) (n + 1) J I L = wd X ad n J I L ++ [(q, .inl (cA, a0))] := by
    rw [wd_push hs hG.2.1, hcn, hq]
  have := kk (va_up ad n q) H1 hs ⟨by rw [hw]; exact hP, by rw [hw]; exact hD, hS⟩
  rw [hq] at this
  exact this
end AL
