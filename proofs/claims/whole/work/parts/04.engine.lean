/-! MY MEMORY: cells by number; J the references, I the ints, L the longs of a cell, by place. Kinds: 0 int[], 1 byte[], 2 long[], 3 int[][], 4 + c an object of class c of vwCl. -/
abbrev MI : Type := Nat → Nat → Int32
abbrev ML : Type := Nat → Nat → Int64
abbrev MJ : Type := Nat → Nat → Option Nat
abbrev XT : Type := (ClassId × ClassId × ClassId × ClassId) × (Nat → Nat) × (Nat → Nat × Nat) × (Nat → Nat)
def ms {α : Type} (f : Nat → Nat → α) (k j : Nat) (v : α) : Nat → Nat → α := va_up f k (va_up (f k) j v)
theorem ms_ne {α : Type} {f : Nat → Nat → α} {k j a : Nat} {v : α} (h : a ≠ k) : ms f k j v a = f a := va_up_ne _ _ h
theorem ms_eq {α : Type} {f : Nat → Nat → α} {k j : Nat} {v : α} : ms f k j v k = va_up (f k) j v := va_up_self _ _ _
/-- what a field of a class is: 0 an int, 1 a reference, 2 an enum's constant -/
def fkd (c j : Nat) : Nat := match c with
  | 0 => 1
  | 1 => if j = 0 then 1 else 0
  | 2 => 1
  | 3 => if j = 0 then 1 else 0
  | 4 => if j = 11 then 2 else if j = 12 then 0 else 1
  | _ => if j = 0 ∨ (9 ≤ j ∧ j ≤ 13) ∨ 16 ≤ j then 1 else 0
/-- the kind of cell that a reference field holds -/
def rty (c j : Nat) : Nat := match c with
  | 0 => if j = 0 then 7 else if j = 1 then 6 else if j < 6 then 5 else if j = 6 then 3 else 0
  | 1 => 0
  | 2 => 7
  | 3 => 2
  | 4 => if j < 6 then 5 else if j = 6 then 3 else if j = 7 then 7 else if j = 8 then 6 else if j = 9 then 4 else 0
  | _ => if j = 12 ∨ 16 ≤ j then 0 else 1
def nfc (c : Nat) : Nat := match c with
  | 0 => 9
  | 1 => 3
  | 2 => 1
  | 3 => 4
  | 4 => 13
  | _ => 19
def fvl (ae ad : Nat → Nat) (J : MJ) (I : MI) (c k j : Nat) : Value := match fkd c j with
  | 0 => .int (I k j)
  | 1 => va_rf ((J k j).map ad)
  | _ => va_rf ((J k j).map ae)
def cnt (X : XT) (ad : Nat → Nat) (J : MJ) (I : MI) (L : ML) (t : Nat × Nat) (k : Nat) : va_E := match t.1 with
  | 0 => .inl (X.1.1, t.2, .inl (I k))
  | 1 => .inl (X.1.2.1, t.2, .inl (I k))
  | 2 => .inl (X.1.2.2.1, t.2, .inr (.inl (L k)))
  | 3 => .inl (X.1.2.2.2, t.2, .inr (.inr (.inr (.inr (fun j => (J k j).map ad)))))
  | c + 4 => .inr (c, (List.range (nfc c)).map (fvl X.2.1 ad J I c k))
def wd (X : XT) (ad : Nat → Nat) (n : Nat) (J : MJ) (I : MI) (L : ML) : va_W := (List.range n).map (fun k => (ad k, cnt X ad J I L (X.2.2.1 k) k))
abbrev tyl (X : XT) : List (ClassId × FieldType) := [(X.1.1, .int), (X.1.2.1, .byte), (X.1.2.2.1, .long), (X.1.2.2.2, .array .int)]
def Ty (X : XT) (n k t : Nat) : Prop := k < n ∧ (X.2.2.1 k).1 = t
def sl (X : XT) (k : Nat) : Nat := (X.2.2.1 k).2
def Wd (D : va_G) (X : XT) (ad : Nat → Nat) (n : Nat) (A : Nat → Prop) (H0 : Heap) (J : MJ) (I : MI) (L : ML) (H : Heap) (locs : List Loc) : Prop :=
  va_P D vwCl (wd X ad n J I L) H ∧ va_D A (wd X ad n J I L) ∧ va_S A H0 H locs
theorem wd_get (X : XT) (ad : Nat → Nat) (n : Nat) (J : MJ) (I : MI) (L : ML) {k : Nat} (h : k < n) : (wd X ad n J I L)[k]? = some (ad k, cnt X ad J I L (X.2.2.1 k) k) := by
  simp [wd, h]
theorem cnt_congr {X : XT} {ad : Nat → Nat} {J J' : MJ} {I I' : MI} {L L' : ML} {k : Nat} (t : Nat × Nat) (hJ : J' k = J k) (hI : I' k = I k) (hL : L' k = L k) : cnt X ad J' I' L' t k = cnt X ad J I L t k := by
  unfold cnt
  split <;> first | rw [hI] | rw [hL] | rw [hJ] | skip
  congr 2
  refine List.map_congr_left fun j _ => ?_
  unfold fvl
  rw [hI, hJ]
theorem wd_set {X : XT} {ad : Nat → Nat} {n : Nat} {J J' : MJ} {I I' : MI} {L L' : ML} {k : Nat} {e : va_E} (hk : k < n) (he : e = cnt X ad J' I' L' (X.2.2.1 k) k) (hJ : ∀ i, i ≠ k → J' i = J i) (hI : ∀ i, i ≠ k → I' i = I i) (hL : ∀ i, i ≠ k → L' i = L i) :
    (wd X ad n J I L).set k (ad k, e) = wd X ad n J' I' L' := by
  apply List.ext_getElem?
  intro i
  by_cases hi : i = k
  · subst hi
    rw [List.getElem?_set_self (by simpa [wd] using hk), wd_get X ad n J' I' L' hk, he]
  · rw [List.getElem?_set_ne (fun q => hi q.symm)]
    by_cases hn : i < n
    · rw [wd_get _ _ _ _ _ _ hn, wd_get _ _ _ _ _ _ hn, cnt_congr _ (hJ i hi) (hI i hi) (hL i hi)]
    · simp [wd, hn]
theorem wd_D {A : Nat → Prop} {X : XT} {ad : Nat → Nat} {n : Nat} {J J' : MJ} {I I' : MI} {L L' : ML} (h : va_D A (wd X ad n J I L)) : va_D A (wd X ad n J' I' L') := by
  have lt : ∀ {J : MJ} {I : MI} {L : ML} {i : Nat} {q : Nat × va_E}, (wd X ad n J I L)[i]? = some q → i < n ∧ q.1 = ad i := by
    intro J I L i q hq
    have hi : i < n := by
      have := (List.getElem?_eq_some_iff.mp hq).1
      simpa [wd] using this
    rw [wd_get _ _ _ _ _ _ hi] at hq
    cases hq
    exact ⟨hi, rfl⟩
  refine ⟨fun i j p q hp hq hpq => ?_, fun i q hq => ?_⟩
  · obtain ⟨hi, ei⟩ := lt hp
    obtain ⟨hj, ej⟩ := lt hq
    exact h.1 i j _ _ (wd_get X ad n J I L hi) (wd_get X ad n J I L hj) (by show ad i = ad j; rw [← ei, ← ej]; exact hpq)
  · obtain ⟨hi, ei⟩ := lt hq
    rw [ei]
    exact h.2 i _ (wd_get X ad n J I L hi)
theorem wd_at {X : XT} {ad : Nat → Nat} {n : Nat} {J : MJ} {I : MI} {L : ML} {k t : Nat} (h : Ty X n k t) : (wd X ad n J I L)[k]? = some (ad k, cnt X ad J I L (t, sl X k) k) := by
  rw [wd_get X ad n J I L h.1]
  unfold sl
  rw [← h.2]
theorem wd_sh {X : XT} {n k t : Nat} (h : Ty X n k t) : X.2.2.1 k = (t, sl X k) := by
  unfold sl
  rw [← h.2]
theorem mp_set {f g : Nat → Value} {N j : Nat} {v : Value} (hj : j < N) (hv : g j = v) (ho : ∀ i, i ≠ j → g i = f i) : ((List.range N).map f).set j v = (List.range N).map g := by
  apply List.ext_getElem?
  intro i
  by_cases hi : i = j
  · subst hi
    rw [List.getElem?_set_self (by simpa using hj)]
    simp [hj, hv]
  · rw [List.getElem?_set_ne (fun q => hi q.symm)]
    by_cases hn : i < N
    · simp [hn, ho i hi]
    · simp [hn]
theorem fvl_i {ae ad : Nat → Nat} {J : MJ} {I : MI} {c k j : Nat} (h : fkd c j = 0) : fvl ae ad J I c k j = .int (I k j) := by unfold fvl; rw [h]; rfl
theorem fvl_r {ae ad : Nat → Nat} {J : MJ} {I : MI} {c k j : Nat} (h : fkd c j = 1) : fvl ae ad J I c k j = va_rf ((J k j).map ad) := by unfold fvl; rw [h]; rfl
theorem fvl_e {ae ad : Nat → Nat} {J : MJ} {I : MI} {c k j : Nat} (h : fkd c j = 2) : fvl ae ad J I c k j = va_rf ((J k j).map ae) := by unfold fvl; rw [h]; rfl
section MM
variable {p : Program} {l : Launch} {e : Env} {R : Room} {s : State} {m : MethodId} {args : Array Value} {below : List Frame} {meth : Method} {c : Code} {H : Heap} {locs : List Loc} {cells slots : Nat} {Q : State → Prop}
variable {cc : ByteArray} {pc : Nat} {ls : Array Slot} {rest : List Value} {D : va_G} {X : XT} {ad : Nat → Nat} {n : Nat} {A : Nat → Prop} {H0 : Heap} {J : MJ} {I : MI} {L : ML}
theorem m_iald (hx : p.tables.exec = Jvm.exec) (hb : c.code = cc) (hK : va_K D vwCl (tyl X) s) (hV : Wd D X ad n A H0 J I L H locs) {k : Nat} (ht : Ty X n k 0) {i : Int32} (hin : vp_in i (sl X k)) (hdg : decode cc pc = .ok (.iaload, 1))
    (kk : W p l e R s m args below meth c H locs cells slots Q (F0 m (pc + 1) ls (.int (I k i.toNatClampNeg) :: rest))) : W p l e R s m args below meth c H locs cells slots Q (F0 m pc ls (.int i :: .ref (ad k) :: rest)) :=
  va_iald hx hb hK hV.1 k 0 (wd_at ht) rfl hin hdg kk
theorem m_bald (hx : p.tables.exec = Jvm.exec) (hb : c.code = cc) (hK : va_K D vwCl (tyl X) s) (hV : Wd D X ad n A H0 J I L H locs) {k : Nat} (ht : Ty X n k 1) {i : Int32} (hin : vp_in i (sl X k)) (hdg : decode cc pc = .ok (.baload, 1))
    (kk : W p l e R s m args below meth c H locs cells slots Q (F0 m (pc + 1) ls (.int (I k i.toNatClampNeg) :: rest))) : W p l e R s m args below meth c H locs cells slots Q (F0 m pc ls (.int i :: .ref (ad k) :: rest)) :=
  va_bald hx hb hK hV.1 k 1 (wd_at ht) rfl hin hdg kk
theorem m_lald (hx : p.tables.exec = Jvm.exec) (hb : c.code = cc) (hK : va_K D vwCl (tyl X) s) (hV : Wd D X ad n A H0 J I L H locs) {k : Nat} (ht : Ty X n k 2) {i : Int32} (hin : vp_in i (sl X k)) (hdg : decode cc pc = .ok (.laload, 1))
    (kk : W p l e R s m args below meth c H locs cells slots Q (F0 m (pc + 1) ls (.long (L k i.toNatClampNeg) :: rest))) : W p l e R s m args below meth c H locs cells slots Q (F0 m pc ls (.int i :: .ref (ad k) :: rest)) :=
  va_lald hx hb hK hV.1 k 2 (wd_at ht) rfl hin hdg kk
theorem m_aald (hx : p.tables.exec = Jvm.exec) (hb : c.code = cc) (hK : va_K D vwCl (tyl X) s) (hV : Wd D X ad n A H0 J I L H locs) {k r : Nat} (ht : Ty X n k 3) {i : Int32} (hin : vp_in i (sl X k)) (hr : J k i.toNatClampNeg = some r) (hdg : decode cc pc = .ok (.aaload, 1))
    (kk : W p l e R s m args below meth c H locs cells slots Q (F0 m (pc + 1) ls (.ref (ad r) :: rest))) : W p l e R s m args below meth c H locs cells slots Q (F0 m pc ls (.int i :: .ref (ad k) :: rest)) := by
  have hlt : i.toNatClampNeg < sl X k := Nat.not_le.mp fun q => hin (Or.inr q)
  have ha : (wd X ad n J I L)[k]? = some (ad k, .inl (X.1.2.2.2, sl X k, .inr (.inr (.inr (.inr (fun j => (J k j).map ad)))))) := wd_at ht
  exact W.aald (v := .ref (ad r)) (ty := .array .int) hx hb (hV.1 k _ ha) ((hK.2 3 _ rfl).1 (sl X k) (fun j => va_rf ((J k j).map ad))) rfl (fun q => by cases q) (by show ¬ (i < 0 ∨ (arrV _ _ _).slots.size ≤ _); rw [arrV_size]; exact hin) (by show (arrV _ _ _).slots[_]? = _; rw [arrV_read _ _ hlt]; show some (va_rf ((J k i.toNatClampNeg).map ad)) = _; rw [hr]; rfl) rfl rfl hdg kk
theorem m_alen (hx : p.tables.exec = Jvm.exec) (hb : c.code = cc) (hK : va_K D vwCl (tyl X) s) (hV : Wd D X ad n A H0 J I L H locs) {k : Nat} (ht : Ty X n k 0) (hdg : decode cc pc = .ok (.arraylength, 1))
    (kk : W p l e R s m args below meth c H locs cells slots Q (F0 m (pc + 1) ls (.int (nI (sl X k)) :: rest))) : W p l e R s m args below meth c H locs cells slots Q (F0 m pc ls (.ref (ad k) :: rest)) :=
  va_alen hx hb hK hV.1 k 0 (wd_at ht) rfl rfl hdg kk
theorem m_alenL (hx : p.tables.exec = Jvm.exec) (hb : c.code = cc) (hK : va_K D vwCl (tyl X) s) (hV : Wd D X ad n A H0 J I L H locs) {k : Nat} (ht : Ty X n k 2) (hdg : decode cc pc = .ok (.arraylength, 1))
    (kk : W p l e R s m args below meth c H locs cells slots Q (F0 m (pc + 1) ls (.int (nI (sl X k)) :: rest))) : W p l e R s m args below meth c H locs cells slots Q (F0 m pc ls (.ref (ad k) :: rest)) :=
  va_alen hx hb hK hV.1 k 2 (wd_at ht) rfl rfl hdg kk
theorem m_iast (hx : p.tables.exec = Jvm.exec) (hb : c.code = cc) (hK : va_K D vwCl (tyl X) s) (hV : Wd D X ad n A H0 J I L H locs) {k : Nat} (ht : Ty X n k 0) {i : Int32} {x : Int32} (hin : vp_in i (sl X k)) (hdg : decode cc pc = .ok (.iastore, 1))
    (kk : ∀ (H : Heap) (locs : List Loc), Wd D X ad n A H0 J (ms I k i.toNatClampNeg x) L H locs → W p l e R s m args below meth c H locs cells slots Q (F0 m (pc + 1) ls rest)) : W p l e R s m args below meth c H locs cells slots Q (F0 m pc ls (.int x :: .int i :: .ref (ad k) :: rest)) := by
  refine va_iast hx hb hK hV.1 hV.2.1 hV.2.2 k 0 (wd_at ht) rfl hin hdg (fun H1 locs1 hP hD hS => kk H1 locs1 ⟨?_, wd_D hV.2.1, hS⟩)
  rw [wd_set (J' := J) (I' := (ms I k i.toNatClampNeg x)) (L' := L) ht.1 (by rw [wd_sh ht]; show _ = Sum.inl (X.1.1, sl X k, Sum.inl (ms I k i.toNatClampNeg x k)); rw [ms_eq]; rfl) (fun _ h => by first | exact ms_ne h | rfl) (fun _ h => by first | exact ms_ne h | rfl) (fun _ h => by first | exact ms_ne h | rfl)] at hP
  exact hP
theorem m_last (hx : p.tables.exec = Jvm.exec) (hb : c.code = cc) (hK : va_K D vwCl (tyl X) s) (hV : Wd D X ad n A H0 J I L H locs) {k : Nat} (ht : Ty X n k 2) {i : Int32} {x : Int64} (hin : vp_in i (sl X k)) (hdg : decode cc pc = .ok (.lastore, 1))
    (kk : ∀ (H : Heap) (locs : List Loc), Wd D X ad n A H0 J I (ms L k i.toNatClampNeg x) H locs → W p l e R s m args below meth c H locs cells slots Q (F0 m (pc + 1) ls rest)) : W p l e R s m args below meth c H locs cells slots Q (F0 m pc ls (.long x :: .int i :: .ref (ad k) :: rest)) := by
  refine va_last hx hb hK hV.1 hV.2.1 hV.2.2 k 2 (wd_at ht) rfl hin hdg (fun H1 locs1 hP hD hS => kk H1 locs1 ⟨?_, wd_D hV.2.1, hS⟩)
  rw [wd_set (J' := J) (I' := I) (L' := (ms L k i.toNatClampNeg x)) ht.1 (by rw [wd_sh ht]; show _ = Sum.inl (X.1.2.2.1, sl X k, Sum.inr (Sum.inl (ms L k i.toNatClampNeg x k))); rw [ms_eq]; rfl) (fun _ h => by first | exact ms_ne h | rfl) (fun _ h => by first | exact ms_ne h | rfl) (fun _ h => by first | exact ms_ne h | rfl)] at hP
  exact hP
theorem m_bast (hx : p.tables.exec = Jvm.exec) (hb : c.code = cc) (hK : va_K D vwCl (tyl X) s) (hV : Wd D X ad n A H0 J I L H locs) {k : Nat} (ht : Ty X n k 1) {i : Int32} {x : Int32} (hin : vp_in i (sl X k)) (hdg : decode cc pc = .ok (.bastore, 1))
    (kk : ∀ (H : Heap) (locs : List Loc), Wd D X ad n A H0 J (ms I k i.toNatClampNeg (x.toInt8.toInt32)) L H locs → W p l e R s m args below meth c H locs cells slots Q (F0 m (pc + 1) ls rest)) : W p l e R s m args below meth c H locs cells slots Q (F0 m pc ls (.int x :: .int i :: .ref (ad k) :: rest)) := by
  refine va_bast hx hb hK hV.1 hV.2.1 hV.2.2 k 1 (wd_at ht) rfl hin hdg (fun H1 locs1 hP hD hS => kk H1 locs1 ⟨?_, wd_D hV.2.1, hS⟩)
  rw [wd_set (J' := J) (I' := (ms I k i.toNatClampNeg (x.toInt8.toInt32))) (L' := L) ht.1 (by rw [wd_sh ht, vp_nar_byte]; show _ = Sum.inl (X.1.2.1, sl X k, Sum.inl (ms I k i.toNatClampNeg x.toInt8.toInt32 k)); rw [ms_eq]; rfl) (fun _ h => by first | exact ms_ne h | rfl) (fun _ h => by first | exact ms_ne h | rfl) (fun _ h => by first | exact ms_ne h | rfl)] at hP
  exact hP
theorem wd_ob {ci : Nat} {k : Nat} (ht : Ty X n k (ci + 4)) : (wd X ad n J I L)[k]? = some (ad k, .inr (ci, (List.range (nfc ci)).map (fvl X.2.1 ad J I ci k))) := wd_at ht
theorem m_geti (hx : p.tables.exec = Jvm.exec) (hb : c.code = cc) {own ref C : String} {T : u_T} {N ci index : Nat} {Ts : List Cond} (hts : ∀ w ∈ Ts, w.before args s = true) (hin : ∀ w ∈ u_ws C T N, w ∈ Ts) (hown : s.vm.findClass own = some m.cls) (hK : va_K D vwCl (tyl X) s) (hV : Wd D X ad n A H0 J I L H locs) {k : Nat} (ht : Ty X n k (ci + 4)) (hc : vwCl[ci]? = some (C, T, N)) (j : Nat) (hj : j < N) (hN : nfc ci = N) (hf : fkd ci j = 0) (hlink : (Cond.fieldLink own index ref (T j).2.1 (T j).2.2.1).before args s = true) (hsame : ∀ x, s.fieldFound? (T j).1 (T j).2.1 (T j).2.2.1 = some x → s.fieldFound? ref (T j).2.1 (T j).2.2.1 = some x) (hdg : decode cc pc = .ok (.getfield index, 3))
    (kk : W p l e R s m args below meth c H locs cells slots Q (F0 m (pc + 3) ls (.int (I k j) :: rest))) : W p l e R s m args below meth c H locs cells slots Q (F0 m pc ls (.ref (ad k) :: rest)) :=
  va_get hx hb hts hin hown hK hV.1 k (wd_ob ht) hc j hj hlink hsame (v := .int (I k j)) (by rw [hN]; simp [hj, fvl_i hf]) hdg kk
theorem m_getr (hx : p.tables.exec = Jvm.exec) (hb : c.code = cc) {own ref C : String} {T : u_T} {N ci index : Nat} {Ts : List Cond} (hts : ∀ w ∈ Ts, w.before args s = true) (hin : ∀ w ∈ u_ws C T N, w ∈ Ts) (hown : s.vm.findClass own = some m.cls) (hK : va_K D vwCl (tyl X) s) (hV : Wd D X ad n A H0 J I L H locs) {k : Nat} (ht : Ty X n k (ci + 4)) (hc : vwCl[ci]? = some (C, T, N)) (j : Nat) (hj : j < N) (hN : nfc ci = N) (hf : fkd ci j = 1) {r : Nat} (hr : J k j = some r) (hlink : (Cond.fieldLink own index ref (T j).2.1 (T j).2.2.1).before args s = true) (hsame : ∀ x, s.fieldFound? (T j).1 (T j).2.1 (T j).2.2.1 = some x → s.fieldFound? ref (T j).2.1 (T j).2.2.1 = some x) (hdg : decode cc pc = .ok (.getfield index, 3))
    (kk : W p l e R s m args below meth c H locs cells slots Q (F0 m (pc + 3) ls (.ref (ad r) :: rest))) : W p l e R s m args below meth c H locs cells slots Q (F0 m pc ls (.ref (ad k) :: rest)) :=
  va_get hx hb hts hin hown hK hV.1 k (wd_ob ht) hc j hj hlink hsame (v := .ref (ad r)) (by rw [hN]; simp [hj, fvl_r hf, hr, va_rf]) hdg kk
theorem m_gete (hx : p.tables.exec = Jvm.exec) (hb : c.code = cc) {own ref C : String} {T : u_T} {N ci index : Nat} {Ts : List Cond} (hts : ∀ w ∈ Ts, w.before args s = true) (hin : ∀ w ∈ u_ws C T N, w ∈ Ts) (hown : s.vm.findClass own = some m.cls) (hK : va_K D vwCl (tyl X) s) (hV : Wd D X ad n A H0 J I L H locs) {k : Nat} (ht : Ty X n k (ci + 4)) (hc : vwCl[ci]? = some (C, T, N)) (j : Nat) (hj : j < N) (hN : nfc ci = N) (hf : fkd ci j = 2) {r : Nat} (hr : J k j = some r) (hlink : (Cond.fieldLink own index ref (T j).2.1 (T j).2.2.1).before args s = true) (hsame : ∀ x, s.fieldFound? (T j).1 (T j).2.1 (T j).2.2.1 = some x → s.fieldFound? ref (T j).2.1 (T j).2.2.1 = some x) (hdg : decode cc pc = .ok (.getfield index, 3))
    (kk : W p l e R s m args below meth c H locs cells slots Q (F0 m (pc + 3) ls (.ref (X.2.1 r) :: rest))) : W p l e R s m args below meth c H locs cells slots Q (F0 m pc ls (.ref (ad k) :: rest)) :=
  va_get hx hb hts hin hown hK hV.1 k (wd_ob ht) hc j hj hlink hsame (v := .ref (X.2.1 r)) (by rw [hN]; simp [hj, fvl_e hf, hr, va_rf]) hdg kk
theorem m_puti (hx : p.tables.exec = Jvm.exec) (hb : c.code = cc) {own ref C : String} {T : u_T} {N ci index : Nat} {Ts : List Cond} (hts : ∀ w ∈ Ts, w.before args s = true) (hin : ∀ w ∈ u_ws C T N, w ∈ Ts) (hown : s.vm.findClass own = some m.cls) (hK : va_K D vwCl (tyl X) s) (hV : Wd D X ad n A H0 J I L H locs) (ty0 : Nat → FieldType) (hty : ∀ k, k < N → parseFieldDescriptor (T k).2.2.1 = some (ty0 k)) (hnm : ∀ a, a < N → ∀ b, b < N → a ≠ b → (T a).2.1 ≠ (T b).2.1) {k : Nat} (ht : Ty X n k (ci + 4)) (hc : vwCl[ci]? = some (C, T, N)) (j : Nat) (hj : j < N) (hN : nfc ci = N) (hf : fkd ci j = 0) {v : Int32} (hlink : (Cond.fieldLink own index ref (T j).2.1 (T j).2.2.1).before args s = true) (hsame : ∀ x, s.fieldFound? (T j).1 (T j).2.1 (T j).2.2.1 = some x → s.fieldFound? ref (T j).2.1 (T j).2.2.1 = some x) (hfin : (T j).2.2.2 = false) {ty : FieldType} (hd : parseFieldDescriptor (T j).2.2.1 = some ty) (hn : narrow ty (.int v) = (.int v)) (hfit : fits ty (.int v) = true) (hdg : decode cc pc = .ok (.putfield index, 3))
    (kk : ∀ (H : Heap) (locs : List Loc), Wd D X ad n A H0 J (ms I k j v) L H locs → W p l e R s m args below meth c H locs cells slots Q (F0 m (pc + 3) ls rest)) : W p l e R s m args below meth c H locs cells slots Q (F0 m pc ls ((.int v) :: .ref (ad k) :: rest)) := by
  refine va_put hx hb hts hin ty0 hty hnm hown hK hV.1 hV.2.1 hV.2.2 k (wd_ob ht) hc j hj hlink hsame hfin hd hn hfit (by rw [hN]; simp [hj]) hdg (fun H1 locs1 hP hD hS => kk H1 locs1 ⟨?_, wd_D hV.2.1, hS⟩)
  rw [wd_set (J' := J) (I' := (ms I k j v)) (L' := L) ht.1 (by
    rw [wd_sh ht]
    show _ = Sum.inr (ci, (List.range (nfc ci)).map (fvl X.2.1 ad J (ms I k j v) ci k))
    rw [mp_set (g := fvl X.2.1 ad J (ms I k j v) ci k) (by rw [hN]; exact hj) (by rw [fvl_i hf, ms_eq, va_up_self]) (fun i hi => by unfold fvl; rw [ms_eq, va_up_ne _ _ hi])]) (fun _ h => by first | exact ms_ne h | rfl) (fun _ h => by first | exact ms_ne h | rfl) (fun _ h => by first | exact ms_ne h | rfl)] at hP
  exact hP
theorem m_putiF (hx : p.tables.exec = Jvm.exec) (hb : c.code = cc) {own ref C : String} {T : u_T} {N ci index : Nat} {Ts : List Cond} (hts : ∀ w ∈ Ts, w.before args s = true) (hin : ∀ w ∈ u_ws C T N, w ∈ Ts) (hown : s.vm.findClass own = some m.cls) (hK : va_K D vwCl (tyl X) s) (hV : Wd D X ad n A H0 J I L H locs) (ty0 : Nat → FieldType) (hty : ∀ k, k < N → parseFieldDescriptor (T k).2.2.1 = some (ty0 k)) (hnm : ∀ a, a < N → ∀ b, b < N → a ≠ b → (T a).2.1 ≠ (T b).2.1) {k : Nat} (ht : Ty X n k (ci + 4)) (hc : vwCl[ci]? = some (C, T, N)) (j : Nat) (hj : j < N) (hN : nfc ci = N) (hf : fkd ci j = 0) {v : Int32} (hlink : (Cond.fieldLink own index ref (T j).2.1 (T j).2.2.1).before args s = true) (hsame : ∀ x, s.fieldFound? (T j).1 (T j).2.1 (T j).2.2.1 = some x → s.fieldFound? ref (T j).2.1 (T j).2.2.1 = some x) (hfin : (T j).2.2.2 = true) (hin2 : meth.name = "<init>") (hdecl : (T j).1 = own) {ty : FieldType} (hd : parseFieldDescriptor (T j).2.2.1 = some ty) (hn : narrow ty (.int v) = (.int v)) (hfit : fits ty (.int v) = true) (hdg : decode cc pc = .ok (.putfield index, 3))
    (kk : ∀ (H : Heap) (locs : List Loc), Wd D X ad n A H0 J (ms I k j v) L H locs → W p l e R s m args below meth c H locs cells slots Q (F0 m (pc + 3) ls rest)) : W p l e R s m args below meth c H locs cells slots Q (F0 m pc ls ((.int v) :: .ref (ad k) :: rest)) := by
  refine va_putF hx hb hts hin ty0 hty hnm hown hK hV.1 hV.2.1 hV.2.2 k (wd_ob ht) hc j hj hlink hsame hfin hin2 hdecl hd hn hfit (by rw [hN]; simp [hj]) hdg (fun H1 locs1 hP hD hS => kk H1 locs1 ⟨?_, wd_D hV.2.1, hS⟩)
  rw [wd_set (J' := J) (I' := (ms I k j v)) (L' := L) ht.1 (by
    rw [wd_sh ht]
    show _ = Sum.inr (ci, (List.range (nfc ci)).map (fvl X.2.1 ad J (ms I k j v) ci k))
    rw [mp_set (g := fvl X.2.1 ad J (ms I k j v) ci k) (by rw [hN]; exact hj) (by rw [fvl_i hf, ms_eq, va_up_self]) (fun i hi => by unfold fvl; rw [ms_eq, va_up_ne _ _ hi])]) (fun _ h => by first | exact ms_ne h | rfl) (fun _ h => by first | exact ms_ne h | rfl) (fun _ h => by first | exact ms_ne h | rfl)] at hP
  exact hP
theorem m_putrF (hx : p.tables.exec = Jvm.exec) (hb : c.code = cc) {own ref C : String} {T : u_T} {N ci index : Nat} {Ts : List Cond} (hts : ∀ w ∈ Ts, w.before args s = true) (hin : ∀ w ∈ u_ws C T N, w ∈ Ts) (hown : s.vm.findClass own = some m.cls) (hK : va_K D vwCl (tyl X) s) (hV : Wd D X ad n A H0 J I L H locs) (ty0 : Nat → FieldType) (hty : ∀ k, k < N → parseFieldDescriptor (T k).2.2.1 = some (ty0 k)) (hnm : ∀ a, a < N → ∀ b, b < N → a ≠ b → (T a).2.1 ≠ (T b).2.1) {k : Nat} (ht : Ty X n k (ci + 4)) (hc : vwCl[ci]? = some (C, T, N)) (j : Nat) (hj : j < N) (hN : nfc ci = N) (hf : fkd ci j = 1) {r : Nat} (hlink : (Cond.fieldLink own index ref (T j).2.1 (T j).2.2.1).before args s = true) (hsame : ∀ x, s.fieldFound? (T j).1 (T j).2.1 (T j).2.2.1 = some x → s.fieldFound? ref (T j).2.1 (T j).2.2.1 = some x) (hfin : (T j).2.2.2 = true) (hin2 : meth.name = "<init>") (hdecl : (T j).1 = own) {ty : FieldType} (hd : parseFieldDescriptor (T j).2.2.1 = some ty) (hn : narrow ty (.ref (ad r)) = (.ref (ad r))) (hfit : fits ty (.ref (ad r)) = true) (hdg : decode cc pc = .ok (.putfield index, 3))
    (kk : ∀ (H : Heap) (locs : List Loc), Wd D X ad n A H0 (ms J k j (some r)) I L H locs → W p l e R s m args below meth c H locs cells slots Q (F0 m (pc + 3) ls rest)) : W p l e R s m args below meth c H locs cells slots Q (F0 m pc ls ((.ref (ad r)) :: .ref (ad k) :: rest)) := by
  refine va_putF hx hb hts hin ty0 hty hnm hown hK hV.1 hV.2.1 hV.2.2 k (wd_ob ht) hc j hj hlink hsame hfin hin2 hdecl hd hn hfit (by rw [hN]; simp [hj]) hdg (fun H1 locs1 hP hD hS => kk H1 locs1 ⟨?_, wd_D hV.2.1, hS⟩)
  rw [wd_set (J' := (ms J k j (some r))) (I' := I) (L' := L) ht.1 (by
    rw [wd_sh ht]
    show _ = Sum.inr (ci, (List.range (nfc ci)).map (fvl X.2.1 ad (ms J k j (some r)) I ci k))
    rw [mp_set (g := fvl X.2.1 ad (ms J k j (some r)) I ci k) (by rw [hN]; exact hj) (by rw [fvl_r hf, ms_eq, va_up_self]; rfl) (fun i hi => by unfold fvl; rw [ms_eq, va_up_ne _ _ hi])]) (fun _ h => by first | exact ms_ne h | rfl) (fun _ h => by first | exact ms_ne h | rfl) (fun _ h => by first | exact ms_ne h | rfl)] at hP
  exact hP
theorem m_pute (hx : p.tables.exec = Jvm.exec) (hb : c.code = cc) {own ref C : String} {T : u_T} {N ci index : Nat} {Ts : List Cond} (hts : ∀ w ∈ Ts, w.before args s = true) (hin : ∀ w ∈ u_ws C T N, w ∈ Ts) (hown : s.vm.findClass own = some m.cls) (hK : va_K D vwCl (tyl X) s) (hV : Wd D X ad n A H0 J I L H locs) (ty0 : Nat → FieldType) (hty : ∀ k, k < N → parseFieldDescriptor (T k).2.2.1 = some (ty0 k)) (hnm : ∀ a, a < N → ∀ b, b < N → a ≠ b → (T a).2.1 ≠ (T b).2.1) {k : Nat} (ht : Ty X n k (ci + 4)) (hc : vwCl[ci]? = some (C, T, N)) (j : Nat) (hj : j < N) (hN : nfc ci = N) (hf : fkd ci j = 2) {r : Nat} (hlink : (Cond.fieldLink own index ref (T j).2.1 (T j).2.2.1).before args s = true) (hsame : ∀ x, s.fieldFound? (T j).1 (T j).2.1 (T j).2.2.1 = some x → s.fieldFound? ref (T j).2.1 (T j).2.2.1 = some x) (hfin : (T j).2.2.2 = false) {ty : FieldType} (hd : parseFieldDescriptor (T j).2.2.1 = some ty) (hn : narrow ty (.ref (X.2.1 r)) = (.ref (X.2.1 r))) (hfit : fits ty (.ref (X.2.1 r)) = true) (hdg : decode cc pc = .ok (.putfield index, 3))
    (kk : ∀ (H : Heap) (locs : List Loc), Wd D X ad n A H0 (ms J k j (some r)) I L H locs → W p l e R s m args below meth c H locs cells slots Q (F0 m (pc + 3) ls rest)) : W p l e R s m args below meth c H locs cells slots Q (F0 m pc ls ((.ref (X.2.1 r)) :: .ref (ad k) :: rest)) := by
  refine va_put hx hb hts hin ty0 hty hnm hown hK hV.1 hV.2.1 hV.2.2 k (wd_ob ht) hc j hj hlink hsame hfin hd hn hfit (by rw [hN]; simp [hj]) hdg (fun H1 locs1 hP hD hS => kk H1 locs1 ⟨?_, wd_D hV.2.1, hS⟩)
  rw [wd_set (J' := (ms J k j (some r))) (I' := I) (L' := L) ht.1 (by
    rw [wd_sh ht]
    show _ = Sum.inr (ci, (List.range (nfc ci)).map (fvl X.2.1 ad (ms J k j (some r)) I ci k))
    rw [mp_set (g := fvl X.2.1 ad (ms J k j (some r)) I ci k) (by rw [hN]; exact hj) (by rw [fvl_e hf, ms_eq, va_up_self]; rfl) (fun i hi => by unfold fvl; rw [ms_eq, va_up_ne _ _ hi])]) (fun _ h => by first | exact ms_ne h | rfl) (fun _ h => by first | exact ms_ne h | rfl) (fun _ h => by first | exact ms_ne h | rfl)] at hP
  exact hP
end MM
