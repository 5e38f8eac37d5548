def gt : List Cond := lw_tbl.filter goodWord
theorem gt_in {w : Cond} (h : w ∈ lw_tbl) (hg : goodWord w = true) : w ∈ gt := List.mem_filter.mpr ⟨h, hg⟩
theorem gt_good {w : Cond} (h : w ∈ gt) : goodWord w = true := (List.mem_filter.mp h).2
theorem gt_tbl {w : Cond} (h : w ∈ gt) : w ∈ lw_tbl := (List.mem_filter.mp h).1
theorem g0 {w : Cond} (i : Nat) (h : (k2_sels lw_privs)[i]? = some w) (hg : goodWord w = true) : w ∈ gt := gt_in (List.mem_append_left _ (List.mem_of_getElem? h)) hg
theorem g1 {w : Cond} (i : Nat) (h : tables_1_1[i]? = some w) (hg : goodWord w = true) : w ∈ gt := gt_in (List.mem_append_right _ (List.mem_append_left _ (List.mem_of_getElem? h))) hg
theorem g2 {w : Cond} (i : Nat) (h : tables_1_2[i]? = some w) (hg : goodWord w = true) : w ∈ gt := gt_in (List.mem_append_right _ (List.mem_append_right _ (List.mem_append_left _ (List.mem_of_getElem? h)))) hg
theorem g3 {w : Cond} (i : Nat) (h : tables_1_3[i]? = some w) (hg : goodWord w = true) : w ∈ gt := gt_in (List.mem_append_right _ (List.mem_append_right _ (List.mem_append_right _ (List.mem_append_left _ (List.mem_of_getElem? h))))) hg
theorem g4 {w : Cond} (i : Nat) (h : tables_1_4[i]? = some w) (hg : goodWord w = true) : w ∈ gt := gt_in (List.mem_append_right _ (List.mem_append_right _ (List.mem_append_right _ (List.mem_append_right _ (List.mem_of_getElem? h))))) hg
def wz (y : MethodName) (cc : ByteArray) (ml : Nat) (r : Option FieldType) : List Cond := .code y cc ml r :: gt
theorem gw {y : MethodName} {cc : ByteArray} {ml : Nat} {r : Option FieldType} (h5 : Cond.code y cc ml r ∈ gt) : GoodIn gt (wz y cc ml r) := by
  intro w hw
  rcases List.mem_cons.mp hw with rfl | h
  · exact ⟨h5, good_of_word (gt_good h5)⟩
  · exact ⟨h, good_of_word (gt_good h)⟩
theorem gV {own C : String} {idx : Nat} {y : MethodName} {cc : ByteArray} {ml : Nat} {r : Option FieldType} (h1 : Cond.methodLink own idx y ∈ gt) (h2 : Cond.instanceMethod y ∈ gt) (h3 : Cond.selects C y y ∈ gt) (h4 : Cond.initialized C ∈ gt) (h5 : Cond.code y cc ml r ∈ gt) : GoodIn gt (wsV own idx C y (wz y cc ml r)) := by
  intro w hw
  rcases List.mem_append.mp hw with h | h
  · have hg : w ∈ gt := by
      rcases List.mem_cons.mp h with rfl | h
      · exact h1
      rcases List.mem_cons.mp h with rfl | h
      · exact h2
      rcases List.mem_cons.mp h with rfl | h
      · exact h3
      rcases List.mem_cons.mp h with rfl | h
      · exact h4
      · exact absurd h List.not_mem_nil
    exact ⟨hg, good_of_word (gt_good hg)⟩
  · exact gw h5 w h
theorem gS {own : String} {idx : Nat} {y : MethodName} {cc : ByteArray} {ml : Nat} {r : Option FieldType} (h1 : Cond.methodLink own idx y ∈ gt) (h2 : Cond.static y ∈ gt) (h4 : Cond.initialized y.cls ∈ gt) (h5 : Cond.code y cc ml r ∈ gt) : GoodIn gt (va_wsS own idx y (wz y cc ml r)) := by
  intro w hw
  rcases List.mem_append.mp hw with h | h
  · have hg : w ∈ gt := by
      rcases List.mem_cons.mp h with rfl | h
      · exact h1
      rcases List.mem_cons.mp h with rfl | h
      · exact h2
      rcases List.mem_cons.mp h with rfl | h
      · exact h4
      · exact absurd h List.not_mem_nil
    exact ⟨hg, good_of_word (gt_good hg)⟩
  · exact gw h5 w h
/-! what stands fixed outside: the enum's constants, the static arrays -/
def enF : List (String × String × String × List Int32) := [("LatticeVault$ParameterSet", "rank", "I", [2, 3, 4]), ("LatticeVault$ParameterSet", "eta1", "I", [3, 2, 2]), ("LatticeVault$ParameterSet", "eta2", "I", [2, 2, 2]), ("LatticeVault$ParameterSet", "du", "I", [10, 10, 11]), ("LatticeVault$ParameterSet", "dv", "I", [4, 4, 5])]
def enI (f i : Nat) : Int32 := ((enF.getD f ("", "", "", [])).2.2.2).getD i 0
def stN (z : Nat) : String × String := match z with
  | 0 => ("LatticeVault$Sponge", "RATES")
  | 1 => ("LatticeVault$Sponge", "WALK")
  | 2 => ("LatticeVault$Sponge", "TURNS")
  | _ => ("LatticeVault$Ring", "ROOTS")
def stI (z : Nat) : List Int32 := match z with
  | 0 => [136, 72, 168, 136]
  | 1 => [10, 7, 11, 17, 18, 3, 5, 16, 8, 21, 24, 4, 15, 23, 19, 13, 12, 2, 20, 14, 22, 9, 6, 1]
  | 2 => [1, 3, 6, 10, 15, 21, 28, 36, 45, 55, 2, 14, 27, 41, 56, 8, 25, 43, 62, 18, 39, 61, 20, 44]
  | _ => [1, 1729, 2580, 3289, 2642, 630, 1897, 848, 1062, 1919, 193, 797, 2786, 3260, 569, 1746,
            296, 2447, 1339, 1476, 3046, 56, 2240, 1333, 1426, 2094, 535, 2882, 2393, 2879, 1974, 821,
            289, 331, 3253, 1756, 1197, 2304, 2277, 2055, 650, 1977, 2513, 632, 2865, 33, 1320, 1915,
            2319, 1435, 807, 452, 1438, 2868, 1534, 2402, 2647, 2617, 1481, 648, 2474, 3110, 1227, 910,
            17, 2761, 583, 2649, 1637, 723, 2288, 1100, 1409, 2662, 3281, 233, 756, 2156, 3015, 3050,
            1703, 1651, 2789, 1789, 1847, 952, 1461, 2687, 939, 2308, 2437, 2388, 733, 2337, 268, 641,
            1584, 2298, 2037, 3220, 375, 2549, 2090, 1645, 1063, 319, 2773, 757, 2099, 561, 2466, 2594,
            2804, 1092, 403, 1026, 1143, 2150, 2775, 886, 1722, 1212, 1874, 1029, 2110, 2935, 885, 2154]
def stL (z : Nat) : Nat := match z with
  | 0 => 4
  | 1 => 24
  | 2 => 24
  | _ => 128
def sI (z j : Nat) : Int32 := (stI z).getD j 0
def rcN : List Nat := [0x0000000000000001, 0x0000000000008082, 0x800000000000808A, 0x8000000080008000,
            0x000000000000808B, 0x0000000080000001, 0x8000000080008081, 0x8000000000008009,
            0x000000000000008A, 0x0000000000000088, 0x0000000080008009, 0x000000008000000A,
            0x000000008000808B, 0x800000000000008B, 0x8000000000008089, 0x8000000000008003,
            0x8000000000008002, 0x8000000000000080, 0x000000000000800A, 0x800000008000000A,
            0x8000000080008081, 0x8000000000008080, 0x0000000080000001, 0x8000000080008008]
def sJ (j : Nat) : Int64 := Int64.ofNat (rcN.getD j 0)
def ZZ (X : XT) (A : Nat → Prop) (U : State) (H : Heap) : Prop :=
  va_En "LatticeVault$ParameterSet" "LLatticeVault$ParameterSet;" ["SMALL", "MIDDLE", "LARGE"] enF X.2.1 A U H ∧
  (∀ z, z < 4 → va_Z (stN z).1 (stN z).2 "[I" (.ref (X.2.2.2 z)) A U H ∧ va_T .int (X.2.2.2 z) (stL z) (fun j => .int (sI z j)) A U H) ∧
  va_Z "LatticeVault$Sponge" "ROUND_CONSTANTS" "[J" (.ref (X.2.2.2 4)) A U H ∧ va_T .long (X.2.2.2 4) 24 (fun j => .long (sJ j)) A U H
theorem ZZ.moved {X : XT} {A : Nat → Prop} {u U : State} {H : Heap} (hvm : u.vm.Alike U.vm) (h : ZZ X A u H) : ZZ X A U H :=
  ⟨h.1.moved hvm, fun z hz => ⟨(h.2.1 z hz).1.moved hvm, (h.2.1 z hz).2.moved hvm⟩, h.2.2.1.moved hvm, h.2.2.2.moved hvm⟩
theorem ZZ.kept {X : XT} {A : Nat → Prop} {U : State} {H H1 : Heap} (h : ZZ X A U H) (hq : ∀ a : Nat, a < H.size → ¬ A a → H1[a]? = H[a]?) : ZZ X A U H1 :=
  ⟨h.1.kept hq, fun z hz => ⟨(h.2.1 z hz).1.kept hq, (h.2.1 z hz).2.kept hq⟩, h.2.2.1.kept hq, h.2.2.2.kept hq⟩
def Pr (D : va_G) (X : XT) (ad : Nat → Nat) (n : Nat) (A : Nat → Prop) (J : MJ) (I : MI) (L : ML) (U : State) : Prop :=
  va_P D vwCl (wd X ad n J I L) U.heap ∧ va_K D vwCl (tyl X) U ∧ va_D A (wd X ad n J I L) ∧ (∀ q, U.heap.size ≤ q → A q) ∧ ZZ X A U U.heap
theorem Pr.calling {D : va_G} {X : XT} {ad : Nat → Nat} {n : Nat} {A : Nat → Prop} {J : MJ} {I : MI} {L : ML} {U : State} (g : JFrame) (mk : MethodId) (a : Array Value) (h : Pr D X ad n A J I L U) : Pr D X ad n A J I L (U.calling g mk a) :=
  ⟨h.1, va_K.moved (u := U) (U := U.calling g mk a) (Vm.Alike.refl U.vm) h.2.1, h.2.2.1, h.2.2.2.1, ZZ.moved (u := U) (U := U.calling g mk a) (Vm.Alike.refl U.vm) h.2.2.2.2⟩
theorem Pr.blind {D : va_G} {X : XT} {ad : Nat → Nat} {n : Nat} {A : Nat → Prop} {J : MJ} {I : MI} {L : ML} (av : List Value) : FrameBlind (va_Pc av (Pr D X ad n A J I L)) := fun a _ g mk h => ⟨h.1, h.2.calling g mk a⟩
section MC
variable {p : Program} {l : Launch} {e : Env} {R : Room} {s : State} {m : MethodId} {args : Array Value} {below : List Frame} {meth : Method} {c : Code} {H : Heap} {locs : List Loc} {cells slots : Nat} {Q : State → Prop}
variable {cc : ByteArray} {pc : Nat} {ls : Array Slot} {rest st0 : List Value} {D : va_G} {X : XT} {ad : Nat → Nat} {n : Nat} {A : Nat → Prop} {J : MJ} {I : MI} {L : ML} {a : Array Value}
theorem Pr.here (hK : va_K D vwCl (tyl X) s) (hV : Wd D X ad n A s.heap J I L H locs) (hA : ∀ q, s.heap.size ≤ q → A q) (hZ : ZZ X A s s.heap) {U : State} (hU : U.heap = H) (hW : s.vm.Alike U.vm) : Pr D X ad n A J I L U :=
  ⟨by rw [hU]; exact hV.1, va_K.moved hW hK, hV.2.1, fun q h => hA q (Nat.le_trans hV.2.2.1 (by rw [hU] at h; exact h)), by rw [hU]; exact (hZ.kept (fun q h1 h2 => hV.2.2.2.1 q h1 h2)).moved hW⟩
theorem Met_ofWF {y : MethodName} {ws ws' : List Cond} {rm : Room} {Pc : Array Value → State → Prop} {Qc : Array Value → State → Outcome → State → Prop} {mc ms : Nat} {free : Addr → Prop} {cc : ByteArray} {maxL : Nat} {ret : Option FieldType}
    (hy : plainFor y = true) (hw : ws = Cond.code y cc maxL ret :: ws')
    (body : ∀ p e s m args below meth c s₁, BodyLoose p l y (headSpec ws rm) cc maxL ret e s m args below meth c s₁ → c.maxLocals = maxL → Pc args s →
      W p l e (headSpec ws rm).room s m args below meth c s.heap [] 0 0 (MQ below Qc args s mc ms free) (entryFrame m args maxL)) : Met l y ws rm Pc Qc mc ms free := by
  refine MetFree.of_bodySF (code := cc) (maxLocals := maxL) (ret := ret) hy ?_ ?_
  · intro args s m h hn
    obtain ⟨meth, c, h1, h2, h3, h4, h5, h6, -, -⟩ := Cond.code_spec hn (atoms_spec (ws := ws) h _ (by rw [hw]; exact List.mem_cons_self))
    exact ⟨meth, c, h1, h2, h3, h4, h5, h6⟩
  · intro p e s m args below meth c s₁ B hml hP _
    have hh0 : s₁.heap = s.heap := by rw [B.state]; rfl
    obtain ⟨t, a1, o, b1, b2, b3⟩ := body p e s m args below meth c s₁ B hml hP s₁ hh0 (Stand.of_body B)
    exact ⟨t, o, a1, b1, b2, ⟨b3.1, b3.2⟩⟩
theorem Met_go {y : MethodName} {ml : Nat} {ret : Option FieldType} {rm : Room} {Qc : Array Value → State → Outcome → State → Prop} {mc ms : Nat} {av : List Value} (hy : plainFor y = true) (hlen : (lg_sl av).length ≤ ml)
    (body : ∀ (p : Program) (e : Env) (s : State) (m : MethodId) (below : List Frame) (meth : Method) (c : Code), p.tables.exec = Jvm.exec → c.code = cc → meth.sig.returnType = ret → c.maxLocals = ml → s.vm.findClass y.cls = some m.cls → meth.locks = false → meth.name = y.name →
      (∀ w ∈ gt, w.before av.toArray s = true) → va_K D vwCl (tyl X) s → ZZ X A s s.heap → (∀ q, s.heap.size ≤ q → A q) → Wd D X ad n A s.heap J I L s.heap [] → ∀ ls : Array Slot, lv_has ls ml (lv_args 0 av) → W p l e rm s m av.toArray below meth c s.heap [] 0 0 (MQ below Qc av.toArray s mc ms A) (F0 m 0 ls [])) :
    Met l y (wz y cc ml ret) rm (va_Pc av (Pr D X ad n A J I L)) Qc mc ms A := by
  refine Met_ofWF (cc := cc) (maxL := ml) (ret := ret) hy rfl ?_
  intro p e s m args below meth c s₁ B hml hv
  obtain ⟨rfl, hP, hK, hD, hA, hZ⟩ := hv
  have hts := atoms_spec (ws := wz y cc ml ret) B.pre
  rw [lg_entry_eq]
  exact body p e s m below meth c B.exec B.bytes B.returns hml (findClass_of_methodNamed B.named) B.notSynchronized (name_of_methodNamed B.named B.method).1 (fun w h => hts w (List.mem_cons_of_mem _ h)) hK hZ hA ⟨hP, hD, va_S.rf⟩ _ (lv_entry av hlen)
abbrev QI (D : va_G) (X : XT) (ad : Nat → Nat) (n : Nat) (A : Nat → Prop) (J : MJ) (q : Int32 → MI → ML → Prop) : Array Value → State → Outcome → State → Prop := va_Qi (fun (r : Int32) (u : MI × ML) => q r u.1 u.2) (fun u t => Pr D X ad n A J u.1 u.2 t) A
abbrev QV (D : va_G) (X : XT) (ad : Nat → Nat) (n : Nat) (A : Nat → Prop) (J : MJ) (q : MI → ML → Prop) : Array Value → State → Outcome → State → Prop := va_Qv (fun (u : MI × ML) => q u.1 u.2) (fun u t => Pr D X ad n A J u.1 u.2 t) A
abbrev QE (f : Nat → Nat) (τ : Nat → Prop) (D : va_G) (X : XT) (ad : Nat → Nat) (n : Nat) (A : Nat → Prop) (J : MJ) (q : Option Nat → MI → ML → Prop) : Array Value → State → Outcome → State → Prop := va_Qe f (fun (r : Option Nat) (u : MI × ML) => q r u.1 u.2 ∧ ∀ k, r = some k → τ k) (fun u t => Pr D X ad n A J u.1 u.2 t) A
theorem m_iret (hx : p.tables.exec = Jvm.exec) (hb : c.code = cc) (hr : meth.sig.returnType = some .int) (hlk : meth.locks = false) (hK : va_K D vwCl (tyl X) s) (hZ : ZZ X A s s.heap) (hA : ∀ q, s.heap.size ≤ q → A q) (hV : Wd D X ad n A s.heap J I L H locs) {q : Int32 → MI → ML → Prop} {v : Int32} (h : q v I L) (hdg : decode cc pc = .ok (.ireturn, 1)) :
    W p l e R s m args below meth c H locs cells slots (MQ below (QI D X ad n A J q) args s cells slots A) (F0 m pc ls [.int v]) :=
  W.iret hx hb hr (fun t ht hW => ⟨⟨v, (I, L), rfl, h, Pr.here hK hV hA hZ ht hW.alike⟩, hV.2.2.F ht⟩) hV.2.2.2.2 hdg hlk
theorem m_zret (hx : p.tables.exec = Jvm.exec) (hb : c.code = cc) (hr : meth.sig.returnType = some .boolean) (hlk : meth.locks = false) (hK : va_K D vwCl (tyl X) s) (hZ : ZZ X A s s.heap) (hA : ∀ q, s.heap.size ≤ q → A q) (hV : Wd D X ad n A s.heap J I L H locs) {q : Int32 → MI → ML → Prop} {v : Int32} (hz : v = 0 ∨ v = 1) (h : q v I L) (hdg : decode cc pc = .ok (.ireturn, 1)) :
    W p l e R s m args below meth c H locs cells slots (MQ below (QI D X ad n A J q) args s cells slots A) (F0 m pc ls [.int v]) :=
  W.zret hx hb hr (by rcases hz with rfl | rfl <;> rfl) (fun t ht hW => ⟨⟨v, (I, L), rfl, h, Pr.here hK hV hA hZ ht hW.alike⟩, hV.2.2.F ht⟩) hV.2.2.2.2 hdg hlk
theorem m_vret (hx : p.tables.exec = Jvm.exec) (hb : c.code = cc) (hr : meth.sig.returnType = none) (hlk : meth.locks = false) (hK : va_K D vwCl (tyl X) s) (hZ : ZZ X A s s.heap) (hA : ∀ q, s.heap.size ≤ q → A q) (hV : Wd D X ad n A s.heap J I L H locs) {q : MI → ML → Prop} (h : q I L) (hdg : decode cc pc = .ok (.return_, 1)) :
    W p l e R s m args below meth c H locs cells slots (MQ below (QV D X ad n A J q) args s cells slots A) (F0 m pc ls []) :=
  W.vret hx hb hr (fun t ht hW => ⟨⟨(I, L), rfl, h, Pr.here hK hV hA hZ ht hW.alike⟩, hV.2.2.F ht⟩) hV.2.2.2.2 hdg hlk
theorem m_eret {f : Nat → Nat} {τ : Nat → Prop} {rt : FieldType} (hx : p.tables.exec = Jvm.exec) (hb : c.code = cc) (hr : meth.sig.returnType = some rt) (hrt : (∃ n, rt = .object n) ∨ ∃ t, rt = .array t) (hlk : meth.locks = false) (hK : va_K D vwCl (tyl X) s) (hZ : ZZ X A s s.heap) (hA : ∀ q, s.heap.size ≤ q → A q) (hV : Wd D X ad n A s.heap J I L H locs) {q : Option Nat → MI → ML → Prop} (o : Option Nat) {v : Value} (hv : v = va_rf (o.map f)) (h : q o I L) (ht : ∀ k, o = some k → τ k) (hdg : decode cc pc = .ok (.areturn, 1)) :
    W p l e R s m args below meth c H locs cells slots (MQ below (QE f τ D X ad n A J q) args s cells slots A) (F0 m pc ls [v]) :=
  W.aret hx hb hr hrt (by rw [hv]; cases o with | none => exact Or.inl rfl | some k => exact Or.inr ⟨f k, rfl⟩) (fun t ht' hW => ⟨⟨o, (I, L), by rw [hv]; rfl, ⟨h, ht⟩, Pr.here hK hV hA hZ ht' hW.alike⟩, hV.2.2.F ht'⟩) hV.2.2.2.2 hdg hlk
theorem k_preS (hK : va_K D vwCl (tyl X) s) (hV : Wd D X ad n A s.heap J I L H locs) (hA : ∀ q, s.heap.size ≤ q → A q) (hZ : ZZ X A s s.heap) (av : List Value) : PreS s H (va_Pc av (Pr D X ad n A J I L)) av :=
  ⟨Pr.blind av, fun _ hU hW => ⟨rfl, Pr.here hK hV hA hZ hU hW.alike⟩⟩
theorem k_preV {C : String} {T : u_T} {N ci k : Nat} (hK : va_K D vwCl (tyl X) s) (hV : Wd D X ad n A s.heap J I L H locs) (hA : ∀ q, s.heap.size ≤ q → A q) (hZ : ZZ X A s s.heap) (ht : Ty X n k (ci + 4)) (hc : vwCl[ci]? = some (C, T, N)) (As : List Value) : PreV s H C (ad k) (va_Pc (.ref (ad k) :: As) (Pr D X ad n A J I L)) As :=
  ⟨Pr.blind _, va_recv (q := (C, T, N)) hK hV.1 hc (wd_ob ht), fun _ hU hW => ⟨rfl, Pr.here hK hV hA hZ hU hW.alike⟩⟩
theorem k_preE {i : Nat} (hK : va_K D vwCl (tyl X) s) (hV : Wd D X ad n A s.heap J I L H locs) (hA : ∀ q, s.heap.size ≤ q → A q) (hZ : ZZ X A s s.heap) (hi : i < 3) (As : List Value) : PreV s H "LatticeVault$ParameterSet" (X.2.1 i) (va_Pc (.ref (X.2.1 i) :: As) (Pr D X ad n A J I L)) As :=
  ⟨Pr.blind _, va_recvE hZ.1 hi hV.2.2, fun _ hU hW => ⟨rfl, Pr.here hK hV hA hZ hU hW.alike⟩⟩
theorem k_calli {q : Int32 → MI → ML → Prop} (hr : va_Run p l e R s m args below meth c H locs cells slots 0 0 (F0 m pc ls st0) rest (QI D X ad n A J q a) A) (hV : Wd D X ad n A s.heap J I L H locs)
    (kk : ∀ (r : Int32) (I : MI) (L : ML) (H : Heap) (locs : List Loc), q r I L → Wd D X ad n A s.heap J I L H locs → W p l e R s m args below meth c H locs cells slots Q (F0 m (pc + 3) ls (.int r :: rest))) : W p l e R s m args below meth c H locs cells slots Q (F0 m pc ls st0) :=
  va_calli hr hV.2.2 (fun _ _ h => h) (fun _ h => h) (fun r u _ H1 locs1 ht _ hq hB _ _ hS => kk r u.1 u.2 H1 locs1 hq ⟨by rw [← ht]; exact hB.1, hB.2.2.1, hS⟩)
theorem k_callv {q : MI → ML → Prop} (hr : va_Run p l e R s m args below meth c H locs cells slots 0 0 (F0 m pc ls st0) rest (QV D X ad n A J q a) A) (hV : Wd D X ad n A s.heap J I L H locs)
    (kk : ∀ (I : MI) (L : ML) (H : Heap) (locs : List Loc), q I L → Wd D X ad n A s.heap J I L H locs → W p l e R s m args below meth c H locs cells slots Q (F0 m (pc + 3) ls rest)) : W p l e R s m args below meth c H locs cells slots Q (F0 m pc ls st0) :=
  va_callv hr hV.2.2 (fun _ _ h => h) (fun _ h => h) (fun u _ H1 locs1 ht _ hq hB _ _ hS => kk u.1 u.2 H1 locs1 hq ⟨by rw [← ht]; exact hB.1, hB.2.2.1, hS⟩)
theorem k_calle {f : Nat → Nat} {τ : Nat → Prop} {q : Option Nat → MI → ML → Prop} (hr : va_Run p l e R s m args below meth c H locs cells slots 0 0 (F0 m pc ls st0) rest (QE f τ D X ad n A J q a) A) (hV : Wd D X ad n A s.heap J I L H locs)
    (kk : ∀ (r : Option Nat) (I : MI) (L : ML) (H : Heap) (locs : List Loc), q r I L → (∀ k, r = some k → τ k) → Wd D X ad n A s.heap J I L H locs → W p l e R s m args below meth c H locs cells slots Q (F0 m (pc + 3) ls (va_rf (r.map f) :: rest))) : W p l e R s m args below meth c H locs cells slots Q (F0 m pc ls st0) :=
  va_calle hr hV.2.2 (fun _ _ h => h) (fun _ h => h) (fun r u _ H1 locs1 ht _ hq hB _ _ hS => kk r u.1 u.2 H1 locs1 hq.1 hq.2 ⟨by rw [← ht]; exact hB.1, hB.2.2.1, hS⟩)
end MC
