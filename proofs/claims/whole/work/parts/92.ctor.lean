/-! ===== constructors ===== -/
def EX (U : State) : Prop := va_Nw (.methodLinkNest RX7 40 yX6_init RX7) U ∧ (Cond.arrayOver (.array .int)).before #[] U = true
theorem EX.warm {s U : State} (h : EX s) (hW : s.WarmedH U.vm) : EX U := ⟨va_Nw.warmM hW h.1, Stand.arrayOver_alikeB hW.alike h.2⟩
theorem EX.calling {U : State} (g : JFrame) (mk : MethodId) (a : Array Value) (h : EX U) : EX (U.calling g mk a) := ⟨va_Nw.same rfl (u := U) (U := U.calling g mk a) rfl h.1, Stand.arrayOver_alikeB (U := U.calling g mk a) (Vm.Alike.refl U.vm) h.2⟩
theorem EX.ao {s : State} (h : EX s) (args : Array Value) : (Cond.arrayOver (.array .int)).before args s = true := Stand.arrayOver_alikeB (U := s) (Vm.Alike.refl s.vm) h.2
/-- what is of which kind and length, in the order in which it comes -/
def shN : List (Nat × Nat) := [(8, 0), (5, 0), (0, 1000), (5, 0), (0, 392), (5, 0), (0, 792), (5, 0), (0, 392), (5, 0), (0, 8), (5, 0), (0, 250), (3, 4), (0, 256), (0, 256), (0, 256), (0, 256), (7, 0), (2, 25), (6, 0), (4, 0), (5, 0), (0, 792), (5, 0), (0, 16), (5, 0), (0, 8), (5, 0), (0, 8), (3, 4), (0, 256), (0, 256), (0, 256), (0, 256), (0, 256), (0, 256), (0, 256), (9, 0), (1, 20000), (1, 1600), (1, 1600), (1, 320), (0, 1600), (1, 168), (0, 5120), (0, 256), (0, 128)]
def shT (k : Nat) : Nat × Nat := shN.getD k (0, 0)
abbrev QN (D : va_G) (X : XT) (ad : Nat → Nat) (n n' : Nat) (A : Nat → Prop) (q : MJ → MI → ML → Prop) : Array Value → State → Outcome → State → Prop := va_Qv (fun (u : (Nat → Nat) × MJ × MI × ML) => (∀ i, i < n → u.1 i = ad i) ∧ q u.2.1 u.2.2.1 u.2.2.2) (fun u t => Pr D X u.1 n' A u.2.1 u.2.2.1 u.2.2.2 t) A
def PE (D : va_G) (X : XT) (ad : Nat → Nat) (n : Nat) (A : Nat → Prop) (J : MJ) (I : MI) (L : ML) (U : State) : Prop := Pr D X ad n A J I L U ∧ EX U
section CT
variable {p : Program} {l : Launch} {e : Env} {R : Room} {s : State} {m : MethodId} {args : Array Value} {below : List Frame} {meth : Method} {c : Code} {H : Heap} {locs : List Loc} {cells slots : Nat} {Q : State → Prop}
variable {cc : ByteArray} {pc : Nat} {ls : Array Slot} {rest st0 : List Value} {D : va_G} {X : XT} {ad : Nat → Nat} {n : Nat} {A : Nat → Prop} {J : MJ} {I : MI} {L : ML} {a : Array Value}
theorem PE.blind (av : List Value) : FrameBlind (va_Pc av (PE D X ad n A J I L)) := fun a _ g mk h => ⟨h.1, h.2.1.calling g mk a, h.2.2.calling g mk a⟩
theorem k_preI (hK : va_K D vwCl (tyl X) s) (hV : Wd D X ad n A s.heap J I L H locs) (hA : ∀ q, s.heap.size ≤ q → A q) (hZ : ZZ X A s s.heap) (hE : EX s) (av : List Value) : PreS s H (va_Pc av (PE D X ad n A J I L)) av :=
  ⟨PE.blind av, fun _ hU hW => ⟨rfl, Pr.here hK hV hA hZ hU hW.alike, hE.warm hW⟩⟩
theorem m_st {st1 st2 : List Value} (h : st2 = st1) (kk : W p l e R s m args below meth c H locs cells slots Q (F0 m pc ls st2)) : W p l e R s m args below meth c H locs cells slots Q (F0 m pc ls st1) := h ▸ kk
theorem Met_goE {y : MethodName} {ml : Nat} {rm : Room} {Qc : Array Value → State → Outcome → State → Prop} {mc ms : Nat} {av : List Value} (hy : plainFor y = true) (hlen : (lg_sl av).length ≤ ml)
    (body : ∀ (p : Program) (e : Env) (s : State) (m : MethodId) (below : List Frame) (meth : Method) (c : Code), p.tables.exec = Jvm.exec → c.code = cc → meth.sig.returnType = none → c.maxLocals = ml → s.vm.findClass y.cls = some m.cls → meth.locks = false → meth.name = y.name →
      (∀ w ∈ gt, w.before av.toArray s = true) → va_K D vwCl (tyl X) s → ZZ X A s s.heap → EX s → (∀ q, s.heap.size ≤ q → A q) → Wd D X ad n A s.heap J I L s.heap [] → ∀ ls : Array Slot, lv_has ls ml (lv_args 0 av) → W p l e rm s m av.toArray below meth c s.heap [] 0 0 (MQ below Qc av.toArray s mc ms A) (F0 m 0 ls [])) :
    Met l y (wz y cc ml none) rm (va_Pc av (PE D X ad n A J I L)) Qc mc ms A := by
  refine Met_ofWF (cc := cc) (maxL := ml) (ret := none) hy rfl ?_
  intro p e s m args below meth c s₁ B hml hv
  obtain ⟨rfl, ⟨hP, hK, hD, hA, hZ⟩, hE⟩ := hv
  have hts := atoms_spec (ws := wz y cc ml none) B.pre
  rw [lg_entry_eq]
  exact body p e s m below meth c B.exec B.bytes B.returns hml (findClass_of_methodNamed B.named) B.notSynchronized (name_of_methodNamed B.named B.method).1 (fun w h => hts w (List.mem_cons_of_mem _ h)) hK hZ hE hA ⟨hP, hD, va_S.rf⟩ _ (lv_entry av hlen)
theorem m_vretN (hx : p.tables.exec = Jvm.exec) (hb : c.code = cc) (hr : meth.sig.returnType = none) (hlk : meth.locks = false) (hK : va_K D vwCl (tyl X) s) (hZ : ZZ X A s s.heap) (hA : ∀ q, s.heap.size ≤ q → A q) {n' : Nat} {ad' : Nat → Nat} (hV : Wd D X ad' n' A s.heap J I L H locs) {q : MJ → MI → ML → Prop} (had : ∀ i, i < n → ad' i = ad i) (h : q J I L) (hdg : decode cc pc = .ok (.return_, 1)) :
    W p l e R s m args below meth c H locs cells slots (MQ below (QN D X ad n n' A q) args s cells slots A) (F0 m pc ls []) :=
  W.vret hx hb hr (fun t ht hW => ⟨⟨(ad', J, I, L), rfl, ⟨had, h⟩, Pr.here hK hV hA hZ ht hW.alike⟩, hV.2.2.F ht⟩) hV.2.2.2.2 hdg hlk
theorem k_calln {q : MJ → MI → ML → Prop} {mc ms n' : Nat} (hr : va_Run p l e R s m args below meth c H locs cells slots mc ms (F0 m pc ls st0) rest (QN D X ad n n' A q a) A) (hV : Wd D X ad n A s.heap J I L H locs)
    (kk : ∀ (ad' : Nat → Nat) (J : MJ) (I : MI) (L : ML) (H : Heap) (locs : List Loc), (∀ i, i < n → ad' i = ad i) → q J I L → Wd D X ad' n' A s.heap J I L H locs → W p l e R s m args below meth c H locs (cells + mc) (slots + ms) Q (F0 m (pc + 3) ls rest)) : W p l e R s m args below meth c H locs cells slots Q (F0 m pc ls st0) :=
  va_callv hr hV.2.2 (fun _ _ h => h) (fun _ h => h) (fun u _ H1 locs1 ht _ hq hB _ _ hS => kk u.1 u.2.1 u.2.2.1 u.2.2.2 H1 locs1 hq.1 hq.2 ⟨by rw [← ht]; exact hB.1, hB.2.2.1, hS⟩)
theorem ra_i (U : State) (cA : ClassId) (h : va_RA U cA .int) : U.vm.findClass ("[" ++ FieldType.int.toString) = some cA := h
theorem ra_b (U : State) (cA : ClassId) (h : va_RA U cA .byte) : U.vm.findClass ("[" ++ FieldType.byte.toString) = some cA := h
theorem ra_l (U : State) (cA : ClassId) (h : va_RA U cA .long) : U.vm.findClass ("[" ++ FieldType.long.toString) = some cA := h
theorem m_newi (hx : p.tables.exec = Jvm.exec) (hb : c.code = cc) (harr : (Cond.arrayClass .int).before args s = true) (hK : va_K D vwCl (tyl X) s) {H0 : Heap} (hV : Wd D X ad n A H0 J I L H locs) (hA : ∀ q, H0.size ≤ q → A q) (hG : GJ X n J I L) {x : Int32} {N' : Nat} (hsh : X.2.2.1 n = (0, N')) (hn : ¬ x < 0) (hN : x.toNatClampNeg = N') (hbytes : N' ≤ 100000) (hcells : cells + 1 ≤ R.cells) (hslots : slots + N' ≤ R.slots) (hdg : decode cc pc = .ok (.newarray .int, 2))
    (kk : ∀ (ad' : Nat → Nat) (H : Heap), (∀ k, k < n → ad' k = ad k) → Wd D X ad' (n + 1) A H0 J I L H locs → W p l e R s m args below meth c H locs (cells + 1) (slots + N') Q (F0 m (pc + 2) ls (.ref (ad' n) :: rest))) : W p l e R s m args below meth c H locs cells slots Q (F0 m pc ls (.int x :: rest)) := by
  have hf := hG.2.2 n (Nat.le_refl _)
  refine m_newa (atype := .int) (ty := .int) (t0 := 0) (a0 := (N', .inl (I n))) hx hb harr rfl hK hV hA hG rfl ra_i (fun ad' => by rw [hsh]; rfl) (fun cA => ?_) hn hN (by show N' * 4 ≤ 536870912; omega) hcells hslots hdg kk
  rw [vp_cell_i]
  congr 1
  funext j
  rw [hf.2.1 j]
  rfl
theorem m_newb (hx : p.tables.exec = Jvm.exec) (hb : c.code = cc) (harr : (Cond.arrayClass .byte).before args s = true) (hK : va_K D vwCl (tyl X) s) {H0 : Heap} (hV : Wd D X ad n A H0 J I L H locs) (hA : ∀ q, H0.size ≤ q → A q) (hG : GJ X n J I L) {x : Int32} {N' : Nat} (hsh : X.2.2.1 n = (1, N')) (hn : ¬ x < 0) (hN : x.toNatClampNeg = N') (hbytes : N' ≤ 100000) (hcells : cells + 1 ≤ R.cells) (hslots : slots + N' ≤ R.slots) (hdg : decode cc pc = .ok (.newarray .byte, 2))
    (kk : ∀ (ad' : Nat → Nat) (H : Heap), (∀ k, k < n → ad' k = ad k) → Wd D X ad' (n + 1) A H0 J I L H locs → W p l e R s m args below meth c H locs (cells + 1) (slots + N') Q (F0 m (pc + 2) ls (.ref (ad' n) :: rest))) : W p l e R s m args below meth c H locs cells slots Q (F0 m pc ls (.int x :: rest)) := by
  have hf := hG.2.2 n (Nat.le_refl _)
  refine m_newa (atype := .byte) (ty := .byte) (t0 := 1) (a0 := (N', .inl (I n))) hx hb harr rfl hK hV hA hG rfl ra_b (fun ad' => by rw [hsh]; rfl) (fun cA => ?_) hn hN (by show N' * 1 ≤ 536870912; omega) hcells hslots hdg kk
  rw [vp_cell_i]
  congr 1
  funext j
  rw [hf.2.1 j]
  rfl
theorem m_newl (hx : p.tables.exec = Jvm.exec) (hb : c.code = cc) (harr : (Cond.arrayClass .long).before args s = true) (hK : va_K D vwCl (tyl X) s) {H0 : Heap} (hV : Wd D X ad n A H0 J I L H locs) (hA : ∀ q, H0.size ≤ q → A q) (hG : GJ X n J I L) {x : Int32} {N' : Nat} (hsh : X.2.2.1 n = (2, N')) (hn : ¬ x < 0) (hN : x.toNatClampNeg = N') (hbytes : N' ≤ 100000) (hcells : cells + 1 ≤ R.cells) (hslots : slots + N' ≤ R.slots) (hdg : decode cc pc = .ok (.newarray .long, 2))
    (kk : ∀ (ad' : Nat → Nat) (H : Heap), (∀ k, k < n → ad' k = ad k) → Wd D X ad' (n + 1) A H0 J I L H locs → W p l e R s m args below meth c H locs (cells + 1) (slots + N') Q (F0 m (pc + 2) ls (.ref (ad' n) :: rest))) : W p l e R s m args below meth c H locs cells slots Q (F0 m pc ls (.int x :: rest)) := by
  have hf := hG.2.2 n (Nat.le_refl _)
  refine m_newa (atype := .long) (ty := .long) (t0 := 2) (a0 := (N', .inr (.inl (L n)))) hx hb harr rfl hK hV hA hG rfl ra_l (fun ad' => by rw [hsh]; rfl) (fun cA => ?_) hn hN (by show N' * 8 ≤ 536870912; omega) hcells hslots hdg kk
  rw [vp_cell_l]
  congr 1
  funext j
  rw [hf.2.2 j]
  rfl
end CT
theorem tw_1_42 : Cond.arrayClass .int ∈ gt := g1 42 (by decide +kernel) (by decide +kernel)
theorem tw_1_64 : Cond.arrayClass .long ∈ gt := g1 64 (by decide +kernel) (by decide +kernel)
theorem tw_3_149 : Cond.arrayClass .byte ∈ gt := g3 149 (by decide +kernel) (by decide +kernel)
theorem tw_1_28 : Cond.methodLink RX4 3 objectInit ∈ gt := g1 28 (by decide +kernel) (by decide +kernel)
theorem tw_1_21 : Cond.instanceMethod objectInit ∈ gt := g1 21 (by decide +kernel) (by decide +kernel)
theorem tw_1_22 : Cond.code objectInit ⟨#[0xb1]⟩ 1 none ∈ gt := g1 22 rfl (by rfl)
theorem tw_1_29 : Cond.methodLink RX4 9 Lib.Math.max.name ∈ gt := g1 29 (by decide +kernel) (by decide +kernel)
theorem tw_1_30 : Cond.static Lib.Math.max.name ∈ gt := g1 30 (by decide +kernel) (by decide +kernel)
theorem tw_1_31 : Cond.code Lib.Math.max.name Lib.Math.max.code 2 (some .int) ∈ gt := g1 31 rfl (by rfl)
theorem tw_1_70 : Cond.methodLink RX5 3 objectInit ∈ gt := g1 70 (by decide +kernel) (by decide +kernel)
theorem tw_1_50 : Cond.methodLink RX6 3 objectInit ∈ gt := g1 50 (by decide +kernel) (by decide +kernel)
set_option maxHeartbeats 4000000 in
set_option maxRecDepth 100000 in
theorem n_X4_init (l : Launch) (D : va_G) (X : XT) (ad : Nat → Nat) (A : Nat → Prop) (J : MJ) (I : MI) (L : ML) (k r : Nat) (t0 : Ty X (k + 1) k 5) (hsh : X.2.2.1 (k + 1) = (0, (r + 3) / 4)) (hr4 : r ≤ 4000) (hG : GJ X (k + 1) J I L) : Met l yX4_init (wz yX4_init cX4_init 2 none) ({ frames := 1, cells := 1, slots := (r + 3) / 4, locals := 32 } : Room) (va_Pc [.ref (ad k), .int (nI r)] (PE D X ad (k + 1) A J I L)) (QN D X ad (k + 1) (k + 2) A (fun J' I' L' => J' = ms J k 0 (some (k + 1)) ∧ I' = ms I k 1 (nI r) ∧ L' = L)) 1 ((r + 3) / 4) A := by
  refine Met_goE (by decide +kernel) (Nat.le_of_ble_eq_true rfl) (fun p e s m below meth c hx hb hr hml hown hlk hnm hts hK hZ hE hA hV ls hl => ?_)
  have hl : lv_has ls 2 [(0, .ref (ad k)), (1, .int (nI r))] := hl
  refine lv_aload_n hx hb dX4_init_0 rfl (lv_at hl 0 rfl) ?_
  refine W.objInit hx hb hown (hts _ tw_1_28) (hts _ tw_1_21) (hts _ tw_1_22) rfl (by rw [hml]; exact hl.1) rfl dX4_init_1 (Nat.le_of_ble_eq_true rfl) (Nat.le_of_ble_eq_true rfl) ?_
  refine W.eq (g2 := F0 m 4 ls []) rfl ?_
  refine lv_aload_n hx hb dX4_init_4 rfl (lv_at hl 0 rfl) ?_
  refine lv_iload_n hx hb dX4_init_5 rfl (lv_at hl 1 rfl) ?_
  refine lv_iconst (v := 0) hx hb dX4_init_6 (by decide) ?_
  refine va_mmax hx hb (by rw [hml]; exact hl.1.symm) hown (hts _ tw_1_29) (hts _ tw_1_30) (hts _ tw_1_3) (hts _ tw_1_31) (Nat.le_of_ble_eq_true rfl) (Nat.le_of_ble_eq_true rfl) (Nat.zero_le _) (Nat.zero_le _) dX4_init_7 ?_
  rw [if_neg (nI_pos (by omega))]
  refine m_putiF (C := RX4) (T := TX4) (N := 3) (ci := 1) (ty := .int) hx hb hts iwX4 hown hK hV tyX4 tyX4_ok nmX4 t0 rfl 1 (by decide) rfl rfl (hts _ tw_1_33) (fun _ h9 => h9) rfl hnm rfl (by decide +kernel) rfl rfl dX4_init_10 (fun H locs hV => ?_)
  have hG1 : GJ X (k + 1) J (ms I k 1 (nI r)) L := hG.i (by omega)
  refine lv_aload_n hx hb dX4_init_13 rfl (lv_at hl 0 rfl) ?_
  refine lv_aload_n hx hb dX4_init_14 rfl (lv_at hl 0 rfl) ?_
  refine m_geti (C := RX4) (T := TX4) (N := 3) (ci := 1) hx hb hts iwX4 hown hK hV t0 rfl 1 (by decide) rfl rfl (hts _ tw_1_33) (fun _ h9 => h9) dX4_init_15 ?_
  rw [ms_eq, va_up_self]
  refine lv_iconst (v := 3) hx hb dX4_init_18 (by decide) ?_
  refine lv_iadd hx hb dX4_init_19 ?_
  refine lv_iconst (v := 4) hx hb dX4_init_20 (by decide) ?_
  refine lv_idiv hx hb dX4_init_21 (by decide) ?_
  rw [show (nI r + 3) / 4 = nI ((r + 3) / 4) by rw [show (3 : Int32) = nI 3 from rfl, nI_add, show (4 : Int32) = nI 4 from rfl, pk_div (by omega) (by decide) (by decide)]]
  refine m_newi hx hb (hts _ tw_1_42) hK hV hA hG1 hsh (nI_pos (by omega)) (nI_clamp (by omega)) (by omega) (Nat.le_of_ble_eq_true rfl) (Nat.le_of_eq (Nat.zero_add _)) dX4_init_22 (fun ad1 H hs hV => ?_)
  refine m_st (st2 := [.ref (ad1 (k + 1)), .ref (ad1 k)]) (by rw [hs k (by omega)]) ?_
  refine m_putrF (C := RX4) (T := TX4) (N := 3) (ci := 1) (ty := .array .int) hx hb hts iwX4 hown hK hV tyX4 tyX4_ok nmX4 (t0.s (by omega)) rfl 0 (by decide) rfl rfl (hts _ tw_1_32) (fun _ h9 => h9) rfl hnm rfl (by decide +kernel) rfl rfl dX4_init_24 (fun H locs hV => ?_)
  refine W.widen (k := 1) (n := (r + 3) / 4) (by omega) (by omega) ?_
  exact m_vretN hx hb hr hlk hK hZ hA hV hs ⟨rfl, rfl, rfl⟩ dX4_init_27
set_option maxHeartbeats 4000000 in
set_option maxRecDepth 100000 in
theorem n_X5_init (l : Launch) (D : va_G) (X : XT) (ad : Nat → Nat) (n : Nat) (A : Nat → Prop) (J : MJ) (I : MI) (L : ML) (k r : Nat) (t0 : Ty X n k 6) (t1 : Ty X n r 7) : Met l yX5_init (wz yX5_init cX5_init 2 none) ({ frames := 1, cells := 0, slots := 0, locals := 32 } : Room) (va_Pc [.ref (ad k), .ref (ad r)] (PE D X ad n A J I L)) (QN D X ad n n A (fun J' I' L' => J' = ms J k 0 (some r) ∧ I' = I ∧ L' = L)) 0 0 A := by
  refine Met_goE (by decide +kernel) (Nat.le_of_ble_eq_true rfl) (fun p e s m below meth c hx hb hr hml hown hlk hnm hts hK hZ hE hA hV ls hl => ?_)
  have hl : lv_has ls 2 [(0, .ref (ad k)), (1, .ref (ad r))] := hl
  refine lv_aload_n hx hb dX5_init_0 rfl (lv_at hl 0 rfl) ?_
  refine W.objInit hx hb hown (hts _ tw_1_70) (hts _ tw_1_21) (hts _ tw_1_22) rfl (by rw [hml]; exact hl.1) rfl dX5_init_1 (Nat.le_of_ble_eq_true rfl) (Nat.le_of_ble_eq_true rfl) ?_
  refine W.eq (g2 := F0 m 4 ls []) rfl ?_
  refine lv_aload_n hx hb dX5_init_4 rfl (lv_at hl 0 rfl) ?_
  refine lv_aload_n hx hb dX5_init_5 rfl (lv_at hl 1 rfl) ?_
  refine m_putrF (C := RX5) (T := TX5) (N := 1) (ci := 2) (ty := .object "LatticeVault$Sponge") hx hb hts iwX5 hown hK hV tyX5 tyX5_ok nmX5 t0 rfl 0 (by decide) rfl rfl (hts _ tw_1_71) (fun _ h9 => h9) rfl hnm rfl (by decide +kernel) rfl rfl dX5_init_6 (fun H locs hV => ?_)
  exact m_vretN hx hb hr hlk hK hZ hA hV (fun _ _ => rfl) ⟨rfl, rfl, rfl⟩ dX5_init_9
set_option maxHeartbeats 4000000 in
set_option maxRecDepth 100000 in
theorem n_X6_init (l : Launch) (D : va_G) (X : XT) (ad : Nat → Nat) (A : Nat → Prop) (J : MJ) (I : MI) (L : ML) (k : Nat) (t0 : Ty X (k + 1) k 7) (hsh : X.2.2.1 (k + 1) = (2, 25)) (hG : GJ X (k + 1) J I L) : Met l yX6_init (wz yX6_init cX6_init 1 none) ({ frames := 1, cells := 1, slots := 25, locals := 32 } : Room) (va_Pc [.ref (ad k)] (PE D X ad (k + 1) A J I L)) (QN D X ad (k + 1) (k + 2) A (fun J' I' L' => J' = ms J k 0 (some (k + 1)) ∧ I' = ms I k 1 136 ∧ L' = L)) 1 25 A := by
  refine Met_goE (by decide +kernel) (Nat.le_of_ble_eq_true rfl) (fun p e s m below meth c hx hb hr hml hown hlk hnm hts hK hZ hE hA hV ls hl => ?_)
  have hl : lv_has ls 1 [(0, .ref (ad k))] := hl
  refine lv_aload_n hx hb dX6_init_0 rfl (lv_at hl 0 rfl) ?_
  refine W.objInit hx hb hown (hts _ tw_1_50) (hts _ tw_1_21) (hts _ tw_1_22) rfl (by rw [hml]; exact hl.1) rfl dX6_init_1 (Nat.le_of_ble_eq_true rfl) (Nat.le_of_ble_eq_true rfl) ?_
  refine W.eq (g2 := F0 m 4 ls []) rfl ?_
  refine lv_aload_n hx hb dX6_init_4 rfl (lv_at hl 0 rfl) ?_
  refine lv_bipush (v := 25) hx hb dX6_init_5 (by decide) ?_
  refine m_newl hx hb (hts _ tw_1_64) hK hV hA hG hsh (by decide) (by decide) (by decide) (Nat.le_of_ble_eq_true rfl) (Nat.le_of_ble_eq_true rfl) dX6_init_7 (fun ad1 H hs hV => ?_)
  refine m_st (st2 := [.ref (ad1 (k + 1)), .ref (ad1 k)]) (by rw [hs k (by omega)]) ?_
  have hl : lv_has ls 1 [(0, .ref (ad1 k))] := by rw [hs k (by omega)]; exact hl
  refine m_putrF (C := RX6) (T := TX6) (N := 4) (ci := 3) (ty := .array .long) hx hb hts iwX6 hown hK hV tyX6 tyX6_ok nmX6 (t0.s (by omega)) rfl 0 (by decide) rfl rfl (hts _ tw_1_51) (fun _ h9 => h9) rfl hnm rfl (by decide +kernel) rfl rfl dX6_init_9 (fun H locs hV => ?_)
  refine lv_aload_n hx hb dX6_init_12 rfl (lv_at hl 0 rfl) ?_
  refine lv_sipush (v := 136) hx hb dX6_init_13 (by decide) ?_
  refine m_puti (C := RX6) (T := TX6) (N := 4) (ci := 3) (ty := .int) hx hb hts iwX6 hown hK hV tyX6 tyX6_ok nmX6 (t0.s (by omega)) rfl 1 (by decide) rfl rfl (hts _ tw_1_52) (fun _ h9 => h9) rfl (by decide +kernel) rfl rfl dX6_init_16 (fun H locs hV => ?_)
  refine W.widen (k := 1) (n := 25) (by omega) (by omega) ?_
  exact m_vretN hx hb hr hlk hK hZ hA hV hs ⟨rfl, rfl, rfl⟩ dX6_init_19
