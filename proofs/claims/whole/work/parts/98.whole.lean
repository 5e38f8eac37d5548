def R_law : String := "LatticeVaultLaw"
def lw_P (b : Addr) (xs : List Int32) (args : Array Value) (s : State) : Prop := args = #[.ref b] ∧ s.IntsAt b xs ∧ xs.length ≤ 3072 ∧ (Jvm.Cond.and given_1 narrow_1).before args s = true
def lw_Q (_ : Array Value) (s : State) (o : Outcome) (t : State) : Prop := o = .returned (some (.int 1)) ∧ Framed s o t [] 600000 7302250
def lw_Z (below : List Frame) (a : Array Value) (s : State) : State → Prop := fun t => ∃ o, t.status = .running ∧ Ended t below o ∧ lw_Q a s o t
/-- the law's own end, with 1 on the stack, nothing written that was there before, its room as the claim has it -/
theorem lw_ret {p : Program} {l : Launch} {e : Env} {s : State} {m : MethodId} {below : List Frame} {meth : Method} {c : Code} {b : Nat} (hx : p.tables.exec = Jvm.exec) (hb : c.code = code) (hr : meth.sig.returnType = ret) (hlocks : meth.locks = false) {pc : Nat} {H : Heap} {ls : Array Slot} (hdg : decode code pc = .ok (.ireturn, 1)) : W p l e room_1 s m #[Value.ref b] below meth c H [] 600000 7302250 (lw_Z below #[Value.ref b] s) (F0 m pc ls [.int 1]) := by
  intro T hT X
  obtain ⟨fs, hret, hrun, hended, hW, hframe⟩ := X.leave (v := some (.int 1)) (hlocks := hlocks) (fun h => by rw [hr] at h; cases h)
  have hmeth' : T.vm.method? m = some meth := X.method'
  refine ⟨T.setFrames fs, ?_, .returned (some (.int 1)), hrun, hended, rfl, ⟨_, rfl⟩, hW, hframe⟩
  jvm_step X.here [X.here.top, hx, hb, hdg, hmeth', hr, ret, narrow_b1]
  (try refine ⟨rfl, ?_⟩); (try refine ⟨rfl, ?_⟩)
  first | (intro acts; rw [hret _ acts rfl rfl rfl]) | rw [hret _ _ rfl rfl rfl]
  exact Steps.refl _
/-- what holds at the law's entry: the machine, the code, the tables' words (any of lw_tbl by 'hts w (by decide +kernel)'), the script of L ints xs at the cell b, what the Statement gives of the start (any of its parts by flat_of_before) -/
def lw_At (p : Program) (s : State) (m : MethodId) (meth : Method) (c : Code) (b L : Nat) (xs : Nat → Int32) : Prop :=
  p.tables.exec = Jvm.exec ∧ c.code = code ∧ meth.sig.returnType = ret ∧ c.maxLocals = 4 ∧ s.vm.findClass R_law = some m.cls ∧ (∀ w ∈ lw_tbl, w.before #[Value.ref b] s = true) ∧ va_X b L xs s s.heap ∧ b < s.heap.size ∧ meth.locks = false ∧ (Jvm.Cond.and given_1 narrow_1).before #[Value.ref b] s = true
set_option maxHeartbeats 8000000 in
set_option maxRecDepth 100000 in
theorem whole_start {p : Program} {e : Env} {s : State} {m : MethodId} {below : List Frame} {meth : Method} {c : Code} (l : Launch) {b L : Nat} {xs : Nat → Int32} (hL : L ≤ 3072) (C0 : lw_At p s m meth c b L xs) : W p l e room_1 s m #[Value.ref b] below meth c s.heap [] 0 0 (lw_Z below #[Value.ref b] s) (entryFrame m ([Value.ref b] : List Value).toArray 4) := by
  obtain ⟨hx, hb, hr, hml, hown, hts, hS, hbl, hlk, hgv⟩ := C0
  have hb : c.code = cL_law := hb
  have hown : s.vm.findClass RL = some m.cls := hown
  have hgt : ∀ w ∈ gt, w.before #[Value.ref b] s = true := fun w h => hts w (gt_tbl h)
  have hn : ∀ w ∈ flatC narrow_1, w.before #[Value.ref b] s = true := flat_of_before _ (by rw [Cond.before_and, Bool.and_eq_true] at hgv; exact hgv.2)
  obtain ⟨A, eA⟩ : ∃ A : Nat → Prop, A = fun q => s.heap.size ≤ q := ⟨_, rfl⟩
  have hA : ∀ q, s.heap.size ≤ q → A q := fun q h => by rw [eA]; exact h
  have hAn : ∀ a : Nat, a < s.heap.size → ¬ A a := fun a h z => by rw [eA] at z; exact absurd h (Nat.not_lt.mpr z)
  obtain ⟨D, y, hKX⟩ := nz_K hts
  obtain ⟨en, hEn⟩ := nz_en hn hts hAn
  obtain ⟨s0, z0, t0⟩ := nz_0 hn hts hAn
  obtain ⟨s1, z1, t1⟩ := nz_1 hn hts hAn
  obtain ⟨s2, z2, t2⟩ := nz_2 hn hts hAn
  obtain ⟨s3, z3, t3⟩ := nz_3 hn hts hAn
  obtain ⟨s4, z4, t4⟩ := nz_4 hn hts hAn
  obtain ⟨X, hX1, hX2, hX, hX4⟩ : ∃ X : XT, X.1 = y ∧ X.2.1 = en ∧ (∀ k, X.2.2.1 k = shT k) ∧ X.2.2.2 = (fun z => match z with | 0 => s0 | 1 => s1 | 2 => s2 | 3 => s3 | _ => s4) := ⟨(y, en, shT, _), rfl, rfl, fun _ => rfl, rfl⟩
  have hK : va_K D vwCl (tyl X) s := hKX X hX1
  have hZ : ZZ X A s s.heap := by
    refine ⟨by rw [hX2]; exact hEn, fun z hz => ?_, by rw [hX4]; exact z4, by rw [hX4]; exact t4⟩
    rw [hX4]
    rcases (show z = 0 ∨ z = 1 ∨ z = 2 ∨ z = 3 by omega) with rfl | rfl | rfl | rfl
    · exact ⟨z0, t0⟩
    · exact ⟨z1, t1⟩
    · exact ⟨z2, t2⟩
    · exact ⟨z3, t3⟩
  have hE : EX s := ⟨va_Nw.of rfl (hts _ (u1 47 (by decide +kernel) : Cond.methodLinkNest RX7 40 yX6_init RX7 ∈ lw_tbl)), Stand.arrayOver_alikeB (U := s) (Vm.Alike.refl s.vm) (hts _ (u1 44 (by decide +kernel) : Cond.arrayOver (.array .int) ∈ lw_tbl))⟩
  have C1 : LX p s m c b L xs D X A := ⟨hx, hb, hml, hown, hgt, hS, hbl, hAn b hbl, hK, hZ, hA, hX⟩
  have hG : GJ X 0 J0 I0 L0 := ⟨fun k j r hk => absurd hk (Nat.not_lt_zero k), fun k hk => absurd hk (Nat.not_lt_zero k), fun k hk => ⟨fun _ => rfl, fun _ => rfl, fun _ => rfl⟩⟩
  obtain ⟨ad, ead⟩ : ∃ ad : Nat → Nat, ad = fun _ => 0 := ⟨_, rfl⟩
  have hV : Wd D X ad 0 A s.heap J0 I0 L0 s.heap [] := ⟨fun k q h => (by simp [wd] at h), ⟨fun i j p q h => (by simp [wd] at h), fun k q h => (by simp [wd] at h)⟩, va_S.rf⟩
  rw [lg_entry_eq]
  have hl := lv_entry [Value.ref b] (n := 4) (Nat.le_of_ble_eq_true rfl)
  revert hl
  generalize ((lg_sl [Value.ref b] ++ List.replicate (4 - (lg_sl [Value.ref b]).length) Slot.unset).toArray) = ls
  intro hl
  replace hl : lv_has ls 4 [(0, .ref b)] := hl
  refine m_new (C := RX7) (T := TX7) (N := 13) (ci := 4) hx hb hgt iwX7 tyX7 tyX7_ok hown (hgt _ tw_1_15) (hgt _ tw_1_16) (hgt _ tw_1_1) hK hV hA rfl rfl hG (by rw [hX]; rfl) dvX7 (Nat.le_of_ble_eq_true rfl) (Nat.le_of_ble_eq_true rfl) dL_law_0 (fun ad1 H hs1 hV => ?_)
  replace hG := hG.s
  refine lv_dup hx hb dL_law_3 rfl ?_
  refine k_calln (va_runI (As := []) (rest := [.ref (ad1 0)]) ⟨hx, hb, hml, hown, hgt⟩ (n_X7_init l D X ad1 A J0 I0 L0 hX hG) (cwI 0 hgt (gw tw_1_19) rfl rfl rfl (hgt _ tw_1_1) (hgt _ tw_1_17) (hgt _ tw_1_18) rfl (by decide +kernel) (by decide)) (k_preI hK hV hA hZ hE _) rfl rfl hl.1 rfl (lv_room (Nat.le_of_ble_eq_true rfl)) dL_law_4 ⟨(Nat.le_of_ble_eq_true rfl), (Nat.le_of_ble_eq_true rfl)⟩) hV (fun ad2 J1 I1 L1 H locs hs2 hq hV => ?_)
  obtain ⟨eJ1, eI1, eL1, hG1⟩ := hq
  replace hG := hG1
  refine m_st (st2 := [.ref (ad2 0)]) (by rw [hs2 0 (by decide)]) ?_
  refine lv_astore_n (lv' := [(1, .ref (ad2 0)), (0, .ref b)]) hx hb dL_law_7 rfl hl (by decide) rfl (fun ls hl => ?_)
  refine m_new (C := RX8) (T := TX8) (N := 19) (ci := 5) hx hb hgt iwX8 tyX8 tyX8_ok hown (hgt _ tw_3_70) (hgt _ tw_3_71) (hgt _ tw_1_9) hK hV hA rfl rfl hG (by rw [hX]; rfl) dvX8 (Nat.le_of_ble_eq_true rfl) (Nat.le_of_ble_eq_true rfl) dL_law_8 (fun ad3 H hs3 hV => ?_)
  replace hG := hG.s
  replace hl : lv_has ls 4 [(1, .ref (ad3 0)), (0, .ref b)] := by rw [hs3 0 (by decide)]; exact hl
  refine lv_dup hx hb dL_law_11 rfl ?_
  refine k_calln (va_runI (As := []) (rest := [.ref (ad3 38)]) ⟨hx, hb, hml, hown, hgt⟩ (n_X8_init l D X ad3 A J1 I1 L1 hX hG) (cwI 0 hgt (gw tw_3_74) rfl rfl rfl (hgt _ tw_1_9) (hgt _ tw_3_72) (hgt _ tw_3_73) rfl (by decide +kernel) (by decide)) (k_preI hK hV hA hZ hE _) rfl rfl hl.1 rfl (lv_room (Nat.le_of_ble_eq_true rfl)) dL_law_12 ⟨(Nat.le_of_ble_eq_true rfl), (Nat.le_of_ble_eq_true rfl)⟩) hV (fun ad4 J2 I2 L2 H locs hs4 hq hV => ?_)
  obtain ⟨eJ2, eL2, hq1, hq2, hq3⟩ := hq
  refine m_st (st2 := [.ref (ad4 38)]) (by rw [hs4 38 (by decide)]) ?_
  replace hl : lv_has ls 4 [(1, .ref (ad4 0)), (0, .ref b)] := by rw [hs4 0 (by decide)]; exact hl
  refine lv_astore_n (lv' := [(2, .ref (ad4 38)), (1, .ref (ad4 0)), (0, .ref b)]) hx hb dL_law_15 rfl hl (by decide) rfl (fun ls hl => ?_)
  refine lv_iconst (v := 0) hx hb dL_law_16 (by decide) ?_
  refine lv_istore_n (lv' := [(3, .int (nI 0)), (2, .ref (ad4 38)), (1, .ref (ad4 0)), (0, .ref b)]) hx hb dL_law_17 rfl hl (by decide) rfl (fun ls hl => ?_)
  refine W.widen (k := 600000) (n := 7302250) (Nat.le_of_ble_eq_true rfl) (Nat.le_of_ble_eq_true rfl) ?_
  refine lw_loop C1 hL (fun H locs ls hq => ?_) (L + 1) 0 (by omega) (Nat.zero_le _) J2 I2 L2 H locs ls ?_ hV hl
  · refine va_forget (fun q h => by have := hq q h; rw [eA] at this; exact this) ?_
    refine lv_iconst (v := 1) hx hb dL_law_919 (by decide) ?_
    exact lw_ret hx hb hr hlk dL_law_920
  · rw [eJ2, eJ1] at hq3 ⊢
    rw [eI1] at hq1
    exact li_start hX hq1 hq2 hq3
set_option maxHeartbeats 4000000 in
theorem lw_walk (l : Launch) (b : Addr) (xs : List Int32) : MetFree l x (headSpec (Jvm.Cond.code x code maxLocals ret :: tables_1) room_1) (lw_P b xs) (fun _ _ _ _ _ => True) lw_Q := by
  refine MetFree.of_bodyS (code := code) (maxLocals := maxLocals) (ret := ret) (by decide) ?_ ?_
  · intro args s m h hn
    obtain ⟨meth, c, h1, h2, h3, h4, h5, h6, -, -⟩ := Cond.code_spec hn (atoms_spec (ws := Jvm.Cond.code x code maxLocals ret :: tables_1) h _ List.mem_cons_self)
    exact ⟨meth, c, h1, h2, h3, h4, h5, h6⟩
  · intro p e s m args below meth c s₁ B hml0 hP _
    obtain ⟨rfl, hx, hbd, hgv⟩ := hP
    obtain ⟨scr, harrAt, hlist, hof, hsmall⟩ := hx
    obtain ⟨hcb, hkn, -, -⟩ := State.arrayAt?_spec harrAt
    have hown : s.vm.findClass R_law = some m.cls := findClass_of_methodNamed B.named
    have hts0 : ∀ c ∈ (Jvm.Cond.code x code maxLocals ret :: tables_1), c.before #[Value.ref b] s = true := atoms_spec (ws := Jvm.Cond.code x code maxLocals ret :: tables_1) B.pre
    have hts : ∀ w ∈ lw_tbl, w.before #[Value.ref b] s = true := k2_hts_sels lw_privs (fun w hw => hts0 w (List.mem_cons_of_mem _ hw)) lw_privs_ok
    have hml : c.maxLocals = 4 := B.maxLocals_eq (hts0 _ List.mem_cons_self)
    have X₀ : Stand p l e room_1 s m #[Value.ref b] below meth c s₁ [] 0 0 := Stand.of_body B
    have hh0 : s₁.heap = s.heap := by rw [B.state]; rfl
    have hsz : scr.slots.size = xs.length := by rw [← Array.length_toList, hlist, List.length_map]
    have hval : ∀ j : Nat, j < xs.length → scr.slots[j]? = some (.int (xs.getD j 0)) := fun j hj => by
      rw [← Array.getElem?_toList, hlist]
      simp [hj]
    have hbl : b < s.heap.size := (Array.getElem?_eq_some_iff.mp hcb).1
    have hX : va_X b xs.length (fun j => xs.getD j 0) s s.heap := ⟨scr, hcb, hof, hkn, hsz, hval⟩
    have K : W p l e room_1 s m #[Value.ref b] below meth c s₁.heap [] 0 0 (lw_Z below #[Value.ref b] s) (entryFrame m ([Value.ref b] : List Value).toArray 4) := by
      rw [hh0]
      exact whole_start l hbd ⟨B.exec, B.bytes, B.returns, hml, hown, hts, hX, hbl, B.notSynchronized, hgv⟩
    obtain ⟨t, a1, o, b1, b2, b3⟩ := K s₁ rfl X₀
    exact ⟨t, o, a1, b1, b2, b3⟩
theorem lw_pre_spec {args : Array Value} {s : State} (h : (Jvm.Cond.and given_1 narrow_1).before args s = true) (hr : rest_1_c.before args s = true) : ∃ (b : Addr) (xs : List Int32), lw_P b xs args s := by
  have hs := flat_of_before _ h
  have hq := flat_of_before _ hr
  have hc : (Cond.count 1).before args s = true := hs _ (by decide +kernel)
  have harr : (Cond.arrayOf (.arg 0) .int).before args s = true := hs _ (by decide +kernel)
  have hle : (Cond.le (.length (.arg 0)) (.int 3072)).before args s = true := hs _ (by decide +kernel)
  have hlen : (Cond.isInt (.length (.arg 0))).before args s = true := hq _ (by decide +kernel)
  have hall : (Cond.all (.arg 0) (.isInt (.elem (.arg 0) (.index 0)))).before args s = true := hq _ (by decide +kernel)
  obtain ⟨b, xs, hb, hx⟩ := State.ints_of_pre rfl harr hlen hall
  have hsm : xs.length < 2 ^ 31 := hx.choose_spec.2.2.2
  have hev : (Term.length (.arg 0)).eval args s none [] s = some (.int xs.length.toInt32) := hx.length_eval hb
  have hv := Cond.le_ints hev (show (Term.int 3072).eval args s none [] s = some (.int 3072) from rfl)
  have hd : xs.length.toInt32 ≤ 3072 := by
    simpa [Cond.before, Cond.holds, hv] using hle
  have hN : xs.length ≤ 3072 := (Int32.ofNat_le_ofNat hsm (by decide)).mp (show Int32.ofNat xs.length ≤ Int32.ofNat 3072 from hd)
  exact ⟨b, xs, Cond.one_arg hc (show args[0]? = some (.ref b) from hb), hx, hN, h⟩
theorem lw_comes (l : Launch) : Comes l x (Jvm.Cond.code x code maxLocals ret :: tables_1) room_1 (fun tb e args s => Calls_1 tb e args s ∧ rest_1 tb e args s ∧ Pre_1 tb e args s)
    (fun _ _ args s o t => lw_Q args s o t) := by
  intro p e ha hc hk s m args below hf hfit hheap happ hpre
  obtain ⟨b, xs, hP⟩ := lw_pre_spec hpre.2.2 hpre.2.1
  obtain ⟨k, o, h1, h2, h3, hQ⟩ := lw_walk l b xs p e ha hc hk s m args below hf ((Spec.applies_iff_loose hf).mp happ).1 hP trivial
  exact ⟨k, o, h1, h2, h3, hQ⟩
theorem lw_frame {s t : State} {o : Outcome} {args : Array Value} (h : Framed s o t [] 600000 7302250) :
    Framed s o t (fieldLocs frame_1_writes args s ++ arrayLocs frame_1_arrays args s ++ staticLocs frame_1_statics s) 600000 7302250 := h
theorem lw_limb (L : Cond) (hL : ∀ (args : Array Value) (s t : State), L.after args s (.returned (some (.int 1))) t = true) :
    ArmFor flags0 classFile x code maxLocals ret World_1 tables_1 room_1 Calls_1 rest_1 Pre_1
      (fun tb e a s o t => postC L tb e a s o t ∧ Framed s o t (fieldLocs frame_1_writes a s ++ arrayLocs frame_1_arrays a s ++ staticLocs frame_1_statics s) 600000 7302250) := by
  intro l _ _ _ p e ha hc hk s m args below hf hfit hheap happ hpre
  obtain ⟨k, o, h1, h2, h3, rfl, hF⟩ := lw_comes l p e ha hc hk s m args below hf hfit hheap happ hpre
  exact ⟨k, _, h1, h2, h3, hL args s _, lw_frame hF⟩
theorem i_vc : Claimed_1_1 ∧ Claimed_1_2 := ⟨lw_limb limb_1_1 (fun args s t => by simp [limb_1_1, Cond.after, Cond.holds, Cond.value]), lw_limb limb_1_2 (fun args s t => Cond.after_iff.mpr (by
  first | (rw [show limb_1_2 = Cond.eq .result (.int 1) from rfl, Cond.eq_ints (x := 1) (y := 1) rfl rfl]; simp; done) | (simp [limb_1_2, Cond.value, Term.eval]; done)))⟩
