/-! Java's operators, by name -/
def jrem (x y : Int32) : Int32 := x - x / y * y
def jlrem (x y : Int64) : Int64 := x - x / y * y
def jshl (x y : Int32) : Int32 := x <<< (y &&& 31)
def jshr (x y : Int32) : Int32 := x >>> (y &&& 31)
def jushr (x y : Int32) : Int32 := (x.toUInt32 >>> (y.toUInt32 &&& Int32.toUInt32 31)).toInt32
def jlshl (x : Int64) (y : Int32) : Int64 := x <<< (y.toInt64 &&& 63)
def jlshr (x : Int64) (y : Int32) : Int64 := x >>> (y.toInt64 &&& 63)
def jlushr (x : Int64) (y : Int32) : Int64 := (x.toUInt64 >>> (y.toInt64.toUInt64 &&& Int64.toUInt64 63)).toInt64
def jb8 (x : Int32) : Int32 := x.toInt8.toInt32
/-- the references are of the kinds that their places say -/
def WT (X : XT) (n : Nat) (J : MJ) : Prop := ∀ k j r, k < n → J k j = some r → ((X.2.2.1 k).1 = 3 → Ty X n r 0) ∧ ∀ c, (X.2.2.1 k).1 = c + 4 → (fkd c j = 1 → Ty X n r (rty c j)) ∧ (fkd c j = 2 → r < 3)
theorem WT.r {X : XT} {n : Nat} {J : MJ} (h : WT X n J) {k r c j : Nat} (ht : Ty X n k (c + 4)) (hf : fkd c j = 1) (hr : J k j = some r) : Ty X n r (rty c j) := ((h k j r ht.1 hr).2 c ht.2).1 hf
theorem WT.e {X : XT} {n : Nat} {J : MJ} (h : WT X n J) {k r c j : Nat} (ht : Ty X n k (c + 4)) (hf : fkd c j = 2) (hr : J k j = some r) : r < 3 := ((h k j r ht.1 hr).2 c ht.2).2 hf
theorem WT.a {X : XT} {n : Nat} {J : MJ} (h : WT X n J) {k r j : Nat} (ht : Ty X n k 3) (hr : J k j = some r) : Ty X n r 0 := (h k j r ht.1 hr).1 ht.2
def Cx (p : Program) (s : State) (m : MethodId) (meth : Method) (c : Code) (cc : ByteArray) (ret : Option FieldType) (ml : Nat) (y : MethodName) (av : List Value) (D : va_G) (X : XT) (ad : Nat → Nat) (n : Nat) (A : Nat → Prop) (J : MJ) : Prop :=
  p.tables.exec = Jvm.exec ∧ c.code = cc ∧ meth.sig.returnType = ret ∧ c.maxLocals = ml ∧ s.vm.findClass y.cls = some m.cls ∧ meth.locks = false ∧ meth.name = y.name ∧ (∀ w ∈ gt, w.before av.toArray s = true) ∧ va_K D vwCl (tyl X) s ∧ ZZ X A s s.heap ∧ (∀ q, s.heap.size ≤ q → A q) ∧ WT X n J
theorem sw_in {x : Int32} {lo hi : Int} (l k : Nat) (hl : lo = l) (hh : hi = lo + k) (hb : l + k < 2147483648) (h1 : ¬ x.toInt < lo) (h2 : ¬ hi < x.toInt) : ∃ j : Nat, j ≤ k ∧ x = nI (l + j) := by
  subst hl
  subst hh
  refine ⟨(x.toInt - l).toNat, by omega, ?_⟩
  apply Int32.toInt_inj.mp
  rw [nI_toInt (by omega)]
  omega
theorem iwX1 : ∀ w ∈ u_ws RX1 TX1 9, w ∈ gt := by
  intro w hw
  exact gt_in ((by decide +kernel : ∀ w ∈ u_ws RX1 TX1 9, w ∈ lw_tbl) w hw) ((by decide +kernel : ∀ w ∈ u_ws RX1 TX1 9, goodWord w = true) w hw)
theorem iwX4 : ∀ w ∈ u_ws RX4 TX4 3, w ∈ gt := by
  intro w hw
  exact gt_in ((by decide +kernel : ∀ w ∈ u_ws RX4 TX4 3, w ∈ lw_tbl) w hw) ((by decide +kernel : ∀ w ∈ u_ws RX4 TX4 3, goodWord w = true) w hw)
theorem iwX5 : ∀ w ∈ u_ws RX5 TX5 1, w ∈ gt := by
  intro w hw
  exact gt_in ((by decide +kernel : ∀ w ∈ u_ws RX5 TX5 1, w ∈ lw_tbl) w hw) ((by decide +kernel : ∀ w ∈ u_ws RX5 TX5 1, goodWord w = true) w hw)
theorem iwX6 : ∀ w ∈ u_ws RX6 TX6 4, w ∈ gt := by
  intro w hw
  exact gt_in ((by decide +kernel : ∀ w ∈ u_ws RX6 TX6 4, w ∈ lw_tbl) w hw) ((by decide +kernel : ∀ w ∈ u_ws RX6 TX6 4, goodWord w = true) w hw)
theorem iwX7 : ∀ w ∈ u_ws RX7 TX7 13, w ∈ gt := by
  intro w hw
  exact gt_in ((by decide +kernel : ∀ w ∈ u_ws RX7 TX7 13, w ∈ lw_tbl) w hw) ((by decide +kernel : ∀ w ∈ u_ws RX7 TX7 13, goodWord w = true) w hw)
theorem iwX8 : ∀ w ∈ u_ws RX8 TX8 19, w ∈ gt := by
  intro w hw
  exact gt_in ((by decide +kernel : ∀ w ∈ u_ws RX8 TX8 19, w ∈ lw_tbl) w hw) ((by decide +kernel : ∀ w ∈ u_ws RX8 TX8 19, goodWord w = true) w hw)
section MD
variable {p : Program} {l : Launch} {e : Env} {R : Room} {s : State} {m : MethodId} {args : Array Value} {below : List Frame} {meth : Method} {c : Code} {H : Heap} {locs : List Loc} {cells slots : Nat} {Q : State → Prop}
variable {cc : ByteArray} {pc : Nat} {ls : Array Slot} {rest : List Value} {D : va_G} {X : XT} {ad : Nat → Nat} {n : Nat} {A : Nat → Prop} {H0 : Heap} {J : MJ} {I : MI} {L : ML}
theorem m_copyi (hx : p.tables.exec = Jvm.exec) (hb : c.code = cc) (hml : c.maxLocals = ls.size) {own : String} {index : Nat} (hown : s.vm.findClass own = some m.cls) (hlink : (Cond.methodLink own index arraycopyName).before args s = true) (hnat : (Cond.native arraycopyName).before args s = true) (hstat : (Cond.static arraycopyName).before args s = true) (hini : (Cond.initialized "java/lang/System").before args s = true)
    (hK : va_K D vwCl (tyl X) s) (hV : Wd D X ad n A H0 J I L H locs) {k0 k1 : Nat} (ht0 : Ty X n k0 0) (ht1 : Ty X n k1 0) {sp dp nn : Int32} (h1 : ¬ sp < 0) (h2 : ¬ dp < 0) (h3 : ¬ nn < 0) (h4 : sp.toNatClampNeg + nn.toNatClampNeg ≤ sl X k0) (h5 : dp.toNatClampNeg + nn.toNatClampNeg ≤ sl X k1)
    (hframes : 1 ≤ R.frames) (hlocals : (rest.map fun v => v.category).sum + (nativeFrameWords "java/lang/System" "arraycopy" 5 + 11) ≤ R.locals) (hdg : decode cc pc = .ok (.invokestatic index, 3))
    (kk : ∀ (H : Heap) (locs : List Loc), Wd D X ad n A H0 J (va_up I k1 (va_cpy (I k0) (I k1) sp.toNatClampNeg dp.toNatClampNeg nn.toNatClampNeg)) L H locs → W p l e R s m args below meth c H locs cells slots Q (F0 m (pc + 3) ls rest)) : W p l e R s m args below meth c H locs cells slots Q (F0 m pc ls (.int nn :: .int dp :: .ref (ad k1) :: .int sp :: .ref (ad k0) :: rest)) := by
  refine va_copyi hx hb hml hown hlink hnat hstat hini hK hV.1 hV.2.1 hV.2.2 k0 k1 0 0 (f := I k0) (g := I k1) (ty := .int) (wd_at ht0) (wd_at ht1) rfl rfl rfl h1 h2 h3 h4 h5 (fun _ _ => rfl) hframes hlocals hdg (fun H1 locs1 hP hD hS => kk H1 locs1 ⟨?_, wd_D hV.2.1, hS⟩)
  rw [wd_set (J' := J) (I' := va_up I k1 (va_cpy (I k0) (I k1) sp.toNatClampNeg dp.toNatClampNeg nn.toNatClampNeg)) (L' := L) ht1.1 (by rw [wd_sh ht1]; show _ = Sum.inl (X.1.1, sl X k1, Sum.inl (va_up I k1 (va_cpy (I k0) (I k1) sp.toNatClampNeg dp.toNatClampNeg nn.toNatClampNeg) k1)); rw [va_up_self]) (fun _ _ => rfl) (fun _ h => va_up_ne _ _ h) (fun _ _ => rfl)] at hP
  exact hP
end MD
