theorem mo_outer (c : ClassId) (N h0 : Nat) : ∀ i : Nat, Jvm.Free.Multi.outerC c N h0 i = arrV c N (fun j => va_rf (if j < i then some (h0 + 1 + j) else none))
  | 0 => by
    show ({ cls := c, slots := Array.replicate N .null, vm := .none } : Cell) = _
    rw [arrV_new]
    refine congrArg (arrV c N) (funext fun j => ?_)
    simp [va_rf]
  | i + 1 => by
    show (Jvm.Free.Multi.outerC c N h0 i).setSlot i (.ref (h0 + 1 + i)) = _
    rw [mo_outer c N h0 i, arrV_store]
    refine congrArg (arrV c N) (funext fun j => ?_)
    by_cases e : j = i
    · subst e
      simp [updV, va_rf]
    · by_cases h : j < i
      · simp [updV, e, h, Nat.lt_succ_of_lt h]
      · simp [updV, e, h, show ¬ j < i + 1 by omega]
section ML
variable {p : Program} {l : Launch} {e : Env} {R : Room} {s : State} {m : MethodId} {args : Array Value} {below : List Frame} {meth : Method} {c : Code} {H : Heap} {locs : List Loc} {cells slots : Nat} {Q : State → Prop}
variable {cc : ByteArray} {pc : Nat} {ls : Array Slot} {rest : List Value} {D : va_G} {X : XT} {ad : Nat → Nat} {n : Nat} {A : Nat → Prop} {H0 : Heap} {J : MJ} {I : MI} {L : ML}
theorem wd_lt {i : Nat} {q : Nat × va_E} (hq : (wd X ad n J I L)[i]? = some q) : i < n ∧ q = (ad i, cnt X ad J I L (X.2.2.1 i) i) := by
  have hi : i < n := by
    have := (List.getElem?_eq_some_iff.mp hq).1
    simpa [wd] using this
  rw [wd_get _ _ _ _ _ _ hi] at hq
  cases hq
  exact ⟨hi, rfl⟩
theorem m_mna (hx : p.tables.exec = Jvm.exec) (hb : c.code = cc) {own : String} {index : Nat} (hown : s.vm.findClass own = some m.cls) (hclink : (Cond.classLink own index ("[" ++ (FieldType.array .int).toString)).before args s = true) (hover : (Cond.arrayOver (.array .int)).before args s = true) (harr : (Cond.arrayClass .int).before args s = true)
    (hK : va_K D vwCl (tyl X) s) (hV : Wd D X ad n A H0 J I L H locs) (hA : ∀ q, H0.size ≤ q → A q) (hG : GJ X n J I L) (h3 : X.2.2.1 n = (3, 4)) (h0 : ∀ i, i < 4 → X.2.2.1 (n + 1 + i) = (0, 256)) (hcells : cells + 5 ≤ R.cells) (hslots : slots + 1028 ≤ R.slots) (hdg : decode cc pc = .ok (.multianewarray index 2, 4))
    (kk : ∀ (ad' : Nat → Nat) (H : Heap), (∀ k, k < n → ad' k = ad k) → Wd D X ad' (n + 5) A H0 (mj J n) I L H locs → W p l e R s m args below meth c H locs (cells + 5) (slots + 1028) Q (F0 m (pc + 4) ls (.ref (ad' n) :: rest))) : W p l e R s m args below meth c H locs cells slots Q (F0 m pc ls (.int 256 :: .int 4 :: rest)) := by
  intro T hT Xs
  obtain ⟨vm₁, cA, comp, -, fA, fC, hO, -, X', step⟩ := Xs.multianewarray2F hx hown hclink hover harr (g := F0 m pc ls (.int 256 :: .int 4 :: rest)) rfl (by rw [hb]; exact hdg) rfl (by decide) (by decide) (by decide) (by decide) (by decide) rfl rfl hcells hslots
  have e4 : (4 : Int32).toNatClampNeg = 4 := by decide
  have e256 : (256 : Int32).toNatClampNeg = 256 := by decide
  rw [e4, e256] at X' step
  have hcA : cA = X.1.2.2.2 := by
    have h1 : s.vm.findClass ("[" ++ (FieldType.array .int).toString) = some X.1.2.2.2 := (hK.2 3 _ rfl).2
    exact Option.some.inj (fA.symm.trans h1)
  have hcy : comp = X.1.1 := by
    have h1 : s.vm.findClass ("[" ++ FieldType.int.toString) = some X.1.1 := (hK.2 0 _ rfl).2
    exact Option.some.inj (fC.symm.trans h1)
  subst hcA
  subst hcy
  have hTh : (T.setVm vm₁).heap = H := hT
  generalize hF : Jvm.Free.Multi.fill (T.setVm vm₁) X.1.2.2.2 X.1.1 4 256 (defaultValue .int) 4 = F at X' step
  obtain ⟨f1, f2, -, -⟩ := Jvm.Free.Multi.fill_facts (T.setVm vm₁) X.1.2.2.2 X.1.1 4 256 (defaultValue .int) 4
  rw [hF, hTh] at f1 f2
  have hold : ∀ x : Nat, x < H.size → F.heap[x]? = H[x]? := fun x hx => by
    have := Jvm.Free.Multi.fill_old (T.setVm vm₁) X.1.2.2.2 X.1.1 4 256 (defaultValue .int) (a := x) (by rw [hTh]; exact hx) 4
    rw [hF, hTh] at this
    exact this
  have hrow : ∀ j : Nat, j < 4 → F.heap[H.size + 1 + j]? = some (Jvm.Free.Multi.innerC X.1.1 256 (defaultValue .int)) := fun j hj => by
    have := Jvm.Free.Multi.fill_inner (T.setVm vm₁) X.1.2.2.2 X.1.1 4 256 (defaultValue .int) 4 j hj
    rw [hF, hTh] at this
    exact this
  have had : ∀ k, k < n → ad k < H.size := fun k hk => (hV.1 k _ (wd_get X ad n J I L hk)).lt
  have ha1 : ∀ k, k < n → (fun k => if k < n then ad k else H.size + (k - n)) k = ad k := fun k hk => if_pos hk
  have ha2 : ∀ k, n ≤ k → (fun k => if k < n then ad k else H.size + (k - n)) k = H.size + (k - n) := fun k hk => if_neg (by omega)
  generalize (fun k => if k < n then ad k else H.size + (k - n)) = ad' at ha1 ha2
  have hP : va_P D vwCl (wd X ad' (n + 5) (mj J n) I L) F.heap := by
    intro k q hq
    obtain ⟨hk, rfl⟩ := wd_lt hq
    rcases Nat.lt_or_ge k n with z | z
    · have h1 := (hV.1.kept (fun k9 x hx => hold x.1 ((hV.1 k9 x hx).lt))) k _ (wd_get X ad n J I L z)
      rw [ha1 k z, cnt_congr (J' := mj J n) (J := J) (I' := I) (L' := L) _ (by unfold mj; rw [va_up_ne _ _ (by omega)]) rfl rfl, cnt_ad _ (fun j r e => ha1 r (hG.2.1 k z j r e))]
      exact h1
    · by_cases y : k = n
      · subst y
        rw [h3]
        show F.heap[ad' k]? = some (vp_cell X.1.2.2.2 (4, .inr (.inr (.inr (.inr (fun j => (mj J k k j).map ad'))))))
        rw [ha2 k (Nat.le_refl _), Nat.sub_self, Nat.add_zero, f2, mo_outer, vp_cell_q]
        congr 2
        funext j
        unfold mj
        rw [va_up_self]
        by_cases w : j < 4
        · rw [if_pos w, if_pos w]
          show va_rf (some (H.size + 1 + j)) = va_rf (some (ad' (k + 1 + j)))
          rw [ha2 _ (by omega), show k + 1 + j - k = 1 + j by omega, Nat.add_assoc]
        · rw [if_neg w, if_neg w]; rfl
      · have hs := h0 (k - n - 1) (by omega)
        rw [show n + 1 + (k - n - 1) = k by omega] at hs
        rw [hs]
        show F.heap[ad' k]? = some (vp_cell X.1.1 (256, .inl (I k)))
        rw [ha2 k z, show H.size + (k - n) = H.size + 1 + (k - n - 1) by omega, hrow _ (by omega), vp_cell_i]
        show some ({ cls := X.1.1, slots := Array.replicate 256 (defaultValue .int), vm := .none } : Cell) = _
        rw [arrV_new]
        congr 2
        funext j
        rw [(hG.2.2 k z).2.1 j]
        rfl
  have hD : va_D A (wd X ad' (n + 5) (mj J n) I L) := by
    refine ⟨fun i j x y hi hj hxy => ?_, fun i x hi => ?_⟩
    · obtain ⟨hi', rfl⟩ := wd_lt hi
      obtain ⟨hj', rfl⟩ := wd_lt hj
      have hxy' : ad' i = ad' j := hxy
      rcases Nat.lt_or_ge i n with z | z <;> rcases Nat.lt_or_ge j n with y | y
      · rw [ha1 i z, ha1 j y] at hxy'
        exact hV.2.1.1 i j _ _ (wd_get X ad n J I L z) (wd_get X ad n J I L y) hxy'
      · rw [ha1 i z, ha2 j y] at hxy'
        have := had i z
        omega
      · rw [ha2 i z, ha1 j y] at hxy'
        have := had j y
        omega
      · rw [ha2 i z, ha2 j y] at hxy'
        omega
    · obtain ⟨hi', rfl⟩ := wd_lt hi
      show A (ad' i)
      rcases Nat.lt_or_ge i n with z | z
      · rw [ha1 i z]; exact hV.2.1.2 i _ (wd_get X ad n J I L z)
      · rw [ha2 i z]; exact hA _ (by have := hV.2.2.1; omega)
  have hS : va_S A H0 F.heap locs := ⟨by rw [f1]; have := hV.2.2.1; omega, fun x h1 h2 => (hold x (Nat.lt_of_lt_of_le h1 hV.2.2.1)).trans (hV.2.2.2.1 x h1 h2), hV.2.2.2.2⟩
  obtain ⟨t, a1, b1⟩ := kk ad' F.heap ha1 ⟨hP, hD, hS⟩ F rfl X'
  refine ⟨t, step t ?_, b1⟩
  have ez : T.heap.size = H.size := by rw [hT]
  rw [ez]
  rw [ha2 n (Nat.le_refl _), Nat.sub_self, Nat.add_zero] at a1
  exact a1
end ML
