theorem wd_same : Cond.sameMethod "[I" "java/lang/Object" "clone" "()Ljava/lang/Object;" ∈ Gd := gd_t 147 (by decide +kernel) (by decide +kernel)
theorem wd_nat : Cond.native ⟨"java/lang/Object", "clone", "()Ljava/lang/Object;"⟩ ∈ Gd := gd_t 148 (by decide +kernel) (by decide +kernel)
theorem wd_inst : Cond.instanceMethod ⟨"java/lang/Object", "clone", "()Ljava/lang/Object;"⟩ ∈ Gd := gd_t 149 (by decide +kernel) (by decide +kernel)
theorem wd_sel : Cond.selects "[I" ⟨"[I", "clone", "()Ljava/lang/Object;"⟩ ⟨"java/lang/Object", "clone", "()Ljava/lang/Object;"⟩ ∈ Gd := gd_t 150 (by decide +kernel) (by decide +kernel)
def ZW (U : State) : Prop := va_Nw (.fieldLinkNest RX9 39 "CellarTides" "FIRST_SETTINGS" "[I" "CellarTides") U ∧ va_Nw (.castable "[I" "java/lang/Cloneable") U ∧ va_AO "CellarTides$Town" U
theorem ZW.warm {s U : State} (hW : s.WarmedH U.vm) (h : ZW s) : ZW U := ⟨va_Nw.warmF hW h.1, va_Nw.warmC hW h.2.1, va_AO.moved hW.alike h.2.2⟩
theorem ZW.same {u U : State} (he : u.vm = U.vm) (h : ZW u) : ZW U := ⟨va_Nw.same rfl he h.1, va_Nw.same rfl he h.2.1, va_AO.moved (he ▸ Vm.Alike.refl u.vm) h.2.2⟩
/-- a constructor's start -/
def PX (D : va_G) (tys : List (ClassId × FieldType)) (w : va_W) (sz : Nat) (U : State) : Prop := U.heap.size = sz ∧ va_P D vwCl w U.heap ∧ va_K D vwCl tys U ∧ va_D (fun _ => True) w ∧ NB U
def PZ (cI : ClassId) (tF tL tM : Nat) (D : va_G) (tys : List (ClassId × FieldType)) (w : va_W) (sz : Nat) (U : State) : Prop := PX D tys w sz U ∧ ZW U ∧ SZ cI tF tL tM (va_A w sz) U U.heap
theorem PX_blind {D : va_G} {tys : List (ClassId × FieldType)} {w : va_W} {sz : Nat} {av : List Value} : FrameBlind (va_Pc av (PX D tys w sz)) := by
  intro a U g mk q
  obtain ⟨q0, q1, qP, qK, qD, qN⟩ := q
  exact ⟨q0, q1, qP, va_K.moved (u := U) (U := U.calling g mk a) (Vm.Alike.refl U.vm) qK, qD, NB.same (u := U) (U := U.calling g mk a) rfl qN⟩
theorem PZ_blind {cI : ClassId} {tF tL tM : Nat} {D : va_G} {tys : List (ClassId × FieldType)} {w : va_W} {sz : Nat} {av : List Value} : FrameBlind (va_Pc av (PZ cI tF tL tM D tys w sz)) := by
  intro a U g mk q
  obtain ⟨q0, q1, q2, q3⟩ := q
  have h1 := PX_blind (av := av) a U g mk ⟨q0, q1⟩
  exact ⟨q0, h1.2, ZW.same (u := U) (U := U.calling g mk a) rfl q2, SZ.moved (u := U) (U := U.calling g mk a) (Vm.Alike.refl U.vm) q3⟩
section XR
variable {p : Program} {l : Launch} {e : Env} {R : Room} {s : State} {m : MethodId} {args : Array Value} {below : List Frame} {meth : Method} {c : Code} {H H0 : Heap} {locs : List Loc} {cells slots : Nat} {Q : State → Prop} {pc : Nat} {ls : Array Slot} {rest : List Value} {A : Nat → Prop} {cc : ByteArray} {D : va_G} {tys : List (ClassId × FieldType)} {ws : va_W} {own : String} {index : Nat}
theorem rXnewa (hx : p.tables.exec = Jvm.exec) (hb : c.code = cc) {atype : ArrayType} (hts : ∀ w ∈ Gd, w.before args s = true) (harr : Cond.arrayClass (newarray.typeOf atype) ∈ Gd) (hK : va_K D vwCl tys s) (t0 : Nat) {cA : ClassId} (ht : tys[t0]? = some (cA, newarray.typeOf atype)) (hP : va_P D vwCl ws H) (hD : va_D A ws) (hS : va_S A H0 H locs) (hA : ∀ q, H0.size ≤ q → A q) {n : Int32} (M : Nat) (x0 : vp_A) (ha : ∀ cA : ClassId, vp_cell cA x0 = arrV cA M (fun _ => defaultValue (newarray.typeOf atype))) (hn : ¬ n < 0) (hN : n.toNatClampNeg = M) (hbytes : M * componentBytes (newarray.typeOf atype) ≤ 536870912) (hcells : cells + 1 ≤ R.cells) (hslots : slots + M ≤ R.slots) (hdg : decode cc pc = .ok (.newarray atype, 2)) (kk : ∀ (q : Nat) (H1 : Heap), va_P D vwCl (ws ++ [(q, .inl (cA, x0))]) H1 → va_D A (ws ++ [(q, .inl (cA, x0))]) → va_S A H0 H1 locs → W p l e R s m args below meth c H1 locs (cells + 1) (slots + M) Q (F0 m (pc + 2) ls (.ref q :: rest))) : W p l e R s m args below meth c H locs cells slots Q (F0 m pc ls (.int n :: rest)) := by
  refine va_newaK hx hb (hts _ harr) rfl hdg rfl hn hN hbytes hcells hslots rfl fun H1 cA2 e1 z1 o1 hAr hNm => ?_
  have hRA : s.vm.findClass ("[" ++ (newarray.typeOf atype).toString) = some cA := by
    have hq := (hK.2 t0 _ ht).2
    cases atype <;> exact hq
  have hcc : cA2 = cA := Option.some.inj (hNm.symm.trans hRA)
  subst hcc
  have hk : ∀ (k : Nat) (x : Nat × va_E), ws[k]? = some x → H1[x.1]? = H[x.1]? := fun k x hx => o1 x.1 ((hP k x hx).lt)
  refine kk H.size H1 ((hP.kept hk).app (fun k x hx => ?_)) (hD.push hP rfl (hA _ hS.1)) ⟨Nat.le_trans hS.1 (by omega), fun x h1 h2 => (o1 x (Nat.lt_of_lt_of_le h1 hS.1)).trans (hS.2.1 x h1 h2), hS.2.2⟩
  have hz : k < 1 := (List.getElem?_eq_some_iff.mp hx).1
  rw [show k = 0 by omega] at hx
  cases hx
  show H1[H.size]? = some (vp_cell _ _)
  rw [ha]
  exact e1
theorem rXnewq (hx : p.tables.exec = Jvm.exec) (hb : c.code = cc) {C : String} (hts : ∀ w ∈ Gd, w.before args s = true) (hown : s.vm.findClass own = some m.cls) (hcl : Cond.classLink own index C ∈ Gd) (hover : va_AO C s) (hK : va_K D vwCl tys s) (t0 : Nat) {cA : ClassId} (ht : tys[t0]? = some (cA, .object C)) (hP : va_P D vwCl ws H) (hD : va_D A ws) (hS : va_S A H0 H locs) (hA : ∀ q, H0.size ≤ q → A q) {n : Int32} (M : Nat) (hn : ¬ n < 0) (hN : n.toNatClampNeg = M) (hbytes : M * 4 ≤ 536870912) (hcells : cells + 1 ≤ R.cells) (hslots : slots + M ≤ R.slots) (hdg : decode cc pc = .ok (.anewarray index, 3)) (kk : ∀ (q : Nat) (H1 : Heap), va_P D vwCl (ws ++ [(q, .inl (cA, M, .inr (.inr (.inr (.inr (fun _ => none))))))]) H1 → va_D A (ws ++ [(q, .inl (cA, M, .inr (.inr (.inr (.inr (fun _ => none))))))]) → va_S A H0 H1 locs → W p l e R s m args below meth c H1 locs (cells + 1) (slots + M) Q (F0 m (pc + 3) ls (.ref q :: rest))) : W p l e R s m args below meth c H locs cells slots Q (F0 m pc ls (.int n :: rest)) := by
  subst hN
  refine va_newq hx hb hown (hts _ hcl) hover hK hP hD hS hA hn rfl hbytes hcells hslots hdg (fun q cA2 H1 hK1 hP1 hD1 hS1 => ?_)
  have hcc : cA2 = cA := by
    obtain ⟨kA9, comp9, g1, g2, g3, g4⟩ := (hK.2 t0 _ ht).2
    have h9 := (hK1.2 tys.length (cA2, .object C) (by simp)).2
    obtain ⟨kA8, comp8, f1, f2, f3, f4⟩ := h9
    exact Option.some.inj (f4.symm.trans g4)
  subst hcc
  exact kk q H1 hP1 hD1 hS1
theorem rXclone (hx : p.tables.exec = Jvm.exec) (hb : c.code = cc) (hml : c.maxLocals = ls.size) (hown : s.vm.findClass own = some m.cls) (hts : ∀ w ∈ Gd, w.before args s = true) (hlink : Cond.methodLink own index ⟨"[I", "clone", "()Ljava/lang/Object;"⟩ ∈ Gd) (hcl : va_Nw (.castable "[I" "java/lang/Cloneable") s) (hK : va_K D vwCl tys s) (t0 : Nat) {cI : ClassId} (ht : tys[t0]? = some (cI, .int)) (hP : va_P D vwCl ws H) (hD : va_D A ws) (hS : va_S A H0 H locs) (hA : ∀ q, H0.size ≤ q → A q) {tF : Nat} (hF : SF cI tF A H) (hframes : 1 ≤ R.frames) (hlocals : (rest.map fun v => v.category).sum + 14 ≤ R.locals) (hcells : cells + 1 ≤ R.cells) (hslots : slots + 7 ≤ R.slots) (hdg : decode cc pc = .ok (.invokevirtual index, 3)) (kk : ∀ (q : Nat) (H1 : Heap), va_P D vwCl (ws ++ [(q, .inl (cI, 7, .inl fsS))]) H1 → va_D A (ws ++ [(q, .inl (cI, 7, .inl fsS))]) → va_S A H0 H1 locs → W p l e R s m args below meth c H1 locs (cells + 1) (slots + 7) Q (F0 m (pc + 3) ls (.ref q :: rest))) : W p l e R s m args below meth c H locs cells slots Q (F0 m pc ls (.ref tF :: rest)) := by
  obtain ⟨cell, g1, g2, g3, g4, g5, g6⟩ := hF
  have hnm : s.vm.findClass "[I" = some cI := by
    have hq := (hK.2 t0 _ ht).2
    have hq2 : s.vm.findClass ("[" ++ FieldType.int.toString) = some cI := hq
    rw [show ("[" ++ FieldType.int.toString) = "[I" by decide] at hq2
    exact hq2
  have hsz : cell.slots.size = 7 := by rw [g5]; simp [arrSlots]
  have hcellE : ({ cls := cell.cls, slots := cell.slots } : Cell) = vp_cell cI (7, .inl fsS) := by rw [g2, g5]; rfl
  obtain ⟨c0, t0', f1, f2, f3⟩ := Cond.castable_spec (va_Nw.use (A := args) rfl hcl)
  cases hnm.symm.trans f1
  intro T hT X
  have hcellT : T.heap[tF]? = some cell := by rw [hT]; exact g1
  obtain ⟨-, kA, hkA, comp, hkind⟩ := State.isArrayOf_alike X.warmed.alike ((hK.2 t0 _ ht).1 0 (fun _ => .null))
  obtain ⟨-, kS, hkS, compS, hkindS⟩ := (hK.2 t0 _ ht).1 0 (fun _ => .null)
  obtain ⟨vm', X', st⟩ := X.cloneArray hx hown (hts _ hlink) (hts _ wd_same) (hts _ wd_nat) (hts _ wd_inst) (hts _ wd_sel) (a := tF) (cell := cell) hcellT g3 g4 (by rw [g2]; exact hnm) f2 (by rw [g2]; exact f3)
    (fun i v hv => by
      rw [g2]
      have hk' : T.vm.classes[cI]? = some kA := hkA
      have hv2 : fits .int v = true := by
        rw [g5] at hv
        have hi : i < 7 := by
          have := (Array.getElem?_eq_some_iff.mp hv).1
          simpa [arrSlots] using this
        simp [arrSlots, hi] at hv
        rw [← hv]; rfl
      simpa [State.fitsSlot, State.slotType?, hk', hkind] using hv2)
    (g := F0 m pc ls (.ref tF :: rest)) rfl (by rw [hml]) rfl (by rw [hb]; exact hdg) hframes (by show 2 * 0 + _ + 14 ≤ _; omega) hcells (by rw [hsz]; exact hslots) (hloader := by rw [g2]; exact Vm.clonesLoader_of_array hkS hkindS)
  rw [hcellE, hsz] at X'
  generalize hH1 : H.push (vp_cell cI (7, .inl fsS)) = H1
  have z1 : H1.size = H.size + 1 := by rw [← hH1, Array.size_push]
  have e1 : H1[H.size]? = some (vp_cell cI (7, .inl fsS)) := by rw [← hH1, Array.getElem?_push_size]
  have o1 : ∀ q : Nat, q < H.size → H1[q]? = H[q]? := fun q hq => by rw [← hH1, Array.getElem?_push, if_neg (Nat.ne_of_lt hq)]
  have hk : ∀ (k : Nat) (y : Nat × va_E), ws[k]? = some y → H1[y.1]? = H[y.1]? := fun k y hy => o1 y.1 ((hP k y hy).lt)
  obtain ⟨t, b1, b2⟩ := kk H.size H1 ((hP.kept hk).app (fun k y hy => by
      have hz : k < 1 := (List.getElem?_eq_some_iff.mp hy).1
      rw [show k = 0 by omega] at hy
      cases hy
      exact e1)) (hD.push hP rfl (hA _ hS.1)) ⟨Nat.le_trans hS.1 (by omega), fun y h1 h2 => (o1 y (Nat.lt_of_lt_of_le h1 hS.1)).trans (hS.2.1 y h1 h2), hS.2.2⟩
    ((T.setVm vm').pushCell (vp_cell cI (7, .inl fsS))) (by rw [← hH1, ← hT]; rfl) X'
  refine ⟨t, st t ?_, b2⟩
  rw [hcellE, hT]
  exact b1
end XR
