/-! ===== a method out of its walk ===== -/
theorem metI {l : Launch} {y : MethodName} {cc : ByteArray} {maxL fr lo : Nat} {D : va_G} {tys : List (ClassId × FieldType)} {N : Nat} {a : Nat → Nat} {E : WE} {av : List Value} {u u2 : St} {ret : FieldType} {r : Int32} (hy : plainName y.cls = true) (hlen : (lg_sl av).length ≤ maxL)
    (body : ∀ (p : Program) (e : Env) (s : State) (m : MethodId) (args : Array Value) (below : List Frame) (meth : Method) (c : Code) (R : Room) (Q : State → Prop), p.tables.exec = Jvm.exec → c.code = cc → c.maxLocals = maxL → s.vm.findClass y.cls = some m.cls → (∀ w ∈ Gd, w.before args s = true) → fr ≤ R.frames → lo ≤ R.locals → (∀ {u1 : St} {H : Heap} {locs : List Loc} {pc : Nat} {ls : Array Slot} {v : Int32}, v = r → narrow ret (.int v) = .int v → u1 = u2 → decode cc pc = .ok (.ireturn, 1) → Hh D (AB N a s.heap.size) (wX N a E u1) s.heap H locs → W p l e R s m args below meth c H locs 0 0 Q (F0 m pc ls [.int v])) → va_K D vwCl tys s → NB s → Hh D (AB N a s.heap.size) (wX N a E u) s.heap s.heap [] → ∀ ls, lv_has ls maxL (lv_args 0 av) → W p l e R s m args below meth c s.heap [] 0 0 Q (F0 m 0 ls [])) : Ci l y cc maxL (some ret) fr lo D tys N a E av u r u2 := by
  intro sz
  refine Met.ofW (cc := cc) (maxL := maxL) (ret := (some ret)) hy rfl ?_
  intro p e s m args below meth c s₁ B hml hv
  obtain ⟨rfl, hsz, hP, hK, hD0, hN⟩ := hv
  subst hsz
  have hx := B.exec
  have hb := B.bytes
  have hr := B.returns
  have hts := atoms_spec (ws := Cond.code y cc maxL (some ret) :: Gd) B.pre
  have hown := findClass_of_methodNamed B.named
  have hlocks := B.notSynchronized
  have hl := lv_entry av (n := maxL) hlen
  rw [lg_entry_eq]
  refine body p e s m _ below meth c _ _ hx hb hml hown (fun w h => hts w (List.mem_cons_of_mem _ h)) (Nat.le_refl _) (Nat.le_refl _) ?_ hK hN ⟨hP, AB_D hD0, va_S.rf⟩ _ hl
  intro u1 H locs pc ls v hv hn hu hdg hh
  subst hu; subst hv
  exact W.zret hx hb hr hn (fun t ht hW => ⟨⟨v, u1, rfl, ⟨rfl, rfl⟩, by rw [ht]; exact hh.1, hh.2.1⟩, hh.2.2.F ht⟩) hh.2.2.2.2 hdg
theorem metL {l : Launch} {y : MethodName} {cc : ByteArray} {maxL fr lo : Nat} {D : va_G} {tys : List (ClassId × FieldType)} {N : Nat} {a : Nat → Nat} {E : WE} {av : List Value} {u u2 : St} {r : Int64} (hy : plainName y.cls = true) (hlen : (lg_sl av).length ≤ maxL)
    (body : ∀ (p : Program) (e : Env) (s : State) (m : MethodId) (args : Array Value) (below : List Frame) (meth : Method) (c : Code) (R : Room) (Q : State → Prop), p.tables.exec = Jvm.exec → c.code = cc → c.maxLocals = maxL → s.vm.findClass y.cls = some m.cls → (∀ w ∈ Gd, w.before args s = true) → fr ≤ R.frames → lo ≤ R.locals → (∀ {u1 : St} {H : Heap} {locs : List Loc} {pc : Nat} {ls : Array Slot} {v : Int64}, v = r → u1 = u2 → decode cc pc = .ok (.lreturn, 1) → Hh D (AB N a s.heap.size) (wX N a E u1) s.heap H locs → W p l e R s m args below meth c H locs 0 0 Q (F0 m pc ls [.long v])) → va_K D vwCl tys s → NB s → Hh D (AB N a s.heap.size) (wX N a E u) s.heap s.heap [] → ∀ ls, lv_has ls maxL (lv_args 0 av) → W p l e R s m args below meth c s.heap [] 0 0 Q (F0 m 0 ls [])) : Cl l y cc maxL (some .long) fr lo D tys N a E av u r u2 := by
  intro sz
  refine Met.ofW (cc := cc) (maxL := maxL) (ret := (some .long)) hy rfl ?_
  intro p e s m args below meth c s₁ B hml hv
  obtain ⟨rfl, hsz, hP, hK, hD0, hN⟩ := hv
  subst hsz
  have hx := B.exec
  have hb := B.bytes
  have hr := B.returns
  have hts := atoms_spec (ws := Cond.code y cc maxL (some .long) :: Gd) B.pre
  have hown := findClass_of_methodNamed B.named
  have hlocks := B.notSynchronized
  have hl := lv_entry av (n := maxL) hlen
  rw [lg_entry_eq]
  refine body p e s m _ below meth c _ _ hx hb hml hown (fun w h => hts w (List.mem_cons_of_mem _ h)) (Nat.le_refl _) (Nat.le_refl _) ?_ hK hN ⟨hP, AB_D hD0, va_S.rf⟩ _ hl
  intro u1 H locs pc ls v hv hu hdg hh
  subst hu; subst hv
  exact W.lret hx hb hr (fun t ht hW => ⟨⟨v, u1, rfl, ⟨rfl, rfl⟩, by rw [ht]; exact hh.1, hh.2.1⟩, hh.2.2.F ht⟩) hh.2.2.2.2 hdg
theorem metV {l : Launch} {y : MethodName} {cc : ByteArray} {maxL fr lo : Nat} {D : va_G} {tys : List (ClassId × FieldType)} {N : Nat} {a : Nat → Nat} {E : WE} {av : List Value} {u u2 : St} (hy : plainName y.cls = true) (hlen : (lg_sl av).length ≤ maxL)
    (body : ∀ (p : Program) (e : Env) (s : State) (m : MethodId) (args : Array Value) (below : List Frame) (meth : Method) (c : Code) (R : Room) (Q : State → Prop), p.tables.exec = Jvm.exec → c.code = cc → c.maxLocals = maxL → s.vm.findClass y.cls = some m.cls → (∀ w ∈ Gd, w.before args s = true) → fr ≤ R.frames → lo ≤ R.locals → (∀ {u1 : St} {H : Heap} {locs : List Loc} {pc : Nat} {ls : Array Slot}, u1 = u2 → decode cc pc = .ok (.return_, 1) → Hh D (AB N a s.heap.size) (wX N a E u1) s.heap H locs → W p l e R s m args below meth c H locs 0 0 Q (F0 m pc ls [])) → va_K D vwCl tys s → NB s → Hh D (AB N a s.heap.size) (wX N a E u) s.heap s.heap [] → ∀ ls, lv_has ls maxL (lv_args 0 av) → W p l e R s m args below meth c s.heap [] 0 0 Q (F0 m 0 ls [])) : Cv l y cc maxL none fr lo D tys N a E av u u2 := by
  intro sz
  refine Met.ofW (cc := cc) (maxL := maxL) (ret := none) hy rfl ?_
  intro p e s m args below meth c s₁ B hml hv
  obtain ⟨rfl, hsz, hP, hK, hD0, hN⟩ := hv
  subst hsz
  have hx := B.exec
  have hb := B.bytes
  have hr := B.returns
  have hts := atoms_spec (ws := Cond.code y cc maxL none :: Gd) B.pre
  have hown := findClass_of_methodNamed B.named
  have hlocks := B.notSynchronized
  have hl := lv_entry av (n := maxL) hlen
  rw [lg_entry_eq]
  refine body p e s m _ below meth c _ _ hx hb hml hown (fun w h => hts w (List.mem_cons_of_mem _ h)) (Nat.le_refl _) (Nat.le_refl _) ?_ hK hN ⟨hP, AB_D hD0, va_S.rf⟩ _ hl
  intro u1 H locs pc ls hu hdg hh
  subst hu
  exact W.vret hx hb hr (fun t ht hW => ⟨⟨u1, rfl, rfl, by rw [ht]; exact hh.1, hh.2.1⟩, hh.2.2.F ht⟩) hh.2.2.2.2 hdg
/-! ===== statics: the tables of the class, read off at the start ===== -/
def lsS : Nat → Int32 := fun j => if j = 0 then 1 else 0
def msS : Nat → Int32 := fun j => if j = 2 then 29 else 99
def fsS : Nat → Int32 := fun j => if j = 2 then 0 else 20
def SF (cI : ClassId) (tF : Nat) (A : Nat → Prop) (H : Heap) : Prop := ∃ cell : Cell, H[tF]? = some cell ∧ cell.cls = cI ∧ (∀ k, cell.vm ≠ .statics k) ∧ cell.vm ≠ .unknown ∧ cell.slots = arrSlots 7 fsS ∧ ¬ A tF
def SZ (cI : ClassId) (tF tL tM : Nat) (A : Nat → Prop) (U : State) (H : Heap) : Prop := va_Z "CellarTides" "FIRST_SETTINGS" "[I" (.ref tF) A U H ∧ va_Z "CellarTides" "LEAST_SETTINGS" "[I" (.ref tL) A U H ∧ va_Z "CellarTides" "MOST_SETTINGS" "[I" (.ref tM) A U H ∧ va_T .int tL 7 (fun j => .int (lsS j)) A U H ∧ va_T .int tM 7 (fun j => .int (msS j)) A U H ∧ SF cI tF A H
theorem SZ.moved {cI : ClassId} {tF tL tM : Nat} {A : Nat → Prop} {u U : State} {H : Heap} (hvm : u.vm.Alike U.vm) (h : SZ cI tF tL tM A u H) : SZ cI tF tL tM A U H :=
  ⟨va_Z.moved hvm h.1, va_Z.moved hvm h.2.1, va_Z.moved hvm h.2.2.1, va_T.moved hvm h.2.2.2.1, va_T.moved hvm h.2.2.2.2.1, h.2.2.2.2.2⟩
theorem SZ.kept {cI : ClassId} {tF tL tM : Nat} {A : Nat → Prop} {U : State} {H H1 : Heap} (h : SZ cI tF tL tM A U H) (hq : ∀ a : Nat, a < H.size → ¬ A a → H1[a]? = H[a]?) : SZ cI tF tL tM A U H1 := by
  obtain ⟨cell, g1, g2, g3, g4, g5, g6⟩ := h.2.2.2.2.2
  exact ⟨h.1.kept hq, h.2.1.kept hq, h.2.2.1.kept hq, h.2.2.2.1.kept hq, h.2.2.2.2.1.kept hq, cell, by rw [hq tF (Array.getElem?_eq_some_iff.mp g1).1 g6]; exact g1, g2, g3, g4, g5, g6⟩
theorem SZ.narrow {cI : ClassId} {tF tL tM : Nat} {A B : Nat → Prop} {U : State} {H : Heap} (h : SZ cI tF tL tM A U H) (hAB : ∀ q, B q → A q) : SZ cI tF tL tM B U H := by
  obtain ⟨cell, g1, g2, g3, g4, g5, g6⟩ := h.2.2.2.2.2
  exact ⟨h.1.narrow hAB, h.2.1.narrow hAB, h.2.2.1.narrow hAB, h.2.2.2.1.narrow hAB, h.2.2.2.2.1.narrow hAB, cell, g1, g2, g3, g4, g5, fun z => g6 (hAB _ z)⟩
def CiZ (cI : ClassId) (tF tL tM : Nat) (l : Launch) (y : MethodName) (cc : ByteArray) (maxL : Nat) (ret : Option FieldType) (fr lo : Nat) (D : va_G) (tys : List (ClassId × FieldType)) (N : Nat) (a : Nat → Nat) (E : WE) (av : List Value) (u : St) (r : Int32) (u2 : St) : Prop := ∀ sz : Nat, Met l y (Cond.code y cc maxL ret :: Gd) (rmOf fr lo) (va_Pc av (fun U => PB D tys (wX N a E u) sz U ∧ SZ cI tF tL tM (AB N a sz) U U.heap)) (va_Qi (fun (r1 : Int32) (v : St) => r1 = r ∧ v = u2) (Bk D N a E sz) (AB N a sz)) 0 0 (AB N a sz)
theorem metIZ {cI : ClassId} {tF tL tM : Nat} {l : Launch} {y : MethodName} {cc : ByteArray} {maxL fr lo : Nat} {D : va_G} {tys : List (ClassId × FieldType)} {N : Nat} {a : Nat → Nat} {E : WE} {av : List Value} {u u2 : St} {ret : FieldType} {r : Int32} (hy : plainName y.cls = true) (hlen : (lg_sl av).length ≤ maxL)
    (body : ∀ (p : Program) (e : Env) (s : State) (m : MethodId) (args : Array Value) (below : List Frame) (meth : Method) (c : Code) (R : Room) (Q : State → Prop), p.tables.exec = Jvm.exec → c.code = cc → c.maxLocals = maxL → s.vm.findClass y.cls = some m.cls → (∀ w ∈ Gd, w.before args s = true) → fr ≤ R.frames → lo ≤ R.locals → (∀ {u1 : St} {H : Heap} {locs : List Loc} {pc : Nat} {ls : Array Slot} {v : Int32}, v = r → narrow ret (.int v) = .int v → u1 = u2 → decode cc pc = .ok (.ireturn, 1) → Hh D (AB N a s.heap.size) (wX N a E u1) s.heap H locs → W p l e R s m args below meth c H locs 0 0 Q (F0 m pc ls [.int v])) → va_K D vwCl tys s → NB s → SZ cI tF tL tM (AB N a s.heap.size) s s.heap → Hh D (AB N a s.heap.size) (wX N a E u) s.heap s.heap [] → ∀ ls, lv_has ls maxL (lv_args 0 av) → W p l e R s m args below meth c s.heap [] 0 0 Q (F0 m 0 ls [])) : CiZ cI tF tL tM l y cc maxL (some ret) fr lo D tys N a E av u r u2 := by
  intro sz
  refine Met.ofW (cc := cc) (maxL := maxL) (ret := some ret) hy rfl ?_
  intro p e s m args below meth c s₁ B hml hv
  obtain ⟨rfl, ⟨hsz, hP, hK, hD0, hN⟩, hZ⟩ := hv
  subst hsz
  have hx := B.exec
  have hb := B.bytes
  have hr := B.returns
  have hts := atoms_spec (ws := Cond.code y cc maxL (some ret) :: Gd) B.pre
  have hown := findClass_of_methodNamed B.named
  have hlocks := B.notSynchronized
  have hl := lv_entry av (n := maxL) hlen
  rw [lg_entry_eq]
  refine body p e s m _ below meth c _ _ hx hb hml hown (fun w h => hts w (List.mem_cons_of_mem _ h)) (Nat.le_refl _) (Nat.le_refl _) ?_ hK hN hZ ⟨hP, AB_D hD0, va_S.rf⟩ _ hl
  intro u1 H locs pc ls v hv hn hu hdg hh
  subst hu; subst hv
  exact W.zret hx hb hr hn (fun t ht hW => ⟨⟨v, u1, rfl, ⟨rfl, rfl⟩, by rw [ht]; exact hh.1, hh.2.1⟩, hh.2.2.F ht⟩) hh.2.2.2.2 hdg
/-! ===== calls ===== -/
section BC
variable {p : Program} {l : Launch} {e : Env} {R : Room} {s : State} {m : MethodId} {args : Array Value} {below : List Frame} {meth : Method} {c : Code} {H : Heap} {locs : List Loc} {cells slots : Nat} {Q : State → Prop} {pc : Nat} {ls : Array Slot} {rest st0 : List Value} {cc : ByteArray} {D : va_G} {tys : List (ClassId × FieldType)} {N : Nat} {a : Nat → Nat} {E : WE} {u u2 : St} {own : String} {index : Nat} {y : MethodName} {cY : ByteArray} {maxY fr lo n nL : Nat} {ret : Option FieldType} {As : List Value}
theorem cVi (hx : p.tables.exec = Jvm.exec) (hb : c.code = cc) (hml : c.maxLocals = nL) (hown : s.vm.findClass own = some m.cls) (hts : ∀ w ∈ Gd, w.before args s = true) (hK : va_K D vwCl tys s) (hN : NB s) {q : Nat} {r : Int32} (hM : Ci l y cY maxY ret fr lo D tys N a E (.ref (a q) :: As) u r u2) {C : String} (g : GoodIn Gd (wsV own index C y (Cond.code y cY maxY ret :: Gd))) (hC : y.cls = C) (hd : y.cls ≠ "java/lang/invoke/MethodHandle" ∧ y.cls ≠ "java/lang/invoke/VarHandle" ∧ (parseMethodDescriptor y.desc).map (fun d => d.parameters.length) = some n) (hn : As.length = n) (hF : fr + 1 ≤ R.frames) (hLo : 8 + (maxY + 11) + lo ≤ R.locals) (h : Hh D (AB N a s.heap.size) (wX N a E u) s.heap H locs) (hsize : ls.size = nL) (hcs : cells ≤ R.cells ∧ slots ≤ R.slots) (hq : q < N) {ci : Nat} {fs : List Value} {T : u_T} {M : Nat} (he : E (u.1 q) (u.2 q) q = .inr (ci, fs)) (hci : vwCl[ci]? = some (C, T, M)) (hst : st0 = As.reverse ++ .ref (a q) :: rest) (hr : (rest.map fun v => v.category).sum ≤ 8) (hdg : decode cc pc = .ok (.invokevirtual index, 3)) (kk : ∀ (H1 : Heap) (locs1 : List Loc), Hh D (AB N a s.heap.size) (wX N a E u2) s.heap H1 locs1 → W p l e R s m args below meth c H1 locs1 cells slots Q (F0 m (pc + 3) ls (.int r :: rest))) : W p l e R s m args below meth c H locs cells slots Q (F0 m pc ls st0) := by
  refine va_calli (va_runV (As := As) (rest := rest) ⟨hx, hb, hml, hown, hts⟩ (hM H.size) (cwV n hts g rfl rfl rfl ⟨hC, hd⟩ ⟨hF, hLo⟩) ⟨PB_blind, va_recv hK h.1 hci (wX_at hq he), fun U hU hW => ⟨rfl, by rw [hU], by rw [hU]; exact h.1, va_K.moved hW.alike hK, h.2.1.weaken (fun _ _ _ _ => trivial), hN.warm hW⟩⟩ rfl hn hsize hst (lv_room hr) hdg hcs) h.2.2 (fun q _ h9 => AB_mono h.2.2.1 q h9) (fun q h9 => AB_mono h.2.2.1 q h9) (fun r1 u1 t H1 locs1 ht hvm hw hB hz hk hS => ?_)
  obtain ⟨rfl, rfl⟩ := hw
  exact kk H1 locs1 ⟨ht ▸ hB.1, hB.2.weaken (fun _ _ _ h9 => AB_mono h.2.2.1 _ h9), hS⟩
theorem cSi (hx : p.tables.exec = Jvm.exec) (hb : c.code = cc) (hml : c.maxLocals = nL) (hown : s.vm.findClass own = some m.cls) (hts : ∀ w ∈ Gd, w.before args s = true) (hK : va_K D vwCl tys s) (hN : NB s) {r : Int32} (hM : Ci l y cY maxY ret fr lo D tys N a E As u r u2) (g : GoodIn Gd (va_wsS own index y (Cond.code y cY maxY ret :: Gd))) (hd : y.cls ≠ "java/lang/invoke/MethodHandle" ∧ y.cls ≠ "java/lang/invoke/VarHandle" ∧ (parseMethodDescriptor y.desc).map (fun d => d.parameters.length) = some n) (hn : As.length = n) (hF : fr + 1 ≤ R.frames) (hLo : 8 + (maxY + 11) + lo ≤ R.locals) (h : Hh D (AB N a s.heap.size) (wX N a E u) s.heap H locs) (hsize : ls.size = nL) (hcs : cells ≤ R.cells ∧ slots ≤ R.slots) (hst : st0 = As.reverse ++ rest) (hr : (rest.map fun v => v.category).sum ≤ 8) (hdg : decode cc pc = .ok (.invokestatic index, 3)) (kk : ∀ (H1 : Heap) (locs1 : List Loc), Hh D (AB N a s.heap.size) (wX N a E u2) s.heap H1 locs1 → W p l e R s m args below meth c H1 locs1 cells slots Q (F0 m (pc + 3) ls (.int r :: rest))) : W p l e R s m args below meth c H locs cells slots Q (F0 m pc ls st0) := by
  refine va_calli (va_runS (As := As) (rest := rest) ⟨hx, hb, hml, hown, hts⟩ (hM H.size) (va_cwS n hts g rfl rfl rfl hd ⟨hF, hLo⟩) ⟨PB_blind, fun U hU hW => ⟨rfl, by rw [hU], by rw [hU]; exact h.1, va_K.moved hW.alike hK, h.2.1.weaken (fun _ _ _ _ => trivial), hN.warm hW⟩⟩ rfl hn hsize hst (lv_room hr) hdg hcs) h.2.2 (fun q _ h9 => AB_mono h.2.2.1 q h9) (fun q h9 => AB_mono h.2.2.1 q h9) (fun r1 u1 t H1 locs1 ht hvm hw hB hz hk hS => ?_)
  obtain ⟨rfl, rfl⟩ := hw
  exact kk H1 locs1 ⟨ht ▸ hB.1, hB.2.weaken (fun _ _ _ h9 => AB_mono h.2.2.1 _ h9), hS⟩
theorem cNi (hx : p.tables.exec = Jvm.exec) (hb : c.code = cc) (hml : c.maxLocals = nL) (hown : s.vm.findClass own = some m.cls) (hts : ∀ w ∈ Gd, w.before args s = true) (hK : va_K D vwCl tys s) (hN : NB s) {r : Int32} (hM : Ci l y cY maxY ret fr lo D tys N a E As u r u2) (hco : Cond.code y cY maxY ret ∈ Gd) (hsm : Cond.static y ∈ Gd) (hini : Cond.initialized y.cls ∈ Gd) {host : String} (hnl : va_Nw (.methodLinkNest own index y host) s) (hd : y.cls ≠ "java/lang/invoke/MethodHandle" ∧ y.cls ≠ "java/lang/invoke/VarHandle" ∧ (parseMethodDescriptor y.desc).map (fun d => d.parameters.length) = some n) (hn : As.length = n) (hF : fr + 1 ≤ R.frames) (hLo : 8 + (maxY + 11) + lo ≤ R.locals) (h : Hh D (AB N a s.heap.size) (wX N a E u) s.heap H locs) (hsize : ls.size = nL) (hcs : cells ≤ R.cells ∧ slots ≤ R.slots) (hst : st0 = As.reverse ++ rest) (hr : (rest.map fun v => v.category).sum ≤ 8) (hdg : decode cc pc = .ok (.invokestatic index, 3)) (kk : ∀ (H1 : Heap) (locs1 : List Loc), Hh D (AB N a s.heap.size) (wX N a E u2) s.heap H1 locs1 → W p l e R s m args below meth c H1 locs1 cells slots Q (F0 m (pc + 3) ls (.int r :: rest))) : W p l e R s m args below meth c H locs cells slots Q (F0 m pc ls st0) := by
  refine va_calli (va_runSN (As := As) (rest := rest) ⟨hx, hb, hml, hown, hts⟩ (hM H.size) ⟨va_cnB n hts (gdC hco) rfl rfl rfl hnl (hts _ hini) hd ⟨hF, hLo⟩, hts _ hsm, trivial⟩ ⟨PB_blind, fun U hU hW => ⟨rfl, by rw [hU], by rw [hU]; exact h.1, va_K.moved hW.alike hK, h.2.1.weaken (fun _ _ _ _ => trivial), hN.warm hW⟩⟩ rfl hn hsize hst (lv_room hr) hdg hcs) h.2.2 (fun q _ h9 => AB_mono h.2.2.1 q h9) (fun q h9 => AB_mono h.2.2.1 q h9) (fun r1 u1 t H1 locs1 ht hvm hw hB hz hk hS => ?_)
  obtain ⟨rfl, rfl⟩ := hw
  exact kk H1 locs1 ⟨ht ▸ hB.1, hB.2.weaken (fun _ _ _ h9 => AB_mono h.2.2.1 _ h9), hS⟩
theorem cVl (hx : p.tables.exec = Jvm.exec) (hb : c.code = cc) (hml : c.maxLocals = nL) (hown : s.vm.findClass own = some m.cls) (hts : ∀ w ∈ Gd, w.before args s = true) (hK : va_K D vwCl tys s) (hN : NB s) {q : Nat} {r : Int64} (hM : Cl l y cY maxY ret fr lo D tys N a E (.ref (a q) :: As) u r u2) {C : String} (g : GoodIn Gd (wsV own index C y (Cond.code y cY maxY ret :: Gd))) (hC : y.cls = C) (hd : y.cls ≠ "java/lang/invoke/MethodHandle" ∧ y.cls ≠ "java/lang/invoke/VarHandle" ∧ (parseMethodDescriptor y.desc).map (fun d => d.parameters.length) = some n) (hn : As.length = n) (hF : fr + 1 ≤ R.frames) (hLo : 8 + (maxY + 11) + lo ≤ R.locals) (h : Hh D (AB N a s.heap.size) (wX N a E u) s.heap H locs) (hsize : ls.size = nL) (hcs : cells ≤ R.cells ∧ slots ≤ R.slots) (hq : q < N) {ci : Nat} {fs : List Value} {T : u_T} {M : Nat} (he : E (u.1 q) (u.2 q) q = .inr (ci, fs)) (hci : vwCl[ci]? = some (C, T, M)) (hst : st0 = As.reverse ++ .ref (a q) :: rest) (hr : (rest.map fun v => v.category).sum ≤ 8) (hdg : decode cc pc = .ok (.invokevirtual index, 3)) (kk : ∀ (H1 : Heap) (locs1 : List Loc), Hh D (AB N a s.heap.size) (wX N a E u2) s.heap H1 locs1 → W p l e R s m args below meth c H1 locs1 cells slots Q (F0 m (pc + 3) ls (.long r :: rest))) : W p l e R s m args below meth c H locs cells slots Q (F0 m pc ls st0) := by
  refine va_calll (va_runV (As := As) (rest := rest) ⟨hx, hb, hml, hown, hts⟩ (hM H.size) (cwV n hts g rfl rfl rfl ⟨hC, hd⟩ ⟨hF, hLo⟩) ⟨PB_blind, va_recv hK h.1 hci (wX_at hq he), fun U hU hW => ⟨rfl, by rw [hU], by rw [hU]; exact h.1, va_K.moved hW.alike hK, h.2.1.weaken (fun _ _ _ _ => trivial), hN.warm hW⟩⟩ rfl hn hsize hst (lv_room hr) hdg hcs) h.2.2 (fun q _ h9 => AB_mono h.2.2.1 q h9) (fun q h9 => AB_mono h.2.2.1 q h9) (fun r1 u1 t H1 locs1 ht hvm hw hB hz hk hS => ?_)
  obtain ⟨rfl, rfl⟩ := hw
  exact kk H1 locs1 ⟨ht ▸ hB.1, hB.2.weaken (fun _ _ _ h9 => AB_mono h.2.2.1 _ h9), hS⟩
theorem cSl (hx : p.tables.exec = Jvm.exec) (hb : c.code = cc) (hml : c.maxLocals = nL) (hown : s.vm.findClass own = some m.cls) (hts : ∀ w ∈ Gd, w.before args s = true) (hK : va_K D vwCl tys s) (hN : NB s) {r : Int64} (hM : Cl l y cY maxY ret fr lo D tys N a E As u r u2) (g : GoodIn Gd (va_wsS own index y (Cond.code y cY maxY ret :: Gd))) (hd : y.cls ≠ "java/lang/invoke/MethodHandle" ∧ y.cls ≠ "java/lang/invoke/VarHandle" ∧ (parseMethodDescriptor y.desc).map (fun d => d.parameters.length) = some n) (hn : As.length = n) (hF : fr + 1 ≤ R.frames) (hLo : 8 + (maxY + 11) + lo ≤ R.locals) (h : Hh D (AB N a s.heap.size) (wX N a E u) s.heap H locs) (hsize : ls.size = nL) (hcs : cells ≤ R.cells ∧ slots ≤ R.slots) (hst : st0 = As.reverse ++ rest) (hr : (rest.map fun v => v.category).sum ≤ 8) (hdg : decode cc pc = .ok (.invokestatic index, 3)) (kk : ∀ (H1 : Heap) (locs1 : List Loc), Hh D (AB N a s.heap.size) (wX N a E u2) s.heap H1 locs1 → W p l e R s m args below meth c H1 locs1 cells slots Q (F0 m (pc + 3) ls (.long r :: rest))) : W p l e R s m args below meth c H locs cells slots Q (F0 m pc ls st0) := by
  refine va_calll (va_runS (As := As) (rest := rest) ⟨hx, hb, hml, hown, hts⟩ (hM H.size) (va_cwS n hts g rfl rfl rfl hd ⟨hF, hLo⟩) ⟨PB_blind, fun U hU hW => ⟨rfl, by rw [hU], by rw [hU]; exact h.1, va_K.moved hW.alike hK, h.2.1.weaken (fun _ _ _ _ => trivial), hN.warm hW⟩⟩ rfl hn hsize hst (lv_room hr) hdg hcs) h.2.2 (fun q _ h9 => AB_mono h.2.2.1 q h9) (fun q h9 => AB_mono h.2.2.1 q h9) (fun r1 u1 t H1 locs1 ht hvm hw hB hz hk hS => ?_)
  obtain ⟨rfl, rfl⟩ := hw
  exact kk H1 locs1 ⟨ht ▸ hB.1, hB.2.weaken (fun _ _ _ h9 => AB_mono h.2.2.1 _ h9), hS⟩
theorem cVv (hx : p.tables.exec = Jvm.exec) (hb : c.code = cc) (hml : c.maxLocals = nL) (hown : s.vm.findClass own = some m.cls) (hts : ∀ w ∈ Gd, w.before args s = true) (hK : va_K D vwCl tys s) (hN : NB s) {q : Nat} (hM : Cv l y cY maxY ret fr lo D tys N a E (.ref (a q) :: As) u u2) {C : String} (g : GoodIn Gd (wsV own index C y (Cond.code y cY maxY ret :: Gd))) (hC : y.cls = C) (hd : y.cls ≠ "java/lang/invoke/MethodHandle" ∧ y.cls ≠ "java/lang/invoke/VarHandle" ∧ (parseMethodDescriptor y.desc).map (fun d => d.parameters.length) = some n) (hn : As.length = n) (hF : fr + 1 ≤ R.frames) (hLo : 8 + (maxY + 11) + lo ≤ R.locals) (h : Hh D (AB N a s.heap.size) (wX N a E u) s.heap H locs) (hsize : ls.size = nL) (hcs : cells ≤ R.cells ∧ slots ≤ R.slots) (hq : q < N) {ci : Nat} {fs : List Value} {T : u_T} {M : Nat} (he : E (u.1 q) (u.2 q) q = .inr (ci, fs)) (hci : vwCl[ci]? = some (C, T, M)) (hst : st0 = As.reverse ++ .ref (a q) :: rest) (hr : (rest.map fun v => v.category).sum ≤ 8) (hdg : decode cc pc = .ok (.invokevirtual index, 3)) (kk : ∀ (H1 : Heap) (locs1 : List Loc), Hh D (AB N a s.heap.size) (wX N a E u2) s.heap H1 locs1 → W p l e R s m args below meth c H1 locs1 cells slots Q (F0 m (pc + 3) ls (rest))) : W p l e R s m args below meth c H locs cells slots Q (F0 m pc ls st0) := by
  refine va_callv (va_runV (As := As) (rest := rest) ⟨hx, hb, hml, hown, hts⟩ (hM H.size) (cwV n hts g rfl rfl rfl ⟨hC, hd⟩ ⟨hF, hLo⟩) ⟨PB_blind, va_recv hK h.1 hci (wX_at hq he), fun U hU hW => ⟨rfl, by rw [hU], by rw [hU]; exact h.1, va_K.moved hW.alike hK, h.2.1.weaken (fun _ _ _ _ => trivial), hN.warm hW⟩⟩ rfl hn hsize hst (lv_room hr) hdg hcs) h.2.2 (fun q _ h9 => AB_mono h.2.2.1 q h9) (fun q h9 => AB_mono h.2.2.1 q h9) (fun u1 t H1 locs1 ht hvm hw hB hz hk hS => ?_)
  subst hw
  exact kk H1 locs1 ⟨ht ▸ hB.1, hB.2.weaken (fun _ _ _ h9 => AB_mono h.2.2.1 _ h9), hS⟩
theorem cSv (hx : p.tables.exec = Jvm.exec) (hb : c.code = cc) (hml : c.maxLocals = nL) (hown : s.vm.findClass own = some m.cls) (hts : ∀ w ∈ Gd, w.before args s = true) (hK : va_K D vwCl tys s) (hN : NB s) (hM : Cv l y cY maxY ret fr lo D tys N a E As u u2) (g : GoodIn Gd (va_wsS own index y (Cond.code y cY maxY ret :: Gd))) (hd : y.cls ≠ "java/lang/invoke/MethodHandle" ∧ y.cls ≠ "java/lang/invoke/VarHandle" ∧ (parseMethodDescriptor y.desc).map (fun d => d.parameters.length) = some n) (hn : As.length = n) (hF : fr + 1 ≤ R.frames) (hLo : 8 + (maxY + 11) + lo ≤ R.locals) (h : Hh D (AB N a s.heap.size) (wX N a E u) s.heap H locs) (hsize : ls.size = nL) (hcs : cells ≤ R.cells ∧ slots ≤ R.slots) (hst : st0 = As.reverse ++ rest) (hr : (rest.map fun v => v.category).sum ≤ 8) (hdg : decode cc pc = .ok (.invokestatic index, 3)) (kk : ∀ (H1 : Heap) (locs1 : List Loc), Hh D (AB N a s.heap.size) (wX N a E u2) s.heap H1 locs1 → W p l e R s m args below meth c H1 locs1 cells slots Q (F0 m (pc + 3) ls (rest))) : W p l e R s m args below meth c H locs cells slots Q (F0 m pc ls st0) := by
  refine va_callv (va_runS (As := As) (rest := rest) ⟨hx, hb, hml, hown, hts⟩ (hM H.size) (va_cwS n hts g rfl rfl rfl hd ⟨hF, hLo⟩) ⟨PB_blind, fun U hU hW => ⟨rfl, by rw [hU], by rw [hU]; exact h.1, va_K.moved hW.alike hK, h.2.1.weaken (fun _ _ _ _ => trivial), hN.warm hW⟩⟩ rfl hn hsize hst (lv_room hr) hdg hcs) h.2.2 (fun q _ h9 => AB_mono h.2.2.1 q h9) (fun q h9 => AB_mono h.2.2.1 q h9) (fun u1 t H1 locs1 ht hvm hw hB hz hk hS => ?_)
  subst hw
  exact kk H1 locs1 ⟨ht ▸ hB.1, hB.2.weaken (fun _ _ _ h9 => AB_mono h.2.2.1 _ h9), hS⟩
end BC
