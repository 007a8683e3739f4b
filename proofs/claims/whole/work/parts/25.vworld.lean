def EV (a : Nat → Nat) (cI : ClassId) : WE := fun x y c => match c with
  | 0 => .inr (10, [.ref (a 1), .ref (a 2), .int (x 2), .int (x 3)])
  | 1 => .inl (cI, 6, .inl x)
  | _ => .inl (cI, 6, .inl x)
abbrev tyV (cI : ClassId) : List (ClassId × FieldType) := [(cI, .int)]
section WV
variable {p : Program} {l : Launch} {e : Env} {R : Room} {s : State} {m : MethodId} {args : Array Value} {below : List Frame} {meth : Method} {c : Code} {H H0 : Heap} {locs : List Loc} {cells slots : Nat} {Q : State → Prop} {pc : Nat} {ls : Array Slot} {rest : List Value} {A : Nat → Prop} {cc : ByteArray} {D : va_G} {a : Nat → Nat} {u : St} {own : String} {index N : Nat} {cI : ClassId}
theorem gV_0_0 (hx : p.tables.exec = Jvm.exec) (hb : c.code = cc) (hts : ∀ w ∈ Gd, w.before args s = true) (hown : s.vm.findClass own = some m.cls) (hK : va_K D vwCl (tyV cI) s) (h : Hh D A (wX 3 a (EV a cI) u) H0 H locs) (hlink : Cond.fieldLink own index "CellarTides$Vault" "depth" "[I" ∈ Gd) (hdg : decode cc pc = .ok (.getfield index, 3)) (kk : W p l e R s m args below meth c H locs cells slots Q (F0 m (pc + 3) ls (.ref (a 1) :: rest))) : W p l e R s m args below meth c H locs cells slots Q (F0 m pc ls (.ref (a 0) :: rest)) :=
  rGet (ci := 10) hx hb hts ui_X10 hown hK h 0 (by decide) rfl rfl 0 (by decide) hlink (fun _ h9 => h9) rfl hdg kk
theorem gV_0_1 (hx : p.tables.exec = Jvm.exec) (hb : c.code = cc) (hts : ∀ w ∈ Gd, w.before args s = true) (hown : s.vm.findClass own = some m.cls) (hK : va_K D vwCl (tyV cI) s) (h : Hh D A (wX 3 a (EV a cI) u) H0 H locs) (hlink : Cond.fieldLink own index "CellarTides$Vault" "room" "[I" ∈ Gd) (hdg : decode cc pc = .ok (.getfield index, 3)) (kk : W p l e R s m args below meth c H locs cells slots Q (F0 m (pc + 3) ls (.ref (a 2) :: rest))) : W p l e R s m args below meth c H locs cells slots Q (F0 m pc ls (.ref (a 0) :: rest)) :=
  rGet (ci := 10) hx hb hts ui_X10 hown hK h 0 (by decide) rfl rfl 1 (by decide) hlink (fun _ h9 => h9) rfl hdg kk
theorem gV_0_2 (hx : p.tables.exec = Jvm.exec) (hb : c.code = cc) (hts : ∀ w ∈ Gd, w.before args s = true) (hown : s.vm.findClass own = some m.cls) (hK : va_K D vwCl (tyV cI) s) (h : Hh D A (wX 3 a (EV a cI) u) H0 H locs) (hlink : Cond.fieldLink own index "CellarTides$Vault" "count" "I" ∈ Gd) (hdg : decode cc pc = .ok (.getfield index, 3)) (kk : W p l e R s m args below meth c H locs cells slots Q (F0 m (pc + 3) ls (.int (u.1 0 2) :: rest))) : W p l e R s m args below meth c H locs cells slots Q (F0 m pc ls (.ref (a 0) :: rest)) :=
  rGet (ci := 10) hx hb hts ui_X10 hown hK h 0 (by decide) rfl rfl 2 (by decide) hlink (fun _ h9 => h9) rfl hdg kk
theorem pV_0_2 (hx : p.tables.exec = Jvm.exec) (hb : c.code = cc) (hts : ∀ w ∈ Gd, w.before args s = true) (hown : s.vm.findClass own = some m.cls) (hK : va_K D vwCl (tyV cI) s) (h : Hh D A (wX 3 a (EV a cI) u) H0 H locs) {v : Int32} (hlink : Cond.fieldLink own index "CellarTides$Vault" "count" "I" ∈ Gd) (hdg : decode cc pc = .ok (.putfield index, 3)) (kk : ∀ (H1 : Heap) (locs1 : List Loc), Hh D A (wX 3 a (EV a cI) (sI u 0 2 v)) H0 H1 locs1 → W p l e R s m args below meth c H1 locs1 cells slots Q (F0 m (pc + 3) ls rest)) : W p l e R s m args below meth c H locs cells slots Q (F0 m pc ls (.int v :: .ref (a 0) :: rest)) :=
  rPut (ci := 10) (ty := .int) (u2 := sI u 0 2 v) hx hb hts ui_X10 tyX10 tyX10_ok nmX10 hown hK h 0 (by decide) rfl rfl 2 (by decide) hlink (fun _ h9 => h9) rfl (by decide +kernel) rfl rfl (Nat.le_of_ble_eq_true rfl) (fun d hd => sI_o hd) (fun d hd => rfl) (by rw [sI_s]; rfl) hdg kk
theorem gV_0_3 (hx : p.tables.exec = Jvm.exec) (hb : c.code = cc) (hts : ∀ w ∈ Gd, w.before args s = true) (hown : s.vm.findClass own = some m.cls) (hK : va_K D vwCl (tyV cI) s) (h : Hh D A (wX 3 a (EV a cI) u) H0 H locs) (hlink : Cond.fieldLink own index "CellarTides$Vault" "walled" "I" ∈ Gd) (hdg : decode cc pc = .ok (.getfield index, 3)) (kk : W p l e R s m args below meth c H locs cells slots Q (F0 m (pc + 3) ls (.int (u.1 0 3) :: rest))) : W p l e R s m args below meth c H locs cells slots Q (F0 m pc ls (.ref (a 0) :: rest)) :=
  rGet (ci := 10) hx hb hts ui_X10 hown hK h 0 (by decide) rfl rfl 3 (by decide) hlink (fun _ h9 => h9) rfl hdg kk
theorem pV_0_3 (hx : p.tables.exec = Jvm.exec) (hb : c.code = cc) (hts : ∀ w ∈ Gd, w.before args s = true) (hown : s.vm.findClass own = some m.cls) (hK : va_K D vwCl (tyV cI) s) (h : Hh D A (wX 3 a (EV a cI) u) H0 H locs) {v : Int32} (hlink : Cond.fieldLink own index "CellarTides$Vault" "walled" "I" ∈ Gd) (hdg : decode cc pc = .ok (.putfield index, 3)) (kk : ∀ (H1 : Heap) (locs1 : List Loc), Hh D A (wX 3 a (EV a cI) (sI u 0 3 v)) H0 H1 locs1 → W p l e R s m args below meth c H1 locs1 cells slots Q (F0 m (pc + 3) ls rest)) : W p l e R s m args below meth c H locs cells slots Q (F0 m pc ls (.int v :: .ref (a 0) :: rest)) :=
  rPut (ci := 10) (ty := .int) (u2 := sI u 0 3 v) hx hb hts ui_X10 tyX10 tyX10_ok nmX10 hown hK h 0 (by decide) rfl rfl 3 (by decide) hlink (fun _ h9 => h9) rfl (by decide +kernel) rfl rfl (Nat.le_of_ble_eq_true rfl) (fun d hd => sI_o hd) (fun d hd => rfl) (by rw [sI_s]; rfl) hdg kk
theorem gV_1 (hx : p.tables.exec = Jvm.exec) (hb : c.code = cc) (hK : va_K D vwCl (tyV cI) s) (h : Hh D A (wX 3 a (EV a cI) u) H0 H locs) {i : Int32} (hin : vp_in i 6) (hdg : decode cc pc = .ok (.iaload, 1)) (kk : W p l e R s m args below meth c H locs cells slots Q (F0 m (pc + 1) ls (.int (u.1 1 (ix i)) :: rest))) : W p l e R s m args below meth c H locs cells slots Q (F0 m pc ls (.int i :: .ref (a 1) :: rest)) :=
  rLdI hx hb hK h 1 (by decide) 0 rfl rfl hin hdg kk
theorem pV_1 (hx : p.tables.exec = Jvm.exec) (hb : c.code = cc) (hK : va_K D vwCl (tyV cI) s) (h : Hh D A (wX 3 a (EV a cI) u) H0 H locs) {i : Int32} {v : Int32} (hin : vp_in i 6) (hdg : decode cc pc = .ok (.iastore, 1)) (kk : ∀ (H1 : Heap) (locs1 : List Loc), Hh D A (wX 3 a (EV a cI) (sI u 1 (ix i) v)) H0 H1 locs1 → W p l e R s m args below meth c H1 locs1 cells slots Q (F0 m (pc + 1) ls rest)) : W p l e R s m args below meth c H locs cells slots Q (F0 m pc ls (.int v :: .int i :: .ref (a 1) :: rest)) :=
  rStI hx hb hK h 1 (by decide) 0 (fun _ => rfl) rfl hin hdg kk
theorem nV_1 (hx : p.tables.exec = Jvm.exec) (hb : c.code = cc) (hK : va_K D vwCl (tyV cI) s) (h : Hh D A (wX 3 a (EV a cI) u) H0 H locs) {v : Int32} (hv : Int32.ofNat 6 = v) (hdg : decode cc pc = .ok (.arraylength, 1)) (kk : W p l e R s m args below meth c H locs cells slots Q (F0 m (pc + 1) ls (.int v :: rest))) : W p l e R s m args below meth c H locs cells slots Q (F0 m pc ls (.ref (a 1) :: rest)) :=
  va_alen (ty := .int) hx hb hK h.1 1 0 (wX_at (by decide) rfl) rfl hv hdg kk
theorem gV_2 (hx : p.tables.exec = Jvm.exec) (hb : c.code = cc) (hK : va_K D vwCl (tyV cI) s) (h : Hh D A (wX 3 a (EV a cI) u) H0 H locs) {i : Int32} (hin : vp_in i 6) (hdg : decode cc pc = .ok (.iaload, 1)) (kk : W p l e R s m args below meth c H locs cells slots Q (F0 m (pc + 1) ls (.int (u.1 2 (ix i)) :: rest))) : W p l e R s m args below meth c H locs cells slots Q (F0 m pc ls (.int i :: .ref (a 2) :: rest)) :=
  rLdI hx hb hK h 2 (by decide) 0 rfl rfl hin hdg kk
theorem pV_2 (hx : p.tables.exec = Jvm.exec) (hb : c.code = cc) (hK : va_K D vwCl (tyV cI) s) (h : Hh D A (wX 3 a (EV a cI) u) H0 H locs) {i : Int32} {v : Int32} (hin : vp_in i 6) (hdg : decode cc pc = .ok (.iastore, 1)) (kk : ∀ (H1 : Heap) (locs1 : List Loc), Hh D A (wX 3 a (EV a cI) (sI u 2 (ix i) v)) H0 H1 locs1 → W p l e R s m args below meth c H1 locs1 cells slots Q (F0 m (pc + 1) ls rest)) : W p l e R s m args below meth c H locs cells slots Q (F0 m pc ls (.int v :: .int i :: .ref (a 2) :: rest)) :=
  rStI hx hb hK h 2 (by decide) 0 (fun _ => rfl) rfl hin hdg kk
theorem nV_2 (hx : p.tables.exec = Jvm.exec) (hb : c.code = cc) (hK : va_K D vwCl (tyV cI) s) (h : Hh D A (wX 3 a (EV a cI) u) H0 H locs) {v : Int32} (hv : Int32.ofNat 6 = v) (hdg : decode cc pc = .ok (.arraylength, 1)) (kk : W p l e R s m args below meth c H locs cells slots Q (F0 m (pc + 1) ls (.int v :: rest))) : W p l e R s m args below meth c H locs cells slots Q (F0 m pc ls (.ref (a 2) :: rest)) :=
  va_alen (ty := .int) hx hb hK h.1 2 0 (wX_at (by decide) rfl) rfl hv hdg kk
end WV
def B_X10_dig_V_12 (k5 : St → Option (St)) (rec7 : St → Int32 → Option (St)) (u3 : St) (x4 : Int32) : Option (St) := if 6 ≤ x4 then k5 u3 else cki x4 6 (bs (sI u3 1 (ix x4) x4) (fun u9 : St => cki x4 6 (bs (sI u9 2 (ix x4) 8) (fun u10 : St => rec7 u10 (x4 + 1)))))
def f_X10_dig_V (u : St) (p1 : Int32) : Option (St) := bs (sI u 0 2 p1) (fun u1 : St => bs (sI u1 0 3 0) (fun u2 : St => jq_1 (fun (u6 : St) => some u6) (fun (k5 : St → Option (St)) => lq_2 (B_X10_dig_V_12 k5) FU u2 0)))
set_option maxRecDepth 100000 in
set_option maxHeartbeats 4000000 in
theorem c_X10_dig_V {l : Launch} {D : va_G} {cI : ClassId} {a : Nat → Nat} {u : St} {p1 : Int32} {uu : St} (hf : f_X10_dig_V u p1 = some uu) : Cv l yX10_dig cX10_dig 3 none 0 0 D (tyV cI) 3 a (EV a cI) [.ref (a 0), .int p1] u uu := by
  refine metV (by decide +kernel) (Nat.le_of_ble_eq_true rfl) ?_
  intro p e s m args below meth c R Q hx hb hml hown hts hF hLo hret hK hN h ls hl
  have hown : s.vm.findClass RX10 = some m.cls := hown
  have hl : lv_has ls 3 [(0, .ref (a 0)), (1, .int p1)] := hl
  unfold f_X10_dig_V at hf
  refine lv_aload_n (pc := 0) hx hb dX10_dig_0 rfl (lv_at hl 0 rfl) ?_
  refine lv_iload_n (pc := 1) hx hb dX10_dig_1 rfl (lv_at hl 1 rfl) ?_
  refine pV_0_2 (pc := 2) hx hb hts hown hK h fl_X10_22 dX10_dig_2 (fun H locs h => ?_)
  obtain ⟨u1, eu1, hf⟩ := bs_e hf
  rw [← eu1] at h
  refine lv_aload_n (pc := 5) hx hb dX10_dig_5 rfl (lv_at hl 0 rfl) ?_
  refine lv_iconst (pc := 6) (v := 0) hx hb dX10_dig_6 (by decide) ?_
  refine pV_0_3 (pc := 7) hx hb hts hown hK h fl_X10_26 dX10_dig_7 (fun H locs h => ?_)
  obtain ⟨u2, eu2, hf⟩ := bs_e hf
  rw [← eu2] at h
  refine lv_iconst (pc := 10) (v := 0) hx hb dX10_dig_10 (by decide) ?_
  refine lv_istore_n (pc := 11) (lv' := [(2, .int 0), (0, .ref (a 0)), (1, .int p1)]) hx hb dX10_dig_11 rfl hl (by decide) rfl (fun ls hl => ?_)
  obtain ⟨k5, hk5, hf⟩ := jq_1_e hf
  have jk5 : ∀ (u6 : St), k5 u6 = some uu → ∀ (H : Heap) (locs : List Loc) (ls : Array Slot), Hh D (AB 3 a s.heap.size) (wX 3 a (EV a cI) u6) s.heap H locs → lv_has ls 3 [] → W p l e R s m args below meth c H locs 0 0 Q (F0 m 39 ls []) := by
    intro u6 hf H locs ls h hl
    rw [hk5] at hf
    exact hret (so hf) dX10_dig_39 h
  refine lq_2_e (P := fun (u3 : St) (x4 : Int32) => ∀ (H : Heap) (locs : List Loc) (ls : Array Slot), Hh D (AB 3 a s.heap.size) (wX 3 a (EV a cI) u3) s.heap H locs → lv_has ls 3 [(0, .ref (a 0)), (2, .int x4)] → W p l e R s m args below meth c H locs 0 0 Q (F0 m 12 ls [])) ?_ FU _ _ hf _ _ _ h (lv_sub hl [1, 0] rfl)
  intro rec7 irec7 u3 x4 hf H locs ls h hl
  unfold B_X10_dig_V_12 at hf
  refine lv_iload_n (pc := 12) hx hb dX10_dig_12 rfl (lv_at hl 1 rfl) ?_
  refine lv_bipush (pc := 13) (v := 6) hx hb dX10_dig_13 (by decide) ?_
  refine lv_icmp_ge (pc := 15) (tgt := 39) hx hb dX10_dig_15 (by decide) (fun c8 => ?_) (fun c8 => ?_)
  · have hf := if_t hf c8
    exact jk5 _ hf _ _ _ h (lv_sub hl [] rfl)
  · have hf := if_f hf c8
    refine lv_aload_n (pc := 18) hx hb dX10_dig_18 rfl (lv_at hl 0 rfl) ?_
    refine gV_0_0 (pc := 19) hx hb hts hown hK h fl_X10_9 dX10_dig_19 ?_
    refine lv_iload_n (pc := 22) hx hb dX10_dig_22 rfl (lv_at hl 1 rfl) ?_
    refine lv_iload_n (pc := 23) hx hb dX10_dig_23 rfl (lv_at hl 1 rfl) ?_
    obtain ⟨hin, hf⟩ := cki_e hf
    refine pV_1 (pc := 24) hx hb hK h hin dX10_dig_24 (fun H locs h => ?_)
    obtain ⟨u9, eu9, hf⟩ := bs_e hf
    rw [← eu9] at h
    refine lv_aload_n (pc := 25) hx hb dX10_dig_25 rfl (lv_at hl 0 rfl) ?_
    refine gV_0_1 (pc := 26) hx hb hts hown hK h fl_X10_15 dX10_dig_26 ?_
    refine lv_iload_n (pc := 29) hx hb dX10_dig_29 rfl (lv_at hl 1 rfl) ?_
    refine lv_bipush (pc := 30) (v := 8) hx hb dX10_dig_30 (by decide) ?_
    obtain ⟨hin, hf⟩ := cki_e hf
    refine pV_2 (pc := 32) hx hb hK h hin dX10_dig_32 (fun H locs h => ?_)
    obtain ⟨u10, eu10, hf⟩ := bs_e hf
    rw [← eu10] at h
    refine lv_iinc (pc := 33) (v := x4 + 1) (lv' := [(2, .int (x4 + 1)), (0, .ref (a 0))]) hx hb dX10_dig_33 hl (k := 1) rfl rfl (by decide) rfl (fun ls hl => ?_)
    refine lv_goto (pc := 36) (tgt := 12) hx hb dX10_dig_36 (by decide) ?_
    exact irec7 _ _ hf _ _ _ h (lv_sub hl [1, 0] rfl)
theorem k_X10_dig_V {p : Program} {l : Launch} {e : Env} {R : Room} {s : State} {m : MethodId} {args : Array Value} {below : List Frame} {meth : Method} {c : Code} {H : Heap} {locs : List Loc} {cells slots : Nat} {Q : State → Prop} {pc : Nat} {ls : Array Slot} {rest : List Value} {cc : ByteArray} {D : va_G} {cI : ClassId} {a : Nat → Nat} {u : St} {own : String} {index nL : Nat} {p1 : Int32} {uu : St} (hx : p.tables.exec = Jvm.exec) (hb : c.code = cc) (hml : c.maxLocals = nL) (hown : s.vm.findClass own = some m.cls) (hts : ∀ w ∈ Gd, w.before args s = true) (hK : va_K D vwCl (tyV cI) s) (hN : NB s) (hc : f_X10_dig_V u p1 = some uu) (hlk : Cond.methodLink own index yX10_dig ∈ Gd) (hF : 1 ≤ R.frames) (hLo : 22 ≤ R.locals) (h : Hh D (AB 3 a s.heap.size) (wX 3 a (EV a cI) u) s.heap H locs) (hsize : ls.size = nL) (hcs : cells ≤ R.cells ∧ slots ≤ R.slots) (hr : (rest.map fun v => v.category).sum ≤ 8) (hdg : decode cc pc = .ok (.invokevirtual index, 3)) (kk : ∀ (H1 : Heap) (locs1 : List Loc), Hh D (AB 3 a s.heap.size) (wX 3 a (EV a cI) uu) s.heap H1 locs1 → W p l e R s m args below meth c H1 locs1 cells slots Q (F0 m (pc + 3) ls (rest))) : W p l e R s m args below meth c H locs cells slots Q (F0 m pc ls (.int p1 :: .ref (a 0) :: rest)) :=
  cVv (n := 1) hx hb hml hown hts hK hN (c_X10_dig_V hc) (gdV hlk im_X10_dig se_X10_dig in_X10 co_X10_dig) rfl (by decide +kernel) rfl hF hLo h hsize hcs (by decide) rfl rfl rfl hr hdg kk
