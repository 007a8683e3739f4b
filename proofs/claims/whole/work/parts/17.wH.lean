def f_X12_in (u : St) (p1 : Int64) (p2 : Int64) (p3 : Int64) : Option (Int32) := if (lg_cmp p1 p2) < 0 then some 0 else if 0 < (lg_cmp p1 p3) then some 0 else some 1
set_option maxRecDepth 100000 in
set_option maxHeartbeats 4000000 in
theorem c_X12_in {l : Launch} {D : va_G} {cI cZ : ClassId} {a : Nat → Nat} {u : St} {p1 : Int64} {p2 : Int64} {p3 : Int64} {rr : Int32} (hf : f_X12_in u p1 p2 p3 = some rr) : Ci l yX12_in cX12_in 6 (some .boolean) 0 0 D (tyM cI cZ) 21 a (EM a cI cZ) [.long p1, .long p2, .long p3] u rr u := by
  refine metI (by decide +kernel) (Nat.le_of_ble_eq_true rfl) ?_
  intro p e s m args below meth c R Q hx hb hml hown hts hF hLo hret hK hN h ls hl
  have hown : s.vm.findClass RX12 = some m.cls := hown
  have hl : lv_has ls 6 [(0, .long p1), (2, .long p2), (4, .long p3)] := hl
  unfold f_X12_in at hf
  refine lv_lload_n (pc := 0) hx hb dX12_in_0 rfl (lv_at hl 0 rfl) ?_
  refine lv_lload_n (pc := 1) hx hb dX12_in_1 rfl (lv_at hl 1 rfl) ?_
  refine W.lcmp (pc := 2) hx hb dX12_in_2 ?_
  refine lv_if_lt (pc := 3) (tgt := 17) hx hb dX12_in_3 (by decide) (fun c1 => ?_) (fun c1 => ?_)
  · have hf := if_t hf c1
    refine lv_iconst (pc := 17) (v := 0) hx hb dX12_in_17 (by decide) ?_
    exact hret (so hf) rfl rfl dX12_in_18 h
  · have hf := if_f hf c1
    refine lv_lload_n (pc := 6) hx hb dX12_in_6 rfl (lv_at hl 0 rfl) ?_
    refine lv_lload (pc := 7) hx hb dX12_in_7 (lv_at hl 2 rfl) ?_
    refine W.lcmp (pc := 9) hx hb dX12_in_9 ?_
    refine lv_if_gt (pc := 10) (tgt := 17) hx hb dX12_in_10 (by decide) (fun c2 => ?_) (fun c2 => ?_)
    · have hf := if_t hf c2
      refine lv_iconst (pc := 17) (v := 0) hx hb dX12_in_17 (by decide) ?_
      exact hret (so hf) rfl rfl dX12_in_18 h
    · have hf := if_f hf c2
      refine lv_iconst (pc := 13) (v := 1) hx hb dX12_in_13 (by decide) ?_
      refine lv_goto (pc := 14) (tgt := 18) hx hb dX12_in_14 (by decide) ?_
      exact hret (so hf) rfl rfl dX12_in_18 h
theorem kS_X12_in {p : Program} {l : Launch} {e : Env} {R : Room} {s : State} {m : MethodId} {args : Array Value} {below : List Frame} {meth : Method} {c : Code} {H : Heap} {locs : List Loc} {cells slots : Nat} {Q : State → Prop} {pc : Nat} {ls : Array Slot} {rest : List Value} {cc : ByteArray} {D : va_G} {cI cZ : ClassId} {a : Nat → Nat} {u : St} {own : String} {index nL : Nat} {p1 : Int64} {p2 : Int64} {p3 : Int64} {rr : Int32} (hx : p.tables.exec = Jvm.exec) (hb : c.code = cc) (hml : c.maxLocals = nL) (hown : s.vm.findClass own = some m.cls) (hts : ∀ w ∈ Gd, w.before args s = true) (hK : va_K D vwCl (tyM cI cZ) s) (hN : NB s) (hc : f_X12_in u p1 p2 p3 = some rr) (hlk : Cond.methodLink own index yX12_in ∈ Gd) (hF : 1 ≤ R.frames) (hLo : 25 ≤ R.locals) (h : Hh D (AB 21 a s.heap.size) (wX 21 a (EM a cI cZ) u) s.heap H locs) (hsize : ls.size = nL) (hcs : cells ≤ R.cells ∧ slots ≤ R.slots) (hr : (rest.map fun v => v.category).sum ≤ 8) (hdg : decode cc pc = .ok (.invokestatic index, 3)) (kk : ∀ (H1 : Heap) (locs1 : List Loc), Hh D (AB 21 a s.heap.size) (wX 21 a (EM a cI cZ) u) s.heap H1 locs1 → W p l e R s m args below meth c H1 locs1 cells slots Q (F0 m (pc + 3) ls (.int rr :: rest))) : W p l e R s m args below meth c H locs cells slots Q (F0 m pc ls (.long p3 :: .long p2 :: .long p1 :: rest)) :=
  cSi (n := 3) hx hb hml hown hts hK hN (c_X12_in hc) (gdS hlk sm_X12_in in_X12 co_X12_in) (by decide +kernel) rfl hF hLo h hsize hcs rfl hr hdg kk
def B_X12_ones_4 (k3 : Int32 → Option (Int32)) (rec5 : Int32 → Int32 → Option (Int32)) (x1 : Int32) (x2 : Int32) : Option (Int32) := if x2 = 0 then k3 x1 else rec5 (x1 + 1) (x2 &&& (x2 - (1 : Int32)))
def f_X12_ones (u : St) (p1 : Int32) : Option (Int32) := jq_1 (fun (x4 : Int32) => some x4) (fun (k3 : Int32 → Option (Int32)) => lq_2 (B_X12_ones_4 k3) FU 0 p1)
set_option maxRecDepth 100000 in
set_option maxHeartbeats 4000000 in
theorem c_X12_ones {l : Launch} {D : va_G} {cI cZ : ClassId} {a : Nat → Nat} {u : St} {p1 : Int32} {rr : Int32} (hf : f_X12_ones u p1 = some rr) : Ci l yX12_ones cX12_ones 3 (some .int) 0 0 D (tyM cI cZ) 21 a (EM a cI cZ) [.int p1] u rr u := by
  refine metI (by decide +kernel) (Nat.le_of_ble_eq_true rfl) ?_
  intro p e s m args below meth c R Q hx hb hml hown hts hF hLo hret hK hN h ls hl
  have hown : s.vm.findClass RX12 = some m.cls := hown
  have hl : lv_has ls 3 [(0, .int p1)] := hl
  unfold f_X12_ones at hf
  refine lv_iconst (pc := 0) (v := 0) hx hb dX12_ones_0 (by decide) ?_
  refine lv_istore_n (pc := 1) (lv' := [(1, .int 0), (0, .int p1)]) hx hb dX12_ones_1 rfl hl (by decide) rfl (fun ls hl => ?_)
  refine lv_iload_n (pc := 2) hx hb dX12_ones_2 rfl (lv_at hl 1 rfl) ?_
  refine lv_istore_n (pc := 3) (lv' := [(2, .int p1), (1, .int 0), (0, .int p1)]) hx hb dX12_ones_3 rfl hl (by decide) rfl (fun ls hl => ?_)
  obtain ⟨k3, hk3, hf⟩ := jq_1_e hf
  have jk3 : ∀ (x4 : Int32), k3 x4 = some rr → ∀ (H : Heap) (locs : List Loc) (ls : Array Slot), Hh D (AB 21 a s.heap.size) (wX 21 a (EM a cI cZ) u) s.heap H locs → lv_has ls 3 [(1, .int x4)] → W p l e R s m args below meth c H locs 0 0 Q (F0 m 20 ls []) := by
    intro x4 hf H locs ls h hl
    rw [hk3] at hf
    refine lv_iload_n (pc := 20) hx hb dX12_ones_20 rfl (lv_at hl 0 rfl) ?_
    exact hret (so hf) rfl rfl dX12_ones_21 h
  refine lq_2_e (P := fun (x1 : Int32) (x2 : Int32) => ∀ (H : Heap) (locs : List Loc) (ls : Array Slot), Hh D (AB 21 a s.heap.size) (wX 21 a (EM a cI cZ) u) s.heap H locs → lv_has ls 3 [(1, .int x1), (2, .int x2)] → W p l e R s m args below meth c H locs 0 0 Q (F0 m 4 ls [])) ?_ FU _ _ hf _ _ _ h (lv_sub hl [1, 0] rfl)
  intro rec5 irec5 x1 x2 hf H locs ls h hl
  unfold B_X12_ones_4 at hf
  refine lv_iload_n (pc := 4) hx hb dX12_ones_4 rfl (lv_at hl 1 rfl) ?_
  refine lv_if_eq (pc := 5) (tgt := 20) hx hb dX12_ones_5 (by decide) (fun c6 => ?_) (fun c6 => ?_)
  · have hf := if_t hf c6
    exact jk3 _ hf _ _ _ h (lv_sub hl [0] rfl)
  · have hf := if_f hf c6
    refine lv_iinc (pc := 8) (v := x1 + 1) (lv' := [(1, .int (x1 + 1)), (2, .int x2)]) hx hb dX12_ones_8 hl (k := 0) rfl rfl (by decide) rfl (fun ls hl => ?_)
    refine lv_iload_n (pc := 11) hx hb dX12_ones_11 rfl (lv_at hl 1 rfl) ?_
    refine lv_iload_n (pc := 12) hx hb dX12_ones_12 rfl (lv_at hl 1 rfl) ?_
    refine lv_iconst (pc := 13) (v := 1) hx hb dX12_ones_13 (by decide) ?_
    refine lv_isub (pc := 14) hx hb dX12_ones_14 ?_
    refine lv_iand (pc := 15) hx hb dX12_ones_15 ?_
    refine lv_istore_n (pc := 16) (lv' := [(2, .int (x2 &&& (x2 - (1 : Int32)))), (1, .int (x1 + 1))]) hx hb dX12_ones_16 rfl hl (by decide) rfl (fun ls hl => ?_)
    refine lv_goto (pc := 17) (tgt := 4) hx hb dX12_ones_17 (by decide) ?_
    exact irec5 _ _ hf _ _ _ h (lv_sub hl [1, 0] rfl)
theorem kS_X12_ones {p : Program} {l : Launch} {e : Env} {R : Room} {s : State} {m : MethodId} {args : Array Value} {below : List Frame} {meth : Method} {c : Code} {H : Heap} {locs : List Loc} {cells slots : Nat} {Q : State → Prop} {pc : Nat} {ls : Array Slot} {rest : List Value} {cc : ByteArray} {D : va_G} {cI cZ : ClassId} {a : Nat → Nat} {u : St} {own : String} {index nL : Nat} {p1 : Int32} {rr : Int32} (hx : p.tables.exec = Jvm.exec) (hb : c.code = cc) (hml : c.maxLocals = nL) (hown : s.vm.findClass own = some m.cls) (hts : ∀ w ∈ Gd, w.before args s = true) (hK : va_K D vwCl (tyM cI cZ) s) (hN : NB s) (hc : f_X12_ones u p1 = some rr) (hlk : Cond.methodLink own index yX12_ones ∈ Gd) (hF : 1 ≤ R.frames) (hLo : 22 ≤ R.locals) (h : Hh D (AB 21 a s.heap.size) (wX 21 a (EM a cI cZ) u) s.heap H locs) (hsize : ls.size = nL) (hcs : cells ≤ R.cells ∧ slots ≤ R.slots) (hr : (rest.map fun v => v.category).sum ≤ 8) (hdg : decode cc pc = .ok (.invokestatic index, 3)) (kk : ∀ (H1 : Heap) (locs1 : List Loc), Hh D (AB 21 a s.heap.size) (wX 21 a (EM a cI cZ) u) s.heap H1 locs1 → W p l e R s m args below meth c H1 locs1 cells slots Q (F0 m (pc + 3) ls (.int rr :: rest))) : W p l e R s m args below meth c H locs cells slots Q (F0 m pc ls (.int p1 :: rest)) :=
  cSi (n := 1) hx hb hml hown hts hK hN (c_X12_ones hc) (gdS hlk sm_X12_ones in_X12 co_X12_ones) (by decide +kernel) rfl hF hLo h hsize hcs rfl hr hdg kk
def B_X12_begin_22 (k7 : St → Option (St)) (rec9 : St → Int32 → Option (St)) (u5 : St) (x6 : Int32) : Option (St) := if 6 ≤ x6 then k7 u5 else cki x6 6 (bs (sI u5 1 (ix x6) x6) (fun u11 : St => cki x6 6 (bs (sI u11 2 (ix x6) 8) (fun u12 : St => rec9 u12 (x6 + 1)))))
def f_X12_begin (u : St) (p1 : Int32) : Option (St) := bs (sI u 0 0 p1) (fun u1 : St => bs (sI u1 0 3 0) (fun u2 : St => bs (sI u2 0 4 0) (fun u3 : St => bs (sI u3 0 18 0) (fun u4 : St => jq_1 (fun (u8 : St) => some u8) (fun (k7 : St → Option (St)) => lq_2 (B_X12_begin_22 k7) FU u4 0)))))
set_option maxRecDepth 100000 in
set_option maxHeartbeats 4000000 in
theorem c_X12_begin {l : Launch} {D : va_G} {cI cZ : ClassId} {a : Nat → Nat} {u : St} {p1 : Int32} {uu : St} (hf : f_X12_begin u p1 = some uu) : Cv l yX12_begin cX12_begin 3 none 0 0 D (tyM cI cZ) 21 a (EM a cI cZ) [.ref (a 0), .int p1] u uu := by
  refine metV (by decide +kernel) (Nat.le_of_ble_eq_true rfl) ?_
  intro p e s m args below meth c R Q hx hb hml hown hts hF hLo hret hK hN h ls hl
  have hown : s.vm.findClass RX12 = some m.cls := hown
  have hl : lv_has ls 3 [(0, .ref (a 0)), (1, .int p1)] := hl
  unfold f_X12_begin at hf
  refine lv_aload_n (pc := 0) hx hb dX12_begin_0 rfl (lv_at hl 0 rfl) ?_
  refine lv_iload_n (pc := 1) hx hb dX12_begin_1 rfl (lv_at hl 1 rfl) ?_
  refine pM_0_0 (pc := 2) hx hb hts hown hK h fl_X12_85 dX12_begin_2 (fun H locs h => ?_)
  obtain ⟨u1, eu1, hf⟩ := bs_e hf
  rw [← eu1] at h
  refine lv_aload_n (pc := 5) hx hb dX12_begin_5 rfl (lv_at hl 0 rfl) ?_
  refine lv_iconst (pc := 6) (v := 0) hx hb dX12_begin_6 (by decide) ?_
  refine pM_0_3 (pc := 7) hx hb hts hown hK h fl_X12_88 dX12_begin_7 (fun H locs h => ?_)
  obtain ⟨u2, eu2, hf⟩ := bs_e hf
  rw [← eu2] at h
  refine lv_aload_n (pc := 10) hx hb dX12_begin_10 rfl (lv_at hl 0 rfl) ?_
  refine lv_iconst (pc := 11) (v := 0) hx hb dX12_begin_11 (by decide) ?_
  refine pM_0_4 (pc := 12) hx hb hts hown hK h fl_X12_91 dX12_begin_12 (fun H locs h => ?_)
  obtain ⟨u3, eu3, hf⟩ := bs_e hf
  rw [← eu3] at h
  refine lv_aload_n (pc := 15) hx hb dX12_begin_15 rfl (lv_at hl 0 rfl) ?_
  refine lv_iconst (pc := 16) (v := 0) hx hb dX12_begin_16 (by decide) ?_
  refine pM_0_18 (pc := 17) hx hb hts hown hK h fl_X12_94 dX12_begin_17 (fun H locs h => ?_)
  obtain ⟨u4, eu4, hf⟩ := bs_e hf
  rw [← eu4] at h
  refine lv_iconst (pc := 20) (v := 0) hx hb dX12_begin_20 (by decide) ?_
  refine lv_istore_n (pc := 21) (lv' := [(2, .int 0), (0, .ref (a 0)), (1, .int p1)]) hx hb dX12_begin_21 rfl hl (by decide) rfl (fun ls hl => ?_)
  obtain ⟨k7, hk7, hf⟩ := jq_1_e hf
  have jk7 : ∀ (u8 : St), k7 u8 = some uu → ∀ (H : Heap) (locs : List Loc) (ls : Array Slot), Hh D (AB 21 a s.heap.size) (wX 21 a (EM a cI cZ) u8) s.heap H locs → lv_has ls 3 [] → W p l e R s m args below meth c H locs 0 0 Q (F0 m 49 ls []) := by
    intro u8 hf H locs ls h hl
    rw [hk7] at hf
    exact hret (so hf) dX12_begin_49 h
  refine lq_2_e (P := fun (u5 : St) (x6 : Int32) => ∀ (H : Heap) (locs : List Loc) (ls : Array Slot), Hh D (AB 21 a s.heap.size) (wX 21 a (EM a cI cZ) u5) s.heap H locs → lv_has ls 3 [(0, .ref (a 0)), (2, .int x6)] → W p l e R s m args below meth c H locs 0 0 Q (F0 m 22 ls [])) ?_ FU _ _ hf _ _ _ h (lv_sub hl [1, 0] rfl)
  intro rec9 irec9 u5 x6 hf H locs ls h hl
  unfold B_X12_begin_22 at hf
  refine lv_iload_n (pc := 22) hx hb dX12_begin_22 rfl (lv_at hl 1 rfl) ?_
  refine lv_bipush (pc := 23) (v := 6) hx hb dX12_begin_23 (by decide) ?_
  refine lv_icmp_ge (pc := 25) (tgt := 49) hx hb dX12_begin_25 (by decide) (fun c10 => ?_) (fun c10 => ?_)
  · have hf := if_t hf c10
    exact jk7 _ hf _ _ _ h (lv_sub hl [] rfl)
  · have hf := if_f hf c10
    refine lv_aload_n (pc := 28) hx hb dX12_begin_28 rfl (lv_at hl 0 rfl) ?_
    refine gM_0_1 (pc := 29) hx hb hts hown hK h fl_X12_7 dX12_begin_29 ?_
    refine lv_iload_n (pc := 32) hx hb dX12_begin_32 rfl (lv_at hl 1 rfl) ?_
    refine lv_iload_n (pc := 33) hx hb dX12_begin_33 rfl (lv_at hl 1 rfl) ?_
    obtain ⟨hin, hf⟩ := cki_e hf
    refine pM_1 (pc := 34) hx hb hK h hin dX12_begin_34 (fun H locs h => ?_)
    obtain ⟨u11, eu11, hf⟩ := bs_e hf
    rw [← eu11] at h
    refine lv_aload_n (pc := 35) hx hb dX12_begin_35 rfl (lv_at hl 0 rfl) ?_
    refine gM_0_2 (pc := 36) hx hb hts hown hK h fl_X12_13 dX12_begin_36 ?_
    refine lv_iload_n (pc := 39) hx hb dX12_begin_39 rfl (lv_at hl 1 rfl) ?_
    refine lv_bipush (pc := 40) (v := 8) hx hb dX12_begin_40 (by decide) ?_
    obtain ⟨hin, hf⟩ := cki_e hf
    refine pM_2 (pc := 42) hx hb hK h hin dX12_begin_42 (fun H locs h => ?_)
    obtain ⟨u12, eu12, hf⟩ := bs_e hf
    rw [← eu12] at h
    refine lv_iinc (pc := 43) (v := x6 + 1) (lv' := [(2, .int (x6 + 1)), (0, .ref (a 0))]) hx hb dX12_begin_43 hl (k := 1) rfl rfl (by decide) rfl (fun ls hl => ?_)
    refine lv_goto (pc := 46) (tgt := 22) hx hb dX12_begin_46 (by decide) ?_
    exact irec9 _ _ hf _ _ _ h (lv_sub hl [1, 0] rfl)
theorem k_X12_begin {p : Program} {l : Launch} {e : Env} {R : Room} {s : State} {m : MethodId} {args : Array Value} {below : List Frame} {meth : Method} {c : Code} {H : Heap} {locs : List Loc} {cells slots : Nat} {Q : State → Prop} {pc : Nat} {ls : Array Slot} {rest : List Value} {cc : ByteArray} {D : va_G} {cI cZ : ClassId} {a : Nat → Nat} {u : St} {own : String} {index nL : Nat} {p1 : Int32} {uu : St} (hx : p.tables.exec = Jvm.exec) (hb : c.code = cc) (hml : c.maxLocals = nL) (hown : s.vm.findClass own = some m.cls) (hts : ∀ w ∈ Gd, w.before args s = true) (hK : va_K D vwCl (tyM cI cZ) s) (hN : NB s) (hc : f_X12_begin u p1 = some uu) (hlk : Cond.methodLink own index yX12_begin ∈ Gd) (hF : 1 ≤ R.frames) (hLo : 22 ≤ R.locals) (h : Hh D (AB 21 a s.heap.size) (wX 21 a (EM a cI cZ) u) s.heap H locs) (hsize : ls.size = nL) (hcs : cells ≤ R.cells ∧ slots ≤ R.slots) (hr : (rest.map fun v => v.category).sum ≤ 8) (hdg : decode cc pc = .ok (.invokevirtual index, 3)) (kk : ∀ (H1 : Heap) (locs1 : List Loc), Hh D (AB 21 a s.heap.size) (wX 21 a (EM a cI cZ) uu) s.heap H1 locs1 → W p l e R s m args below meth c H1 locs1 cells slots Q (F0 m (pc + 3) ls (rest))) : W p l e R s m args below meth c H locs cells slots Q (F0 m pc ls (.int p1 :: .ref (a 0) :: rest)) :=
  cVv (n := 1) hx hb hml hown hts hK hN (c_X12_begin hc) (gdV hlk im_X12_begin se_X12_begin in_X12 co_X12_begin) rfl (by decide +kernel) rfl hF hLo h hsize hcs (by decide) rfl rfl rfl hr hdg kk
def f_X12_isCellar (u : St) (p1 : Int32) : Option (Int32) := b1 (f_X12_in u (Int32.toInt64 p1) 0 (Int32.toInt64 ((u.1 0 0) - (1 : Int32)))) (fun (x1 : Int32) => ck (x1 = 0 ∨ x1 = 1) (some x1))
set_option maxRecDepth 100000 in
set_option maxHeartbeats 4000000 in
theorem c_X12_isCellar {l : Launch} {D : va_G} {cI cZ : ClassId} {a : Nat → Nat} {u : St} {p1 : Int32} {rr : Int32} (hf : f_X12_isCellar u p1 = some rr) : Ci l yX12_isCellar cX12_isCellar 2 (some .boolean) 1 25 D (tyM cI cZ) 21 a (EM a cI cZ) [.ref (a 0), .int p1] u rr u := by
  refine metI (by decide +kernel) (Nat.le_of_ble_eq_true rfl) ?_
  intro p e s m args below meth c R Q hx hb hml hown hts hF hLo hret hK hN h ls hl
  have hown : s.vm.findClass RX12 = some m.cls := hown
  have hl : lv_has ls 2 [(0, .ref (a 0)), (1, .int p1)] := hl
  unfold f_X12_isCellar at hf
  refine lv_iload_n (pc := 0) hx hb dX12_isCellar_0 rfl (lv_at hl 1 rfl) ?_
  refine lv_i2l (pc := 1) (v := Int32.toInt64 p1) hx hb dX12_isCellar_1 rfl ?_
  refine lv_lconst (pc := 2) (v := 0) hx hb dX12_isCellar_2 (by decide) ?_
  refine lv_aload_n (pc := 3) hx hb dX12_isCellar_3 rfl (lv_at hl 0 rfl) ?_
  refine gM_0_0 (pc := 4) hx hb hts hown hK h fl_X12_85 dX12_isCellar_4 ?_
  refine lv_iconst (pc := 7) (v := 1) hx hb dX12_isCellar_7 (by decide) ?_
  refine lv_isub (pc := 8) hx hb dX12_isCellar_8 ?_
  refine lv_i2l (pc := 9) (v := Int32.toInt64 ((u.1 0 0) - (1 : Int32))) hx hb dX12_isCellar_9 rfl ?_
  obtain ⟨x1, hc, hf⟩ := b1_e hf
  refine kS_X12_in (pc := 10) hx hb hml hown hts hK hN hc ml_X12_97 (Nat.le_trans (by decide) hF) (Nat.le_trans (by decide) hLo) h hl.1 ⟨Nat.zero_le _, Nat.zero_le _⟩ (Nat.le_of_ble_eq_true rfl) dX12_isCellar_10 (fun H locs h => ?_)
  obtain ⟨hz, hf⟩ := ck_e hf
  exact hret (so hf) (nz hz) rfl dX12_isCellar_13 h
theorem k_X12_isCellar {p : Program} {l : Launch} {e : Env} {R : Room} {s : State} {m : MethodId} {args : Array Value} {below : List Frame} {meth : Method} {c : Code} {H : Heap} {locs : List Loc} {cells slots : Nat} {Q : State → Prop} {pc : Nat} {ls : Array Slot} {rest : List Value} {cc : ByteArray} {D : va_G} {cI cZ : ClassId} {a : Nat → Nat} {u : St} {own : String} {index nL : Nat} {p1 : Int32} {rr : Int32} (hx : p.tables.exec = Jvm.exec) (hb : c.code = cc) (hml : c.maxLocals = nL) (hown : s.vm.findClass own = some m.cls) (hts : ∀ w ∈ Gd, w.before args s = true) (hK : va_K D vwCl (tyM cI cZ) s) (hN : NB s) (hc : f_X12_isCellar u p1 = some rr) (hlk : Cond.methodLink own index yX12_isCellar ∈ Gd) (hF : 2 ≤ R.frames) (hLo : 46 ≤ R.locals) (h : Hh D (AB 21 a s.heap.size) (wX 21 a (EM a cI cZ) u) s.heap H locs) (hsize : ls.size = nL) (hcs : cells ≤ R.cells ∧ slots ≤ R.slots) (hr : (rest.map fun v => v.category).sum ≤ 8) (hdg : decode cc pc = .ok (.invokevirtual index, 3)) (kk : ∀ (H1 : Heap) (locs1 : List Loc), Hh D (AB 21 a s.heap.size) (wX 21 a (EM a cI cZ) u) s.heap H1 locs1 → W p l e R s m args below meth c H1 locs1 cells slots Q (F0 m (pc + 3) ls (.int rr :: rest))) : W p l e R s m args below meth c H locs cells slots Q (F0 m pc ls (.int p1 :: .ref (a 0) :: rest)) :=
  cVi (n := 1) hx hb hml hown hts hK hN (c_X12_isCellar hc) (gdV hlk im_X12_isCellar se_X12_isCellar in_X12 co_X12_isCellar) rfl (by decide +kernel) rfl hF hLo h hsize hcs (by decide) rfl rfl rfl hr hdg kk
def f_X12_isNumber (u : St) (p1 : Int32) : Option (Int32) := b1 (f_X12_in u (Int32.toInt64 p1) 0 7) (fun (x1 : Int32) => ck (x1 = 0 ∨ x1 = 1) (some x1))
set_option maxRecDepth 100000 in
set_option maxHeartbeats 4000000 in
theorem c_X12_isNumber {l : Launch} {D : va_G} {cI cZ : ClassId} {a : Nat → Nat} {u : St} {p1 : Int32} {rr : Int32} (hf : f_X12_isNumber u p1 = some rr) : Ci l yX12_isNumber cX12_isNumber 1 (some .boolean) 1 25 D (tyM cI cZ) 21 a (EM a cI cZ) [.int p1] u rr u := by
  refine metI (by decide +kernel) (Nat.le_of_ble_eq_true rfl) ?_
  intro p e s m args below meth c R Q hx hb hml hown hts hF hLo hret hK hN h ls hl
  have hown : s.vm.findClass RX12 = some m.cls := hown
  have hl : lv_has ls 1 [(0, .int p1)] := hl
  unfold f_X12_isNumber at hf
  refine lv_iload_n (pc := 0) hx hb dX12_isNumber_0 rfl (lv_at hl 0 rfl) ?_
  refine lv_i2l (pc := 1) (v := Int32.toInt64 p1) hx hb dX12_isNumber_1 rfl ?_
  refine lv_lconst (pc := 2) (v := 0) hx hb dX12_isNumber_2 (by decide) ?_
  refine lv_ldc2 (pc := 3) hx hb hown (hts _ ctl_X12_101) dX12_isNumber_3 ?_
  obtain ⟨x1, hc, hf⟩ := b1_e hf
  refine kS_X12_in (pc := 6) hx hb hml hown hts hK hN hc ml_X12_97 (Nat.le_trans (by decide) hF) (Nat.le_trans (by decide) hLo) h hl.1 ⟨Nat.zero_le _, Nat.zero_le _⟩ (Nat.le_of_ble_eq_true rfl) dX12_isNumber_6 (fun H locs h => ?_)
  obtain ⟨hz, hf⟩ := ck_e hf
  exact hret (so hf) (nz hz) rfl dX12_isNumber_9 h
theorem kS_X12_isNumber {p : Program} {l : Launch} {e : Env} {R : Room} {s : State} {m : MethodId} {args : Array Value} {below : List Frame} {meth : Method} {c : Code} {H : Heap} {locs : List Loc} {cells slots : Nat} {Q : State → Prop} {pc : Nat} {ls : Array Slot} {rest : List Value} {cc : ByteArray} {D : va_G} {cI cZ : ClassId} {a : Nat → Nat} {u : St} {own : String} {index nL : Nat} {p1 : Int32} {rr : Int32} (hx : p.tables.exec = Jvm.exec) (hb : c.code = cc) (hml : c.maxLocals = nL) (hown : s.vm.findClass own = some m.cls) (hts : ∀ w ∈ Gd, w.before args s = true) (hK : va_K D vwCl (tyM cI cZ) s) (hN : NB s) (hc : f_X12_isNumber u p1 = some rr) (hlk : Cond.methodLink own index yX12_isNumber ∈ Gd) (hF : 2 ≤ R.frames) (hLo : 45 ≤ R.locals) (h : Hh D (AB 21 a s.heap.size) (wX 21 a (EM a cI cZ) u) s.heap H locs) (hsize : ls.size = nL) (hcs : cells ≤ R.cells ∧ slots ≤ R.slots) (hr : (rest.map fun v => v.category).sum ≤ 8) (hdg : decode cc pc = .ok (.invokestatic index, 3)) (kk : ∀ (H1 : Heap) (locs1 : List Loc), Hh D (AB 21 a s.heap.size) (wX 21 a (EM a cI cZ) u) s.heap H1 locs1 → W p l e R s m args below meth c H1 locs1 cells slots Q (F0 m (pc + 3) ls (.int rr :: rest))) : W p l e R s m args below meth c H locs cells slots Q (F0 m pc ls (.int p1 :: rest)) :=
  cSi (n := 1) hx hb hml hown hts hK hN (c_X12_isNumber hc) (gdS hlk sm_X12_isNumber in_X12 co_X12_isNumber) (by decide +kernel) rfl hF hLo h hsize hcs rfl hr hdg kk
def f_X12_isBarrel (u : St) (p1 : Int32) : Option (Int32) := b1 (f_X12_isNumber u p1) (fun (x1 : Int32) => if x1 = 0 then some 0 else if (((u.1 0 4) >>> (p1 &&& 31)) &&& (1 : Int32)) = 1 then some 1 else some 0)
set_option maxRecDepth 100000 in
set_option maxHeartbeats 4000000 in
theorem c_X12_isBarrel {l : Launch} {D : va_G} {cI cZ : ClassId} {a : Nat → Nat} {u : St} {p1 : Int32} {rr : Int32} (hf : f_X12_isBarrel u p1 = some rr) : Ci l yX12_isBarrel cX12_isBarrel 2 (some .boolean) 2 45 D (tyM cI cZ) 21 a (EM a cI cZ) [.ref (a 0), .int p1] u rr u := by
  refine metI (by decide +kernel) (Nat.le_of_ble_eq_true rfl) ?_
  intro p e s m args below meth c R Q hx hb hml hown hts hF hLo hret hK hN h ls hl
  have hown : s.vm.findClass RX12 = some m.cls := hown
  have hl : lv_has ls 2 [(0, .ref (a 0)), (1, .int p1)] := hl
  unfold f_X12_isBarrel at hf
  refine lv_iload_n (pc := 0) hx hb dX12_isBarrel_0 rfl (lv_at hl 1 rfl) ?_
  obtain ⟨x1, hc, hf⟩ := b1_e hf
  refine kS_X12_isNumber (pc := 1) hx hb hml hown hts hK hN hc ml_X12_103 (Nat.le_trans (by decide) hF) (Nat.le_trans (by decide) hLo) h hl.1 ⟨Nat.zero_le _, Nat.zero_le _⟩ (Nat.le_of_ble_eq_true rfl) dX12_isBarrel_1 (fun H locs h => ?_)
  refine lv_if_eq (pc := 4) (tgt := 23) hx hb dX12_isBarrel_4 (by decide) (fun c2 => ?_) (fun c2 => ?_)
  · have hf := if_t hf c2
    refine lv_iconst (pc := 23) (v := 0) hx hb dX12_isBarrel_23 (by decide) ?_
    exact hret (so hf) rfl rfl dX12_isBarrel_24 h
  · have hf := if_f hf c2
    refine lv_aload_n (pc := 7) hx hb dX12_isBarrel_7 rfl (lv_at hl 0 rfl) ?_
    refine gM_0_4 (pc := 8) hx hb hts hown hK h fl_X12_91 dX12_isBarrel_8 ?_
    refine lv_iload_n (pc := 11) hx hb dX12_isBarrel_11 rfl (lv_at hl 1 rfl) ?_
    refine lv_ishr (pc := 12) hx hb dX12_isBarrel_12 ?_
    refine lv_iconst (pc := 13) (v := 1) hx hb dX12_isBarrel_13 (by decide) ?_
    refine lv_iand (pc := 14) hx hb dX12_isBarrel_14 ?_
    refine lv_iconst (pc := 15) (v := 1) hx hb dX12_isBarrel_15 (by decide) ?_
    refine lv_icmp_ne (pc := 16) (tgt := 23) hx hb dX12_isBarrel_16 (by decide) (fun c3 => ?_) (fun c3 => ?_)
    · have hf := if_f hf c3
      refine lv_iconst (pc := 23) (v := 0) hx hb dX12_isBarrel_23 (by decide) ?_
      exact hret (so hf) rfl rfl dX12_isBarrel_24 h
    · have hf := if_t hf c3
      refine lv_iconst (pc := 19) (v := 1) hx hb dX12_isBarrel_19 (by decide) ?_
      refine lv_goto (pc := 20) (tgt := 24) hx hb dX12_isBarrel_20 (by decide) ?_
      exact hret (so hf) rfl rfl dX12_isBarrel_24 h
theorem k_X12_isBarrel {p : Program} {l : Launch} {e : Env} {R : Room} {s : State} {m : MethodId} {args : Array Value} {below : List Frame} {meth : Method} {c : Code} {H : Heap} {locs : List Loc} {cells slots : Nat} {Q : State → Prop} {pc : Nat} {ls : Array Slot} {rest : List Value} {cc : ByteArray} {D : va_G} {cI cZ : ClassId} {a : Nat → Nat} {u : St} {own : String} {index nL : Nat} {p1 : Int32} {rr : Int32} (hx : p.tables.exec = Jvm.exec) (hb : c.code = cc) (hml : c.maxLocals = nL) (hown : s.vm.findClass own = some m.cls) (hts : ∀ w ∈ Gd, w.before args s = true) (hK : va_K D vwCl (tyM cI cZ) s) (hN : NB s) (hc : f_X12_isBarrel u p1 = some rr) (hlk : Cond.methodLink own index yX12_isBarrel ∈ Gd) (hF : 3 ≤ R.frames) (hLo : 66 ≤ R.locals) (h : Hh D (AB 21 a s.heap.size) (wX 21 a (EM a cI cZ) u) s.heap H locs) (hsize : ls.size = nL) (hcs : cells ≤ R.cells ∧ slots ≤ R.slots) (hr : (rest.map fun v => v.category).sum ≤ 8) (hdg : decode cc pc = .ok (.invokevirtual index, 3)) (kk : ∀ (H1 : Heap) (locs1 : List Loc), Hh D (AB 21 a s.heap.size) (wX 21 a (EM a cI cZ) u) s.heap H1 locs1 → W p l e R s m args below meth c H1 locs1 cells slots Q (F0 m (pc + 3) ls (.int rr :: rest))) : W p l e R s m args below meth c H locs cells slots Q (F0 m pc ls (.int p1 :: .ref (a 0) :: rest)) :=
  cVi (n := 1) hx hb hml hown hts hK hN (c_X12_isBarrel hc) (gdV hlk im_X12_isBarrel se_X12_isBarrel in_X12 co_X12_isBarrel) rfl (by decide +kernel) rfl hF hLo h hsize hcs (by decide) rfl rfl rfl hr hdg kk
def B_X12_liesIn_4 (p1 : Int32) (u : St) (k3 : Int32 → Option (Int32)) (rec5 : Int32 → Int32 → Option (Int32)) (x1 : Int32) (x2 : Int32) : Option (Int32) := if 8 ≤ x2 then k3 x1 else b1 (f_X12_isBarrel u x2) (fun (x7 : Int32) => if x7 = 0 then rec5 (x1 + (0 : Int32)) (x2 + 1) else cki x2 8 (if (u.1 3 (ix x2)) = p1 then rec5 (x1 + (1 : Int32)) (x2 + 1) else rec5 (x1 + (0 : Int32)) (x2 + 1)))
def f_X12_liesIn (u : St) (p1 : Int32) : Option (Int32) := jq_1 (fun (x4 : Int32) => some x4) (fun (k3 : Int32 → Option (Int32)) => lq_2 (B_X12_liesIn_4 p1 u k3) FU 0 0)
set_option maxRecDepth 100000 in
set_option maxHeartbeats 4000000 in
theorem c_X12_liesIn {l : Launch} {D : va_G} {cI cZ : ClassId} {a : Nat → Nat} {u : St} {p1 : Int32} {rr : Int32} (hf : f_X12_liesIn u p1 = some rr) : Ci l yX12_liesIn cX12_liesIn 4 (some .int) 3 66 D (tyM cI cZ) 21 a (EM a cI cZ) [.ref (a 0), .int p1] u rr u := by
  refine metI (by decide +kernel) (Nat.le_of_ble_eq_true rfl) ?_
  intro p e s m args below meth c R Q hx hb hml hown hts hF hLo hret hK hN h ls hl
  have hown : s.vm.findClass RX12 = some m.cls := hown
  have hl : lv_has ls 4 [(0, .ref (a 0)), (1, .int p1)] := hl
  unfold f_X12_liesIn at hf
  refine lv_iconst (pc := 0) (v := 0) hx hb dX12_liesIn_0 (by decide) ?_
  refine lv_istore_n (pc := 1) (lv' := [(2, .int 0), (0, .ref (a 0)), (1, .int p1)]) hx hb dX12_liesIn_1 rfl hl (by decide) rfl (fun ls hl => ?_)
  refine lv_iconst (pc := 2) (v := 0) hx hb dX12_liesIn_2 (by decide) ?_
  refine lv_istore_n (pc := 3) (lv' := [(3, .int 0), (2, .int 0), (0, .ref (a 0)), (1, .int p1)]) hx hb dX12_liesIn_3 rfl hl (by decide) rfl (fun ls hl => ?_)
  obtain ⟨k3, hk3, hf⟩ := jq_1_e hf
  have jk3 : ∀ (x4 : Int32), k3 x4 = some rr → ∀ (H : Heap) (locs : List Loc) (ls : Array Slot), Hh D (AB 21 a s.heap.size) (wX 21 a (EM a cI cZ) u) s.heap H locs → lv_has ls 4 [(2, .int x4)] → W p l e R s m args below meth c H locs 0 0 Q (F0 m 42 ls []) := by
    intro x4 hf H locs ls h hl
    rw [hk3] at hf
    refine lv_iload_n (pc := 42) hx hb dX12_liesIn_42 rfl (lv_at hl 0 rfl) ?_
    exact hret (so hf) rfl rfl dX12_liesIn_43 h
  refine lq_2_e (P := fun (x1 : Int32) (x2 : Int32) => ∀ (H : Heap) (locs : List Loc) (ls : Array Slot), Hh D (AB 21 a s.heap.size) (wX 21 a (EM a cI cZ) u) s.heap H locs → lv_has ls 4 [(0, .ref (a 0)), (1, .int p1), (2, .int x1), (3, .int x2)] → W p l e R s m args below meth c H locs 0 0 Q (F0 m 4 ls [])) ?_ FU _ _ hf _ _ _ h (lv_sub hl [2, 3, 1, 0] rfl)
  intro rec5 irec5 x1 x2 hf H locs ls h hl
  unfold B_X12_liesIn_4 at hf
  refine lv_iload_n (pc := 4) hx hb dX12_liesIn_4 rfl (lv_at hl 3 rfl) ?_
  refine lv_bipush (pc := 5) (v := 8) hx hb dX12_liesIn_5 (by decide) ?_
  refine lv_icmp_ge (pc := 7) (tgt := 42) hx hb dX12_liesIn_7 (by decide) (fun c6 => ?_) (fun c6 => ?_)
  · have hf := if_t hf c6
    exact jk3 _ hf _ _ _ h (lv_sub hl [2] rfl)
  · have hf := if_f hf c6
    refine lv_iload_n (pc := 10) hx hb dX12_liesIn_10 rfl (lv_at hl 2 rfl) ?_
    refine lv_aload_n (pc := 11) hx hb dX12_liesIn_11 rfl (lv_at hl 0 rfl) ?_
    refine lv_iload_n (pc := 12) hx hb dX12_liesIn_12 rfl (lv_at hl 3 rfl) ?_
    obtain ⟨x7, hc, hf⟩ := b1_e hf
    refine k_X12_isBarrel (pc := 13) hx hb hml hown hts hK hN hc ml_X12_107 (Nat.le_trans (by decide) hF) (Nat.le_trans (by decide) hLo) h hl.1 ⟨Nat.zero_le _, Nat.zero_le _⟩ (Nat.le_of_ble_eq_true rfl) dX12_liesIn_13 (fun H locs h => ?_)
    refine lv_if_eq (pc := 16) (tgt := 33) hx hb dX12_liesIn_16 (by decide) (fun c8 => ?_) (fun c8 => ?_)
    · have hf := if_t hf c8
      refine lv_iconst (pc := 33) (v := 0) hx hb dX12_liesIn_33 (by decide) ?_
      refine lv_iadd (pc := 34) hx hb dX12_liesIn_34 ?_
      refine lv_istore_n (pc := 35) (lv' := [(2, .int (x1 + (0 : Int32))), (0, .ref (a 0)), (1, .int p1), (3, .int x2)]) hx hb dX12_liesIn_35 rfl hl (by decide) rfl (fun ls hl => ?_)
      refine lv_iinc (pc := 36) (v := x2 + 1) (lv' := [(3, .int (x2 + 1)), (2, .int (x1 + (0 : Int32))), (0, .ref (a 0)), (1, .int p1)]) hx hb dX12_liesIn_36 hl (k := 3) rfl rfl (by decide) rfl (fun ls hl => ?_)
      refine lv_goto (pc := 39) (tgt := 4) hx hb dX12_liesIn_39 (by decide) ?_
      exact irec5 _ _ hf _ _ _ h (lv_sub hl [2, 3, 1, 0] rfl)
    · have hf := if_f hf c8
      refine lv_aload_n (pc := 19) hx hb dX12_liesIn_19 rfl (lv_at hl 0 rfl) ?_
      refine gM_0_5 (pc := 20) hx hb hts hown hK h fl_X12_16 dX12_liesIn_20 ?_
      refine lv_iload_n (pc := 23) hx hb dX12_liesIn_23 rfl (lv_at hl 3 rfl) ?_
      obtain ⟨hin, hf⟩ := cki_e hf
      refine gM_3 (pc := 24) hx hb hK h hin dX12_liesIn_24 ?_
      refine lv_iload_n (pc := 25) hx hb dX12_liesIn_25 rfl (lv_at hl 1 rfl) ?_
      refine lv_icmp_ne (pc := 26) (tgt := 33) hx hb dX12_liesIn_26 (by decide) (fun c9 => ?_) (fun c9 => ?_)
      · have hf := if_f hf c9
        refine lv_iconst (pc := 33) (v := 0) hx hb dX12_liesIn_33 (by decide) ?_
        refine lv_iadd (pc := 34) hx hb dX12_liesIn_34 ?_
        refine lv_istore_n (pc := 35) (lv' := [(2, .int (x1 + (0 : Int32))), (0, .ref (a 0)), (1, .int p1), (3, .int x2)]) hx hb dX12_liesIn_35 rfl hl (by decide) rfl (fun ls hl => ?_)
        refine lv_iinc (pc := 36) (v := x2 + 1) (lv' := [(3, .int (x2 + 1)), (2, .int (x1 + (0 : Int32))), (0, .ref (a 0)), (1, .int p1)]) hx hb dX12_liesIn_36 hl (k := 3) rfl rfl (by decide) rfl (fun ls hl => ?_)
        refine lv_goto (pc := 39) (tgt := 4) hx hb dX12_liesIn_39 (by decide) ?_
        exact irec5 _ _ hf _ _ _ h (lv_sub hl [2, 3, 1, 0] rfl)
      · have hf := if_t hf c9
        refine lv_iconst (pc := 29) (v := 1) hx hb dX12_liesIn_29 (by decide) ?_
        refine lv_goto (pc := 30) (tgt := 34) hx hb dX12_liesIn_30 (by decide) ?_
        refine lv_iadd (pc := 34) hx hb dX12_liesIn_34 ?_
        refine lv_istore_n (pc := 35) (lv' := [(2, .int (x1 + (1 : Int32))), (0, .ref (a 0)), (1, .int p1), (3, .int x2)]) hx hb dX12_liesIn_35 rfl hl (by decide) rfl (fun ls hl => ?_)
        refine lv_iinc (pc := 36) (v := x2 + 1) (lv' := [(3, .int (x2 + 1)), (2, .int (x1 + (1 : Int32))), (0, .ref (a 0)), (1, .int p1)]) hx hb dX12_liesIn_36 hl (k := 3) rfl rfl (by decide) rfl (fun ls hl => ?_)
        refine lv_goto (pc := 39) (tgt := 4) hx hb dX12_liesIn_39 (by decide) ?_
        exact irec5 _ _ hf _ _ _ h (lv_sub hl [2, 3, 1, 0] rfl)
theorem k_X12_liesIn {p : Program} {l : Launch} {e : Env} {R : Room} {s : State} {m : MethodId} {args : Array Value} {below : List Frame} {meth : Method} {c : Code} {H : Heap} {locs : List Loc} {cells slots : Nat} {Q : State → Prop} {pc : Nat} {ls : Array Slot} {rest : List Value} {cc : ByteArray} {D : va_G} {cI cZ : ClassId} {a : Nat → Nat} {u : St} {own : String} {index nL : Nat} {p1 : Int32} {rr : Int32} (hx : p.tables.exec = Jvm.exec) (hb : c.code = cc) (hml : c.maxLocals = nL) (hown : s.vm.findClass own = some m.cls) (hts : ∀ w ∈ Gd, w.before args s = true) (hK : va_K D vwCl (tyM cI cZ) s) (hN : NB s) (hc : f_X12_liesIn u p1 = some rr) (hlk : Cond.methodLink own index yX12_liesIn ∈ Gd) (hF : 4 ≤ R.frames) (hLo : 89 ≤ R.locals) (h : Hh D (AB 21 a s.heap.size) (wX 21 a (EM a cI cZ) u) s.heap H locs) (hsize : ls.size = nL) (hcs : cells ≤ R.cells ∧ slots ≤ R.slots) (hr : (rest.map fun v => v.category).sum ≤ 8) (hdg : decode cc pc = .ok (.invokevirtual index, 3)) (kk : ∀ (H1 : Heap) (locs1 : List Loc), Hh D (AB 21 a s.heap.size) (wX 21 a (EM a cI cZ) u) s.heap H1 locs1 → W p l e R s m args below meth c H1 locs1 cells slots Q (F0 m (pc + 3) ls (.int rr :: rest))) : W p l e R s m args below meth c H locs cells slots Q (F0 m pc ls (.int p1 :: .ref (a 0) :: rest)) :=
  cVi (n := 1) hx hb hml hown hts hK hN (c_X12_liesIn hc) (gdV hlk im_X12_liesIn se_X12_liesIn in_X12 co_X12_liesIn) rfl (by decide +kernel) rfl hF hLo h hsize hcs (by decide) rfl rfl rfl hr hdg kk
def f_X12_cellars (u : St) (p1 : Int32) : Option (Int32 × St) := b1 (f_X12_in u (Int32.toInt64 p1) 1 6) (fun (x1 : Int32) => if x1 = 0 then some ((-2), u) else b1 (f_X12_begin u p1) (fun (u3 : St) => some (u.1 0 0, u3)))
set_option maxRecDepth 100000 in
set_option maxHeartbeats 4000000 in
theorem c_X12_cellars {l : Launch} {D : va_G} {cI cZ : ClassId} {a : Nat → Nat} {u : St} {p1 : Int32} {rr : Int32} {uu : St} (hf : f_X12_cellars u p1 = some (rr, uu)) : Ci l yX12_cellars cX12_cellars 3 (some .int) 1 25 D (tyM cI cZ) 21 a (EM a cI cZ) [.ref (a 0), .int p1] u rr uu := by
  refine metI (by decide +kernel) (Nat.le_of_ble_eq_true rfl) ?_
  intro p e s m args below meth c R Q hx hb hml hown hts hF hLo hret hK hN h ls hl
  have hown : s.vm.findClass RX12 = some m.cls := hown
  have hl : lv_has ls 3 [(0, .ref (a 0)), (1, .int p1)] := hl
  unfold f_X12_cellars at hf
  refine lv_iload_n (pc := 0) hx hb dX12_cellars_0 rfl (lv_at hl 1 rfl) ?_
  refine lv_i2l (pc := 1) (v := Int32.toInt64 p1) hx hb dX12_cellars_1 rfl ?_
  refine lv_lconst (pc := 2) (v := 1) hx hb dX12_cellars_2 (by decide) ?_
  refine lv_ldc2 (pc := 3) hx hb hown (hts _ ctl_X12_110) dX12_cellars_3 ?_
  obtain ⟨x1, hc, hf⟩ := b1_e hf
  refine kS_X12_in (pc := 6) hx hb hml hown hts hK hN hc ml_X12_97 (Nat.le_trans (by decide) hF) (Nat.le_trans (by decide) hLo) h hl.1 ⟨Nat.zero_le _, Nat.zero_le _⟩ (Nat.le_of_ble_eq_true rfl) dX12_cellars_6 (fun H locs h => ?_)
  refine lv_if_ne (pc := 9) (tgt := 15) hx hb dX12_cellars_9 (by decide) (fun c2 => ?_) (fun c2 => ?_)
  · have hf := if_f hf c2
    refine lv_aload_n (pc := 15) hx hb dX12_cellars_15 rfl (lv_at hl 0 rfl) ?_
    refine gM_0_0 (pc := 16) hx hb hts hown hK h fl_X12_85 dX12_cellars_16 ?_
    refine lv_istore_n (pc := 19) (lv' := [(2, .int (u.1 0 0)), (0, .ref (a 0)), (1, .int p1)]) hx hb dX12_cellars_19 rfl hl (by decide) rfl (fun ls hl => ?_)
    refine lv_aload_n (pc := 20) hx hb dX12_cellars_20 rfl (lv_at hl 1 rfl) ?_
    refine lv_iload_n (pc := 21) hx hb dX12_cellars_21 rfl (lv_at hl 2 rfl) ?_
    obtain ⟨u3, hc, hf⟩ := b1_e hf
    refine k_X12_begin (pc := 22) hx hb hml hown hts hK hN hc ml_X12_81 (Nat.le_trans (by decide) hF) (Nat.le_trans (by decide) hLo) h hl.1 ⟨Nat.zero_le _, Nat.zero_le _⟩ (Nat.le_of_ble_eq_true rfl) dX12_cellars_22 (fun H locs h => ?_)
    refine lv_iload_n (pc := 25) hx hb dX12_cellars_25 rfl (lv_at hl 0 rfl) ?_
    exact hret (so1 hf) rfl (so2 hf) dX12_cellars_26 h
  · have hf := if_t hf c2
    refine lv_bipush (pc := 12) (v := (-2)) hx hb dX12_cellars_12 (by decide) ?_
    exact hret (so1 hf) rfl (so2 hf) dX12_cellars_14 h
theorem k_X12_cellars {p : Program} {l : Launch} {e : Env} {R : Room} {s : State} {m : MethodId} {args : Array Value} {below : List Frame} {meth : Method} {c : Code} {H : Heap} {locs : List Loc} {cells slots : Nat} {Q : State → Prop} {pc : Nat} {ls : Array Slot} {rest : List Value} {cc : ByteArray} {D : va_G} {cI cZ : ClassId} {a : Nat → Nat} {u : St} {own : String} {index nL : Nat} {p1 : Int32} {rr : Int32} {uu : St} (hx : p.tables.exec = Jvm.exec) (hb : c.code = cc) (hml : c.maxLocals = nL) (hown : s.vm.findClass own = some m.cls) (hts : ∀ w ∈ Gd, w.before args s = true) (hK : va_K D vwCl (tyM cI cZ) s) (hN : NB s) (hc : f_X12_cellars u p1 = some (rr, uu)) (hlk : Cond.methodLink own index yX12_cellars ∈ Gd) (hF : 2 ≤ R.frames) (hLo : 47 ≤ R.locals) (h : Hh D (AB 21 a s.heap.size) (wX 21 a (EM a cI cZ) u) s.heap H locs) (hsize : ls.size = nL) (hcs : cells ≤ R.cells ∧ slots ≤ R.slots) (hr : (rest.map fun v => v.category).sum ≤ 8) (hdg : decode cc pc = .ok (.invokevirtual index, 3)) (kk : ∀ (H1 : Heap) (locs1 : List Loc), Hh D (AB 21 a s.heap.size) (wX 21 a (EM a cI cZ) uu) s.heap H1 locs1 → W p l e R s m args below meth c H1 locs1 cells slots Q (F0 m (pc + 3) ls (.int rr :: rest))) : W p l e R s m args below meth c H locs cells slots Q (F0 m pc ls (.int p1 :: .ref (a 0) :: rest)) :=
  cVi (n := 1) hx hb hml hown hts hK hN (c_X12_cellars hc) (gdV hlk im_X12_cellars se_X12_cellars in_X12 co_X12_cellars) rfl (by decide +kernel) rfl hF hLo h hsize hcs (by decide) rfl rfl rfl hr hdg kk
def f_X12_cellar (u : St) (p1 : Int32) (p2 : Int32) (p3 : Int32) : Option (Int32 × St) := b1 (f_X12_isCellar u p1) (fun (x1 : Int32) => if x1 = 0 then some ((-1), u) else b1 (f_X12_in u (Int32.toInt64 p2) 0 1) (fun (x3 : Int32) => if x3 = 0 then some ((-2), u) else b1 (f_X12_in u (Int32.toInt64 p3) (Int32.toInt64 p2) 8) (fun (x5 : Int32) => if x5 = 0 then some ((-2), u) else jq_0 (jq_1 (fun (x9 : Int32) => jq_1 (fun (x11 : Int32) => cki p1 6 (bs (sI u 1 (ix p1) x11) (fun u12 : St => if p2 = 1 then cki p1 6 (bs (sI u12 2 (ix p1) p3) (fun u15 : St => some (x9, u15))) else cki p1 6 (cki p1 6 (bs (sI u12 2 (ix p1) (u12.1 2 (ix p1))) (fun u14 : St => some (x9, u14))))))) (fun (k10 : Int32 → Option (Int32 × St)) => if p2 = 0 then k10 p3 else cki p1 6 (k10 (u.1 1 (ix p1))))) (fun (k8 : Int32 → Option (Int32 × St)) => if p2 = 0 then cki p1 6 (k8 (u.1 1 (ix p1))) else cki p1 6 (k8 (u.1 2 (ix p1))))) (fun (k7 : Option (Int32 × St)) => if p2 = 1 then b1 (f_X12_liesIn u p1) (fun (x19 : Int32) => if x19 ≤ p3 then k7 else some ((-3), u)) else k7))))
set_option maxRecDepth 100000 in
set_option maxHeartbeats 4000000 in
theorem c_X12_cellar {l : Launch} {D : va_G} {cI cZ : ClassId} {a : Nat → Nat} {u : St} {p1 : Int32} {p2 : Int32} {p3 : Int32} {rr : Int32} {uu : St} (hf : f_X12_cellar u p1 p2 p3 = some (rr, uu)) : Ci l yX12_cellar cX12_cellar 5 (some .int) 4 89 D (tyM cI cZ) 21 a (EM a cI cZ) [.ref (a 0), .int p1, .int p2, .int p3] u rr uu := by
  refine metI (by decide +kernel) (Nat.le_of_ble_eq_true rfl) ?_
  intro p e s m args below meth c R Q hx hb hml hown hts hF hLo hret hK hN h ls hl
  have hown : s.vm.findClass RX12 = some m.cls := hown
  have hl : lv_has ls 5 [(0, .ref (a 0)), (1, .int p1), (2, .int p2), (3, .int p3)] := hl
  unfold f_X12_cellar at hf
  refine lv_aload_n (pc := 0) hx hb dX12_cellar_0 rfl (lv_at hl 0 rfl) ?_
  refine lv_iload_n (pc := 1) hx hb dX12_cellar_1 rfl (lv_at hl 1 rfl) ?_
  obtain ⟨x1, hc, hf⟩ := b1_e hf
  refine k_X12_isCellar (pc := 2) hx hb hml hown hts hK hN hc ml_X12_112 (Nat.le_trans (by decide) hF) (Nat.le_trans (by decide) hLo) h hl.1 ⟨Nat.zero_le _, Nat.zero_le _⟩ (Nat.le_of_ble_eq_true rfl) dX12_cellar_2 (fun H locs h => ?_)
  refine lv_if_ne (pc := 5) (tgt := 10) hx hb dX12_cellar_5 (by decide) (fun c2 => ?_) (fun c2 => ?_)
  · have hf := if_f hf c2
    refine lv_iload_n (pc := 10) hx hb dX12_cellar_10 rfl (lv_at hl 2 rfl) ?_
    refine lv_i2l (pc := 11) (v := Int32.toInt64 p2) hx hb dX12_cellar_11 rfl ?_
    refine lv_lconst (pc := 12) (v := 0) hx hb dX12_cellar_12 (by decide) ?_
    refine lv_lconst (pc := 13) (v := 1) hx hb dX12_cellar_13 (by decide) ?_
    obtain ⟨x3, hc, hf⟩ := b1_e hf
    refine kS_X12_in (pc := 14) hx hb hml hown hts hK hN hc ml_X12_97 (Nat.le_trans (by decide) hF) (Nat.le_trans (by decide) hLo) h hl.1 ⟨Nat.zero_le _, Nat.zero_le _⟩ (Nat.le_of_ble_eq_true rfl) dX12_cellar_14 (fun H locs h => ?_)
    refine lv_if_eq (pc := 17) (tgt := 33) hx hb dX12_cellar_17 (by decide) (fun c4 => ?_) (fun c4 => ?_)
    · have hf := if_t hf c4
      refine lv_bipush (pc := 33) (v := (-2)) hx hb dX12_cellar_33 (by decide) ?_
      exact hret (so1 hf) rfl (so2 hf) dX12_cellar_35 h
    · have hf := if_f hf c4
      refine lv_iload_n (pc := 20) hx hb dX12_cellar_20 rfl (lv_at hl 3 rfl) ?_
      refine lv_i2l (pc := 21) (v := Int32.toInt64 p3) hx hb dX12_cellar_21 rfl ?_
      refine lv_iload_n (pc := 22) hx hb dX12_cellar_22 rfl (lv_at hl 2 rfl) ?_
      refine lv_i2l (pc := 23) (v := Int32.toInt64 p2) hx hb dX12_cellar_23 rfl ?_
      refine lv_ldc2 (pc := 24) hx hb hown (hts _ ctl_X12_115) dX12_cellar_24 ?_
      obtain ⟨x5, hc, hf⟩ := b1_e hf
      refine kS_X12_in (pc := 27) hx hb hml hown hts hK hN hc ml_X12_97 (Nat.le_trans (by decide) hF) (Nat.le_trans (by decide) hLo) h hl.1 ⟨Nat.zero_le _, Nat.zero_le _⟩ (Nat.le_of_ble_eq_true rfl) dX12_cellar_27 (fun H locs h => ?_)
      refine lv_if_ne (pc := 30) (tgt := 36) hx hb dX12_cellar_30 (by decide) (fun c6 => ?_) (fun c6 => ?_)
      · have hf := if_f hf c6
        refine lv_iload_n (pc := 36) hx hb dX12_cellar_36 rfl (lv_at hl 2 rfl) ?_
        refine lv_iconst (pc := 37) (v := 1) hx hb dX12_cellar_37 (by decide) ?_
        obtain ⟨k7, hk7, hf⟩ := jq_0_e hf
        have jk7 : k7 = some (rr, uu) → ∀ (H : Heap) (locs : List Loc) (ls : Array Slot), Hh D (AB 21 a s.heap.size) (wX 21 a (EM a cI cZ) u) s.heap H locs → lv_has ls 5 [(0, .ref (a 0)), (1, .int p1), (2, .int p2), (3, .int p3)] → W p l e R s m args below meth c H locs 0 0 Q (F0 m 53 ls []) := by
          intro hf H locs ls h hl
          rw [hk7] at hf
          refine lv_iload_n (pc := 53) hx hb dX12_cellar_53 rfl (lv_at hl 2 rfl) ?_
          obtain ⟨k8, hk8, hf⟩ := jq_1_e hf
          have jk8 : ∀ (x9 : Int32), k8 x9 = some (rr, uu) → ∀ (H : Heap) (locs : List Loc) (ls : Array Slot), Hh D (AB 21 a s.heap.size) (wX 21 a (EM a cI cZ) u) s.heap H locs → lv_has ls 5 [(0, .ref (a 0)), (1, .int p1), (2, .int p2), (3, .int p3)] → W p l e R s m args below meth c H locs 0 0 Q (F0 m 72 ls [.int x9]) := by
            intro x9 hf H locs ls h hl
            rw [hk8] at hf
            refine lv_istore (pc := 72) (lv' := [(4, .int x9), (0, .ref (a 0)), (1, .int p1), (2, .int p2), (3, .int p3)]) hx hb dX12_cellar_72 hl (by decide) rfl (fun ls hl => ?_)
            refine lv_aload_n (pc := 74) hx hb dX12_cellar_74 rfl (lv_at hl 1 rfl) ?_
            refine gM_0_1 (pc := 75) hx hb hts hown hK h fl_X12_7 dX12_cellar_75 ?_
            refine lv_iload_n (pc := 78) hx hb dX12_cellar_78 rfl (lv_at hl 2 rfl) ?_
            refine lv_iload_n (pc := 79) hx hb dX12_cellar_79 rfl (lv_at hl 3 rfl) ?_
            obtain ⟨k10, hk10, hf⟩ := jq_1_e hf
            have jk10 : ∀ (x11 : Int32), k10 x11 = some (rr, uu) → ∀ (H : Heap) (locs : List Loc) (ls : Array Slot), Hh D (AB 21 a s.heap.size) (wX 21 a (EM a cI cZ) u) s.heap H locs → lv_has ls 5 [(0, .ref (a 0)), (1, .int p1), (2, .int p2), (3, .int p3), (4, .int x9)] → W p l e R s m args below meth c H locs 0 0 Q (F0 m 93 ls [.int x11, .int p1, .ref (a 1)]) := by
              intro x11 hf H locs ls h hl
              rw [hk10] at hf
              obtain ⟨hin, hf⟩ := cki_e hf
              refine pM_1 (pc := 93) hx hb hK h hin dX12_cellar_93 (fun H locs h => ?_)
              obtain ⟨u12, eu12, hf⟩ := bs_e hf
              rw [← eu12] at h
              refine lv_aload_n (pc := 94) hx hb dX12_cellar_94 rfl (lv_at hl 0 rfl) ?_
              refine gM_0_2 (pc := 95) hx hb hts hown hK h fl_X12_13 dX12_cellar_95 ?_
              refine lv_iload_n (pc := 98) hx hb dX12_cellar_98 rfl (lv_at hl 1 rfl) ?_
              refine lv_iload_n (pc := 99) hx hb dX12_cellar_99 rfl (lv_at hl 2 rfl) ?_
              refine lv_iconst (pc := 100) (v := 1) hx hb dX12_cellar_100 (by decide) ?_
              refine lv_icmp_ne (pc := 101) (tgt := 108) hx hb dX12_cellar_101 (by decide) (fun c13 => ?_) (fun c13 => ?_)
              · have hf := if_f hf c13
                refine lv_aload_n (pc := 108) hx hb dX12_cellar_108 rfl (lv_at hl 0 rfl) ?_
                refine gM_0_2 (pc := 109) hx hb hts hown hK h fl_X12_13 dX12_cellar_109 ?_
                refine lv_iload_n (pc := 112) hx hb dX12_cellar_112 rfl (lv_at hl 1 rfl) ?_
                obtain ⟨hin, hf⟩ := cki_e hf
                refine gM_2 (pc := 113) hx hb hK h hin dX12_cellar_113 ?_
                obtain ⟨hin, hf⟩ := cki_e hf
                refine pM_2 (pc := 114) hx hb hK h hin dX12_cellar_114 (fun H locs h => ?_)
                obtain ⟨u14, eu14, hf⟩ := bs_e hf
                rw [← eu14] at h
                refine lv_iload (pc := 115) hx hb dX12_cellar_115 (lv_at hl 4 rfl) ?_
                exact hret (so1 hf) rfl (so2 hf) dX12_cellar_117 h
              · have hf := if_t hf c13
                refine lv_iload_n (pc := 104) hx hb dX12_cellar_104 rfl (lv_at hl 3 rfl) ?_
                refine lv_goto (pc := 105) (tgt := 114) hx hb dX12_cellar_105 (by decide) ?_
                obtain ⟨hin, hf⟩ := cki_e hf
                refine pM_2 (pc := 114) hx hb hK h hin dX12_cellar_114 (fun H locs h => ?_)
                obtain ⟨u15, eu15, hf⟩ := bs_e hf
                rw [← eu15] at h
                refine lv_iload (pc := 115) hx hb dX12_cellar_115 (lv_at hl 4 rfl) ?_
                exact hret (so1 hf) rfl (so2 hf) dX12_cellar_117 h
            refine lv_if_ne (pc := 80) (tgt := 87) hx hb dX12_cellar_80 (by decide) (fun c16 => ?_) (fun c16 => ?_)
            · have hf := if_f hf c16
              refine lv_aload_n (pc := 87) hx hb dX12_cellar_87 rfl (lv_at hl 1 rfl) ?_
              refine gM_0_1 (pc := 88) hx hb hts hown hK h fl_X12_7 dX12_cellar_88 ?_
              refine lv_iload_n (pc := 91) hx hb dX12_cellar_91 rfl (lv_at hl 2 rfl) ?_
              obtain ⟨hin, hf⟩ := cki_e hf
              refine gM_1 (pc := 92) hx hb hK h hin dX12_cellar_92 ?_
              exact jk10 _ hf _ _ _ h (lv_sub hl [1, 2, 3, 4, 0] rfl)
            · have hf := if_t hf c16
              refine lv_iload_n (pc := 83) hx hb dX12_cellar_83 rfl (lv_at hl 4 rfl) ?_
              refine lv_goto (pc := 84) (tgt := 93) hx hb dX12_cellar_84 (by decide) ?_
              exact jk10 _ hf _ _ _ h (lv_sub hl [1, 2, 3, 4, 0] rfl)
          refine lv_if_ne (pc := 54) (tgt := 66) hx hb dX12_cellar_54 (by decide) (fun c17 => ?_) (fun c17 => ?_)
          · have hf := if_f hf c17
            refine lv_aload_n (pc := 66) hx hb dX12_cellar_66 rfl (lv_at hl 0 rfl) ?_
            refine gM_0_2 (pc := 67) hx hb hts hown hK h fl_X12_13 dX12_cellar_67 ?_
            refine lv_iload_n (pc := 70) hx hb dX12_cellar_70 rfl (lv_at hl 1 rfl) ?_
            obtain ⟨hin, hf⟩ := cki_e hf
            refine gM_2 (pc := 71) hx hb hK h hin dX12_cellar_71 ?_
            exact jk8 _ hf _ _ _ h (lv_sub hl [0, 1, 2, 3] rfl)
          · have hf := if_t hf c17
            refine lv_aload_n (pc := 57) hx hb dX12_cellar_57 rfl (lv_at hl 0 rfl) ?_
            refine gM_0_1 (pc := 58) hx hb hts hown hK h fl_X12_7 dX12_cellar_58 ?_
            refine lv_iload_n (pc := 61) hx hb dX12_cellar_61 rfl (lv_at hl 1 rfl) ?_
            obtain ⟨hin, hf⟩ := cki_e hf
            refine gM_1 (pc := 62) hx hb hK h hin dX12_cellar_62 ?_
            refine lv_goto (pc := 63) (tgt := 72) hx hb dX12_cellar_63 (by decide) ?_
            exact jk8 _ hf _ _ _ h (lv_sub hl [0, 1, 2, 3] rfl)
        refine lv_icmp_ne (pc := 38) (tgt := 53) hx hb dX12_cellar_38 (by decide) (fun c18 => ?_) (fun c18 => ?_)
        · have hf := if_f hf c18
          exact jk7 hf _ _ _ h (lv_sub hl [0, 1, 2, 3] rfl)
        · have hf := if_t hf c18
          refine lv_aload_n (pc := 41) hx hb dX12_cellar_41 rfl (lv_at hl 0 rfl) ?_
          refine lv_iload_n (pc := 42) hx hb dX12_cellar_42 rfl (lv_at hl 1 rfl) ?_
          obtain ⟨x19, hc, hf⟩ := b1_e hf
          refine k_X12_liesIn (pc := 43) hx hb hml hown hts hK hN hc ml_X12_117 (Nat.le_trans (by decide) hF) (Nat.le_trans (by decide) hLo) h hl.1 ⟨Nat.zero_le _, Nat.zero_le _⟩ (Nat.le_of_ble_eq_true rfl) dX12_cellar_43 (fun H locs h => ?_)
          refine lv_iload_n (pc := 46) hx hb dX12_cellar_46 rfl (lv_at hl 3 rfl) ?_
          refine lv_icmp_le (pc := 47) (tgt := 53) hx hb dX12_cellar_47 (by decide) (fun c20 => ?_) (fun c20 => ?_)
          · have hf := if_t hf c20
            exact jk7 hf _ _ _ h (lv_sub hl [0, 1, 2, 3] rfl)
          · have hf := if_f hf c20
            refine lv_bipush (pc := 50) (v := (-3)) hx hb dX12_cellar_50 (by decide) ?_
            exact hret (so1 hf) rfl (so2 hf) dX12_cellar_52 h
      · have hf := if_t hf c6
        refine lv_bipush (pc := 33) (v := (-2)) hx hb dX12_cellar_33 (by decide) ?_
        exact hret (so1 hf) rfl (so2 hf) dX12_cellar_35 h
  · have hf := if_t hf c2
    refine lv_iconst (pc := 8) (v := (-1)) hx hb dX12_cellar_8 (by decide) ?_
    exact hret (so1 hf) rfl (so2 hf) dX12_cellar_9 h
theorem k_X12_cellar {p : Program} {l : Launch} {e : Env} {R : Room} {s : State} {m : MethodId} {args : Array Value} {below : List Frame} {meth : Method} {c : Code} {H : Heap} {locs : List Loc} {cells slots : Nat} {Q : State → Prop} {pc : Nat} {ls : Array Slot} {rest : List Value} {cc : ByteArray} {D : va_G} {cI cZ : ClassId} {a : Nat → Nat} {u : St} {own : String} {index nL : Nat} {p1 : Int32} {p2 : Int32} {p3 : Int32} {rr : Int32} {uu : St} (hx : p.tables.exec = Jvm.exec) (hb : c.code = cc) (hml : c.maxLocals = nL) (hown : s.vm.findClass own = some m.cls) (hts : ∀ w ∈ Gd, w.before args s = true) (hK : va_K D vwCl (tyM cI cZ) s) (hN : NB s) (hc : f_X12_cellar u p1 p2 p3 = some (rr, uu)) (hlk : Cond.methodLink own index yX12_cellar ∈ Gd) (hF : 5 ≤ R.frames) (hLo : 113 ≤ R.locals) (h : Hh D (AB 21 a s.heap.size) (wX 21 a (EM a cI cZ) u) s.heap H locs) (hsize : ls.size = nL) (hcs : cells ≤ R.cells ∧ slots ≤ R.slots) (hr : (rest.map fun v => v.category).sum ≤ 8) (hdg : decode cc pc = .ok (.invokevirtual index, 3)) (kk : ∀ (H1 : Heap) (locs1 : List Loc), Hh D (AB 21 a s.heap.size) (wX 21 a (EM a cI cZ) uu) s.heap H1 locs1 → W p l e R s m args below meth c H1 locs1 cells slots Q (F0 m (pc + 3) ls (.int rr :: rest))) : W p l e R s m args below meth c H locs cells slots Q (F0 m pc ls (.int p3 :: .int p2 :: .int p1 :: .ref (a 0) :: rest)) :=
  cVi (n := 3) hx hb hml hown hts hK hN (c_X12_cellar hc) (gdV hlk im_X12_cellar se_X12_cellar in_X12 co_X12_cellar) rfl (by decide +kernel) rfl hF hLo h hsize hcs (by decide) rfl rfl rfl hr hdg kk
def f_X12_wall (u : St) (p1 : Int32) (p2 : Int32) : Option (Int32 × St) := b1 (f_X12_isCellar u p1) (fun (x1 : Int32) => if x1 = 0 then some ((-1), u) else if p2 = 0 then bs (sI u 0 3 ((u.1 0 3) &&& (((1 : Int32) <<< (p1 &&& 31)) ^^^ (-1 : Int32)))) (fun u4 : St => some (1, u4)) else bs (sI u 0 3 ((u.1 0 3) ||| ((1 : Int32) <<< (p1 &&& 31)))) (fun u5 : St => some (1, u5)))
set_option maxRecDepth 100000 in
set_option maxHeartbeats 4000000 in
theorem c_X12_wall {l : Launch} {D : va_G} {cI cZ : ClassId} {a : Nat → Nat} {u : St} {p1 : Int32} {p2 : Int32} {rr : Int32} {uu : St} (hf : f_X12_wall u p1 p2 = some (rr, uu)) : Ci l yX12_wall cX12_wall 3 (some .int) 2 46 D (tyM cI cZ) 21 a (EM a cI cZ) [.ref (a 0), .int p1, .int p2] u rr uu := by
  refine metI (by decide +kernel) (Nat.le_of_ble_eq_true rfl) ?_
  intro p e s m args below meth c R Q hx hb hml hown hts hF hLo hret hK hN h ls hl
  have hown : s.vm.findClass RX12 = some m.cls := hown
  have hl : lv_has ls 3 [(0, .ref (a 0)), (1, .int p1), (2, .int p2)] := hl
  unfold f_X12_wall at hf
  refine lv_aload_n (pc := 0) hx hb dX12_wall_0 rfl (lv_at hl 0 rfl) ?_
  refine lv_iload_n (pc := 1) hx hb dX12_wall_1 rfl (lv_at hl 1 rfl) ?_
  obtain ⟨x1, hc, hf⟩ := b1_e hf
  refine k_X12_isCellar (pc := 2) hx hb hml hown hts hK hN hc ml_X12_112 (Nat.le_trans (by decide) hF) (Nat.le_trans (by decide) hLo) h hl.1 ⟨Nat.zero_le _, Nat.zero_le _⟩ (Nat.le_of_ble_eq_true rfl) dX12_wall_2 (fun H locs h => ?_)
  refine lv_if_ne (pc := 5) (tgt := 10) hx hb dX12_wall_5 (by decide) (fun c2 => ?_) (fun c2 => ?_)
  · have hf := if_f hf c2
    refine lv_aload_n (pc := 10) hx hb dX12_wall_10 rfl (lv_at hl 0 rfl) ?_
    refine lv_iload_n (pc := 11) hx hb dX12_wall_11 rfl (lv_at hl 2 rfl) ?_
    refine lv_if_eq (pc := 12) (tgt := 26) hx hb dX12_wall_12 (by decide) (fun c3 => ?_) (fun c3 => ?_)
    · have hf := if_t hf c3
      refine lv_aload_n (pc := 26) hx hb dX12_wall_26 rfl (lv_at hl 0 rfl) ?_
      refine gM_0_3 (pc := 27) hx hb hts hown hK h fl_X12_88 dX12_wall_27 ?_
      refine lv_iconst (pc := 30) (v := 1) hx hb dX12_wall_30 (by decide) ?_
      refine lv_iload_n (pc := 31) hx hb dX12_wall_31 rfl (lv_at hl 1 rfl) ?_
      refine lv_ishl (pc := 32) hx hb dX12_wall_32 ?_
      refine lv_iconst (pc := 33) (v := (-1)) hx hb dX12_wall_33 (by decide) ?_
      refine lv_ixor (pc := 34) hx hb dX12_wall_34 ?_
      refine lv_iand (pc := 35) hx hb dX12_wall_35 ?_
      refine pM_0_3 (pc := 36) hx hb hts hown hK h fl_X12_88 dX12_wall_36 (fun H locs h => ?_)
      obtain ⟨u4, eu4, hf⟩ := bs_e hf
      rw [← eu4] at h
      refine lv_iconst (pc := 39) (v := 1) hx hb dX12_wall_39 (by decide) ?_
      exact hret (so1 hf) rfl (so2 hf) dX12_wall_40 h
    · have hf := if_f hf c3
      refine lv_aload_n (pc := 15) hx hb dX12_wall_15 rfl (lv_at hl 0 rfl) ?_
      refine gM_0_3 (pc := 16) hx hb hts hown hK h fl_X12_88 dX12_wall_16 ?_
      refine lv_iconst (pc := 19) (v := 1) hx hb dX12_wall_19 (by decide) ?_
      refine lv_iload_n (pc := 20) hx hb dX12_wall_20 rfl (lv_at hl 1 rfl) ?_
      refine lv_ishl (pc := 21) hx hb dX12_wall_21 ?_
      refine lv_ior (pc := 22) hx hb dX12_wall_22 ?_
      refine lv_goto (pc := 23) (tgt := 36) hx hb dX12_wall_23 (by decide) ?_
      refine pM_0_3 (pc := 36) hx hb hts hown hK h fl_X12_88 dX12_wall_36 (fun H locs h => ?_)
      obtain ⟨u5, eu5, hf⟩ := bs_e hf
      rw [← eu5] at h
      refine lv_iconst (pc := 39) (v := 1) hx hb dX12_wall_39 (by decide) ?_
      exact hret (so1 hf) rfl (so2 hf) dX12_wall_40 h
  · have hf := if_t hf c2
    refine lv_iconst (pc := 8) (v := (-1)) hx hb dX12_wall_8 (by decide) ?_
    exact hret (so1 hf) rfl (so2 hf) dX12_wall_9 h
theorem k_X12_wall {p : Program} {l : Launch} {e : Env} {R : Room} {s : State} {m : MethodId} {args : Array Value} {below : List Frame} {meth : Method} {c : Code} {H : Heap} {locs : List Loc} {cells slots : Nat} {Q : State → Prop} {pc : Nat} {ls : Array Slot} {rest : List Value} {cc : ByteArray} {D : va_G} {cI cZ : ClassId} {a : Nat → Nat} {u : St} {own : String} {index nL : Nat} {p1 : Int32} {p2 : Int32} {rr : Int32} {uu : St} (hx : p.tables.exec = Jvm.exec) (hb : c.code = cc) (hml : c.maxLocals = nL) (hown : s.vm.findClass own = some m.cls) (hts : ∀ w ∈ Gd, w.before args s = true) (hK : va_K D vwCl (tyM cI cZ) s) (hN : NB s) (hc : f_X12_wall u p1 p2 = some (rr, uu)) (hlk : Cond.methodLink own index yX12_wall ∈ Gd) (hF : 3 ≤ R.frames) (hLo : 68 ≤ R.locals) (h : Hh D (AB 21 a s.heap.size) (wX 21 a (EM a cI cZ) u) s.heap H locs) (hsize : ls.size = nL) (hcs : cells ≤ R.cells ∧ slots ≤ R.slots) (hr : (rest.map fun v => v.category).sum ≤ 8) (hdg : decode cc pc = .ok (.invokevirtual index, 3)) (kk : ∀ (H1 : Heap) (locs1 : List Loc), Hh D (AB 21 a s.heap.size) (wX 21 a (EM a cI cZ) uu) s.heap H1 locs1 → W p l e R s m args below meth c H1 locs1 cells slots Q (F0 m (pc + 3) ls (.int rr :: rest))) : W p l e R s m args below meth c H locs cells slots Q (F0 m pc ls (.int p2 :: .int p1 :: .ref (a 0) :: rest)) :=
  cVi (n := 2) hx hb hml hown hts hK hN (c_X12_wall hc) (gdV hlk im_X12_wall se_X12_wall in_X12 co_X12_wall) rfl (by decide +kernel) rfl hF hLo h hsize hcs (by decide) rfl rfl rfl hr hdg kk
def f_X12_barrel (u : St) (p1 : Int32) (p2 : Int32) (p3 : Int32) (p4 : Int32) (p5 : Int32) : Option (Int32 × St) := b1 (f_X12_isNumber u p1) (fun (x1 : Int32) => if x1 = 0 then some ((-1), u) else b1 (f_X12_isCellar u p2) (fun (x3 : Int32) => if x3 = 0 then some ((-1), u) else b1 (f_X12_in u (Int32.toInt64 p3) 1 9) (fun (x5 : Int32) => if x5 = 0 then some ((-2), u) else b1 (f_X12_in u (Int32.toInt64 p4) 0 9) (fun (x7 : Int32) => if x7 = 0 then some ((-2), u) else b1 (f_X12_in u (Int32.toInt64 p5) 0 3) (fun (x9 : Int32) => if x9 = 0 then some ((-2), u) else b1 (f_X12_liesIn u p2) (fun (x11 : Int32) => b1 (f_X12_isBarrel u p1) (fun (x12 : Int32) => jq_1 (fun (x14 : Int32) => cki p2 6 (if (x11 - x14) < (u.1 2 (ix p2)) then cki p1 8 (bs (sI u 3 (ix p1) p2) (fun u16 : St => cki p1 8 (bs (sI u16 4 (ix p1) p3) (fun u17 : St => cki p1 8 (bs (sI u17 5 (ix p1) p4) (fun u18 : St => cki p1 8 (bs (sI u18 6 (ix p1) p5) (fun u19 : St => bs (sI u19 0 4 ((u19.1 0 4) ||| ((1 : Int32) <<< (p1 &&& 31)))) (fun u20 : St => b1 (f_X12_ones u20 (u20.1 0 4)) (fun (x21 : Int32) => some (x21, u20))))))))))) else some ((-4), u))) (fun (k13 : Int32 → Option (Int32 × St)) => if x12 = 0 then k13 0 else cki p1 8 (if (u.1 3 (ix p1)) = p2 then k13 1 else k13 0)))))))))
set_option maxRecDepth 100000 in
set_option maxHeartbeats 4000000 in
theorem c_X12_barrel {l : Launch} {D : va_G} {cI cZ : ClassId} {a : Nat → Nat} {u : St} {p1 : Int32} {p2 : Int32} {p3 : Int32} {p4 : Int32} {p5 : Int32} {rr : Int32} {uu : St} (hf : f_X12_barrel u p1 p2 p3 p4 p5 = some (rr, uu)) : Ci l yX12_barrel cX12_barrel 7 (some .int) 4 89 D (tyM cI cZ) 21 a (EM a cI cZ) [.ref (a 0), .int p1, .int p2, .int p3, .int p4, .int p5] u rr uu := by
  refine metI (by decide +kernel) (Nat.le_of_ble_eq_true rfl) ?_
  intro p e s m args below meth c R Q hx hb hml hown hts hF hLo hret hK hN h ls hl
  have hown : s.vm.findClass RX12 = some m.cls := hown
  have hl : lv_has ls 7 [(0, .ref (a 0)), (1, .int p1), (2, .int p2), (3, .int p3), (4, .int p4), (5, .int p5)] := hl
  unfold f_X12_barrel at hf
  refine lv_iload_n (pc := 0) hx hb dX12_barrel_0 rfl (lv_at hl 1 rfl) ?_
  obtain ⟨x1, hc, hf⟩ := b1_e hf
  refine kS_X12_isNumber (pc := 1) hx hb hml hown hts hK hN hc ml_X12_103 (Nat.le_trans (by decide) hF) (Nat.le_trans (by decide) hLo) h hl.1 ⟨Nat.zero_le _, Nat.zero_le _⟩ (Nat.le_of_ble_eq_true rfl) dX12_barrel_1 (fun H locs h => ?_)
  refine lv_if_eq (pc := 4) (tgt := 15) hx hb dX12_barrel_4 (by decide) (fun c2 => ?_) (fun c2 => ?_)
  · have hf := if_t hf c2
    refine lv_iconst (pc := 15) (v := (-1)) hx hb dX12_barrel_15 (by decide) ?_
    exact hret (so1 hf) rfl (so2 hf) dX12_barrel_16 h
  · have hf := if_f hf c2
    refine lv_aload_n (pc := 7) hx hb dX12_barrel_7 rfl (lv_at hl 0 rfl) ?_
    refine lv_iload_n (pc := 8) hx hb dX12_barrel_8 rfl (lv_at hl 2 rfl) ?_
    obtain ⟨x3, hc, hf⟩ := b1_e hf
    refine k_X12_isCellar (pc := 9) hx hb hml hown hts hK hN hc ml_X12_112 (Nat.le_trans (by decide) hF) (Nat.le_trans (by decide) hLo) h hl.1 ⟨Nat.zero_le _, Nat.zero_le _⟩ (Nat.le_of_ble_eq_true rfl) dX12_barrel_9 (fun H locs h => ?_)
    refine lv_if_ne (pc := 12) (tgt := 17) hx hb dX12_barrel_12 (by decide) (fun c4 => ?_) (fun c4 => ?_)
    · have hf := if_f hf c4
      refine lv_iload_n (pc := 17) hx hb dX12_barrel_17 rfl (lv_at hl 3 rfl) ?_
      refine lv_i2l (pc := 18) (v := Int32.toInt64 p3) hx hb dX12_barrel_18 rfl ?_
      refine lv_lconst (pc := 19) (v := 1) hx hb dX12_barrel_19 (by decide) ?_
      refine lv_ldc2 (pc := 20) hx hb hown (hts _ ctl_X12_121) dX12_barrel_20 ?_
      obtain ⟨x5, hc, hf⟩ := b1_e hf
      refine kS_X12_in (pc := 23) hx hb hml hown hts hK hN hc ml_X12_97 (Nat.le_trans (by decide) hF) (Nat.le_trans (by decide) hLo) h hl.1 ⟨Nat.zero_le _, Nat.zero_le _⟩ (Nat.le_of_ble_eq_true rfl) dX12_barrel_23 (fun H locs h => ?_)
      refine lv_if_eq (pc := 26) (tgt := 55) hx hb dX12_barrel_26 (by decide) (fun c6 => ?_) (fun c6 => ?_)
      · have hf := if_t hf c6
        refine lv_bipush (pc := 55) (v := (-2)) hx hb dX12_barrel_55 (by decide) ?_
        exact hret (so1 hf) rfl (so2 hf) dX12_barrel_57 h
      · have hf := if_f hf c6
        refine lv_iload (pc := 29) hx hb dX12_barrel_29 (lv_at hl 4 rfl) ?_
        refine lv_i2l (pc := 31) (v := Int32.toInt64 p4) hx hb dX12_barrel_31 rfl ?_
        refine lv_lconst (pc := 32) (v := 0) hx hb dX12_barrel_32 (by decide) ?_
        refine lv_ldc2 (pc := 33) hx hb hown (hts _ ctl_X12_121) dX12_barrel_33 ?_
        obtain ⟨x7, hc, hf⟩ := b1_e hf
        refine kS_X12_in (pc := 36) hx hb hml hown hts hK hN hc ml_X12_97 (Nat.le_trans (by decide) hF) (Nat.le_trans (by decide) hLo) h hl.1 ⟨Nat.zero_le _, Nat.zero_le _⟩ (Nat.le_of_ble_eq_true rfl) dX12_barrel_36 (fun H locs h => ?_)
        refine lv_if_eq (pc := 39) (tgt := 55) hx hb dX12_barrel_39 (by decide) (fun c8 => ?_) (fun c8 => ?_)
        · have hf := if_t hf c8
          refine lv_bipush (pc := 55) (v := (-2)) hx hb dX12_barrel_55 (by decide) ?_
          exact hret (so1 hf) rfl (so2 hf) dX12_barrel_57 h
        · have hf := if_f hf c8
          refine lv_iload (pc := 42) hx hb dX12_barrel_42 (lv_at hl 5 rfl) ?_
          refine lv_i2l (pc := 44) (v := Int32.toInt64 p5) hx hb dX12_barrel_44 rfl ?_
          refine lv_lconst (pc := 45) (v := 0) hx hb dX12_barrel_45 (by decide) ?_
          refine lv_ldc2 (pc := 46) hx hb hown (hts _ ctl_X12_123) dX12_barrel_46 ?_
          obtain ⟨x9, hc, hf⟩ := b1_e hf
          refine kS_X12_in (pc := 49) hx hb hml hown hts hK hN hc ml_X12_97 (Nat.le_trans (by decide) hF) (Nat.le_trans (by decide) hLo) h hl.1 ⟨Nat.zero_le _, Nat.zero_le _⟩ (Nat.le_of_ble_eq_true rfl) dX12_barrel_49 (fun H locs h => ?_)
          refine lv_if_ne (pc := 52) (tgt := 58) hx hb dX12_barrel_52 (by decide) (fun c10 => ?_) (fun c10 => ?_)
          · have hf := if_f hf c10
            refine lv_aload_n (pc := 58) hx hb dX12_barrel_58 rfl (lv_at hl 0 rfl) ?_
            refine lv_iload_n (pc := 59) hx hb dX12_barrel_59 rfl (lv_at hl 2 rfl) ?_
            obtain ⟨x11, hc, hf⟩ := b1_e hf
            refine k_X12_liesIn (pc := 60) hx hb hml hown hts hK hN hc ml_X12_117 (Nat.le_trans (by decide) hF) (Nat.le_trans (by decide) hLo) h hl.1 ⟨Nat.zero_le _, Nat.zero_le _⟩ (Nat.le_of_ble_eq_true rfl) dX12_barrel_60 (fun H locs h => ?_)
            refine lv_aload_n (pc := 63) hx hb dX12_barrel_63 rfl (lv_at hl 0 rfl) ?_
            refine lv_iload_n (pc := 64) hx hb dX12_barrel_64 rfl (lv_at hl 1 rfl) ?_
            obtain ⟨x12, hc, hf⟩ := b1_e hf
            refine k_X12_isBarrel (pc := 65) hx hb hml hown hts hK hN hc ml_X12_107 (Nat.le_trans (by decide) hF) (Nat.le_trans (by decide) hLo) h hl.1 ⟨Nat.zero_le _, Nat.zero_le _⟩ (Nat.le_of_ble_eq_true rfl) dX12_barrel_65 (fun H locs h => ?_)
            obtain ⟨k13, hk13, hf⟩ := jq_1_e hf
            have jk13 : ∀ (x14 : Int32), k13 x14 = some (rr, uu) → ∀ (H : Heap) (locs : List Loc) (ls : Array Slot), Hh D (AB 21 a s.heap.size) (wX 21 a (EM a cI cZ) u) s.heap H locs → lv_has ls 7 [(0, .ref (a 0)), (1, .int p1), (2, .int p2), (3, .int p3), (4, .int p4), (5, .int p5)] → W p l e R s m args below meth c H locs 0 0 Q (F0 m 86 ls [.int x14, .int x11]) := by
              intro x14 hf H locs ls h hl
              rw [hk13] at hf
              refine lv_isub (pc := 86) hx hb dX12_barrel_86 ?_
              refine lv_istore (pc := 87) (lv' := [(6, .int (x11 - x14)), (0, .ref (a 0)), (1, .int p1), (2, .int p2), (3, .int p3), (4, .int p4), (5, .int p5)]) hx hb dX12_barrel_87 hl (by decide) rfl (fun ls hl => ?_)
              refine lv_iload (pc := 89) hx hb dX12_barrel_89 (lv_at hl 0 rfl) ?_
              refine lv_aload_n (pc := 91) hx hb dX12_barrel_91 rfl (lv_at hl 1 rfl) ?_
              refine gM_0_2 (pc := 92) hx hb hts hown hK h fl_X12_13 dX12_barrel_92 ?_
              refine lv_iload_n (pc := 95) hx hb dX12_barrel_95 rfl (lv_at hl 3 rfl) ?_
              obtain ⟨hin, hf⟩ := cki_e hf
              refine gM_2 (pc := 96) hx hb hK h hin dX12_barrel_96 ?_
              refine lv_icmp_lt (pc := 97) (tgt := 103) hx hb dX12_barrel_97 (by decide) (fun c15 => ?_) (fun c15 => ?_)
              · have hf := if_t hf c15
                refine lv_aload_n (pc := 103) hx hb dX12_barrel_103 rfl (lv_at hl 1 rfl) ?_
                refine gM_0_5 (pc := 104) hx hb hts hown hK h fl_X12_16 dX12_barrel_104 ?_
                refine lv_iload_n (pc := 107) hx hb dX12_barrel_107 rfl (lv_at hl 2 rfl) ?_
                refine lv_iload_n (pc := 108) hx hb dX12_barrel_108 rfl (lv_at hl 3 rfl) ?_
                obtain ⟨hin, hf⟩ := cki_e hf
                refine pM_3 (pc := 109) hx hb hK h hin dX12_barrel_109 (fun H locs h => ?_)
                obtain ⟨u16, eu16, hf⟩ := bs_e hf
                rw [← eu16] at h
                refine lv_aload_n (pc := 110) hx hb dX12_barrel_110 rfl (lv_at hl 1 rfl) ?_
                refine gM_0_6 (pc := 111) hx hb hts hown hK h fl_X12_19 dX12_barrel_111 ?_
                refine lv_iload_n (pc := 114) hx hb dX12_barrel_114 rfl (lv_at hl 2 rfl) ?_
                refine lv_iload_n (pc := 115) hx hb dX12_barrel_115 rfl (lv_at hl 4 rfl) ?_
                obtain ⟨hin, hf⟩ := cki_e hf
                refine pM_4 (pc := 116) hx hb hK h hin dX12_barrel_116 (fun H locs h => ?_)
                obtain ⟨u17, eu17, hf⟩ := bs_e hf
                rw [← eu17] at h
                refine lv_aload_n (pc := 117) hx hb dX12_barrel_117 rfl (lv_at hl 1 rfl) ?_
                refine gM_0_7 (pc := 118) hx hb hts hown hK h fl_X12_22 dX12_barrel_118 ?_
                refine lv_iload_n (pc := 121) hx hb dX12_barrel_121 rfl (lv_at hl 2 rfl) ?_
                refine lv_iload (pc := 122) hx hb dX12_barrel_122 (lv_at hl 5 rfl) ?_
                obtain ⟨hin, hf⟩ := cki_e hf
                refine pM_5 (pc := 124) hx hb hK h hin dX12_barrel_124 (fun H locs h => ?_)
                obtain ⟨u18, eu18, hf⟩ := bs_e hf
                rw [← eu18] at h
                refine lv_aload_n (pc := 125) hx hb dX12_barrel_125 rfl (lv_at hl 1 rfl) ?_
                refine gM_0_8 (pc := 126) hx hb hts hown hK h fl_X12_25 dX12_barrel_126 ?_
                refine lv_iload_n (pc := 129) hx hb dX12_barrel_129 rfl (lv_at hl 2 rfl) ?_
                refine lv_iload (pc := 130) hx hb dX12_barrel_130 (lv_at hl 6 rfl) ?_
                obtain ⟨hin, hf⟩ := cki_e hf
                refine pM_6 (pc := 132) hx hb hK h hin dX12_barrel_132 (fun H locs h => ?_)
                obtain ⟨u19, eu19, hf⟩ := bs_e hf
                rw [← eu19] at h
                refine lv_aload_n (pc := 133) hx hb dX12_barrel_133 rfl (lv_at hl 1 rfl) ?_
                refine lv_dup (pc := 134) hx hb dX12_barrel_134 rfl ?_
                refine gM_0_4 (pc := 135) hx hb hts hown hK h fl_X12_91 dX12_barrel_135 ?_
                refine lv_iconst (pc := 138) (v := 1) hx hb dX12_barrel_138 (by decide) ?_
                refine lv_iload_n (pc := 139) hx hb dX12_barrel_139 rfl (lv_at hl 2 rfl) ?_
                refine lv_ishl (pc := 140) hx hb dX12_barrel_140 ?_
                refine lv_ior (pc := 141) hx hb dX12_barrel_141 ?_
                refine pM_0_4 (pc := 142) hx hb hts hown hK h fl_X12_91 dX12_barrel_142 (fun H locs h => ?_)
                obtain ⟨u20, eu20, hf⟩ := bs_e hf
                rw [← eu20] at h
                refine lv_aload_n (pc := 145) hx hb dX12_barrel_145 rfl (lv_at hl 1 rfl) ?_
                refine gM_0_4 (pc := 146) hx hb hts hown hK h fl_X12_91 dX12_barrel_146 ?_
                obtain ⟨x21, hc, hf⟩ := b1_e hf
                refine kS_X12_ones (pc := 149) hx hb hml hown hts hK hN hc ml_X12_125 (Nat.le_trans (by decide) hF) (Nat.le_trans (by decide) hLo) h hl.1 ⟨Nat.zero_le _, Nat.zero_le _⟩ (Nat.le_of_ble_eq_true rfl) dX12_barrel_149 (fun H locs h => ?_)
                exact hret (so1 hf) rfl (so2 hf) dX12_barrel_152 h
              · have hf := if_f hf c15
                refine lv_bipush (pc := 100) (v := (-4)) hx hb dX12_barrel_100 (by decide) ?_
                exact hret (so1 hf) rfl (so2 hf) dX12_barrel_102 h
            refine lv_if_eq (pc := 68) (tgt := 85) hx hb dX12_barrel_68 (by decide) (fun c22 => ?_) (fun c22 => ?_)
            · have hf := if_t hf c22
              refine lv_iconst (pc := 85) (v := 0) hx hb dX12_barrel_85 (by decide) ?_
              exact jk13 _ hf _ _ _ h (lv_sub hl [0, 1, 2, 3, 4, 5] rfl)
            · have hf := if_f hf c22
              refine lv_aload_n (pc := 71) hx hb dX12_barrel_71 rfl (lv_at hl 0 rfl) ?_
              refine gM_0_5 (pc := 72) hx hb hts hown hK h fl_X12_16 dX12_barrel_72 ?_
              refine lv_iload_n (pc := 75) hx hb dX12_barrel_75 rfl (lv_at hl 1 rfl) ?_
              obtain ⟨hin, hf⟩ := cki_e hf
              refine gM_3 (pc := 76) hx hb hK h hin dX12_barrel_76 ?_
              refine lv_iload_n (pc := 77) hx hb dX12_barrel_77 rfl (lv_at hl 2 rfl) ?_
              refine lv_icmp_ne (pc := 78) (tgt := 85) hx hb dX12_barrel_78 (by decide) (fun c23 => ?_) (fun c23 => ?_)
              · have hf := if_f hf c23
                refine lv_iconst (pc := 85) (v := 0) hx hb dX12_barrel_85 (by decide) ?_
                exact jk13 _ hf _ _ _ h (lv_sub hl [0, 1, 2, 3, 4, 5] rfl)
              · have hf := if_t hf c23
                refine lv_iconst (pc := 81) (v := 1) hx hb dX12_barrel_81 (by decide) ?_
                refine lv_goto (pc := 82) (tgt := 86) hx hb dX12_barrel_82 (by decide) ?_
                exact jk13 _ hf _ _ _ h (lv_sub hl [0, 1, 2, 3, 4, 5] rfl)
          · have hf := if_t hf c10
            refine lv_bipush (pc := 55) (v := (-2)) hx hb dX12_barrel_55 (by decide) ?_
            exact hret (so1 hf) rfl (so2 hf) dX12_barrel_57 h
    · have hf := if_t hf c4
      refine lv_iconst (pc := 15) (v := (-1)) hx hb dX12_barrel_15 (by decide) ?_
      exact hret (so1 hf) rfl (so2 hf) dX12_barrel_16 h
theorem k_X12_barrel {p : Program} {l : Launch} {e : Env} {R : Room} {s : State} {m : MethodId} {args : Array Value} {below : List Frame} {meth : Method} {c : Code} {H : Heap} {locs : List Loc} {cells slots : Nat} {Q : State → Prop} {pc : Nat} {ls : Array Slot} {rest : List Value} {cc : ByteArray} {D : va_G} {cI cZ : ClassId} {a : Nat → Nat} {u : St} {own : String} {index nL : Nat} {p1 : Int32} {p2 : Int32} {p3 : Int32} {p4 : Int32} {p5 : Int32} {rr : Int32} {uu : St} (hx : p.tables.exec = Jvm.exec) (hb : c.code = cc) (hml : c.maxLocals = nL) (hown : s.vm.findClass own = some m.cls) (hts : ∀ w ∈ Gd, w.before args s = true) (hK : va_K D vwCl (tyM cI cZ) s) (hN : NB s) (hc : f_X12_barrel u p1 p2 p3 p4 p5 = some (rr, uu)) (hlk : Cond.methodLink own index yX12_barrel ∈ Gd) (hF : 5 ≤ R.frames) (hLo : 115 ≤ R.locals) (h : Hh D (AB 21 a s.heap.size) (wX 21 a (EM a cI cZ) u) s.heap H locs) (hsize : ls.size = nL) (hcs : cells ≤ R.cells ∧ slots ≤ R.slots) (hr : (rest.map fun v => v.category).sum ≤ 8) (hdg : decode cc pc = .ok (.invokevirtual index, 3)) (kk : ∀ (H1 : Heap) (locs1 : List Loc), Hh D (AB 21 a s.heap.size) (wX 21 a (EM a cI cZ) uu) s.heap H1 locs1 → W p l e R s m args below meth c H1 locs1 cells slots Q (F0 m (pc + 3) ls (.int rr :: rest))) : W p l e R s m args below meth c H locs cells slots Q (F0 m pc ls (.int p5 :: .int p4 :: .int p3 :: .int p2 :: .int p1 :: .ref (a 0) :: rest)) :=
  cVi (n := 5) hx hb hml hown hts hK hN (c_X12_barrel hc) (gdV hlk im_X12_barrel se_X12_barrel in_X12 co_X12_barrel) rfl (by decide +kernel) rfl hF hLo h hsize hcs (by decide) rfl rfl rfl hr hdg kk
def f_X12_drink (u : St) (p1 : Int32) : Option (Int32 × St) := b1 (f_X12_isBarrel u p1) (fun (x1 : Int32) => if x1 = 0 then some ((-1), u) else bs (sI u 0 4 ((u.1 0 4) &&& (((1 : Int32) <<< (p1 &&& 31)) ^^^ (-1 : Int32)))) (fun u3 : St => b1 (f_X12_ones u3 (u3.1 0 4)) (fun (x4 : Int32) => some (x4, u3))))
set_option maxRecDepth 100000 in
set_option maxHeartbeats 4000000 in
theorem c_X12_drink {l : Launch} {D : va_G} {cI cZ : ClassId} {a : Nat → Nat} {u : St} {p1 : Int32} {rr : Int32} {uu : St} (hf : f_X12_drink u p1 = some (rr, uu)) : Ci l yX12_drink cX12_drink 2 (some .int) 3 66 D (tyM cI cZ) 21 a (EM a cI cZ) [.ref (a 0), .int p1] u rr uu := by
  refine metI (by decide +kernel) (Nat.le_of_ble_eq_true rfl) ?_
  intro p e s m args below meth c R Q hx hb hml hown hts hF hLo hret hK hN h ls hl
  have hown : s.vm.findClass RX12 = some m.cls := hown
  have hl : lv_has ls 2 [(0, .ref (a 0)), (1, .int p1)] := hl
  unfold f_X12_drink at hf
  refine lv_aload_n (pc := 0) hx hb dX12_drink_0 rfl (lv_at hl 0 rfl) ?_
  refine lv_iload_n (pc := 1) hx hb dX12_drink_1 rfl (lv_at hl 1 rfl) ?_
  obtain ⟨x1, hc, hf⟩ := b1_e hf
  refine k_X12_isBarrel (pc := 2) hx hb hml hown hts hK hN hc ml_X12_107 (Nat.le_trans (by decide) hF) (Nat.le_trans (by decide) hLo) h hl.1 ⟨Nat.zero_le _, Nat.zero_le _⟩ (Nat.le_of_ble_eq_true rfl) dX12_drink_2 (fun H locs h => ?_)
  refine lv_if_ne (pc := 5) (tgt := 10) hx hb dX12_drink_5 (by decide) (fun c2 => ?_) (fun c2 => ?_)
  · have hf := if_f hf c2
    refine lv_aload_n (pc := 10) hx hb dX12_drink_10 rfl (lv_at hl 0 rfl) ?_
    refine lv_dup (pc := 11) hx hb dX12_drink_11 rfl ?_
    refine gM_0_4 (pc := 12) hx hb hts hown hK h fl_X12_91 dX12_drink_12 ?_
    refine lv_iconst (pc := 15) (v := 1) hx hb dX12_drink_15 (by decide) ?_
    refine lv_iload_n (pc := 16) hx hb dX12_drink_16 rfl (lv_at hl 1 rfl) ?_
    refine lv_ishl (pc := 17) hx hb dX12_drink_17 ?_
    refine lv_iconst (pc := 18) (v := (-1)) hx hb dX12_drink_18 (by decide) ?_
    refine lv_ixor (pc := 19) hx hb dX12_drink_19 ?_
    refine lv_iand (pc := 20) hx hb dX12_drink_20 ?_
    refine pM_0_4 (pc := 21) hx hb hts hown hK h fl_X12_91 dX12_drink_21 (fun H locs h => ?_)
    obtain ⟨u3, eu3, hf⟩ := bs_e hf
    rw [← eu3] at h
    refine lv_aload_n (pc := 24) hx hb dX12_drink_24 rfl (lv_at hl 0 rfl) ?_
    refine gM_0_4 (pc := 25) hx hb hts hown hK h fl_X12_91 dX12_drink_25 ?_
    obtain ⟨x4, hc, hf⟩ := b1_e hf
    refine kS_X12_ones (pc := 28) hx hb hml hown hts hK hN hc ml_X12_125 (Nat.le_trans (by decide) hF) (Nat.le_trans (by decide) hLo) h hl.1 ⟨Nat.zero_le _, Nat.zero_le _⟩ (Nat.le_of_ble_eq_true rfl) dX12_drink_28 (fun H locs h => ?_)
    exact hret (so1 hf) rfl (so2 hf) dX12_drink_31 h
  · have hf := if_t hf c2
    refine lv_iconst (pc := 8) (v := (-1)) hx hb dX12_drink_8 (by decide) ?_
    exact hret (so1 hf) rfl (so2 hf) dX12_drink_9 h
theorem k_X12_drink {p : Program} {l : Launch} {e : Env} {R : Room} {s : State} {m : MethodId} {args : Array Value} {below : List Frame} {meth : Method} {c : Code} {H : Heap} {locs : List Loc} {cells slots : Nat} {Q : State → Prop} {pc : Nat} {ls : Array Slot} {rest : List Value} {cc : ByteArray} {D : va_G} {cI cZ : ClassId} {a : Nat → Nat} {u : St} {own : String} {index nL : Nat} {p1 : Int32} {rr : Int32} {uu : St} (hx : p.tables.exec = Jvm.exec) (hb : c.code = cc) (hml : c.maxLocals = nL) (hown : s.vm.findClass own = some m.cls) (hts : ∀ w ∈ Gd, w.before args s = true) (hK : va_K D vwCl (tyM cI cZ) s) (hN : NB s) (hc : f_X12_drink u p1 = some (rr, uu)) (hlk : Cond.methodLink own index yX12_drink ∈ Gd) (hF : 4 ≤ R.frames) (hLo : 87 ≤ R.locals) (h : Hh D (AB 21 a s.heap.size) (wX 21 a (EM a cI cZ) u) s.heap H locs) (hsize : ls.size = nL) (hcs : cells ≤ R.cells ∧ slots ≤ R.slots) (hr : (rest.map fun v => v.category).sum ≤ 8) (hdg : decode cc pc = .ok (.invokevirtual index, 3)) (kk : ∀ (H1 : Heap) (locs1 : List Loc), Hh D (AB 21 a s.heap.size) (wX 21 a (EM a cI cZ) uu) s.heap H1 locs1 → W p l e R s m args below meth c H1 locs1 cells slots Q (F0 m (pc + 3) ls (.int rr :: rest))) : W p l e R s m args below meth c H locs cells slots Q (F0 m pc ls (.int p1 :: .ref (a 0) :: rest)) :=
  cVi (n := 1) hx hb hml hown hts hK hN (c_X12_drink hc) (gdV hlk im_X12_drink se_X12_drink in_X12 co_X12_drink) rfl (by decide +kernel) rfl hF hLo h hsize hcs (by decide) rfl rfl rfl hr hdg kk
def f_X12_set (u : St) (p1 : Int32) (p2 : Int32) : Option (Int32 × St) := jq_1 (fun (x2 : Int32) => b1 (f_X12_in u (Int32.toInt64 p1) 0 6) (fun (x3 : Int32) => if x3 = 0 then some ((-2), u) else jq_1 (fun (x6 : Int64) => b1 (f_X12_in u (Int32.toInt64 p2) x6 (Int32.toInt64 x2)) (fun (x7 : Int32) => if x7 = 0 then some ((-2), u) else jq_1 (fun (x10 : Int32) => jq_1 (fun (x12 : Int32) => bs (sI u 0 11 x12) (fun u13 : St => jq_1 (fun (x15 : Int32) => bs (sI u13 0 12 x15) (fun u16 : St => jq_1 (fun (x18 : Int32) => bs (sI u16 0 13 x18) (fun u19 : St => if p1 ≤ 2 then some (x10, u19) else cki (p1 - (3 : Int32)) 4 (bs (sI u19 8 (ix (p1 - (3 : Int32))) p2) (fun u21 : St => some (x10, u21))))) (fun (k17 : Int32 → Option (Int32 × St)) => if p1 = 2 then k17 p2 else k17 (u16.1 0 13)))) (fun (k14 : Int32 → Option (Int32 × St)) => if p1 = 1 then k14 p2 else k14 (u13.1 0 12)))) (fun (k11 : Int32 → Option (Int32 × St)) => if p1 = 0 then k11 p2 else k11 (u.1 0 11))) (fun (k9 : Int32 → Option (Int32 × St)) => if p1 = 0 then k9 (u.1 0 11) else if p1 = 1 then k9 (u.1 0 12) else if p1 = 2 then k9 (u.1 0 13) else cki (p1 - (3 : Int32)) 4 (k9 (u.1 8 (ix (p1 - (3 : Int32)))))))) (fun (k5 : Int64 → Option (Int32 × St)) => if p1 = 0 then k5 1 else k5 0))) (fun (k1 : Int32 → Option (Int32 × St)) => if p1 = 2 then k1 29 else k1 99)
set_option maxRecDepth 100000 in
set_option maxHeartbeats 4000000 in
theorem c_X12_set {l : Launch} {D : va_G} {cI cZ : ClassId} {a : Nat → Nat} {u : St} {p1 : Int32} {p2 : Int32} {rr : Int32} {uu : St} (hf : f_X12_set u p1 p2 = some (rr, uu)) : Ci l yX12_set cX12_set 5 (some .int) 1 25 D (tyM cI cZ) 21 a (EM a cI cZ) [.ref (a 0), .int p1, .int p2] u rr uu := by
  refine metI (by decide +kernel) (Nat.le_of_ble_eq_true rfl) ?_
  intro p e s m args below meth c R Q hx hb hml hown hts hF hLo hret hK hN h ls hl
  have hown : s.vm.findClass RX12 = some m.cls := hown
  have hl : lv_has ls 5 [(0, .ref (a 0)), (1, .int p1), (2, .int p2)] := hl
  unfold f_X12_set at hf
  refine lv_iload_n (pc := 0) hx hb dX12_set_0 rfl (lv_at hl 1 rfl) ?_
  refine lv_iconst (pc := 1) (v := 2) hx hb dX12_set_1 (by decide) ?_
  obtain ⟨k1, hk1, hf⟩ := jq_1_e hf
  have jk1 : ∀ (x2 : Int32), k1 x2 = some (rr, uu) → ∀ (H : Heap) (locs : List Loc) (ls : Array Slot), Hh D (AB 21 a s.heap.size) (wX 21 a (EM a cI cZ) u) s.heap H locs → lv_has ls 5 [(0, .ref (a 0)), (1, .int p1), (2, .int p2)] → W p l e R s m args below meth c H locs 0 0 Q (F0 m 12 ls [.int x2]) := by
    intro x2 hf H locs ls h hl
    rw [hk1] at hf
    refine lv_istore_n (pc := 12) (lv' := [(3, .int x2), (0, .ref (a 0)), (1, .int p1), (2, .int p2)]) hx hb dX12_set_12 rfl hl (by decide) rfl (fun ls hl => ?_)
    refine lv_iload_n (pc := 13) hx hb dX12_set_13 rfl (lv_at hl 2 rfl) ?_
    refine lv_i2l (pc := 14) (v := Int32.toInt64 p1) hx hb dX12_set_14 rfl ?_
    refine lv_lconst (pc := 15) (v := 0) hx hb dX12_set_15 (by decide) ?_
    refine lv_ldc2 (pc := 16) hx hb hown (hts _ ctl_X12_110) dX12_set_16 ?_
    obtain ⟨x3, hc, hf⟩ := b1_e hf
    refine kS_X12_in (pc := 19) hx hb hml hown hts hK hN hc ml_X12_97 (Nat.le_trans (by decide) hF) (Nat.le_trans (by decide) hLo) h hl.1 ⟨Nat.zero_le _, Nat.zero_le _⟩ (Nat.le_of_ble_eq_true rfl) dX12_set_19 (fun H locs h => ?_)
    refine lv_if_eq (pc := 22) (tgt := 44) hx hb dX12_set_22 (by decide) (fun c4 => ?_) (fun c4 => ?_)
    · have hf := if_t hf c4
      refine lv_bipush (pc := 44) (v := (-2)) hx hb dX12_set_44 (by decide) ?_
      exact hret (so1 hf) rfl (so2 hf) dX12_set_46 h
    · have hf := if_f hf c4
      refine lv_iload_n (pc := 25) hx hb dX12_set_25 rfl (lv_at hl 3 rfl) ?_
      refine lv_i2l (pc := 26) (v := Int32.toInt64 p2) hx hb dX12_set_26 rfl ?_
      refine lv_iload_n (pc := 27) hx hb dX12_set_27 rfl (lv_at hl 2 rfl) ?_
      obtain ⟨k5, hk5, hf⟩ := jq_1_e hf
      have jk5 : ∀ (x6 : Int64), k5 x6 = some (rr, uu) → ∀ (H : Heap) (locs : List Loc) (ls : Array Slot), Hh D (AB 21 a s.heap.size) (wX 21 a (EM a cI cZ) u) s.heap H locs → lv_has ls 5 [(0, .ref (a 0)), (1, .int p1), (2, .int p2), (3, .int x2)] → W p l e R s m args below meth c H locs 0 0 Q (F0 m 36 ls [.long x6, .long (Int32.toInt64 p2)]) := by
        intro x6 hf H locs ls h hl
        rw [hk5] at hf
        refine lv_iload_n (pc := 36) hx hb dX12_set_36 rfl (lv_at hl 3 rfl) ?_
        refine lv_i2l (pc := 37) (v := Int32.toInt64 x2) hx hb dX12_set_37 rfl ?_
        obtain ⟨x7, hc, hf⟩ := b1_e hf
        refine kS_X12_in (pc := 38) hx hb hml hown hts hK hN hc ml_X12_97 (Nat.le_trans (by decide) hF) (Nat.le_trans (by decide) hLo) h hl.1 ⟨Nat.zero_le _, Nat.zero_le _⟩ (Nat.le_of_ble_eq_true rfl) dX12_set_38 (fun H locs h => ?_)
        refine lv_if_ne (pc := 41) (tgt := 47) hx hb dX12_set_41 (by decide) (fun c8 => ?_) (fun c8 => ?_)
        · have hf := if_f hf c8
          refine lv_iload_n (pc := 47) hx hb dX12_set_47 rfl (lv_at hl 1 rfl) ?_
          obtain ⟨k9, hk9, hf⟩ := jq_1_e hf
          have jk9 : ∀ (x10 : Int32), k9 x10 = some (rr, uu) → ∀ (H : Heap) (locs : List Loc) (ls : Array Slot), Hh D (AB 21 a s.heap.size) (wX 21 a (EM a cI cZ) u) s.heap H locs → lv_has ls 5 [(0, .ref (a 0)), (1, .int p1), (2, .int p2)] → W p l e R s m args below meth c H locs 0 0 Q (F0 m 90 ls [.int x10]) := by
            intro x10 hf H locs ls h hl
            rw [hk9] at hf
            refine lv_istore (pc := 90) (lv' := [(4, .int x10), (0, .ref (a 0)), (1, .int p1), (2, .int p2)]) hx hb dX12_set_90 hl (by decide) rfl (fun ls hl => ?_)
            refine lv_aload_n (pc := 92) hx hb dX12_set_92 rfl (lv_at hl 1 rfl) ?_
            refine lv_iload_n (pc := 93) hx hb dX12_set_93 rfl (lv_at hl 2 rfl) ?_
            obtain ⟨k11, hk11, hf⟩ := jq_1_e hf
            have jk11 : ∀ (x12 : Int32), k11 x12 = some (rr, uu) → ∀ (H : Heap) (locs : List Loc) (ls : Array Slot), Hh D (AB 21 a s.heap.size) (wX 21 a (EM a cI cZ) u) s.heap H locs → lv_has ls 5 [(0, .ref (a 0)), (1, .int p1), (2, .int p2), (4, .int x10)] → W p l e R s m args below meth c H locs 0 0 Q (F0 m 105 ls [.int x12, .ref (a 0)]) := by
              intro x12 hf H locs ls h hl
              rw [hk11] at hf
              refine pM_0_11 (pc := 105) hx hb hts hown hK h fl_X12_71 dX12_set_105 (fun H locs h => ?_)
              obtain ⟨u13, eu13, hf⟩ := bs_e hf
              rw [← eu13] at h
              refine lv_aload_n (pc := 108) hx hb dX12_set_108 rfl (lv_at hl 0 rfl) ?_
              refine lv_iload_n (pc := 109) hx hb dX12_set_109 rfl (lv_at hl 1 rfl) ?_
              refine lv_iconst (pc := 110) (v := 1) hx hb dX12_set_110 (by decide) ?_
              obtain ⟨k14, hk14, hf⟩ := jq_1_e hf
              have jk14 : ∀ (x15 : Int32), k14 x15 = some (rr, uu) → ∀ (H : Heap) (locs : List Loc) (ls : Array Slot), Hh D (AB 21 a s.heap.size) (wX 21 a (EM a cI cZ) u13) s.heap H locs → lv_has ls 5 [(0, .ref (a 0)), (1, .int p1), (2, .int p2), (4, .int x10)] → W p l e R s m args below meth c H locs 0 0 Q (F0 m 122 ls [.int x15, .ref (a 0)]) := by
                intro x15 hf H locs ls h hl
                rw [hk14] at hf
                refine pM_0_12 (pc := 122) hx hb hts hown hK h fl_X12_75 dX12_set_122 (fun H locs h => ?_)
                obtain ⟨u16, eu16, hf⟩ := bs_e hf
                rw [← eu16] at h
                refine lv_aload_n (pc := 125) hx hb dX12_set_125 rfl (lv_at hl 0 rfl) ?_
                refine lv_iload_n (pc := 126) hx hb dX12_set_126 rfl (lv_at hl 1 rfl) ?_
                refine lv_iconst (pc := 127) (v := 2) hx hb dX12_set_127 (by decide) ?_
                obtain ⟨k17, hk17, hf⟩ := jq_1_e hf
                have jk17 : ∀ (x18 : Int32), k17 x18 = some (rr, uu) → ∀ (H : Heap) (locs : List Loc) (ls : Array Slot), Hh D (AB 21 a s.heap.size) (wX 21 a (EM a cI cZ) u16) s.heap H locs → lv_has ls 5 [(0, .ref (a 0)), (1, .int p1), (2, .int p2), (4, .int x10)] → W p l e R s m args below meth c H locs 0 0 Q (F0 m 139 ls [.int x18, .ref (a 0)]) := by
                  intro x18 hf H locs ls h hl
                  rw [hk17] at hf
                  refine pM_0_13 (pc := 139) hx hb hts hown hK h fl_X12_128 dX12_set_139 (fun H locs h => ?_)
                  obtain ⟨u19, eu19, hf⟩ := bs_e hf
                  rw [← eu19] at h
                  refine lv_iload_n (pc := 142) hx hb dX12_set_142 rfl (lv_at hl 1 rfl) ?_
                  refine lv_iconst (pc := 143) (v := 2) hx hb dX12_set_143 (by decide) ?_
                  refine lv_icmp_le (pc := 144) (tgt := 156) hx hb dX12_set_144 (by decide) (fun c20 => ?_) (fun c20 => ?_)
                  · have hf := if_t hf c20
                    refine lv_iload (pc := 156) hx hb dX12_set_156 (lv_at hl 3 rfl) ?_
                    exact hret (so1 hf) rfl (so2 hf) dX12_set_158 h
                  · have hf := if_f hf c20
                    refine lv_aload_n (pc := 147) hx hb dX12_set_147 rfl (lv_at hl 0 rfl) ?_
                    refine gM_0_14 (pc := 148) hx hb hts hown hK h fl_X12_31 dX12_set_148 ?_
                    refine lv_iload_n (pc := 151) hx hb dX12_set_151 rfl (lv_at hl 1 rfl) ?_
                    refine lv_iconst (pc := 152) (v := 3) hx hb dX12_set_152 (by decide) ?_
                    refine lv_isub (pc := 153) hx hb dX12_set_153 ?_
                    refine lv_iload_n (pc := 154) hx hb dX12_set_154 rfl (lv_at hl 2 rfl) ?_
                    obtain ⟨hin, hf⟩ := cki_e hf
                    refine pM_8 (pc := 155) hx hb hK h hin dX12_set_155 (fun H locs h => ?_)
                    obtain ⟨u21, eu21, hf⟩ := bs_e hf
                    rw [← eu21] at h
                    refine lv_iload (pc := 156) hx hb dX12_set_156 (lv_at hl 3 rfl) ?_
                    exact hret (so1 hf) rfl (so2 hf) dX12_set_158 h
                refine lv_icmp_ne (pc := 128) (tgt := 135) hx hb dX12_set_128 (by decide) (fun c22 => ?_) (fun c22 => ?_)
                · have hf := if_f hf c22
                  refine lv_aload_n (pc := 135) hx hb dX12_set_135 rfl (lv_at hl 0 rfl) ?_
                  refine gM_0_13 (pc := 136) hx hb hts hown hK h fl_X12_128 dX12_set_136 ?_
                  exact jk17 _ hf _ _ _ h (lv_sub hl [0, 1, 2, 3] rfl)
                · have hf := if_t hf c22
                  refine lv_iload_n (pc := 131) hx hb dX12_set_131 rfl (lv_at hl 2 rfl) ?_
                  refine lv_goto (pc := 132) (tgt := 139) hx hb dX12_set_132 (by decide) ?_
                  exact jk17 _ hf _ _ _ h (lv_sub hl [0, 1, 2, 3] rfl)
              refine lv_icmp_ne (pc := 111) (tgt := 118) hx hb dX12_set_111 (by decide) (fun c23 => ?_) (fun c23 => ?_)
              · have hf := if_f hf c23
                refine lv_aload_n (pc := 118) hx hb dX12_set_118 rfl (lv_at hl 0 rfl) ?_
                refine gM_0_12 (pc := 119) hx hb hts hown hK h fl_X12_75 dX12_set_119 ?_
                exact jk14 _ hf _ _ _ h (lv_sub hl [0, 1, 2, 3] rfl)
              · have hf := if_t hf c23
                refine lv_iload_n (pc := 114) hx hb dX12_set_114 rfl (lv_at hl 2 rfl) ?_
                refine lv_goto (pc := 115) (tgt := 122) hx hb dX12_set_115 (by decide) ?_
                exact jk14 _ hf _ _ _ h (lv_sub hl [0, 1, 2, 3] rfl)
            refine lv_if_ne (pc := 94) (tgt := 101) hx hb dX12_set_94 (by decide) (fun c24 => ?_) (fun c24 => ?_)
            · have hf := if_f hf c24
              refine lv_aload_n (pc := 101) hx hb dX12_set_101 rfl (lv_at hl 1 rfl) ?_
              refine gM_0_11 (pc := 102) hx hb hts hown hK h fl_X12_71 dX12_set_102 ?_
              exact jk11 _ hf _ _ _ h (lv_sub hl [1, 2, 3, 0] rfl)
            · have hf := if_t hf c24
              refine lv_iload_n (pc := 97) hx hb dX12_set_97 rfl (lv_at hl 3 rfl) ?_
              refine lv_goto (pc := 98) (tgt := 105) hx hb dX12_set_98 (by decide) ?_
              exact jk11 _ hf _ _ _ h (lv_sub hl [1, 2, 3, 0] rfl)
          refine lv_if_ne (pc := 48) (tgt := 58) hx hb dX12_set_48 (by decide) (fun c25 => ?_) (fun c25 => ?_)
          · have hf := if_f hf c25
            refine lv_iload_n (pc := 58) hx hb dX12_set_58 rfl (lv_at hl 1 rfl) ?_
            refine lv_iconst (pc := 59) (v := 1) hx hb dX12_set_59 (by decide) ?_
            refine lv_icmp_ne (pc := 60) (tgt := 70) hx hb dX12_set_60 (by decide) (fun c26 => ?_) (fun c26 => ?_)
            · have hf := if_f hf c26
              refine lv_iload_n (pc := 70) hx hb dX12_set_70 rfl (lv_at hl 1 rfl) ?_
              refine lv_iconst (pc := 71) (v := 2) hx hb dX12_set_71 (by decide) ?_
              refine lv_icmp_ne (pc := 72) (tgt := 82) hx hb dX12_set_72 (by decide) (fun c27 => ?_) (fun c27 => ?_)
              · have hf := if_f hf c27
                refine lv_aload_n (pc := 82) hx hb dX12_set_82 rfl (lv_at hl 0 rfl) ?_
                refine gM_0_14 (pc := 83) hx hb hts hown hK h fl_X12_31 dX12_set_83 ?_
                refine lv_iload_n (pc := 86) hx hb dX12_set_86 rfl (lv_at hl 1 rfl) ?_
                refine lv_iconst (pc := 87) (v := 3) hx hb dX12_set_87 (by decide) ?_
                refine lv_isub (pc := 88) hx hb dX12_set_88 ?_
                obtain ⟨hin, hf⟩ := cki_e hf
                refine gM_8 (pc := 89) hx hb hK h hin dX12_set_89 ?_
                exact jk9 _ hf _ _ _ h (lv_sub hl [0, 1, 2] rfl)
              · have hf := if_t hf c27
                refine lv_aload_n (pc := 75) hx hb dX12_set_75 rfl (lv_at hl 0 rfl) ?_
                refine gM_0_13 (pc := 76) hx hb hts hown hK h fl_X12_128 dX12_set_76 ?_
                refine lv_goto (pc := 79) (tgt := 90) hx hb dX12_set_79 (by decide) ?_
                exact jk9 _ hf _ _ _ h (lv_sub hl [0, 1, 2] rfl)
            · have hf := if_t hf c26
              refine lv_aload_n (pc := 63) hx hb dX12_set_63 rfl (lv_at hl 0 rfl) ?_
              refine gM_0_12 (pc := 64) hx hb hts hown hK h fl_X12_75 dX12_set_64 ?_
              refine lv_goto (pc := 67) (tgt := 90) hx hb dX12_set_67 (by decide) ?_
              exact jk9 _ hf _ _ _ h (lv_sub hl [0, 1, 2] rfl)
          · have hf := if_t hf c25
            refine lv_aload_n (pc := 51) hx hb dX12_set_51 rfl (lv_at hl 0 rfl) ?_
            refine gM_0_11 (pc := 52) hx hb hts hown hK h fl_X12_71 dX12_set_52 ?_
            refine lv_goto (pc := 55) (tgt := 90) hx hb dX12_set_55 (by decide) ?_
            exact jk9 _ hf _ _ _ h (lv_sub hl [0, 1, 2] rfl)
        · have hf := if_t hf c8
          refine lv_bipush (pc := 44) (v := (-2)) hx hb dX12_set_44 (by decide) ?_
          exact hret (so1 hf) rfl (so2 hf) dX12_set_46 h
      refine lv_if_ne (pc := 28) (tgt := 35) hx hb dX12_set_28 (by decide) (fun c28 => ?_) (fun c28 => ?_)
      · have hf := if_f hf c28
        refine lv_lconst (pc := 35) (v := 0) hx hb dX12_set_35 (by decide) ?_
        exact jk5 _ hf _ _ _ h (lv_sub hl [1, 2, 3, 0] rfl)
      · have hf := if_t hf c28
        refine lv_lconst (pc := 31) (v := 1) hx hb dX12_set_31 (by decide) ?_
        refine lv_goto (pc := 32) (tgt := 36) hx hb dX12_set_32 (by decide) ?_
        exact jk5 _ hf _ _ _ h (lv_sub hl [1, 2, 3, 0] rfl)
  refine lv_icmp_ne (pc := 2) (tgt := 10) hx hb dX12_set_2 (by decide) (fun c29 => ?_) (fun c29 => ?_)
  · have hf := if_f hf c29
    refine lv_bipush (pc := 10) (v := 99) hx hb dX12_set_10 (by decide) ?_
    exact jk1 _ hf _ _ _ h (lv_sub hl [0, 1, 2] rfl)
  · have hf := if_t hf c29
    refine lv_bipush (pc := 5) (v := 29) hx hb dX12_set_5 (by decide) ?_
    refine lv_goto (pc := 7) (tgt := 12) hx hb dX12_set_7 (by decide) ?_
    exact jk1 _ hf _ _ _ h (lv_sub hl [0, 1, 2] rfl)
theorem k_X12_set {p : Program} {l : Launch} {e : Env} {R : Room} {s : State} {m : MethodId} {args : Array Value} {below : List Frame} {meth : Method} {c : Code} {H : Heap} {locs : List Loc} {cells slots : Nat} {Q : State → Prop} {pc : Nat} {ls : Array Slot} {rest : List Value} {cc : ByteArray} {D : va_G} {cI cZ : ClassId} {a : Nat → Nat} {u : St} {own : String} {index nL : Nat} {p1 : Int32} {p2 : Int32} {rr : Int32} {uu : St} (hx : p.tables.exec = Jvm.exec) (hb : c.code = cc) (hml : c.maxLocals = nL) (hown : s.vm.findClass own = some m.cls) (hts : ∀ w ∈ Gd, w.before args s = true) (hK : va_K D vwCl (tyM cI cZ) s) (hN : NB s) (hc : f_X12_set u p1 p2 = some (rr, uu)) (hlk : Cond.methodLink own index yX12_set ∈ Gd) (hF : 2 ≤ R.frames) (hLo : 49 ≤ R.locals) (h : Hh D (AB 21 a s.heap.size) (wX 21 a (EM a cI cZ) u) s.heap H locs) (hsize : ls.size = nL) (hcs : cells ≤ R.cells ∧ slots ≤ R.slots) (hr : (rest.map fun v => v.category).sum ≤ 8) (hdg : decode cc pc = .ok (.invokevirtual index, 3)) (kk : ∀ (H1 : Heap) (locs1 : List Loc), Hh D (AB 21 a s.heap.size) (wX 21 a (EM a cI cZ) uu) s.heap H1 locs1 → W p l e R s m args below meth c H1 locs1 cells slots Q (F0 m (pc + 3) ls (.int rr :: rest))) : W p l e R s m args below meth c H locs cells slots Q (F0 m pc ls (.int p2 :: .int p1 :: .ref (a 0) :: rest)) :=
  cVi (n := 2) hx hb hml hown hts hK hN (c_X12_set hc) (gdV hlk im_X12_set se_X12_set in_X12 co_X12_set) rfl (by decide +kernel) rfl hF hLo h hsize hcs (by decide) rfl rfl rfl hr hdg kk
def f_X12_say (u : St) (p1 : Int32) : Option (Int32 × St) := b1 (f_X12_in u (Int32.toInt64 p1) 33 126) (fun (x1 : Int32) => if x1 = 0 then some ((-2), u) else if (u.1 0 20) = 60 then some ((-4), u) else cki (u.1 0 20) 60 (bs (sI u 12 (ix (u.1 0 20)) p1) (fun u4 : St => bs (sI u4 0 20 ((u4.1 0 20) + (1 : Int32))) (fun u5 : St => some (u5.1 0 20, u5)))))
set_option maxRecDepth 100000 in
set_option maxHeartbeats 4000000 in
theorem c_X12_say {l : Launch} {D : va_G} {cI cZ : ClassId} {a : Nat → Nat} {u : St} {p1 : Int32} {rr : Int32} {uu : St} (hf : f_X12_say u p1 = some (rr, uu)) : Ci l yX12_say cX12_say 2 (some .int) 1 25 D (tyM cI cZ) 21 a (EM a cI cZ) [.ref (a 0), .int p1] u rr uu := by
  refine metI (by decide +kernel) (Nat.le_of_ble_eq_true rfl) ?_
  intro p e s m args below meth c R Q hx hb hml hown hts hF hLo hret hK hN h ls hl
  have hown : s.vm.findClass RX12 = some m.cls := hown
  have hl : lv_has ls 2 [(0, .ref (a 0)), (1, .int p1)] := hl
  unfold f_X12_say at hf
  refine lv_iload_n (pc := 0) hx hb dX12_say_0 rfl (lv_at hl 1 rfl) ?_
  refine lv_i2l (pc := 1) (v := Int32.toInt64 p1) hx hb dX12_say_1 rfl ?_
  refine lv_ldc2 (pc := 2) hx hb hown (hts _ ctl_X12_131) dX12_say_2 ?_
  refine lv_ldc2 (pc := 5) hx hb hown (hts _ ctl_X12_133) dX12_say_5 ?_
  obtain ⟨x1, hc, hf⟩ := b1_e hf
  refine kS_X12_in (pc := 8) hx hb hml hown hts hK hN hc ml_X12_97 (Nat.le_trans (by decide) hF) (Nat.le_trans (by decide) hLo) h hl.1 ⟨Nat.zero_le _, Nat.zero_le _⟩ (Nat.le_of_ble_eq_true rfl) dX12_say_8 (fun H locs h => ?_)
  refine lv_if_ne (pc := 11) (tgt := 17) hx hb dX12_say_11 (by decide) (fun c2 => ?_) (fun c2 => ?_)
  · have hf := if_f hf c2
    refine lv_aload_n (pc := 17) hx hb dX12_say_17 rfl (lv_at hl 0 rfl) ?_
    refine gM_0_20 (pc := 18) hx hb hts hown hK h fl_X12_135 dX12_say_18 ?_
    refine lv_bipush (pc := 21) (v := 60) hx hb dX12_say_21 (by decide) ?_
    refine lv_icmp_ne (pc := 23) (tgt := 29) hx hb dX12_say_23 (by decide) (fun c3 => ?_) (fun c3 => ?_)
    · have hf := if_f hf c3
      refine lv_aload_n (pc := 29) hx hb dX12_say_29 rfl (lv_at hl 0 rfl) ?_
      refine gM_0_19 (pc := 30) hx hb hts hown hK h fl_X12_43 dX12_say_30 ?_
      refine lv_aload_n (pc := 33) hx hb dX12_say_33 rfl (lv_at hl 0 rfl) ?_
      refine gM_0_20 (pc := 34) hx hb hts hown hK h fl_X12_135 dX12_say_34 ?_
      refine lv_iload_n (pc := 37) hx hb dX12_say_37 rfl (lv_at hl 1 rfl) ?_
      obtain ⟨hin, hf⟩ := cki_e hf
      refine pM_12 (pc := 38) hx hb hK h hin dX12_say_38 (fun H locs h => ?_)
      obtain ⟨u4, eu4, hf⟩ := bs_e hf
      rw [← eu4] at h
      refine lv_aload_n (pc := 39) hx hb dX12_say_39 rfl (lv_at hl 0 rfl) ?_
      refine lv_dup (pc := 40) hx hb dX12_say_40 rfl ?_
      refine gM_0_20 (pc := 41) hx hb hts hown hK h fl_X12_135 dX12_say_41 ?_
      refine lv_iconst (pc := 44) (v := 1) hx hb dX12_say_44 (by decide) ?_
      refine lv_iadd (pc := 45) hx hb dX12_say_45 ?_
      refine pM_0_20 (pc := 46) hx hb hts hown hK h fl_X12_135 dX12_say_46 (fun H locs h => ?_)
      obtain ⟨u5, eu5, hf⟩ := bs_e hf
      rw [← eu5] at h
      refine lv_aload_n (pc := 49) hx hb dX12_say_49 rfl (lv_at hl 0 rfl) ?_
      refine gM_0_20 (pc := 50) hx hb hts hown hK h fl_X12_135 dX12_say_50 ?_
      exact hret (so1 hf) rfl (so2 hf) dX12_say_53 h
    · have hf := if_t hf c3
      refine lv_bipush (pc := 26) (v := (-4)) hx hb dX12_say_26 (by decide) ?_
      exact hret (so1 hf) rfl (so2 hf) dX12_say_28 h
  · have hf := if_t hf c2
    refine lv_bipush (pc := 14) (v := (-2)) hx hb dX12_say_14 (by decide) ?_
    exact hret (so1 hf) rfl (so2 hf) dX12_say_16 h
theorem k_X12_say {p : Program} {l : Launch} {e : Env} {R : Room} {s : State} {m : MethodId} {args : Array Value} {below : List Frame} {meth : Method} {c : Code} {H : Heap} {locs : List Loc} {cells slots : Nat} {Q : State → Prop} {pc : Nat} {ls : Array Slot} {rest : List Value} {cc : ByteArray} {D : va_G} {cI cZ : ClassId} {a : Nat → Nat} {u : St} {own : String} {index nL : Nat} {p1 : Int32} {rr : Int32} {uu : St} (hx : p.tables.exec = Jvm.exec) (hb : c.code = cc) (hml : c.maxLocals = nL) (hown : s.vm.findClass own = some m.cls) (hts : ∀ w ∈ Gd, w.before args s = true) (hK : va_K D vwCl (tyM cI cZ) s) (hN : NB s) (hc : f_X12_say u p1 = some (rr, uu)) (hlk : Cond.methodLink own index yX12_say ∈ Gd) (hF : 2 ≤ R.frames) (hLo : 46 ≤ R.locals) (h : Hh D (AB 21 a s.heap.size) (wX 21 a (EM a cI cZ) u) s.heap H locs) (hsize : ls.size = nL) (hcs : cells ≤ R.cells ∧ slots ≤ R.slots) (hr : (rest.map fun v => v.category).sum ≤ 8) (hdg : decode cc pc = .ok (.invokevirtual index, 3)) (kk : ∀ (H1 : Heap) (locs1 : List Loc), Hh D (AB 21 a s.heap.size) (wX 21 a (EM a cI cZ) uu) s.heap H1 locs1 → W p l e R s m args below meth c H1 locs1 cells slots Q (F0 m (pc + 3) ls (.int rr :: rest))) : W p l e R s m args below meth c H locs cells slots Q (F0 m pc ls (.int p1 :: .ref (a 0) :: rest)) :=
  cVi (n := 1) hx hb hml hown hts hK hN (c_X12_say hc) (gdV hlk im_X12_say se_X12_say in_X12 co_X12_say) rfl (by decide +kernel) rfl hF hLo h hsize hcs (by decide) rfl rfl rfl hr hdg kk
def f_X12_wipe (u : St) : Option (Int32 × St) := bs (sI u 0 20 0) (fun u1 : St => some (u.1 0 20, u1))
set_option maxRecDepth 100000 in
set_option maxHeartbeats 4000000 in
theorem c_X12_wipe {l : Launch} {D : va_G} {cI cZ : ClassId} {a : Nat → Nat} {u : St} {rr : Int32} {uu : St} (hf : f_X12_wipe u = some (rr, uu)) : Ci l yX12_wipe cX12_wipe 2 (some .int) 0 0 D (tyM cI cZ) 21 a (EM a cI cZ) [.ref (a 0)] u rr uu := by
  refine metI (by decide +kernel) (Nat.le_of_ble_eq_true rfl) ?_
  intro p e s m args below meth c R Q hx hb hml hown hts hF hLo hret hK hN h ls hl
  have hown : s.vm.findClass RX12 = some m.cls := hown
  have hl : lv_has ls 2 [(0, .ref (a 0))] := hl
  unfold f_X12_wipe at hf
  refine lv_aload_n (pc := 0) hx hb dX12_wipe_0 rfl (lv_at hl 0 rfl) ?_
  refine gM_0_20 (pc := 1) hx hb hts hown hK h fl_X12_135 dX12_wipe_1 ?_
  refine lv_istore_n (pc := 4) (lv' := [(1, .int (u.1 0 20)), (0, .ref (a 0))]) hx hb dX12_wipe_4 rfl hl (by decide) rfl (fun ls hl => ?_)
  refine lv_aload_n (pc := 5) hx hb dX12_wipe_5 rfl (lv_at hl 1 rfl) ?_
  refine lv_iconst (pc := 6) (v := 0) hx hb dX12_wipe_6 (by decide) ?_
  refine pM_0_20 (pc := 7) hx hb hts hown hK h fl_X12_135 dX12_wipe_7 (fun H locs h => ?_)
  obtain ⟨u1, eu1, hf⟩ := bs_e hf
  rw [← eu1] at h
  refine lv_iload_n (pc := 10) hx hb dX12_wipe_10 rfl (lv_at hl 0 rfl) ?_
  exact hret (so1 hf) rfl (so2 hf) dX12_wipe_11 h
theorem k_X12_wipe {p : Program} {l : Launch} {e : Env} {R : Room} {s : State} {m : MethodId} {args : Array Value} {below : List Frame} {meth : Method} {c : Code} {H : Heap} {locs : List Loc} {cells slots : Nat} {Q : State → Prop} {pc : Nat} {ls : Array Slot} {rest : List Value} {cc : ByteArray} {D : va_G} {cI cZ : ClassId} {a : Nat → Nat} {u : St} {own : String} {index nL : Nat} {rr : Int32} {uu : St} (hx : p.tables.exec = Jvm.exec) (hb : c.code = cc) (hml : c.maxLocals = nL) (hown : s.vm.findClass own = some m.cls) (hts : ∀ w ∈ Gd, w.before args s = true) (hK : va_K D vwCl (tyM cI cZ) s) (hN : NB s) (hc : f_X12_wipe u = some (rr, uu)) (hlk : Cond.methodLink own index yX12_wipe ∈ Gd) (hF : 1 ≤ R.frames) (hLo : 21 ≤ R.locals) (h : Hh D (AB 21 a s.heap.size) (wX 21 a (EM a cI cZ) u) s.heap H locs) (hsize : ls.size = nL) (hcs : cells ≤ R.cells ∧ slots ≤ R.slots) (hr : (rest.map fun v => v.category).sum ≤ 8) (hdg : decode cc pc = .ok (.invokevirtual index, 3)) (kk : ∀ (H1 : Heap) (locs1 : List Loc), Hh D (AB 21 a s.heap.size) (wX 21 a (EM a cI cZ) uu) s.heap H1 locs1 → W p l e R s m args below meth c H1 locs1 cells slots Q (F0 m (pc + 3) ls (.int rr :: rest))) : W p l e R s m args below meth c H locs cells slots Q (F0 m pc ls (.ref (a 0) :: rest)) :=
  cVi (n := 0) hx hb hml hown hts hK hN (c_X12_wipe hc) (gdV hlk im_X12_wipe se_X12_wipe in_X12 co_X12_wipe) rfl (by decide +kernel) rfl hF hLo h hsize hcs (by decide) rfl rfl rfl hr hdg kk
def B_X12_faultOfTable_2 (u : St) (k2 : Option (Int32)) (rec4 : Int32 → Option (Int32)) (x1 : Int32) : Option (Int32) := if (u.1 0 20) ≤ x1 then k2 else if x1 = 30 then some x1 else cki x1 60 (b1 (f_X12_in u (Int32.toInt64 (u.1 12 (ix x1))) 48 57) (fun (x7 : Int32) => if x7 = 0 then some x1 else rec4 (x1 + 1)))
def f_X12_faultOfTable (u : St) : Option (Int32) := jq_0 (if (u.1 0 20) = 0 then some 0 else some ((-6))) (fun (k2 : Option (Int32)) => lq_1 (B_X12_faultOfTable_2 u k2) FU 0)
set_option maxRecDepth 100000 in
set_option maxHeartbeats 4000000 in
theorem c_X12_faultOfTable {l : Launch} {D : va_G} {cI cZ : ClassId} {a : Nat → Nat} {u : St} {rr : Int32} (hf : f_X12_faultOfTable u = some rr) : Ci l yX12_faultOfTable cX12_faultOfTable 2 (some .int) 1 25 D (tyM cI cZ) 21 a (EM a cI cZ) [.ref (a 0)] u rr u := by
  refine metI (by decide +kernel) (Nat.le_of_ble_eq_true rfl) ?_
  intro p e s m args below meth c R Q hx hb hml hown hts hF hLo hret hK hN h ls hl
  have hown : s.vm.findClass RX12 = some m.cls := hown
  have hl : lv_has ls 2 [(0, .ref (a 0))] := hl
  unfold f_X12_faultOfTable at hf
  refine lv_iconst (pc := 0) (v := 0) hx hb dX12_faultOfTable_0 (by decide) ?_
  refine lv_istore_n (pc := 1) (lv' := [(1, .int 0), (0, .ref (a 0))]) hx hb dX12_faultOfTable_1 rfl hl (by decide) rfl (fun ls hl => ?_)
  obtain ⟨k2, hk2, hf⟩ := jq_0_e hf
  have jk2 : k2 = some rr → ∀ (H : Heap) (locs : List Loc) (ls : Array Slot), Hh D (AB 21 a s.heap.size) (wX 21 a (EM a cI cZ) u) s.heap H locs → lv_has ls 2 [(0, .ref (a 0))] → W p l e R s m args below meth c H locs 0 0 Q (F0 m 43 ls []) := by
    intro hf H locs ls h hl
    rw [hk2] at hf
    refine lv_aload_n (pc := 43) hx hb dX12_faultOfTable_43 rfl (lv_at hl 0 rfl) ?_
    refine gM_0_20 (pc := 44) hx hb hts hown hK h fl_X12_135 dX12_faultOfTable_44 ?_
    refine lv_if_ne (pc := 47) (tgt := 54) hx hb dX12_faultOfTable_47 (by decide) (fun c3 => ?_) (fun c3 => ?_)
    · have hf := if_f hf c3
      refine lv_bipush (pc := 54) (v := (-6)) hx hb dX12_faultOfTable_54 (by decide) ?_
      exact hret (so hf) rfl rfl dX12_faultOfTable_56 h
    · have hf := if_t hf c3
      refine lv_iconst (pc := 50) (v := 0) hx hb dX12_faultOfTable_50 (by decide) ?_
      refine lv_goto (pc := 51) (tgt := 56) hx hb dX12_faultOfTable_51 (by decide) ?_
      exact hret (so hf) rfl rfl dX12_faultOfTable_56 h
  refine lq_1_e (P := fun (x1 : Int32) => ∀ (H : Heap) (locs : List Loc) (ls : Array Slot), Hh D (AB 21 a s.heap.size) (wX 21 a (EM a cI cZ) u) s.heap H locs → lv_has ls 2 [(0, .ref (a 0)), (1, .int x1)] → W p l e R s m args below meth c H locs 0 0 Q (F0 m 2 ls [])) ?_ FU _ hf _ _ _ h (lv_sub hl [1, 0] rfl)
  intro rec4 irec4 x1 hf H locs ls h hl
  unfold B_X12_faultOfTable_2 at hf
  refine lv_iload_n (pc := 2) hx hb dX12_faultOfTable_2 rfl (lv_at hl 1 rfl) ?_
  refine lv_aload_n (pc := 3) hx hb dX12_faultOfTable_3 rfl (lv_at hl 0 rfl) ?_
  refine gM_0_20 (pc := 4) hx hb hts hown hK h fl_X12_135 dX12_faultOfTable_4 ?_
  refine lv_icmp_ge (pc := 7) (tgt := 43) hx hb dX12_faultOfTable_7 (by decide) (fun c5 => ?_) (fun c5 => ?_)
  · have hf := if_t hf c5
    exact jk2 hf _ _ _ h (lv_sub hl [0] rfl)
  · have hf := if_f hf c5
    refine lv_iload_n (pc := 10) hx hb dX12_faultOfTable_10 rfl (lv_at hl 1 rfl) ?_
    refine lv_bipush (pc := 11) (v := 30) hx hb dX12_faultOfTable_11 (by decide) ?_
    refine lv_icmp_eq (pc := 13) (tgt := 35) hx hb dX12_faultOfTable_13 (by decide) (fun c6 => ?_) (fun c6 => ?_)
    · have hf := if_t hf c6
      refine lv_iload_n (pc := 35) hx hb dX12_faultOfTable_35 rfl (lv_at hl 1 rfl) ?_
      exact hret (so hf) rfl rfl dX12_faultOfTable_36 h
    · have hf := if_f hf c6
      refine lv_aload_n (pc := 16) hx hb dX12_faultOfTable_16 rfl (lv_at hl 0 rfl) ?_
      refine gM_0_19 (pc := 17) hx hb hts hown hK h fl_X12_43 dX12_faultOfTable_17 ?_
      refine lv_iload_n (pc := 20) hx hb dX12_faultOfTable_20 rfl (lv_at hl 1 rfl) ?_
      obtain ⟨hin, hf⟩ := cki_e hf
      refine gM_12 (pc := 21) hx hb hK h hin dX12_faultOfTable_21 ?_
      refine lv_i2l (pc := 22) (v := Int32.toInt64 (u.1 12 (ix x1))) hx hb dX12_faultOfTable_22 rfl ?_
      refine lv_ldc2 (pc := 23) hx hb hown (hts _ ctl_X12_138) dX12_faultOfTable_23 ?_
      refine lv_ldc2 (pc := 26) hx hb hown (hts _ ctl_X12_140) dX12_faultOfTable_26 ?_
      obtain ⟨x7, hc, hf⟩ := b1_e hf
      refine kS_X12_in (pc := 29) hx hb hml hown hts hK hN hc ml_X12_97 (Nat.le_trans (by decide) hF) (Nat.le_trans (by decide) hLo) h hl.1 ⟨Nat.zero_le _, Nat.zero_le _⟩ (Nat.le_of_ble_eq_true rfl) dX12_faultOfTable_29 (fun H locs h => ?_)
      refine lv_if_ne (pc := 32) (tgt := 37) hx hb dX12_faultOfTable_32 (by decide) (fun c8 => ?_) (fun c8 => ?_)
      · have hf := if_f hf c8
        refine lv_iinc (pc := 37) (v := x1 + 1) (lv' := [(1, .int (x1 + 1)), (0, .ref (a 0))]) hx hb dX12_faultOfTable_37 hl (k := 1) rfl rfl (by decide) rfl (fun ls hl => ?_)
        refine lv_goto (pc := 40) (tgt := 2) hx hb dX12_faultOfTable_40 (by decide) ?_
        exact irec4 _ hf _ _ _ h (lv_sub hl [1, 0] rfl)
      · have hf := if_t hf c8
        refine lv_iload_n (pc := 35) hx hb dX12_faultOfTable_35 rfl (lv_at hl 1 rfl) ?_
        exact hret (so hf) rfl rfl dX12_faultOfTable_36 h
theorem k_X12_faultOfTable {p : Program} {l : Launch} {e : Env} {R : Room} {s : State} {m : MethodId} {args : Array Value} {below : List Frame} {meth : Method} {c : Code} {H : Heap} {locs : List Loc} {cells slots : Nat} {Q : State → Prop} {pc : Nat} {ls : Array Slot} {rest : List Value} {cc : ByteArray} {D : va_G} {cI cZ : ClassId} {a : Nat → Nat} {u : St} {own : String} {index nL : Nat} {rr : Int32} (hx : p.tables.exec = Jvm.exec) (hb : c.code = cc) (hml : c.maxLocals = nL) (hown : s.vm.findClass own = some m.cls) (hts : ∀ w ∈ Gd, w.before args s = true) (hK : va_K D vwCl (tyM cI cZ) s) (hN : NB s) (hc : f_X12_faultOfTable u = some rr) (hlk : Cond.methodLink own index yX12_faultOfTable ∈ Gd) (hF : 2 ≤ R.frames) (hLo : 46 ≤ R.locals) (h : Hh D (AB 21 a s.heap.size) (wX 21 a (EM a cI cZ) u) s.heap H locs) (hsize : ls.size = nL) (hcs : cells ≤ R.cells ∧ slots ≤ R.slots) (hr : (rest.map fun v => v.category).sum ≤ 8) (hdg : decode cc pc = .ok (.invokevirtual index, 3)) (kk : ∀ (H1 : Heap) (locs1 : List Loc), Hh D (AB 21 a s.heap.size) (wX 21 a (EM a cI cZ) u) s.heap H1 locs1 → W p l e R s m args below meth c H1 locs1 cells slots Q (F0 m (pc + 3) ls (.int rr :: rest))) : W p l e R s m args below meth c H locs cells slots Q (F0 m pc ls (.ref (a 0) :: rest)) :=
  cVi (n := 0) hx hb hml hown hts hK hN (c_X12_faultOfTable hc) (gdV hlk im_X12_faultOfTable se_X12_faultOfTable in_X12 co_X12_faultOfTable) rfl (by decide +kernel) rfl hF hLo h hsize hcs (by decide) rfl rfl rfl hr hdg kk
def B_X12_faultOfMoves_4 (u : St) (k3 : Int32 → Option (Int32)) (rec6 : Int32 → Int32 → Option (Int32)) (x1 : Int32) (x2 : Int32) : Option (Int32) := if (u.1 0 20) ≤ x2 then k3 x1 else cki x2 60 (jq_1 (fun (x9 : Int32) => if x9 = 0 then some x2 else if x1 = 0 then if (u.1 12 (ix x2)) = 46 then rec6 0 (x2 + 1) else rec6 1 (x2 + 1) else rec6 0 (x2 + 1)) (fun (k8 : Int32 → Option (Int32)) => if x1 = 0 then if (u.1 12 (ix x2)) = 46 then k8 1 else b1 (f_X12_in u (Int32.toInt64 (u.1 12 (ix x2))) 48 55) (fun (x15 : Int32) => if x15 = 0 then k8 0 else k8 1) else b1 (f_X12_isCellar u ((u.1 12 (ix x2)) - (97 : Int32))) (fun (x17 : Int32) => k8 x17)))
def f_X12_faultOfMoves (u : St) : Option (Int32) := jq_1 (fun (x4 : Int32) => if x4 = 0 then some ((-6)) else some (u.1 0 20)) (fun (k3 : Int32 → Option (Int32)) => lq_2 (B_X12_faultOfMoves_4 u k3) FU 0 0)
set_option maxRecDepth 100000 in
set_option maxHeartbeats 4000000 in
theorem c_X12_faultOfMoves {l : Launch} {D : va_G} {cI cZ : ClassId} {a : Nat → Nat} {u : St} {rr : Int32} (hf : f_X12_faultOfMoves u = some rr) : Ci l yX12_faultOfMoves cX12_faultOfMoves 5 (some .int) 2 46 D (tyM cI cZ) 21 a (EM a cI cZ) [.ref (a 0)] u rr u := by
  refine metI (by decide +kernel) (Nat.le_of_ble_eq_true rfl) ?_
  intro p e s m args below meth c R Q hx hb hml hown hts hF hLo hret hK hN h ls hl
  have hown : s.vm.findClass RX12 = some m.cls := hown
  have hl : lv_has ls 5 [(0, .ref (a 0))] := hl
  unfold f_X12_faultOfMoves at hf
  refine lv_iconst (pc := 0) (v := 0) hx hb dX12_faultOfMoves_0 (by decide) ?_
  refine lv_istore_n (pc := 1) (lv' := [(1, .int 0), (0, .ref (a 0))]) hx hb dX12_faultOfMoves_1 rfl hl (by decide) rfl (fun ls hl => ?_)
  refine lv_iconst (pc := 2) (v := 0) hx hb dX12_faultOfMoves_2 (by decide) ?_
  refine lv_istore_n (pc := 3) (lv' := [(2, .int 0), (1, .int 0), (0, .ref (a 0))]) hx hb dX12_faultOfMoves_3 rfl hl (by decide) rfl (fun ls hl => ?_)
  obtain ⟨k3, hk3, hf⟩ := jq_1_e hf
  have jk3 : ∀ (x4 : Int32), k3 x4 = some rr → ∀ (H : Heap) (locs : List Loc) (ls : Array Slot), Hh D (AB 21 a s.heap.size) (wX 21 a (EM a cI cZ) u) s.heap H locs → lv_has ls 5 [(0, .ref (a 0)), (1, .int x4)] → W p l e R s m args below meth c H locs 0 0 Q (F0 m 90 ls []) := by
    intro x4 hf H locs ls h hl
    rw [hk3] at hf
    refine lv_iload_n (pc := 90) hx hb dX12_faultOfMoves_90 rfl (lv_at hl 1 rfl) ?_
    refine lv_if_eq (pc := 91) (tgt := 101) hx hb dX12_faultOfMoves_91 (by decide) (fun c5 => ?_) (fun c5 => ?_)
    · have hf := if_t hf c5
      refine lv_bipush (pc := 101) (v := (-6)) hx hb dX12_faultOfMoves_101 (by decide) ?_
      exact hret (so hf) rfl rfl dX12_faultOfMoves_103 h
    · have hf := if_f hf c5
      refine lv_aload_n (pc := 94) hx hb dX12_faultOfMoves_94 rfl (lv_at hl 0 rfl) ?_
      refine gM_0_20 (pc := 95) hx hb hts hown hK h fl_X12_135 dX12_faultOfMoves_95 ?_
      refine lv_goto (pc := 98) (tgt := 103) hx hb dX12_faultOfMoves_98 (by decide) ?_
      exact hret (so hf) rfl rfl dX12_faultOfMoves_103 h
  refine lq_2_e (P := fun (x1 : Int32) (x2 : Int32) => ∀ (H : Heap) (locs : List Loc) (ls : Array Slot), Hh D (AB 21 a s.heap.size) (wX 21 a (EM a cI cZ) u) s.heap H locs → lv_has ls 5 [(0, .ref (a 0)), (1, .int x1), (2, .int x2)] → W p l e R s m args below meth c H locs 0 0 Q (F0 m 4 ls [])) ?_ FU _ _ hf _ _ _ h (lv_sub hl [2, 1, 0] rfl)
  intro rec6 irec6 x1 x2 hf H locs ls h hl
  unfold B_X12_faultOfMoves_4 at hf
  refine lv_iload_n (pc := 4) hx hb dX12_faultOfMoves_4 rfl (lv_at hl 2 rfl) ?_
  refine lv_aload_n (pc := 5) hx hb dX12_faultOfMoves_5 rfl (lv_at hl 0 rfl) ?_
  refine gM_0_20 (pc := 6) hx hb hts hown hK h fl_X12_135 dX12_faultOfMoves_6 ?_
  refine lv_icmp_ge (pc := 9) (tgt := 90) hx hb dX12_faultOfMoves_9 (by decide) (fun c7 => ?_) (fun c7 => ?_)
  · have hf := if_t hf c7
    exact jk3 _ hf _ _ _ h (lv_sub hl [0, 1] rfl)
  · have hf := if_f hf c7
    refine lv_aload_n (pc := 12) hx hb dX12_faultOfMoves_12 rfl (lv_at hl 0 rfl) ?_
    refine gM_0_19 (pc := 13) hx hb hts hown hK h fl_X12_43 dX12_faultOfMoves_13 ?_
    refine lv_iload_n (pc := 16) hx hb dX12_faultOfMoves_16 rfl (lv_at hl 2 rfl) ?_
    obtain ⟨hin, hf⟩ := cki_e hf
    refine gM_12 (pc := 17) hx hb hK h hin dX12_faultOfMoves_17 ?_
    refine lv_istore_n (pc := 18) (lv' := [(3, .int (u.1 12 (ix x2))), (0, .ref (a 0)), (1, .int x1), (2, .int x2)]) hx hb dX12_faultOfMoves_18 rfl hl (by decide) rfl (fun ls hl => ?_)
    refine lv_iload_n (pc := 19) hx hb dX12_faultOfMoves_19 rfl (lv_at hl 2 rfl) ?_
    obtain ⟨k8, hk8, hf⟩ := jq_1_e hf
    have jk8 : ∀ (x9 : Int32), k8 x9 = some rr → ∀ (H : Heap) (locs : List Loc) (ls : Array Slot), Hh D (AB 21 a s.heap.size) (wX 21 a (EM a cI cZ) u) s.heap H locs → lv_has ls 5 [(0, .ref (a 0)), (1, .int x1), (2, .int x2), (3, .int (u.1 12 (ix x2)))] → W p l e R s m args below meth c H locs 0 0 Q (F0 m 59 ls [.int x9]) := by
      intro x9 hf H locs ls h hl
      rw [hk8] at hf
      refine lv_istore (pc := 59) (lv' := [(4, .int x9), (0, .ref (a 0)), (1, .int x1), (2, .int x2), (3, .int (u.1 12 (ix x2)))]) hx hb dX12_faultOfMoves_59 hl (by decide) rfl (fun ls hl => ?_)
      refine lv_iload (pc := 61) hx hb dX12_faultOfMoves_61 (lv_at hl 0 rfl) ?_
      refine lv_if_ne (pc := 63) (tgt := 68) hx hb dX12_faultOfMoves_63 (by decide) (fun c10 => ?_) (fun c10 => ?_)
      · have hf := if_f hf c10
        refine lv_iload_n (pc := 68) hx hb dX12_faultOfMoves_68 rfl (lv_at hl 2 rfl) ?_
        refine lv_if_ne (pc := 69) (tgt := 82) hx hb dX12_faultOfMoves_69 (by decide) (fun c11 => ?_) (fun c11 => ?_)
        · have hf := if_f hf c11
          refine lv_iconst (pc := 82) (v := 0) hx hb dX12_faultOfMoves_82 (by decide) ?_
          refine lv_istore_n (pc := 83) (lv' := [(1, .int 0), (4, .int x9), (0, .ref (a 0)), (2, .int x2), (3, .int (u.1 12 (ix x2)))]) hx hb dX12_faultOfMoves_83 rfl hl (by decide) rfl (fun ls hl => ?_)
          refine lv_iinc (pc := 84) (v := x2 + 1) (lv' := [(2, .int (x2 + 1)), (1, .int 0), (4, .int x9), (0, .ref (a 0)), (3, .int (u.1 12 (ix x2)))]) hx hb dX12_faultOfMoves_84 hl (k := 3) rfl rfl (by decide) rfl (fun ls hl => ?_)
          refine lv_goto (pc := 87) (tgt := 4) hx hb dX12_faultOfMoves_87 (by decide) ?_
          exact irec6 _ _ hf _ _ _ h (lv_sub hl [3, 1, 0] rfl)
        · have hf := if_t hf c11
          refine lv_iload_n (pc := 72) hx hb dX12_faultOfMoves_72 rfl (lv_at hl 4 rfl) ?_
          refine lv_bipush (pc := 73) (v := 46) hx hb dX12_faultOfMoves_73 (by decide) ?_
          refine lv_icmp_eq (pc := 75) (tgt := 82) hx hb dX12_faultOfMoves_75 (by decide) (fun c12 => ?_) (fun c12 => ?_)
          · have hf := if_t hf c12
            refine lv_iconst (pc := 82) (v := 0) hx hb dX12_faultOfMoves_82 (by decide) ?_
            refine lv_istore_n (pc := 83) (lv' := [(1, .int 0), (4, .int x9), (0, .ref (a 0)), (2, .int x2), (3, .int (u.1 12 (ix x2)))]) hx hb dX12_faultOfMoves_83 rfl hl (by decide) rfl (fun ls hl => ?_)
            refine lv_iinc (pc := 84) (v := x2 + 1) (lv' := [(2, .int (x2 + 1)), (1, .int 0), (4, .int x9), (0, .ref (a 0)), (3, .int (u.1 12 (ix x2)))]) hx hb dX12_faultOfMoves_84 hl (k := 3) rfl rfl (by decide) rfl (fun ls hl => ?_)
            refine lv_goto (pc := 87) (tgt := 4) hx hb dX12_faultOfMoves_87 (by decide) ?_
            exact irec6 _ _ hf _ _ _ h (lv_sub hl [3, 1, 0] rfl)
          · have hf := if_f hf c12
            refine lv_iconst (pc := 78) (v := 1) hx hb dX12_faultOfMoves_78 (by decide) ?_
            refine lv_goto (pc := 79) (tgt := 83) hx hb dX12_faultOfMoves_79 (by decide) ?_
            refine lv_istore_n (pc := 83) (lv' := [(1, .int 1), (4, .int x9), (0, .ref (a 0)), (2, .int x2), (3, .int (u.1 12 (ix x2)))]) hx hb dX12_faultOfMoves_83 rfl hl (by decide) rfl (fun ls hl => ?_)
            refine lv_iinc (pc := 84) (v := x2 + 1) (lv' := [(2, .int (x2 + 1)), (1, .int 1), (4, .int x9), (0, .ref (a 0)), (3, .int (u.1 12 (ix x2)))]) hx hb dX12_faultOfMoves_84 hl (k := 3) rfl rfl (by decide) rfl (fun ls hl => ?_)
            refine lv_goto (pc := 87) (tgt := 4) hx hb dX12_faultOfMoves_87 (by decide) ?_
            exact irec6 _ _ hf _ _ _ h (lv_sub hl [3, 1, 0] rfl)
      · have hf := if_t hf c10
        refine lv_iload_n (pc := 66) hx hb dX12_faultOfMoves_66 rfl (lv_at hl 3 rfl) ?_
        exact hret (so hf) rfl rfl dX12_faultOfMoves_67 h
    refine lv_if_eq (pc := 20) (tgt := 34) hx hb dX12_faultOfMoves_20 (by decide) (fun c13 => ?_) (fun c13 => ?_)
    · have hf := if_t hf c13
      refine lv_iload_n (pc := 34) hx hb dX12_faultOfMoves_34 rfl (lv_at hl 0 rfl) ?_
      refine lv_bipush (pc := 35) (v := 46) hx hb dX12_faultOfMoves_35 (by decide) ?_
      refine lv_icmp_eq (pc := 37) (tgt := 54) hx hb dX12_faultOfMoves_37 (by decide) (fun c14 => ?_) (fun c14 => ?_)
      · have hf := if_t hf c14
        refine lv_iconst (pc := 54) (v := 1) hx hb dX12_faultOfMoves_54 (by decide) ?_
        refine lv_goto (pc := 55) (tgt := 59) hx hb dX12_faultOfMoves_55 (by decide) ?_
        exact jk8 _ hf _ _ _ h (lv_sub hl [1, 2, 3, 0] rfl)
      · have hf := if_f hf c14
        refine lv_iload_n (pc := 40) hx hb dX12_faultOfMoves_40 rfl (lv_at hl 0 rfl) ?_
        refine lv_i2l (pc := 41) (v := Int32.toInt64 (u.1 12 (ix x2))) hx hb dX12_faultOfMoves_41 rfl ?_
        refine lv_ldc2 (pc := 42) hx hb hown (hts _ ctl_X12_138) dX12_faultOfMoves_42 ?_
        refine lv_ldc2 (pc := 45) hx hb hown (hts _ ctl_X12_142) dX12_faultOfMoves_45 ?_
        obtain ⟨x15, hc, hf⟩ := b1_e hf
        refine kS_X12_in (pc := 48) hx hb hml hown hts hK hN hc ml_X12_97 (Nat.le_trans (by decide) hF) (Nat.le_trans (by decide) hLo) h hl.1 ⟨Nat.zero_le _, Nat.zero_le _⟩ (Nat.le_of_ble_eq_true rfl) dX12_faultOfMoves_48 (fun H locs h => ?_)
        refine lv_if_eq (pc := 51) (tgt := 58) hx hb dX12_faultOfMoves_51 (by decide) (fun c16 => ?_) (fun c16 => ?_)
        · have hf := if_t hf c16
          refine lv_iconst (pc := 58) (v := 0) hx hb dX12_faultOfMoves_58 (by decide) ?_
          exact jk8 _ hf _ _ _ h (lv_sub hl [1, 2, 3, 0] rfl)
        · have hf := if_f hf c16
          refine lv_iconst (pc := 54) (v := 1) hx hb dX12_faultOfMoves_54 (by decide) ?_
          refine lv_goto (pc := 55) (tgt := 59) hx hb dX12_faultOfMoves_55 (by decide) ?_
          exact jk8 _ hf _ _ _ h (lv_sub hl [1, 2, 3, 0] rfl)
    · have hf := if_f hf c13
      refine lv_aload_n (pc := 23) hx hb dX12_faultOfMoves_23 rfl (lv_at hl 1 rfl) ?_
      refine lv_iload_n (pc := 24) hx hb dX12_faultOfMoves_24 rfl (lv_at hl 0 rfl) ?_
      refine lv_bipush (pc := 25) (v := 97) hx hb dX12_faultOfMoves_25 (by decide) ?_
      refine lv_isub (pc := 27) hx hb dX12_faultOfMoves_27 ?_
      obtain ⟨x17, hc, hf⟩ := b1_e hf
      refine k_X12_isCellar (pc := 28) hx hb hml hown hts hK hN hc ml_X12_112 (Nat.le_trans (by decide) hF) (Nat.le_trans (by decide) hLo) h hl.1 ⟨Nat.zero_le _, Nat.zero_le _⟩ (Nat.le_of_ble_eq_true rfl) dX12_faultOfMoves_28 (fun H locs h => ?_)
      refine lv_goto (pc := 31) (tgt := 59) hx hb dX12_faultOfMoves_31 (by decide) ?_
      exact jk8 _ hf _ _ _ h (lv_sub hl [1, 2, 3, 0] rfl)
theorem k_X12_faultOfMoves {p : Program} {l : Launch} {e : Env} {R : Room} {s : State} {m : MethodId} {args : Array Value} {below : List Frame} {meth : Method} {c : Code} {H : Heap} {locs : List Loc} {cells slots : Nat} {Q : State → Prop} {pc : Nat} {ls : Array Slot} {rest : List Value} {cc : ByteArray} {D : va_G} {cI cZ : ClassId} {a : Nat → Nat} {u : St} {own : String} {index nL : Nat} {rr : Int32} (hx : p.tables.exec = Jvm.exec) (hb : c.code = cc) (hml : c.maxLocals = nL) (hown : s.vm.findClass own = some m.cls) (hts : ∀ w ∈ Gd, w.before args s = true) (hK : va_K D vwCl (tyM cI cZ) s) (hN : NB s) (hc : f_X12_faultOfMoves u = some rr) (hlk : Cond.methodLink own index yX12_faultOfMoves ∈ Gd) (hF : 3 ≤ R.frames) (hLo : 70 ≤ R.locals) (h : Hh D (AB 21 a s.heap.size) (wX 21 a (EM a cI cZ) u) s.heap H locs) (hsize : ls.size = nL) (hcs : cells ≤ R.cells ∧ slots ≤ R.slots) (hr : (rest.map fun v => v.category).sum ≤ 8) (hdg : decode cc pc = .ok (.invokevirtual index, 3)) (kk : ∀ (H1 : Heap) (locs1 : List Loc), Hh D (AB 21 a s.heap.size) (wX 21 a (EM a cI cZ) u) s.heap H1 locs1 → W p l e R s m args below meth c H1 locs1 cells slots Q (F0 m (pc + 3) ls (.int rr :: rest))) : W p l e R s m args below meth c H locs cells slots Q (F0 m pc ls (.ref (a 0) :: rest)) :=
  cVi (n := 0) hx hb hml hown hts hK hN (c_X12_faultOfMoves hc) (gdV hlk im_X12_faultOfMoves se_X12_faultOfMoves in_X12 co_X12_faultOfMoves) rfl (by decide +kernel) rfl hF hLo h hsize hcs (by decide) rfl rfl rfl hr hdg kk
