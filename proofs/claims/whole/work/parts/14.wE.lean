def f_X11_table (u : St) : Option (Int32 × St) := b1 (f_X3_faultAsTable u) (fun (x1 : Int32) => if x1 = ((-6)) then b1 (f_X8_readFrom u) (fun (u3 : St) => bs (sI u3 18 1 0) (fun u4 : St => some (u4.1 10 1, u4))) else some ((-5), u))
set_option maxRecDepth 100000 in
set_option maxHeartbeats 4000000 in
theorem c_X11_table {l : Launch} {D : va_G} {cI cJ cR : ClassId} {a : Nat → Nat} {u : St} {N : Nat} (hNN : 38 ≤ N) {rr : Int32} {uu : St} (hf : f_X11_table u = some (rr, uu)) : Ci l yX11_table cX11_table 1 (some .int) 2 43 D (tyB cI cJ cR) N a (EB a cI cJ cR) [.ref (a 0)] u rr uu := by
  refine metI (by decide +kernel) (Nat.le_of_ble_eq_true rfl) ?_
  intro p e s m args below meth c R Q hx hb hml hown hts hF hLo hret hK hN h ls hl
  have hown : s.vm.findClass RX11 = some m.cls := hown
  have hl : lv_has ls 1 [(0, .ref (a 0))] := hl
  unfold f_X11_table at hf
  refine lv_aload_n (pc := 0) hx hb dX11_table_0 rfl (lv_at hl 0 rfl) ?_
  refine gB_0_2 (pc := 1) hNN hx hb hts hown hK h fl_X11_23 dX11_table_1 ?_
  obtain ⟨x1, hc, hf⟩ := b1_e hf
  refine k_X3_faultAsTable (pc := 4) hNN hx hb hml hown hts hK hN hc ml_X11_151 (Nat.le_trans (by decide) hF) (Nat.le_trans (by decide) hLo) h hl.1 ⟨Nat.zero_le _, Nat.zero_le _⟩ (Nat.le_of_ble_eq_true rfl) dX11_table_4 (fun H locs h => ?_)
  refine lv_bipush (pc := 7) (v := (-6)) hx hb dX11_table_7 (by decide) ?_
  refine lv_icmp_eq (pc := 9) (tgt := 15) hx hb dX11_table_9 (by decide) (fun c2 => ?_) (fun c2 => ?_)
  · have hf := if_t hf c2
    refine lv_aload_n (pc := 15) hx hb dX11_table_15 rfl (lv_at hl 0 rfl) ?_
    refine gB_0_0 (pc := 16) hNN hx hb hts hown hK h fl_X11_12 dX11_table_16 ?_
    refine gB_1_2 (pc := 19) hNN hx hb hts hown hK h fl_X11_158 dX11_table_19 ?_
    refine lv_aload_n (pc := 22) hx hb dX11_table_22 rfl (lv_at hl 0 rfl) ?_
    refine gB_0_2 (pc := 23) hNN hx hb hts hown hK h fl_X11_23 dX11_table_23 ?_
    obtain ⟨u3, hc, hf⟩ := b1_e hf
    refine k_X8_readFrom (pc := 26) hNN hx hb hml hown hts hK hN hc ml_X11_162 (Nat.le_trans (by decide) hF) (Nat.le_trans (by decide) hLo) h hl.1 ⟨Nat.zero_le _, Nat.zero_le _⟩ (Nat.le_of_ble_eq_true rfl) dX11_table_26 (fun H locs h => ?_)
    refine lv_aload_n (pc := 29) hx hb dX11_table_29 rfl (lv_at hl 0 rfl) ?_
    refine gB_0_2 (pc := 30) hNN hx hb hts hown hK h fl_X11_23 dX11_table_30 ?_
    refine lv_iconst (pc := 33) (v := 0) hx hb dX11_table_33 (by decide) ?_
    refine pB_18_1 (pc := 34) hNN hx hb hts hown hK h fl_X11_147 dX11_table_34 (fun H locs h => ?_)
    obtain ⟨u4, eu4, hf⟩ := bs_e hf
    rw [← eu4] at h
    refine lv_aload_n (pc := 37) hx hb dX11_table_37 rfl (lv_at hl 0 rfl) ?_
    refine gB_0_0 (pc := 38) hNN hx hb hts hown hK h fl_X11_12 dX11_table_38 ?_
    refine gB_1_2 (pc := 41) hNN hx hb hts hown hK h fl_X11_158 dX11_table_41 ?_
    refine gB_10_1 (pc := 44) hNN hx hb hts hown hK h fl_X11_168 dX11_table_44 ?_
    exact hret (so1 hf) rfl (so2 hf) dX11_table_47 h
  · have hf := if_f hf c2
    refine lv_bipush (pc := 12) (v := (-5)) hx hb dX11_table_12 (by decide) ?_
    exact hret (so1 hf) rfl (so2 hf) dX11_table_14 h
theorem k_X11_table {p : Program} {l : Launch} {e : Env} {R : Room} {s : State} {m : MethodId} {args : Array Value} {below : List Frame} {meth : Method} {c : Code} {H : Heap} {locs : List Loc} {cells slots : Nat} {Q : State → Prop} {pc : Nat} {ls : Array Slot} {rest : List Value} {cc : ByteArray} {D : va_G} {cI cJ cR : ClassId} {a : Nat → Nat} {u : St} {own : String} {index nL : Nat} {N : Nat} (hNN : 38 ≤ N) {rr : Int32} {uu : St} (hx : p.tables.exec = Jvm.exec) (hb : c.code = cc) (hml : c.maxLocals = nL) (hown : s.vm.findClass own = some m.cls) (hts : ∀ w ∈ Gd, w.before args s = true) (hK : va_K D vwCl (tyB cI cJ cR) s) (hN : NB s) (hc : f_X11_table u = some (rr, uu)) (hlk : Cond.methodLink own index yX11_table ∈ Gd) (hF : 3 ≤ R.frames) (hLo : 63 ≤ R.locals) (h : Hh D (AB N a s.heap.size) (wX N a (EB a cI cJ cR) u) s.heap H locs) (hsize : ls.size = nL) (hcs : cells ≤ R.cells ∧ slots ≤ R.slots) (hr : (rest.map fun v => v.category).sum ≤ 8) (hdg : decode cc pc = .ok (.invokevirtual index, 3)) (kk : ∀ (H1 : Heap) (locs1 : List Loc), Hh D (AB N a s.heap.size) (wX N a (EB a cI cJ cR) uu) s.heap H1 locs1 → W p l e R s m args below meth c H1 locs1 cells slots Q (F0 m (pc + 3) ls (.int rr :: rest))) : W p l e R s m args below meth c H locs cells slots Q (F0 m pc ls (.ref (a 0) :: rest)) :=
  cVi (n := 0) hx hb hml hown hts hK hN (c_X11_table hNN hc) (gdV hlk im_X11_table se_X11_table in_X11 co_X11_table) rfl (by decide +kernel) rfl hF hLo h hsize hcs (Nat.lt_of_lt_of_le (by decide) hNN) rfl rfl rfl hr hdg kk
def f_X11_level (u : St) (p1 : Int32) : Option (Int32 × St) := b1 (f_X11_within u p1 0 999) (fun (x1 : Int32) => if x1 = 0 then some ((-2), u) else b1 (f_X0_asItIs u) (fun (u3 : St) => b1 (f_X0_levelOn u3 p1) (fun (x4 : Int32) => some (x4, u3))))
set_option maxRecDepth 100000 in
set_option maxHeartbeats 4000000 in
theorem c_X11_level {l : Launch} {D : va_G} {cI cJ cR : ClassId} {a : Nat → Nat} {u : St} {N : Nat} (hNN : 38 ≤ N) {p1 : Int32} {rr : Int32} {uu : St} (hf : f_X11_level u p1 = some (rr, uu)) : Ci l yX11_level cX11_level 2 (some .int) 2 42 D (tyB cI cJ cR) N a (EB a cI cJ cR) [.ref (a 0), .int p1] u rr uu := by
  refine metI (by decide +kernel) (Nat.le_of_ble_eq_true rfl) ?_
  intro p e s m args below meth c R Q hx hb hml hown hts hF hLo hret hK hN h ls hl
  have hown : s.vm.findClass RX11 = some m.cls := hown
  have hl : lv_has ls 2 [(0, .ref (a 0)), (1, .int p1)] := hl
  unfold f_X11_level at hf
  refine lv_iload_n (pc := 0) hx hb dX11_level_0 rfl (lv_at hl 1 rfl) ?_
  refine lv_iconst (pc := 1) (v := 0) hx hb dX11_level_1 (by decide) ?_
  refine lv_sipush (pc := 2) (v := 999) hx hb dX11_level_2 (by decide) ?_
  obtain ⟨x1, hc, hf⟩ := b1_e hf
  refine kS_X11_within (pc := 5) hNN hx hb hml hown hts hK hN hc ml_X11_70 (Nat.le_trans (by decide) hF) (Nat.le_trans (by decide) hLo) h hl.1 ⟨Nat.zero_le _, Nat.zero_le _⟩ (Nat.le_of_ble_eq_true rfl) dX11_level_5 (fun H locs h => ?_)
  refine lv_if_ne (pc := 8) (tgt := 14) hx hb dX11_level_8 (by decide) (fun c2 => ?_) (fun c2 => ?_)
  · have hf := if_f hf c2
    refine lv_aload_n (pc := 14) hx hb dX11_level_14 rfl (lv_at hl 0 rfl) ?_
    refine gB_0_3 (pc := 15) hNN hx hb hts hown hK h fl_X11_32 dX11_level_15 ?_
    obtain ⟨u3, hc, hf⟩ := b1_e hf
    refine k_X0_asItIs (pc := 18) hNN hx hb hml hown hts hK hN hc ml_X11_171 (Nat.le_trans (by decide) hF) (Nat.le_trans (by decide) hLo) h hl.1 ⟨Nat.zero_le _, Nat.zero_le _⟩ (Nat.le_of_ble_eq_true rfl) dX11_level_18 (fun H locs h => ?_)
    refine lv_aload_n (pc := 21) hx hb dX11_level_21 rfl (lv_at hl 0 rfl) ?_
    refine gB_0_3 (pc := 22) hNN hx hb hts hown hK h fl_X11_32 dX11_level_22 ?_
    refine lv_iload_n (pc := 25) hx hb dX11_level_25 rfl (lv_at hl 1 rfl) ?_
    obtain ⟨x4, hc, hf⟩ := b1_e hf
    refine k_X0_levelOn (pc := 26) hNN hx hb hml hown hts hK hN hc ml_X11_174 (Nat.le_trans (by decide) hF) (Nat.le_trans (by decide) hLo) h hl.1 ⟨Nat.zero_le _, Nat.zero_le _⟩ (Nat.le_of_ble_eq_true rfl) dX11_level_26 (fun H locs h => ?_)
    exact hret (so1 hf) rfl (so2 hf) dX11_level_29 h
  · have hf := if_t hf c2
    refine lv_bipush (pc := 11) (v := (-2)) hx hb dX11_level_11 (by decide) ?_
    exact hret (so1 hf) rfl (so2 hf) dX11_level_13 h
theorem k_X11_level {p : Program} {l : Launch} {e : Env} {R : Room} {s : State} {m : MethodId} {args : Array Value} {below : List Frame} {meth : Method} {c : Code} {H : Heap} {locs : List Loc} {cells slots : Nat} {Q : State → Prop} {pc : Nat} {ls : Array Slot} {rest : List Value} {cc : ByteArray} {D : va_G} {cI cJ cR : ClassId} {a : Nat → Nat} {u : St} {own : String} {index nL : Nat} {N : Nat} (hNN : 38 ≤ N) {p1 : Int32} {rr : Int32} {uu : St} (hx : p.tables.exec = Jvm.exec) (hb : c.code = cc) (hml : c.maxLocals = nL) (hown : s.vm.findClass own = some m.cls) (hts : ∀ w ∈ Gd, w.before args s = true) (hK : va_K D vwCl (tyB cI cJ cR) s) (hN : NB s) (hc : f_X11_level u p1 = some (rr, uu)) (hlk : Cond.methodLink own index yX11_level ∈ Gd) (hF : 3 ≤ R.frames) (hLo : 63 ≤ R.locals) (h : Hh D (AB N a s.heap.size) (wX N a (EB a cI cJ cR) u) s.heap H locs) (hsize : ls.size = nL) (hcs : cells ≤ R.cells ∧ slots ≤ R.slots) (hr : (rest.map fun v => v.category).sum ≤ 8) (hdg : decode cc pc = .ok (.invokevirtual index, 3)) (kk : ∀ (H1 : Heap) (locs1 : List Loc), Hh D (AB N a s.heap.size) (wX N a (EB a cI cJ cR) uu) s.heap H1 locs1 → W p l e R s m args below meth c H1 locs1 cells slots Q (F0 m (pc + 3) ls (.int rr :: rest))) : W p l e R s m args below meth c H locs cells slots Q (F0 m pc ls (.int p1 :: .ref (a 0) :: rest)) :=
  cVi (n := 1) hx hb hml hown hts hK hN (c_X11_level hNN hc) (gdV hlk im_X11_level se_X11_level in_X11 co_X11_level) rfl (by decide +kernel) rfl hF hLo h hsize hcs (Nat.lt_of_lt_of_le (by decide) hNN) rfl rfl rfl hr hdg kk
def f_X11_breath (u : St) (p1 : Int32) (p2 : Int32) : Option (Int32 × St) := b1 (f_X10_has u p1) (fun (x1 : Int32) => if x1 = 0 then some ((-1), u) else b1 (f_X11_within u p2 0 999) (fun (x3 : Int32) => if x3 = 0 then some ((-2), u) else b1 (f_X0_asItIs u) (fun (u5 : St) => b1 (f_X0_levelOn u5 p2) (fun (x6 : Int32) => b1 (f_X0_breathIn u5 p1 x6) (fun (x7 : Int32) => some (x7, u5))))))
set_option maxRecDepth 100000 in
set_option maxHeartbeats 4000000 in
theorem c_X11_breath {l : Launch} {D : va_G} {cI cJ cR : ClassId} {a : Nat → Nat} {u : St} {N : Nat} (hNN : 38 ≤ N) {p1 : Int32} {p2 : Int32} {rr : Int32} {uu : St} (hf : f_X11_breath u p1 p2 = some (rr, uu)) : Ci l yX11_breath cX11_breath 3 (some .int) 2 43 D (tyB cI cJ cR) N a (EB a cI cJ cR) [.ref (a 0), .int p1, .int p2] u rr uu := by
  refine metI (by decide +kernel) (Nat.le_of_ble_eq_true rfl) ?_
  intro p e s m args below meth c R Q hx hb hml hown hts hF hLo hret hK hN h ls hl
  have hown : s.vm.findClass RX11 = some m.cls := hown
  have hl : lv_has ls 3 [(0, .ref (a 0)), (1, .int p1), (2, .int p2)] := hl
  unfold f_X11_breath at hf
  refine lv_aload_n (pc := 0) hx hb dX11_breath_0 rfl (lv_at hl 0 rfl) ?_
  refine gB_0_0 (pc := 1) hNN hx hb hts hown hK h fl_X11_12 dX11_breath_1 ?_
  refine gB_1_0 (pc := 4) hNN hx hb hts hown hK h fl_X11_74 dX11_breath_4 ?_
  refine lv_iload_n (pc := 7) hx hb dX11_breath_7 rfl (lv_at hl 1 rfl) ?_
  obtain ⟨x1, hc, hf⟩ := b1_e hf
  refine k_X10_has (pc := 8) hNN hx hb hml hown hts hK hN hc ml_X11_104 (Nat.le_trans (by decide) hF) (Nat.le_trans (by decide) hLo) h hl.1 ⟨Nat.zero_le _, Nat.zero_le _⟩ (Nat.le_of_ble_eq_true rfl) dX11_breath_8 (fun H locs h => ?_)
  refine lv_if_ne (pc := 11) (tgt := 16) hx hb dX11_breath_11 (by decide) (fun c2 => ?_) (fun c2 => ?_)
  · have hf := if_f hf c2
    refine lv_iload_n (pc := 16) hx hb dX11_breath_16 rfl (lv_at hl 2 rfl) ?_
    refine lv_iconst (pc := 17) (v := 0) hx hb dX11_breath_17 (by decide) ?_
    refine lv_sipush (pc := 18) (v := 999) hx hb dX11_breath_18 (by decide) ?_
    obtain ⟨x3, hc, hf⟩ := b1_e hf
    refine kS_X11_within (pc := 21) hNN hx hb hml hown hts hK hN hc ml_X11_70 (Nat.le_trans (by decide) hF) (Nat.le_trans (by decide) hLo) h hl.1 ⟨Nat.zero_le _, Nat.zero_le _⟩ (Nat.le_of_ble_eq_true rfl) dX11_breath_21 (fun H locs h => ?_)
    refine lv_if_ne (pc := 24) (tgt := 30) hx hb dX11_breath_24 (by decide) (fun c4 => ?_) (fun c4 => ?_)
    · have hf := if_f hf c4
      refine lv_aload_n (pc := 30) hx hb dX11_breath_30 rfl (lv_at hl 0 rfl) ?_
      refine gB_0_3 (pc := 31) hNN hx hb hts hown hK h fl_X11_32 dX11_breath_31 ?_
      obtain ⟨u5, hc, hf⟩ := b1_e hf
      refine k_X0_asItIs (pc := 34) hNN hx hb hml hown hts hK hN hc ml_X11_171 (Nat.le_trans (by decide) hF) (Nat.le_trans (by decide) hLo) h hl.1 ⟨Nat.zero_le _, Nat.zero_le _⟩ (Nat.le_of_ble_eq_true rfl) dX11_breath_34 (fun H locs h => ?_)
      refine lv_aload_n (pc := 37) hx hb dX11_breath_37 rfl (lv_at hl 0 rfl) ?_
      refine gB_0_3 (pc := 38) hNN hx hb hts hown hK h fl_X11_32 dX11_breath_38 ?_
      refine lv_iload_n (pc := 41) hx hb dX11_breath_41 rfl (lv_at hl 1 rfl) ?_
      refine lv_aload_n (pc := 42) hx hb dX11_breath_42 rfl (lv_at hl 0 rfl) ?_
      refine gB_0_3 (pc := 43) hNN hx hb hts hown hK h fl_X11_32 dX11_breath_43 ?_
      refine lv_iload_n (pc := 46) hx hb dX11_breath_46 rfl (lv_at hl 2 rfl) ?_
      obtain ⟨x6, hc, hf⟩ := b1_e hf
      refine k_X0_levelOn (pc := 47) hNN hx hb hml hown hts hK hN hc ml_X11_174 (Nat.le_trans (by decide) hF) (Nat.le_trans (by decide) hLo) h hl.1 ⟨Nat.zero_le _, Nat.zero_le _⟩ (Nat.le_of_ble_eq_true rfl) dX11_breath_47 (fun H locs h => ?_)
      obtain ⟨x7, hc, hf⟩ := b1_e hf
      refine k_X0_breathIn (pc := 50) hNN hx hb hml hown hts hK hN hc ml_X11_177 (Nat.le_trans (by decide) hF) (Nat.le_trans (by decide) hLo) h hl.1 ⟨Nat.zero_le _, Nat.zero_le _⟩ (Nat.le_of_ble_eq_true rfl) dX11_breath_50 (fun H locs h => ?_)
      exact hret (so1 hf) rfl (so2 hf) dX11_breath_53 h
    · have hf := if_t hf c4
      refine lv_bipush (pc := 27) (v := (-2)) hx hb dX11_breath_27 (by decide) ?_
      exact hret (so1 hf) rfl (so2 hf) dX11_breath_29 h
  · have hf := if_t hf c2
    refine lv_iconst (pc := 14) (v := (-1)) hx hb dX11_breath_14 (by decide) ?_
    exact hret (so1 hf) rfl (so2 hf) dX11_breath_15 h
theorem k_X11_breath {p : Program} {l : Launch} {e : Env} {R : Room} {s : State} {m : MethodId} {args : Array Value} {below : List Frame} {meth : Method} {c : Code} {H : Heap} {locs : List Loc} {cells slots : Nat} {Q : State → Prop} {pc : Nat} {ls : Array Slot} {rest : List Value} {cc : ByteArray} {D : va_G} {cI cJ cR : ClassId} {a : Nat → Nat} {u : St} {own : String} {index nL : Nat} {N : Nat} (hNN : 38 ≤ N) {p1 : Int32} {p2 : Int32} {rr : Int32} {uu : St} (hx : p.tables.exec = Jvm.exec) (hb : c.code = cc) (hml : c.maxLocals = nL) (hown : s.vm.findClass own = some m.cls) (hts : ∀ w ∈ Gd, w.before args s = true) (hK : va_K D vwCl (tyB cI cJ cR) s) (hN : NB s) (hc : f_X11_breath u p1 p2 = some (rr, uu)) (hlk : Cond.methodLink own index yX11_breath ∈ Gd) (hF : 3 ≤ R.frames) (hLo : 65 ≤ R.locals) (h : Hh D (AB N a s.heap.size) (wX N a (EB a cI cJ cR) u) s.heap H locs) (hsize : ls.size = nL) (hcs : cells ≤ R.cells ∧ slots ≤ R.slots) (hr : (rest.map fun v => v.category).sum ≤ 8) (hdg : decode cc pc = .ok (.invokevirtual index, 3)) (kk : ∀ (H1 : Heap) (locs1 : List Loc), Hh D (AB N a s.heap.size) (wX N a (EB a cI cJ cR) uu) s.heap H1 locs1 → W p l e R s m args below meth c H1 locs1 cells slots Q (F0 m (pc + 3) ls (.int rr :: rest))) : W p l e R s m args below meth c H locs cells slots Q (F0 m pc ls (.int p2 :: .int p1 :: .ref (a 0) :: rest)) :=
  cVi (n := 2) hx hb hml hown hts hK hN (c_X11_breath hNN hc) (gdV hlk im_X11_breath se_X11_breath in_X11 co_X11_breath) rfl (by decide +kernel) rfl hF hLo h hsize hcs (Nat.lt_of_lt_of_le (by decide) hNN) rfl rfl rfl hr hdg kk
def f_X11_followPad (u : St) (p1 : Int32) : Option (Int32 × St) := b1 (f_X3_faultAsMoves u (u.1 2 2)) (fun (x1 : Int32) => if x1 = ((-6)) then b1 (f_X0_asItIs u) (fun (u3 : St) => b1 (f_X1_follow u3 p1) (fun (u4 : St) => some (1, u4))) else some (0, u))
set_option maxRecDepth 100000 in
set_option maxHeartbeats 4000000 in
theorem c_X11_followPad {l : Launch} {D : va_G} {cI cJ cR : ClassId} {a : Nat → Nat} {u : St} {N : Nat} (hNN : 38 ≤ N) {p1 : Int32} {rr : Int32} {uu : St} (hf : f_X11_followPad u p1 = some (rr, uu)) : Ci l yX11_followPad cX11_followPad 2 (some .boolean) 5 117 D (tyB cI cJ cR) N a (EB a cI cJ cR) [.ref (a 0), .int p1] u rr uu := by
  refine metI (by decide +kernel) (Nat.le_of_ble_eq_true rfl) ?_
  intro p e s m args below meth c R Q hx hb hml hown hts hF hLo hret hK hN h ls hl
  have hown : s.vm.findClass RX11 = some m.cls := hown
  have hl : lv_has ls 2 [(0, .ref (a 0)), (1, .int p1)] := hl
  unfold f_X11_followPad at hf
  refine lv_aload_n (pc := 0) hx hb dX11_followPad_0 rfl (lv_at hl 0 rfl) ?_
  refine gB_0_2 (pc := 1) hNN hx hb hts hown hK h fl_X11_23 dX11_followPad_1 ?_
  refine lv_aload_n (pc := 4) hx hb dX11_followPad_4 rfl (lv_at hl 0 rfl) ?_
  refine gB_0_0 (pc := 5) hNN hx hb hts hown hK h fl_X11_12 dX11_followPad_5 ?_
  refine gB_1_0 (pc := 8) hNN hx hb hts hown hK h fl_X11_74 dX11_followPad_8 ?_
  refine gB_2_2 (pc := 11) hNN hx hb hts hown hK h fl_X11_78 dX11_followPad_11 ?_
  obtain ⟨x1, hc, hf⟩ := b1_e hf
  refine k_X3_faultAsMoves (pc := 14) hNN hx hb hml hown hts hK hN hc ml_X11_155 (Nat.le_trans (by decide) hF) (Nat.le_trans (by decide) hLo) h hl.1 ⟨Nat.zero_le _, Nat.zero_le _⟩ (Nat.le_of_ble_eq_true rfl) dX11_followPad_14 (fun H locs h => ?_)
  refine lv_bipush (pc := 17) (v := (-6)) hx hb dX11_followPad_17 (by decide) ?_
  refine lv_icmp_eq (pc := 19) (tgt := 24) hx hb dX11_followPad_19 (by decide) (fun c2 => ?_) (fun c2 => ?_)
  · have hf := if_t hf c2
    refine lv_aload_n (pc := 24) hx hb dX11_followPad_24 rfl (lv_at hl 0 rfl) ?_
    refine gB_0_3 (pc := 25) hNN hx hb hts hown hK h fl_X11_32 dX11_followPad_25 ?_
    obtain ⟨u3, hc, hf⟩ := b1_e hf
    refine k_X0_asItIs (pc := 28) hNN hx hb hml hown hts hK hN hc ml_X11_171 (Nat.le_trans (by decide) hF) (Nat.le_trans (by decide) hLo) h hl.1 ⟨Nat.zero_le _, Nat.zero_le _⟩ (Nat.le_of_ble_eq_true rfl) dX11_followPad_28 (fun H locs h => ?_)
    refine lv_aload_n (pc := 31) hx hb dX11_followPad_31 rfl (lv_at hl 0 rfl) ?_
    refine gB_0_4 (pc := 32) hNN hx hb hts hown hK h fl_X11_41 dX11_followPad_32 ?_
    refine lv_aload_n (pc := 35) hx hb dX11_followPad_35 rfl (lv_at hl 0 rfl) ?_
    refine gB_0_2 (pc := 36) hNN hx hb hts hown hK h fl_X11_23 dX11_followPad_36 ?_
    refine lv_iload_n (pc := 39) hx hb dX11_followPad_39 rfl (lv_at hl 1 rfl) ?_
    obtain ⟨u4, hc, hf⟩ := b1_e hf
    refine k_X1_follow (pc := 40) hNN hx hb hml hown hts hK hN hc ml_X11_205 (Nat.le_trans (by decide) hF) (Nat.le_trans (by decide) hLo) h hl.1 ⟨Nat.zero_le _, Nat.zero_le _⟩ (Nat.le_of_ble_eq_true rfl) dX11_followPad_40 (fun H locs h => ?_)
    refine lv_iconst (pc := 43) (v := 1) hx hb dX11_followPad_43 (by decide) ?_
    exact hret (so1 hf) rfl (so2 hf) dX11_followPad_44 h
  · have hf := if_f hf c2
    refine lv_iconst (pc := 22) (v := 0) hx hb dX11_followPad_22 (by decide) ?_
    exact hret (so1 hf) rfl (so2 hf) dX11_followPad_23 h
theorem k_X11_followPad {p : Program} {l : Launch} {e : Env} {R : Room} {s : State} {m : MethodId} {args : Array Value} {below : List Frame} {meth : Method} {c : Code} {H : Heap} {locs : List Loc} {cells slots : Nat} {Q : State → Prop} {pc : Nat} {ls : Array Slot} {rest : List Value} {cc : ByteArray} {D : va_G} {cI cJ cR : ClassId} {a : Nat → Nat} {u : St} {own : String} {index nL : Nat} {N : Nat} (hNN : 38 ≤ N) {p1 : Int32} {rr : Int32} {uu : St} (hx : p.tables.exec = Jvm.exec) (hb : c.code = cc) (hml : c.maxLocals = nL) (hown : s.vm.findClass own = some m.cls) (hts : ∀ w ∈ Gd, w.before args s = true) (hK : va_K D vwCl (tyB cI cJ cR) s) (hN : NB s) (hc : f_X11_followPad u p1 = some (rr, uu)) (hlk : Cond.methodLink own index yX11_followPad ∈ Gd) (hF : 6 ≤ R.frames) (hLo : 138 ≤ R.locals) (h : Hh D (AB N a s.heap.size) (wX N a (EB a cI cJ cR) u) s.heap H locs) (hsize : ls.size = nL) (hcs : cells ≤ R.cells ∧ slots ≤ R.slots) (hr : (rest.map fun v => v.category).sum ≤ 8) (hdg : decode cc pc = .ok (.invokevirtual index, 3)) (kk : ∀ (H1 : Heap) (locs1 : List Loc), Hh D (AB N a s.heap.size) (wX N a (EB a cI cJ cR) uu) s.heap H1 locs1 → W p l e R s m args below meth c H1 locs1 cells slots Q (F0 m (pc + 3) ls (.int rr :: rest))) : W p l e R s m args below meth c H locs cells slots Q (F0 m pc ls (.int p1 :: .ref (a 0) :: rest)) :=
  cVi (n := 1) hx hb hml hown hts hK hN (c_X11_followPad hNN hc) (gdV hlk im_X11_followPad se_X11_followPad in_X11 co_X11_followPad) rfl (by decide +kernel) rfl hF hLo h hsize hcs (Nat.lt_of_lt_of_le (by decide) hNN) rfl rfl rfl hr hdg kk
def f_X11_judge (u : St) (p1 : Int32) : Option (Int32 × St) := b1 (f_X11_within u p1 0 3) (fun (x1 : Int32) => if x1 = 0 then some ((-2), u) else cki 1 7 (b2 (f_X11_followPad u (u.1 16 (ix 1))) (fun (x3 : Int32) (u4 : St) => if x3 = 0 then some ((-5), u4) else jq_1 (fun (x7 : Int32) => if p1 = 0 then if x7 = 0 then some ((-6), u4) else some (u4.1 21 6, u4) else if p1 = 1 then if x7 = 0 then some ((-6), u4) else some (u4.1 21 7, u4) else if p1 = 2 then if x7 = 0 then some (u4.1 21 8, u4) else some ((-3), u4) else if x7 = 0 then some (u4.1 21 5, u4) else some ((-3), u4)) (fun (k6 : Int32 → Option (Int32 × St)) => if (u4.1 21 7) = 0 then k6 0 else k6 1))))
set_option maxRecDepth 100000 in
set_option maxHeartbeats 4000000 in
theorem c_X11_judge {l : Launch} {D : va_G} {cI cJ cR : ClassId} {a : Nat → Nat} {u : St} {N : Nat} (hNN : 38 ≤ N) {p1 : Int32} {rr : Int32} {uu : St} (hf : f_X11_judge u p1 = some (rr, uu)) : Ci l yX11_judge cX11_judge 3 (some .int) 6 138 D (tyB cI cJ cR) N a (EB a cI cJ cR) [.ref (a 0), .int p1] u rr uu := by
  refine metI (by decide +kernel) (Nat.le_of_ble_eq_true rfl) ?_
  intro p e s m args below meth c R Q hx hb hml hown hts hF hLo hret hK hN h ls hl
  have hown : s.vm.findClass RX11 = some m.cls := hown
  have hl : lv_has ls 3 [(0, .ref (a 0)), (1, .int p1)] := hl
  unfold f_X11_judge at hf
  refine lv_iload_n (pc := 0) hx hb dX11_judge_0 rfl (lv_at hl 1 rfl) ?_
  refine lv_iconst (pc := 1) (v := 0) hx hb dX11_judge_1 (by decide) ?_
  refine lv_iconst (pc := 2) (v := 3) hx hb dX11_judge_2 (by decide) ?_
  obtain ⟨x1, hc, hf⟩ := b1_e hf
  refine kS_X11_within (pc := 3) hNN hx hb hml hown hts hK hN hc ml_X11_70 (Nat.le_trans (by decide) hF) (Nat.le_trans (by decide) hLo) h hl.1 ⟨Nat.zero_le _, Nat.zero_le _⟩ (Nat.le_of_ble_eq_true rfl) dX11_judge_3 (fun H locs h => ?_)
  refine lv_if_ne (pc := 6) (tgt := 12) hx hb dX11_judge_6 (by decide) (fun c2 => ?_) (fun c2 => ?_)
  · have hf := if_f hf c2
    refine lv_aload_n (pc := 12) hx hb dX11_judge_12 rfl (lv_at hl 0 rfl) ?_
    refine lv_aload_n (pc := 13) hx hb dX11_judge_13 rfl (lv_at hl 0 rfl) ?_
    refine gB_0_0 (pc := 14) hNN hx hb hts hown hK h fl_X11_12 dX11_judge_14 ?_
    refine gB_1_4 (pc := 17) hNN hx hb hts hown hK h fl_X11_138 dX11_judge_17 ?_
    refine lv_iconst (pc := 20) (v := 1) hx hb dX11_judge_20 (by decide) ?_
    obtain ⟨hin, hf⟩ := cki_e hf
    refine gB_16 (pc := 21) hNN hx hb hK h hin dX11_judge_21 ?_
    obtain ⟨x3, u4, hc, hf⟩ := b2_e hf
    refine k_X11_followPad (pc := 22) hNN hx hb hml hown hts hK hN hc ml_X11_180 (Nat.le_trans (by decide) hF) (Nat.le_trans (by decide) hLo) h hl.1 ⟨Nat.zero_le _, Nat.zero_le _⟩ (Nat.le_of_ble_eq_true rfl) dX11_judge_22 (fun H locs h => ?_)
    refine lv_if_ne (pc := 25) (tgt := 31) hx hb dX11_judge_25 (by decide) (fun c5 => ?_) (fun c5 => ?_)
    · have hf := if_f hf c5
      refine lv_aload_n (pc := 31) hx hb dX11_judge_31 rfl (lv_at hl 0 rfl) ?_
      refine gB_0_4 (pc := 32) hNN hx hb hts hown hK h fl_X11_41 dX11_judge_32 ?_
      refine gB_21_7 (pc := 35) hNN hx hb hts hown hK h fl_X11_183 dX11_judge_35 ?_
      obtain ⟨k6, hk6, hf⟩ := jq_1_e hf
      have jk6 : ∀ (x7 : Int32), k6 x7 = some (rr, uu) → ∀ (H : Heap) (locs : List Loc) (ls : Array Slot), Hh D (AB N a s.heap.size) (wX N a (EB a cI cJ cR) u4) s.heap H locs → lv_has ls 3 [(0, .ref (a 0)), (1, .int p1)] → W p l e R s m args below meth c H locs 0 0 Q (F0 m 46 ls [.int x7]) := by
        intro x7 hf H locs ls h hl
        rw [hk6] at hf
        refine lv_istore_n (pc := 46) (lv' := [(2, .int x7), (0, .ref (a 0)), (1, .int p1)]) hx hb dX11_judge_46 rfl hl (by decide) rfl (fun ls hl => ?_)
        refine lv_iload_n (pc := 47) hx hb dX11_judge_47 rfl (lv_at hl 2 rfl) ?_
        by_cases c8 : p1 = 0
        · have hf := if_t hf c8
          refine rSw (pc := 48) hx hb 76 dX11_judge_48 0 c8 (by decide) (by decide) (by rfl) (by decide) ?_
          refine lv_iload_n (pc := 76) hx hb dX11_judge_76 rfl (lv_at hl 0 rfl) ?_
          refine lv_if_eq (pc := 77) (tgt := 90) hx hb dX11_judge_77 (by decide) (fun c9 => ?_) (fun c9 => ?_)
          · have hf := if_t hf c9
            refine lv_bipush (pc := 90) (v := (-6)) hx hb dX11_judge_90 (by decide) ?_
            exact hret (so1 hf) rfl (so2 hf) dX11_judge_92 h
          · have hf := if_f hf c9
            refine lv_aload_n (pc := 80) hx hb dX11_judge_80 rfl (lv_at hl 1 rfl) ?_
            refine gB_0_4 (pc := 81) hNN hx hb hts hown hK h fl_X11_41 dX11_judge_81 ?_
            refine gB_21_6 (pc := 84) hNN hx hb hts hown hK h fl_X11_186 dX11_judge_84 ?_
            refine lv_goto (pc := 87) (tgt := 92) hx hb dX11_judge_87 (by decide) ?_
            exact hret (so1 hf) rfl (so2 hf) dX11_judge_92 h
        have hf := if_f hf c8
        by_cases c10 : p1 = 1
        · have hf := if_t hf c10
          refine rSw (pc := 48) hx hb 93 dX11_judge_48 1 c10 (by decide) (by decide) (by rfl) (by decide) ?_
          refine lv_iload_n (pc := 93) hx hb dX11_judge_93 rfl (lv_at hl 0 rfl) ?_
          refine lv_if_eq (pc := 94) (tgt := 107) hx hb dX11_judge_94 (by decide) (fun c11 => ?_) (fun c11 => ?_)
          · have hf := if_t hf c11
            refine lv_bipush (pc := 107) (v := (-6)) hx hb dX11_judge_107 (by decide) ?_
            exact hret (so1 hf) rfl (so2 hf) dX11_judge_109 h
          · have hf := if_f hf c11
            refine lv_aload_n (pc := 97) hx hb dX11_judge_97 rfl (lv_at hl 1 rfl) ?_
            refine gB_0_4 (pc := 98) hNN hx hb hts hown hK h fl_X11_41 dX11_judge_98 ?_
            refine gB_21_7 (pc := 101) hNN hx hb hts hown hK h fl_X11_183 dX11_judge_101 ?_
            refine lv_goto (pc := 104) (tgt := 109) hx hb dX11_judge_104 (by decide) ?_
            exact hret (so1 hf) rfl (so2 hf) dX11_judge_109 h
        have hf := if_f hf c10
        by_cases c12 : p1 = 2
        · have hf := if_t hf c12
          refine rSw (pc := 48) hx hb 110 dX11_judge_48 2 c12 (by decide) (by decide) (by rfl) (by decide) ?_
          refine lv_iload_n (pc := 110) hx hb dX11_judge_110 rfl (lv_at hl 0 rfl) ?_
          refine lv_if_eq (pc := 111) (tgt := 119) hx hb dX11_judge_111 (by decide) (fun c13 => ?_) (fun c13 => ?_)
          · have hf := if_t hf c13
            refine lv_aload_n (pc := 119) hx hb dX11_judge_119 rfl (lv_at hl 1 rfl) ?_
            refine gB_0_4 (pc := 120) hNN hx hb hts hown hK h fl_X11_41 dX11_judge_120 ?_
            refine gB_21_8 (pc := 123) hNN hx hb hts hown hK h fl_X11_189 dX11_judge_123 ?_
            exact hret (so1 hf) rfl (so2 hf) dX11_judge_126 h
          · have hf := if_f hf c13
            refine lv_bipush (pc := 114) (v := (-3)) hx hb dX11_judge_114 (by decide) ?_
            refine lv_goto (pc := 116) (tgt := 126) hx hb dX11_judge_116 (by decide) ?_
            exact hret (so1 hf) rfl (so2 hf) dX11_judge_126 h
        have hf := if_f hf c12
        refine lv_tableOut (pc := 48) (tgt := 127) hx hb dX11_judge_48 (tbOut3 c8 c10 c12) (by decide) ?_
        refine lv_iload_n (pc := 127) hx hb dX11_judge_127 rfl (lv_at hl 0 rfl) ?_
        refine lv_if_eq (pc := 128) (tgt := 136) hx hb dX11_judge_128 (by decide) (fun c14 => ?_) (fun c14 => ?_)
        · have hf := if_t hf c14
          refine lv_aload_n (pc := 136) hx hb dX11_judge_136 rfl (lv_at hl 1 rfl) ?_
          refine gB_0_4 (pc := 137) hNN hx hb hts hown hK h fl_X11_41 dX11_judge_137 ?_
          refine gB_21_5 (pc := 140) hNN hx hb hts hown hK h fl_X11_192 dX11_judge_140 ?_
          exact hret (so1 hf) rfl (so2 hf) dX11_judge_143 h
        · have hf := if_f hf c14
          refine lv_bipush (pc := 131) (v := (-3)) hx hb dX11_judge_131 (by decide) ?_
          refine lv_goto (pc := 133) (tgt := 143) hx hb dX11_judge_133 (by decide) ?_
          exact hret (so1 hf) rfl (so2 hf) dX11_judge_143 h
      refine lv_if_eq (pc := 38) (tgt := 45) hx hb dX11_judge_38 (by decide) (fun c15 => ?_) (fun c15 => ?_)
      · have hf := if_t hf c15
        refine lv_iconst (pc := 45) (v := 0) hx hb dX11_judge_45 (by decide) ?_
        exact jk6 _ hf _ _ _ h (lv_sub hl [0, 1] rfl)
      · have hf := if_f hf c15
        refine lv_iconst (pc := 41) (v := 1) hx hb dX11_judge_41 (by decide) ?_
        refine lv_goto (pc := 42) (tgt := 46) hx hb dX11_judge_42 (by decide) ?_
        exact jk6 _ hf _ _ _ h (lv_sub hl [0, 1] rfl)
    · have hf := if_t hf c5
      refine lv_bipush (pc := 28) (v := (-5)) hx hb dX11_judge_28 (by decide) ?_
      exact hret (so1 hf) rfl (so2 hf) dX11_judge_30 h
  · have hf := if_t hf c2
    refine lv_bipush (pc := 9) (v := (-2)) hx hb dX11_judge_9 (by decide) ?_
    exact hret (so1 hf) rfl (so2 hf) dX11_judge_11 h
theorem k_X11_judge {p : Program} {l : Launch} {e : Env} {R : Room} {s : State} {m : MethodId} {args : Array Value} {below : List Frame} {meth : Method} {c : Code} {H : Heap} {locs : List Loc} {cells slots : Nat} {Q : State → Prop} {pc : Nat} {ls : Array Slot} {rest : List Value} {cc : ByteArray} {D : va_G} {cI cJ cR : ClassId} {a : Nat → Nat} {u : St} {own : String} {index nL : Nat} {N : Nat} (hNN : 38 ≤ N) {p1 : Int32} {rr : Int32} {uu : St} (hx : p.tables.exec = Jvm.exec) (hb : c.code = cc) (hml : c.maxLocals = nL) (hown : s.vm.findClass own = some m.cls) (hts : ∀ w ∈ Gd, w.before args s = true) (hK : va_K D vwCl (tyB cI cJ cR) s) (hN : NB s) (hc : f_X11_judge u p1 = some (rr, uu)) (hlk : Cond.methodLink own index yX11_judge ∈ Gd) (hF : 7 ≤ R.frames) (hLo : 160 ≤ R.locals) (h : Hh D (AB N a s.heap.size) (wX N a (EB a cI cJ cR) u) s.heap H locs) (hsize : ls.size = nL) (hcs : cells ≤ R.cells ∧ slots ≤ R.slots) (hr : (rest.map fun v => v.category).sum ≤ 8) (hdg : decode cc pc = .ok (.invokevirtual index, 3)) (kk : ∀ (H1 : Heap) (locs1 : List Loc), Hh D (AB N a s.heap.size) (wX N a (EB a cI cJ cR) uu) s.heap H1 locs1 → W p l e R s m args below meth c H1 locs1 cells slots Q (F0 m (pc + 3) ls (.int rr :: rest))) : W p l e R s m args below meth c H locs cells slots Q (F0 m pc ls (.int p1 :: .ref (a 0) :: rest)) :=
  cVi (n := 1) hx hb hml hown hts hK hN (c_X11_judge hNN hc) (gdV hlk im_X11_judge se_X11_judge in_X11 co_X11_judge) rfl (by decide +kernel) rfl hF hLo h hsize hcs (Nat.lt_of_lt_of_le (by decide) hNN) rfl rfl rfl hr hdg kk
def f_X11_behind (u : St) (p1 : Int32) (p2 : Int32) : Option (Int32 × St) := b1 (f_X7_has u p1) (fun (x1 : Int32) => if x1 = 0 then some ((-1), u) else b1 (f_X11_within u p2 0 1) (fun (x3 : Int32) => if x3 = 0 then some ((-2), u) else cki 1 7 (b2 (f_X11_followPad u (u.1 16 (ix 1))) (fun (x5 : Int32) (u6 : St) => if x5 = 0 then some ((-5), u6) else if (u6.1 21 7) = 0 then if p2 = 0 then cki p1 8 (some (u6.1 22 (ix p1), u6)) else cki p1 8 (some (u6.1 23 (ix p1), u6)) else some ((-3), u6)))))
set_option maxRecDepth 100000 in
set_option maxHeartbeats 4000000 in
theorem c_X11_behind {l : Launch} {D : va_G} {cI cJ cR : ClassId} {a : Nat → Nat} {u : St} {N : Nat} (hNN : 38 ≤ N) {p1 : Int32} {p2 : Int32} {rr : Int32} {uu : St} (hf : f_X11_behind u p1 p2 = some (rr, uu)) : Ci l yX11_behind cX11_behind 3 (some .int) 6 138 D (tyB cI cJ cR) N a (EB a cI cJ cR) [.ref (a 0), .int p1, .int p2] u rr uu := by
  refine metI (by decide +kernel) (Nat.le_of_ble_eq_true rfl) ?_
  intro p e s m args below meth c R Q hx hb hml hown hts hF hLo hret hK hN h ls hl
  have hown : s.vm.findClass RX11 = some m.cls := hown
  have hl : lv_has ls 3 [(0, .ref (a 0)), (1, .int p1), (2, .int p2)] := hl
  unfold f_X11_behind at hf
  refine lv_aload_n (pc := 0) hx hb dX11_behind_0 rfl (lv_at hl 0 rfl) ?_
  refine gB_0_0 (pc := 1) hNN hx hb hts hown hK h fl_X11_12 dX11_behind_1 ?_
  refine gB_1_1 (pc := 4) hNN hx hb hts hown hK h fl_X11_88 dX11_behind_4 ?_
  refine lv_iload_n (pc := 7) hx hb dX11_behind_7 rfl (lv_at hl 1 rfl) ?_
  obtain ⟨x1, hc, hf⟩ := b1_e hf
  refine k_X7_has (pc := 8) hNN hx hb hml hown hts hK hN hc ml_X11_137 (Nat.le_trans (by decide) hF) (Nat.le_trans (by decide) hLo) h hl.1 ⟨Nat.zero_le _, Nat.zero_le _⟩ (Nat.le_of_ble_eq_true rfl) dX11_behind_8 (fun H locs h => ?_)
  refine lv_if_ne (pc := 11) (tgt := 16) hx hb dX11_behind_11 (by decide) (fun c2 => ?_) (fun c2 => ?_)
  · have hf := if_f hf c2
    refine lv_iload_n (pc := 16) hx hb dX11_behind_16 rfl (lv_at hl 2 rfl) ?_
    refine lv_iconst (pc := 17) (v := 0) hx hb dX11_behind_17 (by decide) ?_
    refine lv_iconst (pc := 18) (v := 1) hx hb dX11_behind_18 (by decide) ?_
    obtain ⟨x3, hc, hf⟩ := b1_e hf
    refine kS_X11_within (pc := 19) hNN hx hb hml hown hts hK hN hc ml_X11_70 (Nat.le_trans (by decide) hF) (Nat.le_trans (by decide) hLo) h hl.1 ⟨Nat.zero_le _, Nat.zero_le _⟩ (Nat.le_of_ble_eq_true rfl) dX11_behind_19 (fun H locs h => ?_)
    refine lv_if_ne (pc := 22) (tgt := 28) hx hb dX11_behind_22 (by decide) (fun c4 => ?_) (fun c4 => ?_)
    · have hf := if_f hf c4
      refine lv_aload_n (pc := 28) hx hb dX11_behind_28 rfl (lv_at hl 0 rfl) ?_
      refine lv_aload_n (pc := 29) hx hb dX11_behind_29 rfl (lv_at hl 0 rfl) ?_
      refine gB_0_0 (pc := 30) hNN hx hb hts hown hK h fl_X11_12 dX11_behind_30 ?_
      refine gB_1_4 (pc := 33) hNN hx hb hts hown hK h fl_X11_138 dX11_behind_33 ?_
      refine lv_iconst (pc := 36) (v := 1) hx hb dX11_behind_36 (by decide) ?_
      obtain ⟨hin, hf⟩ := cki_e hf
      refine gB_16 (pc := 37) hNN hx hb hK h hin dX11_behind_37 ?_
      obtain ⟨x5, u6, hc, hf⟩ := b2_e hf
      refine k_X11_followPad (pc := 38) hNN hx hb hml hown hts hK hN hc ml_X11_180 (Nat.le_trans (by decide) hF) (Nat.le_trans (by decide) hLo) h hl.1 ⟨Nat.zero_le _, Nat.zero_le _⟩ (Nat.le_of_ble_eq_true rfl) dX11_behind_38 (fun H locs h => ?_)
      refine lv_if_ne (pc := 41) (tgt := 47) hx hb dX11_behind_41 (by decide) (fun c7 => ?_) (fun c7 => ?_)
      · have hf := if_f hf c7
        refine lv_aload_n (pc := 47) hx hb dX11_behind_47 rfl (lv_at hl 0 rfl) ?_
        refine gB_0_4 (pc := 48) hNN hx hb hts hown hK h fl_X11_41 dX11_behind_48 ?_
        refine gB_21_7 (pc := 51) hNN hx hb hts hown hK h fl_X11_183 dX11_behind_51 ?_
        refine lv_if_eq (pc := 54) (tgt := 60) hx hb dX11_behind_54 (by decide) (fun c8 => ?_) (fun c8 => ?_)
        · have hf := if_t hf c8
          refine lv_iload_n (pc := 60) hx hb dX11_behind_60 rfl (lv_at hl 2 rfl) ?_
          refine lv_if_ne (pc := 61) (tgt := 76) hx hb dX11_behind_61 (by decide) (fun c9 => ?_) (fun c9 => ?_)
          · have hf := if_f hf c9
            refine lv_aload_n (pc := 76) hx hb dX11_behind_76 rfl (lv_at hl 0 rfl) ?_
            refine gB_0_4 (pc := 77) hNN hx hb hts hown hK h fl_X11_41 dX11_behind_77 ?_
            refine gB_21_3 (pc := 80) hNN hx hb hts hown hK h fl_X11_198 dX11_behind_80 ?_
            refine lv_iload_n (pc := 83) hx hb dX11_behind_83 rfl (lv_at hl 1 rfl) ?_
            obtain ⟨hin, hf⟩ := cki_e hf
            refine gB_23 (pc := 84) hNN hx hb hK h hin dX11_behind_84 ?_
            exact hret (so1 hf) rfl (so2 hf) dX11_behind_85 h
          · have hf := if_t hf c9
            refine lv_aload_n (pc := 64) hx hb dX11_behind_64 rfl (lv_at hl 0 rfl) ?_
            refine gB_0_4 (pc := 65) hNN hx hb hts hown hK h fl_X11_41 dX11_behind_65 ?_
            refine gB_21_2 (pc := 68) hNN hx hb hts hown hK h fl_X11_195 dX11_behind_68 ?_
            refine lv_iload_n (pc := 71) hx hb dX11_behind_71 rfl (lv_at hl 1 rfl) ?_
            obtain ⟨hin, hf⟩ := cki_e hf
            refine gB_22 (pc := 72) hNN hx hb hK h hin dX11_behind_72 ?_
            refine lv_goto (pc := 73) (tgt := 85) hx hb dX11_behind_73 (by decide) ?_
            exact hret (so1 hf) rfl (so2 hf) dX11_behind_85 h
        · have hf := if_f hf c8
          refine lv_bipush (pc := 57) (v := (-3)) hx hb dX11_behind_57 (by decide) ?_
          exact hret (so1 hf) rfl (so2 hf) dX11_behind_59 h
      · have hf := if_t hf c7
        refine lv_bipush (pc := 44) (v := (-5)) hx hb dX11_behind_44 (by decide) ?_
        exact hret (so1 hf) rfl (so2 hf) dX11_behind_46 h
    · have hf := if_t hf c4
      refine lv_bipush (pc := 25) (v := (-2)) hx hb dX11_behind_25 (by decide) ?_
      exact hret (so1 hf) rfl (so2 hf) dX11_behind_27 h
  · have hf := if_t hf c2
    refine lv_iconst (pc := 14) (v := (-1)) hx hb dX11_behind_14 (by decide) ?_
    exact hret (so1 hf) rfl (so2 hf) dX11_behind_15 h
theorem k_X11_behind {p : Program} {l : Launch} {e : Env} {R : Room} {s : State} {m : MethodId} {args : Array Value} {below : List Frame} {meth : Method} {c : Code} {H : Heap} {locs : List Loc} {cells slots : Nat} {Q : State → Prop} {pc : Nat} {ls : Array Slot} {rest : List Value} {cc : ByteArray} {D : va_G} {cI cJ cR : ClassId} {a : Nat → Nat} {u : St} {own : String} {index nL : Nat} {N : Nat} (hNN : 38 ≤ N) {p1 : Int32} {p2 : Int32} {rr : Int32} {uu : St} (hx : p.tables.exec = Jvm.exec) (hb : c.code = cc) (hml : c.maxLocals = nL) (hown : s.vm.findClass own = some m.cls) (hts : ∀ w ∈ Gd, w.before args s = true) (hK : va_K D vwCl (tyB cI cJ cR) s) (hN : NB s) (hc : f_X11_behind u p1 p2 = some (rr, uu)) (hlk : Cond.methodLink own index yX11_behind ∈ Gd) (hF : 7 ≤ R.frames) (hLo : 160 ≤ R.locals) (h : Hh D (AB N a s.heap.size) (wX N a (EB a cI cJ cR) u) s.heap H locs) (hsize : ls.size = nL) (hcs : cells ≤ R.cells ∧ slots ≤ R.slots) (hr : (rest.map fun v => v.category).sum ≤ 8) (hdg : decode cc pc = .ok (.invokevirtual index, 3)) (kk : ∀ (H1 : Heap) (locs1 : List Loc), Hh D (AB N a s.heap.size) (wX N a (EB a cI cJ cR) uu) s.heap H1 locs1 → W p l e R s m args below meth c H1 locs1 cells slots Q (F0 m (pc + 3) ls (.int rr :: rest))) : W p l e R s m args below meth c H locs cells slots Q (F0 m pc ls (.int p2 :: .int p1 :: .ref (a 0) :: rest)) :=
  cVi (n := 2) hx hb hml hown hts hK hN (c_X11_behind hNN hc) (gdV hlk im_X11_behind se_X11_behind in_X11 co_X11_behind) rfl (by decide +kernel) rfl hF hLo h hsize hcs (Nat.lt_of_lt_of_le (by decide) hNN) rfl rfl rfl hr hdg kk
def f_X11_hands (u : St) : Option (Int32 × St) := b2 (f_X11_followPad u 1000000) (fun (x1 : Int32) (u2 : St) => if x1 = 0 then some ((-5), u2) else if (u2.1 21 7) = 0 then some (u2.1 21 10, u2) else some ((-6), u2))
set_option maxRecDepth 100000 in
set_option maxHeartbeats 4000000 in
theorem c_X11_hands {l : Launch} {D : va_G} {cI cJ cR : ClassId} {a : Nat → Nat} {u : St} {N : Nat} (hNN : 38 ≤ N) {rr : Int32} {uu : St} (hf : f_X11_hands u = some (rr, uu)) : Ci l yX11_hands cX11_hands 1 (some .int) 6 138 D (tyB cI cJ cR) N a (EB a cI cJ cR) [.ref (a 0)] u rr uu := by
  refine metI (by decide +kernel) (Nat.le_of_ble_eq_true rfl) ?_
  intro p e s m args below meth c R Q hx hb hml hown hts hF hLo hret hK hN h ls hl
  have hown : s.vm.findClass RX11 = some m.cls := hown
  have hl : lv_has ls 1 [(0, .ref (a 0))] := hl
  unfold f_X11_hands at hf
  refine lv_aload_n (pc := 0) hx hb dX11_hands_0 rfl (lv_at hl 0 rfl) ?_
  refine lv_ldc (pc := 1) hx hb hown (hts _ ct_X11_201) dX11_hands_1 ?_
  obtain ⟨x1, u2, hc, hf⟩ := b2_e hf
  refine k_X11_followPad (pc := 3) hNN hx hb hml hown hts hK hN hc ml_X11_180 (Nat.le_trans (by decide) hF) (Nat.le_trans (by decide) hLo) h hl.1 ⟨Nat.zero_le _, Nat.zero_le _⟩ (Nat.le_of_ble_eq_true rfl) dX11_hands_3 (fun H locs h => ?_)
  refine lv_if_ne (pc := 6) (tgt := 12) hx hb dX11_hands_6 (by decide) (fun c3 => ?_) (fun c3 => ?_)
  · have hf := if_f hf c3
    refine lv_aload_n (pc := 12) hx hb dX11_hands_12 rfl (lv_at hl 0 rfl) ?_
    refine gB_0_4 (pc := 13) hNN hx hb hts hown hK h fl_X11_41 dX11_hands_13 ?_
    refine gB_21_7 (pc := 16) hNN hx hb hts hown hK h fl_X11_183 dX11_hands_16 ?_
    refine lv_if_eq (pc := 19) (tgt := 27) hx hb dX11_hands_19 (by decide) (fun c4 => ?_) (fun c4 => ?_)
    · have hf := if_t hf c4
      refine lv_aload_n (pc := 27) hx hb dX11_hands_27 rfl (lv_at hl 0 rfl) ?_
      refine gB_0_4 (pc := 28) hNN hx hb hts hown hK h fl_X11_41 dX11_hands_28 ?_
      refine gB_21_10 (pc := 31) hNN hx hb hts hown hK h fl_X11_202 dX11_hands_31 ?_
      exact hret (so1 hf) rfl (so2 hf) dX11_hands_34 h
    · have hf := if_f hf c4
      refine lv_bipush (pc := 22) (v := (-6)) hx hb dX11_hands_22 (by decide) ?_
      refine lv_goto (pc := 24) (tgt := 34) hx hb dX11_hands_24 (by decide) ?_
      exact hret (so1 hf) rfl (so2 hf) dX11_hands_34 h
  · have hf := if_t hf c3
    refine lv_bipush (pc := 9) (v := (-5)) hx hb dX11_hands_9 (by decide) ?_
    exact hret (so1 hf) rfl (so2 hf) dX11_hands_11 h
theorem k_X11_hands {p : Program} {l : Launch} {e : Env} {R : Room} {s : State} {m : MethodId} {args : Array Value} {below : List Frame} {meth : Method} {c : Code} {H : Heap} {locs : List Loc} {cells slots : Nat} {Q : State → Prop} {pc : Nat} {ls : Array Slot} {rest : List Value} {cc : ByteArray} {D : va_G} {cI cJ cR : ClassId} {a : Nat → Nat} {u : St} {own : String} {index nL : Nat} {N : Nat} (hNN : 38 ≤ N) {rr : Int32} {uu : St} (hx : p.tables.exec = Jvm.exec) (hb : c.code = cc) (hml : c.maxLocals = nL) (hown : s.vm.findClass own = some m.cls) (hts : ∀ w ∈ Gd, w.before args s = true) (hK : va_K D vwCl (tyB cI cJ cR) s) (hN : NB s) (hc : f_X11_hands u = some (rr, uu)) (hlk : Cond.methodLink own index yX11_hands ∈ Gd) (hF : 7 ≤ R.frames) (hLo : 158 ≤ R.locals) (h : Hh D (AB N a s.heap.size) (wX N a (EB a cI cJ cR) u) s.heap H locs) (hsize : ls.size = nL) (hcs : cells ≤ R.cells ∧ slots ≤ R.slots) (hr : (rest.map fun v => v.category).sum ≤ 8) (hdg : decode cc pc = .ok (.invokevirtual index, 3)) (kk : ∀ (H1 : Heap) (locs1 : List Loc), Hh D (AB N a s.heap.size) (wX N a (EB a cI cJ cR) uu) s.heap H1 locs1 → W p l e R s m args below meth c H1 locs1 cells slots Q (F0 m (pc + 3) ls (.int rr :: rest))) : W p l e R s m args below meth c H locs cells slots Q (F0 m pc ls (.ref (a 0) :: rest)) :=
  cVi (n := 0) hx hb hml hown hts hK hN (c_X11_hands hNN hc) (gdV hlk im_X11_hands se_X11_hands in_X11 co_X11_hands) rfl (by decide +kernel) rfl hF hLo h hsize hcs (Nat.lt_of_lt_of_le (by decide) hNN) rfl rfl rfl hr hdg kk
def f_X11_acid (u : St) (p1 : Int32) (p2 : Int32) : Option (Int32 × St) := b1 (f_X7_has u p1) (fun (x1 : Int32) => if x1 = 0 then some ((-1), u) else b1 (f_X11_within u p2 0 999) (fun (x3 : Int32) => if x3 = 0 then some ((-2), u) else b1 (f_X0_asItIs u) (fun (u5 : St) => b1 (f_X0_acidOf u5 p1 p2) (fun (x6 : Int32) => some (x6, u5)))))
set_option maxRecDepth 100000 in
set_option maxHeartbeats 4000000 in
theorem c_X11_acid {l : Launch} {D : va_G} {cI cJ cR : ClassId} {a : Nat → Nat} {u : St} {N : Nat} (hNN : 38 ≤ N) {p1 : Int32} {p2 : Int32} {rr : Int32} {uu : St} (hf : f_X11_acid u p1 p2 = some (rr, uu)) : Ci l yX11_acid cX11_acid 3 (some .int) 5 115 D (tyB cI cJ cR) N a (EB a cI cJ cR) [.ref (a 0), .int p1, .int p2] u rr uu := by
  refine metI (by decide +kernel) (Nat.le_of_ble_eq_true rfl) ?_
  intro p e s m args below meth c R Q hx hb hml hown hts hF hLo hret hK hN h ls hl
  have hown : s.vm.findClass RX11 = some m.cls := hown
  have hl : lv_has ls 3 [(0, .ref (a 0)), (1, .int p1), (2, .int p2)] := hl
  unfold f_X11_acid at hf
  refine lv_aload_n (pc := 0) hx hb dX11_acid_0 rfl (lv_at hl 0 rfl) ?_
  refine gB_0_0 (pc := 1) hNN hx hb hts hown hK h fl_X11_12 dX11_acid_1 ?_
  refine gB_1_1 (pc := 4) hNN hx hb hts hown hK h fl_X11_88 dX11_acid_4 ?_
  refine lv_iload_n (pc := 7) hx hb dX11_acid_7 rfl (lv_at hl 1 rfl) ?_
  obtain ⟨x1, hc, hf⟩ := b1_e hf
  refine k_X7_has (pc := 8) hNN hx hb hml hown hts hK hN hc ml_X11_137 (Nat.le_trans (by decide) hF) (Nat.le_trans (by decide) hLo) h hl.1 ⟨Nat.zero_le _, Nat.zero_le _⟩ (Nat.le_of_ble_eq_true rfl) dX11_acid_8 (fun H locs h => ?_)
  refine lv_if_ne (pc := 11) (tgt := 16) hx hb dX11_acid_11 (by decide) (fun c2 => ?_) (fun c2 => ?_)
  · have hf := if_f hf c2
    refine lv_iload_n (pc := 16) hx hb dX11_acid_16 rfl (lv_at hl 2 rfl) ?_
    refine lv_iconst (pc := 17) (v := 0) hx hb dX11_acid_17 (by decide) ?_
    refine lv_sipush (pc := 18) (v := 999) hx hb dX11_acid_18 (by decide) ?_
    obtain ⟨x3, hc, hf⟩ := b1_e hf
    refine kS_X11_within (pc := 21) hNN hx hb hml hown hts hK hN hc ml_X11_70 (Nat.le_trans (by decide) hF) (Nat.le_trans (by decide) hLo) h hl.1 ⟨Nat.zero_le _, Nat.zero_le _⟩ (Nat.le_of_ble_eq_true rfl) dX11_acid_21 (fun H locs h => ?_)
    refine lv_if_ne (pc := 24) (tgt := 30) hx hb dX11_acid_24 (by decide) (fun c4 => ?_) (fun c4 => ?_)
    · have hf := if_f hf c4
      refine lv_aload_n (pc := 30) hx hb dX11_acid_30 rfl (lv_at hl 0 rfl) ?_
      refine gB_0_3 (pc := 31) hNN hx hb hts hown hK h fl_X11_32 dX11_acid_31 ?_
      obtain ⟨u5, hc, hf⟩ := b1_e hf
      refine k_X0_asItIs (pc := 34) hNN hx hb hml hown hts hK hN hc ml_X11_171 (Nat.le_trans (by decide) hF) (Nat.le_trans (by decide) hLo) h hl.1 ⟨Nat.zero_le _, Nat.zero_le _⟩ (Nat.le_of_ble_eq_true rfl) dX11_acid_34 (fun H locs h => ?_)
      refine lv_aload_n (pc := 37) hx hb dX11_acid_37 rfl (lv_at hl 0 rfl) ?_
      refine gB_0_3 (pc := 38) hNN hx hb hts hown hK h fl_X11_32 dX11_acid_38 ?_
      refine lv_iload_n (pc := 41) hx hb dX11_acid_41 rfl (lv_at hl 1 rfl) ?_
      refine lv_iload_n (pc := 42) hx hb dX11_acid_42 rfl (lv_at hl 2 rfl) ?_
      obtain ⟨x6, hc, hf⟩ := b1_e hf
      refine k_X0_acidOf (pc := 43) hNN hx hb hml hown hts hK hN hc ml_X11_209 (Nat.le_trans (by decide) hF) (Nat.le_trans (by decide) hLo) h hl.1 ⟨Nat.zero_le _, Nat.zero_le _⟩ (Nat.le_of_ble_eq_true rfl) dX11_acid_43 (fun H locs h => ?_)
      exact hret (so1 hf) rfl (so2 hf) dX11_acid_46 h
    · have hf := if_t hf c4
      refine lv_bipush (pc := 27) (v := (-2)) hx hb dX11_acid_27 (by decide) ?_
      exact hret (so1 hf) rfl (so2 hf) dX11_acid_29 h
  · have hf := if_t hf c2
    refine lv_iconst (pc := 14) (v := (-1)) hx hb dX11_acid_14 (by decide) ?_
    exact hret (so1 hf) rfl (so2 hf) dX11_acid_15 h
theorem k_X11_acid {p : Program} {l : Launch} {e : Env} {R : Room} {s : State} {m : MethodId} {args : Array Value} {below : List Frame} {meth : Method} {c : Code} {H : Heap} {locs : List Loc} {cells slots : Nat} {Q : State → Prop} {pc : Nat} {ls : Array Slot} {rest : List Value} {cc : ByteArray} {D : va_G} {cI cJ cR : ClassId} {a : Nat → Nat} {u : St} {own : String} {index nL : Nat} {N : Nat} (hNN : 38 ≤ N) {p1 : Int32} {p2 : Int32} {rr : Int32} {uu : St} (hx : p.tables.exec = Jvm.exec) (hb : c.code = cc) (hml : c.maxLocals = nL) (hown : s.vm.findClass own = some m.cls) (hts : ∀ w ∈ Gd, w.before args s = true) (hK : va_K D vwCl (tyB cI cJ cR) s) (hN : NB s) (hc : f_X11_acid u p1 p2 = some (rr, uu)) (hlk : Cond.methodLink own index yX11_acid ∈ Gd) (hF : 6 ≤ R.frames) (hLo : 137 ≤ R.locals) (h : Hh D (AB N a s.heap.size) (wX N a (EB a cI cJ cR) u) s.heap H locs) (hsize : ls.size = nL) (hcs : cells ≤ R.cells ∧ slots ≤ R.slots) (hr : (rest.map fun v => v.category).sum ≤ 8) (hdg : decode cc pc = .ok (.invokevirtual index, 3)) (kk : ∀ (H1 : Heap) (locs1 : List Loc), Hh D (AB N a s.heap.size) (wX N a (EB a cI cJ cR) uu) s.heap H1 locs1 → W p l e R s m args below meth c H1 locs1 cells slots Q (F0 m (pc + 3) ls (.int rr :: rest))) : W p l e R s m args below meth c H locs cells slots Q (F0 m pc ls (.int p2 :: .int p1 :: .ref (a 0) :: rest)) :=
  cVi (n := 2) hx hb hml hown hts hK hN (c_X11_acid hNN hc) (gdV hlk im_X11_acid se_X11_acid in_X11 co_X11_acid) rfl (by decide +kernel) rfl hF hLo h hsize hcs (Nat.lt_of_lt_of_le (by decide) hNN) rfl rfl rfl hr hdg kk
def B_X11_sours_55 (p1 : Int32) (u3 : St) (k6 : Option (Int32 × St)) (rec7 : Int32 → Int32 → Option (Int32 × St)) (x4 : Int32) (x5 : Int32) : Option (Int32 × St) := if 999 ≤ x5 then k6 else b1 (f_X0_levelOn u3 x5) (fun (x9 : Int32) => b1 (f_X0_riseAt u3 x9 (u3.1 6 (ix p1)) (u3.1 8 (ix p1))) (fun (x10 : Int32) => b1 (f_X9_isVinegar u3 (x4 + x10)) (fun (x11 : Int32) => if x11 = 0 then rec7 (x4 + x10) (x5 + 1) else some (x5 + (1 : Int32), u3))))
def f_X11_sours (u : St) (p1 : Int32) : Option (Int32 × St) := b1 (f_X7_has u p1) (fun (x1 : Int32) => if x1 = 0 then some ((-1), u) else b1 (f_X0_asItIs u) (fun (u3 : St) => cki p1 8 (cki p1 8 (jq_0 (some ((-6), u3)) (fun (k6 : Option (Int32 × St)) => lq_2 (B_X11_sours_55 p1 u3 k6) FU 0 0)))))
set_option maxRecDepth 100000 in
set_option maxHeartbeats 4000000 in
theorem c_X11_sours {l : Launch} {D : va_G} {cI cJ cR : ClassId} {a : Nat → Nat} {u : St} {N : Nat} (hNN : 38 ≤ N) {p1 : Int32} {rr : Int32} {uu : St} (hf : f_X11_sours u p1 = some (rr, uu)) : Ci l yX11_sours cX11_sours 6 (some .int) 3 66 D (tyB cI cJ cR) N a (EB a cI cJ cR) [.ref (a 0), .int p1] u rr uu := by
  refine metI (by decide +kernel) (Nat.le_of_ble_eq_true rfl) ?_
  intro p e s m args below meth c R Q hx hb hml hown hts hF hLo hret hK hN h ls hl
  have hown : s.vm.findClass RX11 = some m.cls := hown
  have hl : lv_has ls 6 [(0, .ref (a 0)), (1, .int p1)] := hl
  unfold f_X11_sours at hf
  refine lv_aload_n (pc := 0) hx hb dX11_sours_0 rfl (lv_at hl 0 rfl) ?_
  refine gB_0_0 (pc := 1) hNN hx hb hts hown hK h fl_X11_12 dX11_sours_1 ?_
  refine gB_1_1 (pc := 4) hNN hx hb hts hown hK h fl_X11_88 dX11_sours_4 ?_
  refine lv_iload_n (pc := 7) hx hb dX11_sours_7 rfl (lv_at hl 1 rfl) ?_
  obtain ⟨x1, hc, hf⟩ := b1_e hf
  refine k_X7_has (pc := 8) hNN hx hb hml hown hts hK hN hc ml_X11_137 (Nat.le_trans (by decide) hF) (Nat.le_trans (by decide) hLo) h hl.1 ⟨Nat.zero_le _, Nat.zero_le _⟩ (Nat.le_of_ble_eq_true rfl) dX11_sours_8 (fun H locs h => ?_)
  refine lv_if_ne (pc := 11) (tgt := 16) hx hb dX11_sours_11 (by decide) (fun c2 => ?_) (fun c2 => ?_)
  · have hf := if_f hf c2
    refine lv_aload_n (pc := 16) hx hb dX11_sours_16 rfl (lv_at hl 0 rfl) ?_
    refine gB_0_3 (pc := 17) hNN hx hb hts hown hK h fl_X11_32 dX11_sours_17 ?_
    obtain ⟨u3, hc, hf⟩ := b1_e hf
    refine k_X0_asItIs (pc := 20) hNN hx hb hml hown hts hK hN hc ml_X11_171 (Nat.le_trans (by decide) hF) (Nat.le_trans (by decide) hLo) h hl.1 ⟨Nat.zero_le _, Nat.zero_le _⟩ (Nat.le_of_ble_eq_true rfl) dX11_sours_20 (fun H locs h => ?_)
    refine lv_aload_n (pc := 23) hx hb dX11_sours_23 rfl (lv_at hl 0 rfl) ?_
    refine gB_0_0 (pc := 24) hNN hx hb hts hown hK h fl_X11_12 dX11_sours_24 ?_
    refine gB_1_1 (pc := 27) hNN hx hb hts hown hK h fl_X11_88 dX11_sours_27 ?_
    refine gB_5_0 (pc := 30) hNN hx hb hts hown hK h fl_X11_212 dX11_sours_30 ?_
    refine lv_iload_n (pc := 33) hx hb dX11_sours_33 rfl (lv_at hl 1 rfl) ?_
    obtain ⟨hin, hf⟩ := cki_e hf
    refine gB_6 (pc := 34) hNN hx hb hK h hin dX11_sours_34 ?_
    refine lv_istore_n (pc := 35) (lv' := [(2, .int (u3.1 6 (ix p1))), (0, .ref (a 0)), (1, .int p1)]) hx hb dX11_sours_35 rfl hl (by decide) rfl (fun ls hl => ?_)
    refine lv_aload_n (pc := 36) hx hb dX11_sours_36 rfl (lv_at hl 1 rfl) ?_
    refine gB_0_0 (pc := 37) hNN hx hb hts hown hK h fl_X11_12 dX11_sours_37 ?_
    refine gB_1_1 (pc := 40) hNN hx hb hts hown hK h fl_X11_88 dX11_sours_40 ?_
    refine gB_5_2 (pc := 43) hNN hx hb hts hown hK h fl_X11_213 dX11_sours_43 ?_
    refine lv_iload_n (pc := 46) hx hb dX11_sours_46 rfl (lv_at hl 2 rfl) ?_
    obtain ⟨hin, hf⟩ := cki_e hf
    refine gB_8 (pc := 47) hNN hx hb hK h hin dX11_sours_47 ?_
    refine lv_istore_n (pc := 48) (lv' := [(3, .int (u3.1 8 (ix p1))), (2, .int (u3.1 6 (ix p1))), (0, .ref (a 0)), (1, .int p1)]) hx hb dX11_sours_48 rfl hl (by decide) rfl (fun ls hl => ?_)
    refine lv_iconst (pc := 49) (v := 0) hx hb dX11_sours_49 (by decide) ?_
    refine lv_istore (pc := 50) (lv' := [(4, .int 0), (3, .int (u3.1 8 (ix p1))), (2, .int (u3.1 6 (ix p1))), (0, .ref (a 0)), (1, .int p1)]) hx hb dX11_sours_50 hl (by decide) rfl (fun ls hl => ?_)
    refine lv_iconst (pc := 52) (v := 0) hx hb dX11_sours_52 (by decide) ?_
    refine lv_istore (pc := 53) (lv' := [(5, .int 0), (4, .int 0), (3, .int (u3.1 8 (ix p1))), (2, .int (u3.1 6 (ix p1))), (0, .ref (a 0)), (1, .int p1)]) hx hb dX11_sours_53 hl (by decide) rfl (fun ls hl => ?_)
    obtain ⟨k6, hk6, hf⟩ := jq_0_e hf
    have jk6 : k6 = some (rr, uu) → ∀ (H : Heap) (locs : List Loc) (ls : Array Slot), Hh D (AB N a s.heap.size) (wX N a (EB a cI cJ cR) u3) s.heap H locs → lv_has ls 6 [] → W p l e R s m args below meth c H locs 0 0 Q (F0 m 109 ls []) := by
      intro hf H locs ls h hl
      rw [hk6] at hf
      refine lv_bipush (pc := 109) (v := (-6)) hx hb dX11_sours_109 (by decide) ?_
      exact hret (so1 hf) rfl (so2 hf) dX11_sours_111 h
    refine lq_2_e (P := fun (x4 : Int32) (x5 : Int32) => ∀ (H : Heap) (locs : List Loc) (ls : Array Slot), Hh D (AB N a s.heap.size) (wX N a (EB a cI cJ cR) u3) s.heap H locs → lv_has ls 6 [(0, .ref (a 0)), (2, .int (u3.1 6 (ix p1))), (3, .int (u3.1 8 (ix p1))), (4, .int x4), (5, .int x5)] → W p l e R s m args below meth c H locs 0 0 Q (F0 m 55 ls [])) ?_ FU _ _ hf _ _ _ h (lv_sub hl [4, 3, 2, 1, 0] rfl)
    intro rec7 irec7 x4 x5 hf H locs ls h hl
    unfold B_X11_sours_55 at hf
    refine lv_iload (pc := 55) hx hb dX11_sours_55 (lv_at hl 4 rfl) ?_
    refine lv_sipush (pc := 57) (v := 999) hx hb dX11_sours_57 (by decide) ?_
    refine lv_icmp_ge (pc := 60) (tgt := 109) hx hb dX11_sours_60 (by decide) (fun c8 => ?_) (fun c8 => ?_)
    · have hf := if_t hf c8
      exact jk6 hf _ _ _ h (lv_sub hl [] rfl)
    · have hf := if_f hf c8
      refine lv_iload (pc := 63) hx hb dX11_sours_63 (lv_at hl 3 rfl) ?_
      refine lv_aload_n (pc := 65) hx hb dX11_sours_65 rfl (lv_at hl 0 rfl) ?_
      refine gB_0_3 (pc := 66) hNN hx hb hts hown hK h fl_X11_32 dX11_sours_66 ?_
      refine lv_aload_n (pc := 69) hx hb dX11_sours_69 rfl (lv_at hl 0 rfl) ?_
      refine gB_0_3 (pc := 70) hNN hx hb hts hown hK h fl_X11_32 dX11_sours_70 ?_
      refine lv_iload (pc := 73) hx hb dX11_sours_73 (lv_at hl 4 rfl) ?_
      obtain ⟨x9, hc, hf⟩ := b1_e hf
      refine k_X0_levelOn (pc := 75) hNN hx hb hml hown hts hK hN hc ml_X11_174 (Nat.le_trans (by decide) hF) (Nat.le_trans (by decide) hLo) h hl.1 ⟨Nat.zero_le _, Nat.zero_le _⟩ (Nat.le_of_ble_eq_true rfl) dX11_sours_75 (fun H locs h => ?_)
      refine lv_iload_n (pc := 78) hx hb dX11_sours_78 rfl (lv_at hl 1 rfl) ?_
      refine lv_iload_n (pc := 79) hx hb dX11_sours_79 rfl (lv_at hl 2 rfl) ?_
      obtain ⟨x10, hc, hf⟩ := b1_e hf
      refine k_X0_riseAt (pc := 80) hNN hx hb hml hown hts hK hN hc ml_X11_216 (Nat.le_trans (by decide) hF) (Nat.le_trans (by decide) hLo) h hl.1 ⟨Nat.zero_le _, Nat.zero_le _⟩ (Nat.le_of_ble_eq_true rfl) dX11_sours_80 (fun H locs h => ?_)
      refine lv_iadd (pc := 83) hx hb dX11_sours_83 ?_
      refine lv_istore (pc := 84) (lv' := [(4, .int (x4 + x10)), (0, .ref (a 0)), (2, .int (u3.1 6 (ix p1))), (3, .int (u3.1 8 (ix p1))), (5, .int x5)]) hx hb dX11_sours_84 hl (by decide) rfl (fun ls hl => ?_)
      refine lv_aload_n (pc := 86) hx hb dX11_sours_86 rfl (lv_at hl 1 rfl) ?_
      refine gB_0_0 (pc := 87) hNN hx hb hts hown hK h fl_X11_12 dX11_sours_87 ?_
      refine lv_iload (pc := 90) hx hb dX11_sours_90 (lv_at hl 0 rfl) ?_
      obtain ⟨x11, hc, hf⟩ := b1_e hf
      refine k_X9_isVinegar (pc := 92) hNN hx hb hml hown hts hK hN hc ml_X11_220 (Nat.le_trans (by decide) hF) (Nat.le_trans (by decide) hLo) h hl.1 ⟨Nat.zero_le _, Nat.zero_le _⟩ (Nat.le_of_ble_eq_true rfl) dX11_sours_92 (fun H locs h => ?_)
      refine lv_if_eq (pc := 95) (tgt := 103) hx hb dX11_sours_95 (by decide) (fun c12 => ?_) (fun c12 => ?_)
      · have hf := if_t hf c12
        refine lv_iinc (pc := 103) (v := x5 + 1) (lv' := [(5, .int (x5 + 1)), (4, .int (x4 + x10)), (0, .ref (a 0)), (2, .int (u3.1 6 (ix p1))), (3, .int (u3.1 8 (ix p1)))]) hx hb dX11_sours_103 hl (k := 4) rfl rfl (by decide) rfl (fun ls hl => ?_)
        refine lv_goto (pc := 106) (tgt := 55) hx hb dX11_sours_106 (by decide) ?_
        exact irec7 _ _ hf _ _ _ h (lv_sub hl [2, 3, 4, 1, 0] rfl)
      · have hf := if_f hf c12
        refine lv_iload (pc := 98) hx hb dX11_sours_98 (lv_at hl 4 rfl) ?_
        refine lv_iconst (pc := 100) (v := 1) hx hb dX11_sours_100 (by decide) ?_
        refine lv_iadd (pc := 101) hx hb dX11_sours_101 ?_
        exact hret (so1 hf) rfl (so2 hf) dX11_sours_102 h
  · have hf := if_t hf c2
    refine lv_iconst (pc := 14) (v := (-1)) hx hb dX11_sours_14 (by decide) ?_
    exact hret (so1 hf) rfl (so2 hf) dX11_sours_15 h
theorem k_X11_sours {p : Program} {l : Launch} {e : Env} {R : Room} {s : State} {m : MethodId} {args : Array Value} {below : List Frame} {meth : Method} {c : Code} {H : Heap} {locs : List Loc} {cells slots : Nat} {Q : State → Prop} {pc : Nat} {ls : Array Slot} {rest : List Value} {cc : ByteArray} {D : va_G} {cI cJ cR : ClassId} {a : Nat → Nat} {u : St} {own : String} {index nL : Nat} {N : Nat} (hNN : 38 ≤ N) {p1 : Int32} {rr : Int32} {uu : St} (hx : p.tables.exec = Jvm.exec) (hb : c.code = cc) (hml : c.maxLocals = nL) (hown : s.vm.findClass own = some m.cls) (hts : ∀ w ∈ Gd, w.before args s = true) (hK : va_K D vwCl (tyB cI cJ cR) s) (hN : NB s) (hc : f_X11_sours u p1 = some (rr, uu)) (hlk : Cond.methodLink own index yX11_sours ∈ Gd) (hF : 4 ≤ R.frames) (hLo : 91 ≤ R.locals) (h : Hh D (AB N a s.heap.size) (wX N a (EB a cI cJ cR) u) s.heap H locs) (hsize : ls.size = nL) (hcs : cells ≤ R.cells ∧ slots ≤ R.slots) (hr : (rest.map fun v => v.category).sum ≤ 8) (hdg : decode cc pc = .ok (.invokevirtual index, 3)) (kk : ∀ (H1 : Heap) (locs1 : List Loc), Hh D (AB N a s.heap.size) (wX N a (EB a cI cJ cR) uu) s.heap H1 locs1 → W p l e R s m args below meth c H1 locs1 cells slots Q (F0 m (pc + 3) ls (.int rr :: rest))) : W p l e R s m args below meth c H locs cells slots Q (F0 m pc ls (.int p1 :: .ref (a 0) :: rest)) :=
  cVi (n := 1) hx hb hml hown hts hK hN (c_X11_sours hNN hc) (gdV hlk im_X11_sours se_X11_sours in_X11 co_X11_sours) rfl (by decide +kernel) rfl hF hLo h hsize hcs (Nat.lt_of_lt_of_le (by decide) hNN) rfl rfl rfl hr hdg kk
def B_X11_lostBehind_4 (p1 : Int32) (u : St) (k3 : Int32 → Option (Int32)) (rec5 : Int32 → Int32 → Option (Int32)) (x1 : Int32) (x2 : Int32) : Option (Int32) := if 8 ≤ x2 then k3 x1 else b1 (f_X7_has u x2) (fun (x7 : Int32) => if x7 = 0 then rec5 x1 (x2 + 1) else b1 (f_X0_acidOf u x2 p1) (fun (x9 : Int32) => b1 (f_X9_isVinegar u x9) (fun (x10 : Int32) => if x10 = 0 then rec5 x1 (x2 + 1) else cki x2 8 (rec5 (x1 + (u.1 7 (ix x2))) (x2 + 1)))))
def f_X11_lostBehind (u : St) (p1 : Int32) : Option (Int32) := jq_1 (fun (x4 : Int32) => some x4) (fun (k3 : Int32 → Option (Int32)) => lq_2 (B_X11_lostBehind_4 p1 u k3) FU 0 0)
set_option maxRecDepth 100000 in
set_option maxHeartbeats 4000000 in
theorem c_X11_lostBehind {l : Launch} {D : va_G} {cI cJ cR : ClassId} {a : Nat → Nat} {u : St} {N : Nat} (hNN : 38 ≤ N) {p1 : Int32} {rr : Int32} (hf : f_X11_lostBehind u p1 = some rr) : Ci l yX11_lostBehind cX11_lostBehind 4 (some .int) 5 115 D (tyB cI cJ cR) N a (EB a cI cJ cR) [.ref (a 0), .int p1] u rr u := by
  refine metI (by decide +kernel) (Nat.le_of_ble_eq_true rfl) ?_
  intro p e s m args below meth c R Q hx hb hml hown hts hF hLo hret hK hN h ls hl
  have hown : s.vm.findClass RX11 = some m.cls := hown
  have hl : lv_has ls 4 [(0, .ref (a 0)), (1, .int p1)] := hl
  unfold f_X11_lostBehind at hf
  refine lv_iconst (pc := 0) (v := 0) hx hb dX11_lostBehind_0 (by decide) ?_
  refine lv_istore_n (pc := 1) (lv' := [(2, .int 0), (0, .ref (a 0)), (1, .int p1)]) hx hb dX11_lostBehind_1 rfl hl (by decide) rfl (fun ls hl => ?_)
  refine lv_iconst (pc := 2) (v := 0) hx hb dX11_lostBehind_2 (by decide) ?_
  refine lv_istore_n (pc := 3) (lv' := [(3, .int 0), (2, .int 0), (0, .ref (a 0)), (1, .int p1)]) hx hb dX11_lostBehind_3 rfl hl (by decide) rfl (fun ls hl => ?_)
  obtain ⟨k3, hk3, hf⟩ := jq_1_e hf
  have jk3 : ∀ (x4 : Int32), k3 x4 = some rr → ∀ (H : Heap) (locs : List Loc) (ls : Array Slot), Hh D (AB N a s.heap.size) (wX N a (EB a cI cJ cR) u) s.heap H locs → lv_has ls 4 [(2, .int x4)] → W p l e R s m args below meth c H locs 0 0 Q (F0 m 64 ls []) := by
    intro x4 hf H locs ls h hl
    rw [hk3] at hf
    refine lv_iload_n (pc := 64) hx hb dX11_lostBehind_64 rfl (lv_at hl 0 rfl) ?_
    exact hret (so hf) rfl rfl dX11_lostBehind_65 h
  refine lq_2_e (P := fun (x1 : Int32) (x2 : Int32) => ∀ (H : Heap) (locs : List Loc) (ls : Array Slot), Hh D (AB N a s.heap.size) (wX N a (EB a cI cJ cR) u) s.heap H locs → lv_has ls 4 [(0, .ref (a 0)), (1, .int p1), (2, .int x1), (3, .int x2)] → W p l e R s m args below meth c H locs 0 0 Q (F0 m 4 ls [])) ?_ FU _ _ hf _ _ _ h (lv_sub hl [2, 3, 1, 0] rfl)
  intro rec5 irec5 x1 x2 hf H locs ls h hl
  unfold B_X11_lostBehind_4 at hf
  refine lv_iload_n (pc := 4) hx hb dX11_lostBehind_4 rfl (lv_at hl 3 rfl) ?_
  refine lv_bipush (pc := 5) (v := 8) hx hb dX11_lostBehind_5 (by decide) ?_
  refine lv_icmp_ge (pc := 7) (tgt := 64) hx hb dX11_lostBehind_7 (by decide) (fun c6 => ?_) (fun c6 => ?_)
  · have hf := if_t hf c6
    exact jk3 _ hf _ _ _ h (lv_sub hl [2] rfl)
  · have hf := if_f hf c6
    refine lv_aload_n (pc := 10) hx hb dX11_lostBehind_10 rfl (lv_at hl 0 rfl) ?_
    refine gB_0_0 (pc := 11) hNN hx hb hts hown hK h fl_X11_12 dX11_lostBehind_11 ?_
    refine gB_1_1 (pc := 14) hNN hx hb hts hown hK h fl_X11_88 dX11_lostBehind_14 ?_
    refine lv_iload_n (pc := 17) hx hb dX11_lostBehind_17 rfl (lv_at hl 3 rfl) ?_
    obtain ⟨x7, hc, hf⟩ := b1_e hf
    refine k_X7_has (pc := 18) hNN hx hb hml hown hts hK hN hc ml_X11_137 (Nat.le_trans (by decide) hF) (Nat.le_trans (by decide) hLo) h hl.1 ⟨Nat.zero_le _, Nat.zero_le _⟩ (Nat.le_of_ble_eq_true rfl) dX11_lostBehind_18 (fun H locs h => ?_)
    refine lv_if_eq (pc := 21) (tgt := 58) hx hb dX11_lostBehind_21 (by decide) (fun c8 => ?_) (fun c8 => ?_)
    · have hf := if_t hf c8
      refine lv_iinc (pc := 58) (v := x2 + 1) (lv' := [(3, .int (x2 + 1)), (0, .ref (a 0)), (1, .int p1), (2, .int x1)]) hx hb dX11_lostBehind_58 hl (k := 3) rfl rfl (by decide) rfl (fun ls hl => ?_)
      refine lv_goto (pc := 61) (tgt := 4) hx hb dX11_lostBehind_61 (by decide) ?_
      exact irec5 _ _ hf _ _ _ h (lv_sub hl [1, 2, 3, 0] rfl)
    · have hf := if_f hf c8
      refine lv_aload_n (pc := 24) hx hb dX11_lostBehind_24 rfl (lv_at hl 0 rfl) ?_
      refine gB_0_0 (pc := 25) hNN hx hb hts hown hK h fl_X11_12 dX11_lostBehind_25 ?_
      refine lv_aload_n (pc := 28) hx hb dX11_lostBehind_28 rfl (lv_at hl 0 rfl) ?_
      refine gB_0_3 (pc := 29) hNN hx hb hts hown hK h fl_X11_32 dX11_lostBehind_29 ?_
      refine lv_iload_n (pc := 32) hx hb dX11_lostBehind_32 rfl (lv_at hl 3 rfl) ?_
      refine lv_iload_n (pc := 33) hx hb dX11_lostBehind_33 rfl (lv_at hl 1 rfl) ?_
      obtain ⟨x9, hc, hf⟩ := b1_e hf
      refine k_X0_acidOf (pc := 34) hNN hx hb hml hown hts hK hN hc ml_X11_209 (Nat.le_trans (by decide) hF) (Nat.le_trans (by decide) hLo) h hl.1 ⟨Nat.zero_le _, Nat.zero_le _⟩ (Nat.le_of_ble_eq_true rfl) dX11_lostBehind_34 (fun H locs h => ?_)
      obtain ⟨x10, hc, hf⟩ := b1_e hf
      refine k_X9_isVinegar (pc := 37) hNN hx hb hml hown hts hK hN hc ml_X11_220 (Nat.le_trans (by decide) hF) (Nat.le_trans (by decide) hLo) h hl.1 ⟨Nat.zero_le _, Nat.zero_le _⟩ (Nat.le_of_ble_eq_true rfl) dX11_lostBehind_37 (fun H locs h => ?_)
      refine lv_if_eq (pc := 40) (tgt := 58) hx hb dX11_lostBehind_40 (by decide) (fun c11 => ?_) (fun c11 => ?_)
      · have hf := if_t hf c11
        refine lv_iinc (pc := 58) (v := x2 + 1) (lv' := [(3, .int (x2 + 1)), (0, .ref (a 0)), (1, .int p1), (2, .int x1)]) hx hb dX11_lostBehind_58 hl (k := 3) rfl rfl (by decide) rfl (fun ls hl => ?_)
        refine lv_goto (pc := 61) (tgt := 4) hx hb dX11_lostBehind_61 (by decide) ?_
        exact irec5 _ _ hf _ _ _ h (lv_sub hl [1, 2, 3, 0] rfl)
      · have hf := if_f hf c11
        refine lv_iload_n (pc := 43) hx hb dX11_lostBehind_43 rfl (lv_at hl 2 rfl) ?_
        refine lv_aload_n (pc := 44) hx hb dX11_lostBehind_44 rfl (lv_at hl 0 rfl) ?_
        refine gB_0_0 (pc := 45) hNN hx hb hts hown hK h fl_X11_12 dX11_lostBehind_45 ?_
        refine gB_1_1 (pc := 48) hNN hx hb hts hown hK h fl_X11_88 dX11_lostBehind_48 ?_
        refine gB_5_1 (pc := 51) hNN hx hb hts hown hK h fl_X11_226 dX11_lostBehind_51 ?_
        refine lv_iload_n (pc := 54) hx hb dX11_lostBehind_54 rfl (lv_at hl 3 rfl) ?_
        obtain ⟨hin, hf⟩ := cki_e hf
        refine gB_7 (pc := 55) hNN hx hb hK h hin dX11_lostBehind_55 ?_
        refine lv_iadd (pc := 56) hx hb dX11_lostBehind_56 ?_
        refine lv_istore_n (pc := 57) (lv' := [(2, .int (x1 + (u.1 7 (ix x2)))), (0, .ref (a 0)), (1, .int p1), (3, .int x2)]) hx hb dX11_lostBehind_57 rfl hl (by decide) rfl (fun ls hl => ?_)
        refine lv_iinc (pc := 58) (v := x2 + 1) (lv' := [(3, .int (x2 + 1)), (2, .int (x1 + (u.1 7 (ix x2)))), (0, .ref (a 0)), (1, .int p1)]) hx hb dX11_lostBehind_58 hl (k := 3) rfl rfl (by decide) rfl (fun ls hl => ?_)
        refine lv_goto (pc := 61) (tgt := 4) hx hb dX11_lostBehind_61 (by decide) ?_
        exact irec5 _ _ hf _ _ _ h (lv_sub hl [2, 3, 1, 0] rfl)
theorem k_X11_lostBehind {p : Program} {l : Launch} {e : Env} {R : Room} {s : State} {m : MethodId} {args : Array Value} {below : List Frame} {meth : Method} {c : Code} {H : Heap} {locs : List Loc} {cells slots : Nat} {Q : State → Prop} {pc : Nat} {ls : Array Slot} {rest : List Value} {cc : ByteArray} {D : va_G} {cI cJ cR : ClassId} {a : Nat → Nat} {u : St} {own : String} {index nL : Nat} {N : Nat} (hNN : 38 ≤ N) {p1 : Int32} {rr : Int32} (hx : p.tables.exec = Jvm.exec) (hb : c.code = cc) (hml : c.maxLocals = nL) (hown : s.vm.findClass own = some m.cls) (hts : ∀ w ∈ Gd, w.before args s = true) (hK : va_K D vwCl (tyB cI cJ cR) s) (hN : NB s) (hc : f_X11_lostBehind u p1 = some rr) (hlk : Cond.methodLink own index yX11_lostBehind ∈ Gd) (hF : 6 ≤ R.frames) (hLo : 138 ≤ R.locals) (h : Hh D (AB N a s.heap.size) (wX N a (EB a cI cJ cR) u) s.heap H locs) (hsize : ls.size = nL) (hcs : cells ≤ R.cells ∧ slots ≤ R.slots) (hr : (rest.map fun v => v.category).sum ≤ 8) (hdg : decode cc pc = .ok (.invokevirtual index, 3)) (kk : ∀ (H1 : Heap) (locs1 : List Loc), Hh D (AB N a s.heap.size) (wX N a (EB a cI cJ cR) u) s.heap H1 locs1 → W p l e R s m args below meth c H1 locs1 cells slots Q (F0 m (pc + 3) ls (.int rr :: rest))) : W p l e R s m args below meth c H locs cells slots Q (F0 m pc ls (.int p1 :: .ref (a 0) :: rest)) :=
  cVi (n := 1) hx hb hml hown hts hK hN (c_X11_lostBehind hNN hc) (gdV hlk im_X11_lostBehind se_X11_lostBehind in_X11 co_X11_lostBehind) rfl (by decide +kernel) rfl hF hLo h hsize hcs (Nat.lt_of_lt_of_le (by decide) hNN) rfl rfl rfl hr hdg kk
def f_X11_lost (u : St) (p1 : Int32) : Option (Int32 × St) := b1 (f_X11_within u p1 0 999) (fun (x1 : Int32) => if x1 = 0 then some ((-2), u) else b1 (f_X0_asItIs u) (fun (u3 : St) => b1 (f_X11_lostBehind u3 p1) (fun (x4 : Int32) => some (x4, u3))))
set_option maxRecDepth 100000 in
set_option maxHeartbeats 4000000 in
theorem c_X11_lost {l : Launch} {D : va_G} {cI cJ cR : ClassId} {a : Nat → Nat} {u : St} {N : Nat} (hNN : 38 ≤ N) {p1 : Int32} {rr : Int32} {uu : St} (hf : f_X11_lost u p1 = some (rr, uu)) : Ci l yX11_lost cX11_lost 2 (some .int) 6 138 D (tyB cI cJ cR) N a (EB a cI cJ cR) [.ref (a 0), .int p1] u rr uu := by
  refine metI (by decide +kernel) (Nat.le_of_ble_eq_true rfl) ?_
  intro p e s m args below meth c R Q hx hb hml hown hts hF hLo hret hK hN h ls hl
  have hown : s.vm.findClass RX11 = some m.cls := hown
  have hl : lv_has ls 2 [(0, .ref (a 0)), (1, .int p1)] := hl
  unfold f_X11_lost at hf
  refine lv_iload_n (pc := 0) hx hb dX11_lost_0 rfl (lv_at hl 1 rfl) ?_
  refine lv_iconst (pc := 1) (v := 0) hx hb dX11_lost_1 (by decide) ?_
  refine lv_sipush (pc := 2) (v := 999) hx hb dX11_lost_2 (by decide) ?_
  obtain ⟨x1, hc, hf⟩ := b1_e hf
  refine kS_X11_within (pc := 5) hNN hx hb hml hown hts hK hN hc ml_X11_70 (Nat.le_trans (by decide) hF) (Nat.le_trans (by decide) hLo) h hl.1 ⟨Nat.zero_le _, Nat.zero_le _⟩ (Nat.le_of_ble_eq_true rfl) dX11_lost_5 (fun H locs h => ?_)
  refine lv_if_ne (pc := 8) (tgt := 14) hx hb dX11_lost_8 (by decide) (fun c2 => ?_) (fun c2 => ?_)
  · have hf := if_f hf c2
    refine lv_aload_n (pc := 14) hx hb dX11_lost_14 rfl (lv_at hl 0 rfl) ?_
    refine gB_0_3 (pc := 15) hNN hx hb hts hown hK h fl_X11_32 dX11_lost_15 ?_
    obtain ⟨u3, hc, hf⟩ := b1_e hf
    refine k_X0_asItIs (pc := 18) hNN hx hb hml hown hts hK hN hc ml_X11_171 (Nat.le_trans (by decide) hF) (Nat.le_trans (by decide) hLo) h hl.1 ⟨Nat.zero_le _, Nat.zero_le _⟩ (Nat.le_of_ble_eq_true rfl) dX11_lost_18 (fun H locs h => ?_)
    refine lv_aload_n (pc := 21) hx hb dX11_lost_21 rfl (lv_at hl 0 rfl) ?_
    refine lv_iload_n (pc := 22) hx hb dX11_lost_22 rfl (lv_at hl 1 rfl) ?_
    obtain ⟨x4, hc, hf⟩ := b1_e hf
    refine k_X11_lostBehind (pc := 23) hNN hx hb hml hown hts hK hN hc ml_X11_223 (Nat.le_trans (by decide) hF) (Nat.le_trans (by decide) hLo) h hl.1 ⟨Nat.zero_le _, Nat.zero_le _⟩ (Nat.le_of_ble_eq_true rfl) dX11_lost_23 (fun H locs h => ?_)
    exact hret (so1 hf) rfl (so2 hf) dX11_lost_26 h
  · have hf := if_t hf c2
    refine lv_bipush (pc := 11) (v := (-2)) hx hb dX11_lost_11 (by decide) ?_
    exact hret (so1 hf) rfl (so2 hf) dX11_lost_13 h
theorem k_X11_lost {p : Program} {l : Launch} {e : Env} {R : Room} {s : State} {m : MethodId} {args : Array Value} {below : List Frame} {meth : Method} {c : Code} {H : Heap} {locs : List Loc} {cells slots : Nat} {Q : State → Prop} {pc : Nat} {ls : Array Slot} {rest : List Value} {cc : ByteArray} {D : va_G} {cI cJ cR : ClassId} {a : Nat → Nat} {u : St} {own : String} {index nL : Nat} {N : Nat} (hNN : 38 ≤ N) {p1 : Int32} {rr : Int32} {uu : St} (hx : p.tables.exec = Jvm.exec) (hb : c.code = cc) (hml : c.maxLocals = nL) (hown : s.vm.findClass own = some m.cls) (hts : ∀ w ∈ Gd, w.before args s = true) (hK : va_K D vwCl (tyB cI cJ cR) s) (hN : NB s) (hc : f_X11_lost u p1 = some (rr, uu)) (hlk : Cond.methodLink own index yX11_lost ∈ Gd) (hF : 7 ≤ R.frames) (hLo : 159 ≤ R.locals) (h : Hh D (AB N a s.heap.size) (wX N a (EB a cI cJ cR) u) s.heap H locs) (hsize : ls.size = nL) (hcs : cells ≤ R.cells ∧ slots ≤ R.slots) (hr : (rest.map fun v => v.category).sum ≤ 8) (hdg : decode cc pc = .ok (.invokevirtual index, 3)) (kk : ∀ (H1 : Heap) (locs1 : List Loc), Hh D (AB N a s.heap.size) (wX N a (EB a cI cJ cR) uu) s.heap H1 locs1 → W p l e R s m args below meth c H1 locs1 cells slots Q (F0 m (pc + 3) ls (.int rr :: rest))) : W p l e R s m args below meth c H locs cells slots Q (F0 m pc ls (.int p1 :: .ref (a 0) :: rest)) :=
  cVi (n := 1) hx hb hml hown hts hK hN (c_X11_lost hNN hc) (gdV hlk im_X11_lost se_X11_lost in_X11 co_X11_lost) rfl (by decide +kernel) rfl hF hLo h hsize hcs (Nat.lt_of_lt_of_le (by decide) hNN) rfl rfl rfl hr hdg kk
def f_X11_plan (u : St) (p1 : Int32) (p2 : Int32) (p3 : Int32) : Option (Int32 × St) := b1 (f_X7_hasAll u p1) (fun (x1 : Int32) => if x1 = 0 then some ((-2), u) else b1 (f_X11_within u p2 0 999) (fun (x3 : Int32) => if x3 = 0 then some ((-2), u) else jq_0 (b1 (f_J6_bitCount_0f7a4 u p1) (fun (x6 : Int32) => if x6 ≤ 4 then b1 (f_X0_asItIs u) (fun (u8 : St) => b1 (f_X4_choose u8 p1 p2) (fun (u9 : St) => b2 (f_X4_search u9) (fun (x10 : Int32) (u11 : St) => if p3 = ((-1)) then some (x10, u11) else if x10 = ((-6)) then some (x10, u11) else b1 (f_X4_cellarOf u11 p3) (fun (x14 : Int32) => some (x14, u11))))) else some ((-4), u))) (fun (k5 : Option (Int32 × St)) => if p3 = ((-1)) then k5 else b1 (f_X11_hasBit u p1 p3) (fun (x16 : Int32) => if x16 = 0 then some ((-1), u) else k5))))
set_option maxRecDepth 100000 in
set_option maxHeartbeats 4000000 in
theorem c_X11_plan {l : Launch} {D : va_G} {cI cJ cR : ClassId} {a : Nat → Nat} {u : St} {N : Nat} (hNN : 38 ≤ N) {p1 : Int32} {p2 : Int32} {p3 : Int32} {rr : Int32} {uu : St} (hf : f_X11_plan u p1 p2 p3 = some (rr, uu)) : Ci l yX11_plan cX11_plan 5 (some .int) 6 141 D (tyB cI cJ cR) N a (EB a cI cJ cR) [.ref (a 0), .int p1, .int p2, .int p3] u rr uu := by
  refine metI (by decide +kernel) (Nat.le_of_ble_eq_true rfl) ?_
  intro p e s m args below meth c R Q hx hb hml hown hts hF hLo hret hK hN h ls hl
  have hown : s.vm.findClass RX11 = some m.cls := hown
  have hl : lv_has ls 5 [(0, .ref (a 0)), (1, .int p1), (2, .int p2), (3, .int p3)] := hl
  unfold f_X11_plan at hf
  refine lv_aload_n (pc := 0) hx hb dX11_plan_0 rfl (lv_at hl 0 rfl) ?_
  refine gB_0_0 (pc := 1) hNN hx hb hts hown hK h fl_X11_12 dX11_plan_1 ?_
  refine gB_1_1 (pc := 4) hNN hx hb hts hown hK h fl_X11_88 dX11_plan_4 ?_
  refine lv_iload_n (pc := 7) hx hb dX11_plan_7 rfl (lv_at hl 1 rfl) ?_
  obtain ⟨x1, hc, hf⟩ := b1_e hf
  refine k_X7_hasAll (pc := 8) hNN hx hb hml hown hts hK hN hc ml_X11_229 (Nat.le_trans (by decide) hF) (Nat.le_trans (by decide) hLo) h hl.1 ⟨Nat.zero_le _, Nat.zero_le _⟩ (Nat.le_of_ble_eq_true rfl) dX11_plan_8 (fun H locs h => ?_)
  refine lv_if_eq (pc := 11) (tgt := 25) hx hb dX11_plan_11 (by decide) (fun c2 => ?_) (fun c2 => ?_)
  · have hf := if_t hf c2
    refine lv_bipush (pc := 25) (v := (-2)) hx hb dX11_plan_25 (by decide) ?_
    exact hret (so1 hf) rfl (so2 hf) dX11_plan_27 h
  · have hf := if_f hf c2
    refine lv_iload_n (pc := 14) hx hb dX11_plan_14 rfl (lv_at hl 2 rfl) ?_
    refine lv_iconst (pc := 15) (v := 0) hx hb dX11_plan_15 (by decide) ?_
    refine lv_sipush (pc := 16) (v := 999) hx hb dX11_plan_16 (by decide) ?_
    obtain ⟨x3, hc, hf⟩ := b1_e hf
    refine kS_X11_within (pc := 19) hNN hx hb hml hown hts hK hN hc ml_X11_70 (Nat.le_trans (by decide) hF) (Nat.le_trans (by decide) hLo) h hl.1 ⟨Nat.zero_le _, Nat.zero_le _⟩ (Nat.le_of_ble_eq_true rfl) dX11_plan_19 (fun H locs h => ?_)
    refine lv_if_ne (pc := 22) (tgt := 28) hx hb dX11_plan_22 (by decide) (fun c4 => ?_) (fun c4 => ?_)
    · have hf := if_f hf c4
      refine lv_iload_n (pc := 28) hx hb dX11_plan_28 rfl (lv_at hl 3 rfl) ?_
      refine lv_iconst (pc := 29) (v := (-1)) hx hb dX11_plan_29 (by decide) ?_
      obtain ⟨k5, hk5, hf⟩ := jq_0_e hf
      have jk5 : k5 = some (rr, uu) → ∀ (H : Heap) (locs : List Loc) (ls : Array Slot), Hh D (AB N a s.heap.size) (wX N a (EB a cI cJ cR) u) s.heap H locs → lv_has ls 5 [(0, .ref (a 0)), (1, .int p1), (2, .int p2), (3, .int p3)] → W p l e R s m args below meth c H locs 0 0 Q (F0 m 43 ls []) := by
        intro hf H locs ls h hl
        rw [hk5] at hf
        refine lv_iload_n (pc := 43) hx hb dX11_plan_43 rfl (lv_at hl 1 rfl) ?_
        obtain ⟨x6, hc, hf⟩ := b1_e hf
        refine kS_J6_bitCount_0f7a4 (pc := 44) hNN hx hb hml hown hts hK hN hc ml_X11_131 (Nat.le_trans (by decide) hF) (Nat.le_trans (by decide) hLo) h hl.1 ⟨Nat.zero_le _, Nat.zero_le _⟩ (Nat.le_of_ble_eq_true rfl) dX11_plan_44 (fun H locs h => ?_)
        refine lv_iconst (pc := 47) (v := 4) hx hb dX11_plan_47 (by decide) ?_
        refine lv_icmp_le (pc := 48) (tgt := 54) hx hb dX11_plan_48 (by decide) (fun c7 => ?_) (fun c7 => ?_)
        · have hf := if_t hf c7
          refine lv_aload_n (pc := 54) hx hb dX11_plan_54 rfl (lv_at hl 0 rfl) ?_
          refine gB_0_3 (pc := 55) hNN hx hb hts hown hK h fl_X11_32 dX11_plan_55 ?_
          obtain ⟨u8, hc, hf⟩ := b1_e hf
          refine k_X0_asItIs (pc := 58) hNN hx hb hml hown hts hK hN hc ml_X11_171 (Nat.le_trans (by decide) hF) (Nat.le_trans (by decide) hLo) h hl.1 ⟨Nat.zero_le _, Nat.zero_le _⟩ (Nat.le_of_ble_eq_true rfl) dX11_plan_58 (fun H locs h => ?_)
          refine lv_aload_n (pc := 61) hx hb dX11_plan_61 rfl (lv_at hl 0 rfl) ?_
          refine gB_0_5 (pc := 62) hNN hx hb hts hown hK h fl_X11_48 dX11_plan_62 ?_
          refine lv_iload_n (pc := 65) hx hb dX11_plan_65 rfl (lv_at hl 1 rfl) ?_
          refine lv_iload_n (pc := 66) hx hb dX11_plan_66 rfl (lv_at hl 2 rfl) ?_
          obtain ⟨u9, hc, hf⟩ := b1_e hf
          refine k_X4_choose (pc := 67) hNN hx hb hml hown hts hK hN hc ml_X11_236 (Nat.le_trans (by decide) hF) (Nat.le_trans (by decide) hLo) h hl.1 ⟨Nat.zero_le _, Nat.zero_le _⟩ (Nat.le_of_ble_eq_true rfl) dX11_plan_67 (fun H locs h => ?_)
          refine lv_aload_n (pc := 70) hx hb dX11_plan_70 rfl (lv_at hl 0 rfl) ?_
          refine gB_0_5 (pc := 71) hNN hx hb hts hown hK h fl_X11_48 dX11_plan_71 ?_
          obtain ⟨x10, u11, hc, hf⟩ := b2_e hf
          refine k_X4_search (pc := 74) hNN hx hb hml hown hts hK hN hc ml_X11_240 (Nat.le_trans (by decide) hF) (Nat.le_trans (by decide) hLo) h hl.1 ⟨Nat.zero_le _, Nat.zero_le _⟩ (Nat.le_of_ble_eq_true rfl) dX11_plan_74 (fun H locs h => ?_)
          refine lv_istore (pc := 77) (lv' := [(4, .int x10), (0, .ref (a 0)), (1, .int p1), (2, .int p2), (3, .int p3)]) hx hb dX11_plan_77 hl (by decide) rfl (fun ls hl => ?_)
          refine lv_iload_n (pc := 79) hx hb dX11_plan_79 rfl (lv_at hl 4 rfl) ?_
          refine lv_iconst (pc := 80) (v := (-1)) hx hb dX11_plan_80 (by decide) ?_
          refine lv_icmp_eq (pc := 81) (tgt := 91) hx hb dX11_plan_81 (by decide) (fun c12 => ?_) (fun c12 => ?_)
          · have hf := if_t hf c12
            refine lv_iload (pc := 91) hx hb dX11_plan_91 (lv_at hl 0 rfl) ?_
            refine lv_goto (pc := 93) (tgt := 104) hx hb dX11_plan_93 (by decide) ?_
            exact hret (so1 hf) rfl (so2 hf) dX11_plan_104 h
          · have hf := if_f hf c12
            refine lv_iload (pc := 84) hx hb dX11_plan_84 (lv_at hl 0 rfl) ?_
            refine lv_bipush (pc := 86) (v := (-6)) hx hb dX11_plan_86 (by decide) ?_
            refine lv_icmp_ne (pc := 88) (tgt := 96) hx hb dX11_plan_88 (by decide) (fun c13 => ?_) (fun c13 => ?_)
            · have hf := if_f hf c13
              refine lv_aload_n (pc := 96) hx hb dX11_plan_96 rfl (lv_at hl 1 rfl) ?_
              refine gB_0_5 (pc := 97) hNN hx hb hts hown hK h fl_X11_48 dX11_plan_97 ?_
              refine lv_iload_n (pc := 100) hx hb dX11_plan_100 rfl (lv_at hl 4 rfl) ?_
              obtain ⟨x14, hc, hf⟩ := b1_e hf
              refine k_X4_cellarOf (pc := 101) hNN hx hb hml hown hts hK hN hc ml_X11_243 (Nat.le_trans (by decide) hF) (Nat.le_trans (by decide) hLo) h hl.1 ⟨Nat.zero_le _, Nat.zero_le _⟩ (Nat.le_of_ble_eq_true rfl) dX11_plan_101 (fun H locs h => ?_)
              exact hret (so1 hf) rfl (so2 hf) dX11_plan_104 h
            · have hf := if_t hf c13
              refine lv_iload (pc := 91) hx hb dX11_plan_91 (lv_at hl 0 rfl) ?_
              refine lv_goto (pc := 93) (tgt := 104) hx hb dX11_plan_93 (by decide) ?_
              exact hret (so1 hf) rfl (so2 hf) dX11_plan_104 h
        · have hf := if_f hf c7
          refine lv_bipush (pc := 51) (v := (-4)) hx hb dX11_plan_51 (by decide) ?_
          exact hret (so1 hf) rfl (so2 hf) dX11_plan_53 h
      refine lv_icmp_eq (pc := 30) (tgt := 43) hx hb dX11_plan_30 (by decide) (fun c15 => ?_) (fun c15 => ?_)
      · have hf := if_t hf c15
        exact jk5 hf _ _ _ h (lv_sub hl [0, 1, 2, 3] rfl)
      · have hf := if_f hf c15
        refine lv_iload_n (pc := 33) hx hb dX11_plan_33 rfl (lv_at hl 1 rfl) ?_
        refine lv_iload_n (pc := 34) hx hb dX11_plan_34 rfl (lv_at hl 3 rfl) ?_
        obtain ⟨x16, hc, hf⟩ := b1_e hf
        refine kS_X11_hasBit (pc := 35) hNN hx hb hml hown hts hK hN hc ml_X11_232 (Nat.le_trans (by decide) hF) (Nat.le_trans (by decide) hLo) h hl.1 ⟨Nat.zero_le _, Nat.zero_le _⟩ (Nat.le_of_ble_eq_true rfl) dX11_plan_35 (fun H locs h => ?_)
        refine lv_if_ne (pc := 38) (tgt := 43) hx hb dX11_plan_38 (by decide) (fun c17 => ?_) (fun c17 => ?_)
        · have hf := if_f hf c17
          exact jk5 hf _ _ _ h (lv_sub hl [0, 1, 2, 3] rfl)
        · have hf := if_t hf c17
          refine lv_iconst (pc := 41) (v := (-1)) hx hb dX11_plan_41 (by decide) ?_
          exact hret (so1 hf) rfl (so2 hf) dX11_plan_42 h
    · have hf := if_t hf c4
      refine lv_bipush (pc := 25) (v := (-2)) hx hb dX11_plan_25 (by decide) ?_
      exact hret (so1 hf) rfl (so2 hf) dX11_plan_27 h
theorem k_X11_plan {p : Program} {l : Launch} {e : Env} {R : Room} {s : State} {m : MethodId} {args : Array Value} {below : List Frame} {meth : Method} {c : Code} {H : Heap} {locs : List Loc} {cells slots : Nat} {Q : State → Prop} {pc : Nat} {ls : Array Slot} {rest : List Value} {cc : ByteArray} {D : va_G} {cI cJ cR : ClassId} {a : Nat → Nat} {u : St} {own : String} {index nL : Nat} {N : Nat} (hNN : 38 ≤ N) {p1 : Int32} {p2 : Int32} {p3 : Int32} {rr : Int32} {uu : St} (hx : p.tables.exec = Jvm.exec) (hb : c.code = cc) (hml : c.maxLocals = nL) (hown : s.vm.findClass own = some m.cls) (hts : ∀ w ∈ Gd, w.before args s = true) (hK : va_K D vwCl (tyB cI cJ cR) s) (hN : NB s) (hc : f_X11_plan u p1 p2 p3 = some (rr, uu)) (hlk : Cond.methodLink own index yX11_plan ∈ Gd) (hF : 7 ≤ R.frames) (hLo : 165 ≤ R.locals) (h : Hh D (AB N a s.heap.size) (wX N a (EB a cI cJ cR) u) s.heap H locs) (hsize : ls.size = nL) (hcs : cells ≤ R.cells ∧ slots ≤ R.slots) (hr : (rest.map fun v => v.category).sum ≤ 8) (hdg : decode cc pc = .ok (.invokevirtual index, 3)) (kk : ∀ (H1 : Heap) (locs1 : List Loc), Hh D (AB N a s.heap.size) (wX N a (EB a cI cJ cR) uu) s.heap H1 locs1 → W p l e R s m args below meth c H1 locs1 cells slots Q (F0 m (pc + 3) ls (.int rr :: rest))) : W p l e R s m args below meth c H locs cells slots Q (F0 m pc ls (.int p3 :: .int p2 :: .int p1 :: .ref (a 0) :: rest)) :=
  cVi (n := 3) hx hb hml hown hts hK hN (c_X11_plan hNN hc) (gdV hlk im_X11_plan se_X11_plan in_X11 co_X11_plan) rfl (by decide +kernel) rfl hF hLo h hsize hcs (Nat.lt_of_lt_of_le (by decide) hNN) rfl rfl rfl hr hdg kk
def f_X11_value (u : St) (p1 : Int32) (p2 : Int32) : Option (Int32 × St) := b1 (f_X7_has u p1) (fun (x1 : Int32) => if x1 = 0 then some ((-1), u) else b1 (f_X11_within u p2 0 99) (fun (x3 : Int32) => if x3 = 0 then some ((-2), u) else b1 (f_X0_asItIs u) (fun (u5 : St) => b1 (f_X0_acidOf u5 p1 p2) (fun (x6 : Int32) => b1 (f_X9_worth u5 p1 p2 x6) (fun (x7 : Int32) => some (x7, u5))))))
set_option maxRecDepth 100000 in
set_option maxHeartbeats 4000000 in
theorem c_X11_value {l : Launch} {D : va_G} {cI cJ cR : ClassId} {a : Nat → Nat} {u : St} {N : Nat} (hNN : 38 ≤ N) {p1 : Int32} {p2 : Int32} {rr : Int32} {uu : St} (hf : f_X11_value u p1 p2 = some (rr, uu)) : Ci l yX11_value cX11_value 3 (some .int) 5 115 D (tyB cI cJ cR) N a (EB a cI cJ cR) [.ref (a 0), .int p1, .int p2] u rr uu := by
  refine metI (by decide +kernel) (Nat.le_of_ble_eq_true rfl) ?_
  intro p e s m args below meth c R Q hx hb hml hown hts hF hLo hret hK hN h ls hl
  have hown : s.vm.findClass RX11 = some m.cls := hown
  have hl : lv_has ls 3 [(0, .ref (a 0)), (1, .int p1), (2, .int p2)] := hl
  unfold f_X11_value at hf
  refine lv_aload_n (pc := 0) hx hb dX11_value_0 rfl (lv_at hl 0 rfl) ?_
  refine gB_0_0 (pc := 1) hNN hx hb hts hown hK h fl_X11_12 dX11_value_1 ?_
  refine gB_1_1 (pc := 4) hNN hx hb hts hown hK h fl_X11_88 dX11_value_4 ?_
  refine lv_iload_n (pc := 7) hx hb dX11_value_7 rfl (lv_at hl 1 rfl) ?_
  obtain ⟨x1, hc, hf⟩ := b1_e hf
  refine k_X7_has (pc := 8) hNN hx hb hml hown hts hK hN hc ml_X11_137 (Nat.le_trans (by decide) hF) (Nat.le_trans (by decide) hLo) h hl.1 ⟨Nat.zero_le _, Nat.zero_le _⟩ (Nat.le_of_ble_eq_true rfl) dX11_value_8 (fun H locs h => ?_)
  refine lv_if_ne (pc := 11) (tgt := 16) hx hb dX11_value_11 (by decide) (fun c2 => ?_) (fun c2 => ?_)
  · have hf := if_f hf c2
    refine lv_iload_n (pc := 16) hx hb dX11_value_16 rfl (lv_at hl 2 rfl) ?_
    refine lv_iconst (pc := 17) (v := 0) hx hb dX11_value_17 (by decide) ?_
    refine lv_bipush (pc := 18) (v := 99) hx hb dX11_value_18 (by decide) ?_
    obtain ⟨x3, hc, hf⟩ := b1_e hf
    refine kS_X11_within (pc := 20) hNN hx hb hml hown hts hK hN hc ml_X11_70 (Nat.le_trans (by decide) hF) (Nat.le_trans (by decide) hLo) h hl.1 ⟨Nat.zero_le _, Nat.zero_le _⟩ (Nat.le_of_ble_eq_true rfl) dX11_value_20 (fun H locs h => ?_)
    refine lv_if_ne (pc := 23) (tgt := 29) hx hb dX11_value_23 (by decide) (fun c4 => ?_) (fun c4 => ?_)
    · have hf := if_f hf c4
      refine lv_aload_n (pc := 29) hx hb dX11_value_29 rfl (lv_at hl 0 rfl) ?_
      refine gB_0_3 (pc := 30) hNN hx hb hts hown hK h fl_X11_32 dX11_value_30 ?_
      obtain ⟨u5, hc, hf⟩ := b1_e hf
      refine k_X0_asItIs (pc := 33) hNN hx hb hml hown hts hK hN hc ml_X11_171 (Nat.le_trans (by decide) hF) (Nat.le_trans (by decide) hLo) h hl.1 ⟨Nat.zero_le _, Nat.zero_le _⟩ (Nat.le_of_ble_eq_true rfl) dX11_value_33 (fun H locs h => ?_)
      refine lv_aload_n (pc := 36) hx hb dX11_value_36 rfl (lv_at hl 0 rfl) ?_
      refine gB_0_0 (pc := 37) hNN hx hb hts hown hK h fl_X11_12 dX11_value_37 ?_
      refine lv_iload_n (pc := 40) hx hb dX11_value_40 rfl (lv_at hl 1 rfl) ?_
      refine lv_iload_n (pc := 41) hx hb dX11_value_41 rfl (lv_at hl 2 rfl) ?_
      refine lv_aload_n (pc := 42) hx hb dX11_value_42 rfl (lv_at hl 0 rfl) ?_
      refine gB_0_3 (pc := 43) hNN hx hb hts hown hK h fl_X11_32 dX11_value_43 ?_
      refine lv_iload_n (pc := 46) hx hb dX11_value_46 rfl (lv_at hl 1 rfl) ?_
      refine lv_iload_n (pc := 47) hx hb dX11_value_47 rfl (lv_at hl 2 rfl) ?_
      obtain ⟨x6, hc, hf⟩ := b1_e hf
      refine k_X0_acidOf (pc := 48) hNN hx hb hml hown hts hK hN hc ml_X11_209 (Nat.le_trans (by decide) hF) (Nat.le_trans (by decide) hLo) h hl.1 ⟨Nat.zero_le _, Nat.zero_le _⟩ (Nat.le_of_ble_eq_true rfl) dX11_value_48 (fun H locs h => ?_)
      obtain ⟨x7, hc, hf⟩ := b1_e hf
      refine k_X9_worth (pc := 51) hNN hx hb hml hown hts hK hN hc ml_X11_246 (Nat.le_trans (by decide) hF) (Nat.le_trans (by decide) hLo) h hl.1 ⟨Nat.zero_le _, Nat.zero_le _⟩ (Nat.le_of_ble_eq_true rfl) dX11_value_51 (fun H locs h => ?_)
      exact hret (so1 hf) rfl (so2 hf) dX11_value_54 h
    · have hf := if_t hf c4
      refine lv_bipush (pc := 26) (v := (-2)) hx hb dX11_value_26 (by decide) ?_
      exact hret (so1 hf) rfl (so2 hf) dX11_value_28 h
  · have hf := if_t hf c2
    refine lv_iconst (pc := 14) (v := (-1)) hx hb dX11_value_14 (by decide) ?_
    exact hret (so1 hf) rfl (so2 hf) dX11_value_15 h
theorem k_X11_value {p : Program} {l : Launch} {e : Env} {R : Room} {s : State} {m : MethodId} {args : Array Value} {below : List Frame} {meth : Method} {c : Code} {H : Heap} {locs : List Loc} {cells slots : Nat} {Q : State → Prop} {pc : Nat} {ls : Array Slot} {rest : List Value} {cc : ByteArray} {D : va_G} {cI cJ cR : ClassId} {a : Nat → Nat} {u : St} {own : String} {index nL : Nat} {N : Nat} (hNN : 38 ≤ N) {p1 : Int32} {p2 : Int32} {rr : Int32} {uu : St} (hx : p.tables.exec = Jvm.exec) (hb : c.code = cc) (hml : c.maxLocals = nL) (hown : s.vm.findClass own = some m.cls) (hts : ∀ w ∈ Gd, w.before args s = true) (hK : va_K D vwCl (tyB cI cJ cR) s) (hN : NB s) (hc : f_X11_value u p1 p2 = some (rr, uu)) (hlk : Cond.methodLink own index yX11_value ∈ Gd) (hF : 6 ≤ R.frames) (hLo : 137 ≤ R.locals) (h : Hh D (AB N a s.heap.size) (wX N a (EB a cI cJ cR) u) s.heap H locs) (hsize : ls.size = nL) (hcs : cells ≤ R.cells ∧ slots ≤ R.slots) (hr : (rest.map fun v => v.category).sum ≤ 8) (hdg : decode cc pc = .ok (.invokevirtual index, 3)) (kk : ∀ (H1 : Heap) (locs1 : List Loc), Hh D (AB N a s.heap.size) (wX N a (EB a cI cJ cR) uu) s.heap H1 locs1 → W p l e R s m args below meth c H1 locs1 cells slots Q (F0 m (pc + 3) ls (.int rr :: rest))) : W p l e R s m args below meth c H locs cells slots Q (F0 m pc ls (.int p2 :: .int p1 :: .ref (a 0) :: rest)) :=
  cVi (n := 2) hx hb hml hown hts hK hN (c_X11_value hNN hc) (gdV hlk im_X11_value se_X11_value in_X11 co_X11_value) rfl (by decide +kernel) rfl hF hLo h hsize hcs (Nat.lt_of_lt_of_le (by decide) hNN) rfl rfl rfl hr hdg kk
def B_X11_bestDay_22 (p1 : Int32) (k7 : St → Int32 → Int32 → Option (Int32 × St)) (rec12 : St → Int32 → Int32 → Int32 → Option (Int32 × St)) (u3 : St) (x4 : Int32) (x5 : Int32) (x6 : Int32) : Option (Int32 × St) := if 99 < x6 then k7 u3 x4 x5 else b1 (f_X1_worthOf u3 p1) (fun (x14 : Int32) => jq_2 (fun (x16 : Int32) (x17 : Int32) => b1 (f_X1_passDay u3 0) (fun (u18 : St) => rec12 u18 x16 x17 (x6 + 1))) (fun (k15 : Int32 → Int32 → Option (Int32 × St)) => if x14 ≤ x5 then k15 x4 x5 else k15 x6 x14))
def f_X11_bestDay (u : St) (p1 : Int32) (p2 : Int32) : Option (Int32 × St) := b1 (f_X0_asItIs u) (fun (u1 : St) => b1 (f_X1_begin u1) (fun (u2 : St) => jq_3 (fun (u8 : St) (x9 : Int32) (x10 : Int32) => if p2 = 0 then some (x9, u8) else some (x10, u8)) (fun (k7 : St → Int32 → Int32 → Option (Int32 × St)) => lq_4 (B_X11_bestDay_22 p1 k7) FU u2 0 ((-1)) 0)))
set_option maxRecDepth 100000 in
set_option maxHeartbeats 4000000 in
theorem c_X11_bestDay {l : Launch} {D : va_G} {cI cJ cR : ClassId} {a : Nat → Nat} {u : St} {N : Nat} (hNN : 38 ≤ N) {p1 : Int32} {p2 : Int32} {rr : Int32} {uu : St} (hf : f_X11_bestDay u p1 p2 = some (rr, uu)) : Ci l yX11_bestDay cX11_bestDay 7 (some .int) 4 90 D (tyB cI cJ cR) N a (EB a cI cJ cR) [.ref (a 0), .int p1, .int p2] u rr uu := by
  refine metI (by decide +kernel) (Nat.le_of_ble_eq_true rfl) ?_
  intro p e s m args below meth c R Q hx hb hml hown hts hF hLo hret hK hN h ls hl
  have hown : s.vm.findClass RX11 = some m.cls := hown
  have hl : lv_has ls 7 [(0, .ref (a 0)), (1, .int p1), (2, .int p2)] := hl
  unfold f_X11_bestDay at hf
  refine lv_aload_n (pc := 0) hx hb dX11_bestDay_0 rfl (lv_at hl 0 rfl) ?_
  refine gB_0_3 (pc := 1) hNN hx hb hts hown hK h fl_X11_32 dX11_bestDay_1 ?_
  obtain ⟨u1, hc, hf⟩ := b1_e hf
  refine k_X0_asItIs (pc := 4) hNN hx hb hml hown hts hK hN hc ml_X11_171 (Nat.le_trans (by decide) hF) (Nat.le_trans (by decide) hLo) h hl.1 ⟨Nat.zero_le _, Nat.zero_le _⟩ (Nat.le_of_ble_eq_true rfl) dX11_bestDay_4 (fun H locs h => ?_)
  refine lv_aload_n (pc := 7) hx hb dX11_bestDay_7 rfl (lv_at hl 0 rfl) ?_
  refine gB_0_4 (pc := 8) hNN hx hb hts hown hK h fl_X11_41 dX11_bestDay_8 ?_
  obtain ⟨u2, hc, hf⟩ := b1_e hf
  refine k_X1_begin (pc := 11) hNN hx hb hml hown hts hK hN hc ml_X11_252 (Nat.le_trans (by decide) hF) (Nat.le_trans (by decide) hLo) h hl.1 ⟨Nat.zero_le _, Nat.zero_le _⟩ (Nat.le_of_ble_eq_true rfl) dX11_bestDay_11 (fun H locs h => ?_)
  refine lv_iconst (pc := 14) (v := 0) hx hb dX11_bestDay_14 (by decide) ?_
  refine lv_istore_n (pc := 15) (lv' := [(3, .int 0), (0, .ref (a 0)), (1, .int p1), (2, .int p2)]) hx hb dX11_bestDay_15 rfl hl (by decide) rfl (fun ls hl => ?_)
  refine lv_iconst (pc := 16) (v := (-1)) hx hb dX11_bestDay_16 (by decide) ?_
  refine lv_istore (pc := 17) (lv' := [(4, .int ((-1))), (3, .int 0), (0, .ref (a 0)), (1, .int p1), (2, .int p2)]) hx hb dX11_bestDay_17 hl (by decide) rfl (fun ls hl => ?_)
  refine lv_iconst (pc := 19) (v := 0) hx hb dX11_bestDay_19 (by decide) ?_
  refine lv_istore (pc := 20) (lv' := [(5, .int 0), (4, .int ((-1))), (3, .int 0), (0, .ref (a 0)), (1, .int p1), (2, .int p2)]) hx hb dX11_bestDay_20 hl (by decide) rfl (fun ls hl => ?_)
  obtain ⟨k7, hk7, hf⟩ := jq_3_e hf
  have jk7 : ∀ (u8 : St) (x9 : Int32) (x10 : Int32), k7 u8 x9 x10 = some (rr, uu) → ∀ (H : Heap) (locs : List Loc) (ls : Array Slot), Hh D (AB N a s.heap.size) (wX N a (EB a cI cJ cR) u8) s.heap H locs → lv_has ls 7 [(2, .int p2), (3, .int x9), (4, .int x10)] → W p l e R s m args below meth c H locs 0 0 Q (F0 m 67 ls []) := by
    intro u8 x9 x10 hf H locs ls h hl
    rw [hk7] at hf
    refine lv_iload_n (pc := 67) hx hb dX11_bestDay_67 rfl (lv_at hl 0 rfl) ?_
    refine lv_if_ne (pc := 68) (tgt := 75) hx hb dX11_bestDay_68 (by decide) (fun c11 => ?_) (fun c11 => ?_)
    · have hf := if_f hf c11
      refine lv_iload (pc := 75) hx hb dX11_bestDay_75 (lv_at hl 2 rfl) ?_
      exact hret (so1 hf) rfl (so2 hf) dX11_bestDay_77 h
    · have hf := if_t hf c11
      refine lv_iload_n (pc := 71) hx hb dX11_bestDay_71 rfl (lv_at hl 1 rfl) ?_
      refine lv_goto (pc := 72) (tgt := 77) hx hb dX11_bestDay_72 (by decide) ?_
      exact hret (so1 hf) rfl (so2 hf) dX11_bestDay_77 h
  refine lq_4_e (P := fun (u3 : St) (x4 : Int32) (x5 : Int32) (x6 : Int32) => ∀ (H : Heap) (locs : List Loc) (ls : Array Slot), Hh D (AB N a s.heap.size) (wX N a (EB a cI cJ cR) u3) s.heap H locs → lv_has ls 7 [(0, .ref (a 0)), (1, .int p1), (2, .int p2), (3, .int x4), (4, .int x5), (5, .int x6)] → W p l e R s m args below meth c H locs 0 0 Q (F0 m 22 ls [])) ?_ FU _ _ _ _ hf _ _ _ h (lv_sub hl [3, 4, 5, 2, 1, 0] rfl)
  intro rec12 irec12 u3 x4 x5 x6 hf H locs ls h hl
  unfold B_X11_bestDay_22 at hf
  refine lv_iload (pc := 22) hx hb dX11_bestDay_22 (lv_at hl 5 rfl) ?_
  refine lv_bipush (pc := 24) (v := 99) hx hb dX11_bestDay_24 (by decide) ?_
  refine lv_icmp_gt (pc := 26) (tgt := 67) hx hb dX11_bestDay_26 (by decide) (fun c13 => ?_) (fun c13 => ?_)
  · have hf := if_t hf c13
    exact jk7 _ _ _ hf _ _ _ h (lv_sub hl [2, 3, 4] rfl)
  · have hf := if_f hf c13
    refine lv_aload_n (pc := 29) hx hb dX11_bestDay_29 rfl (lv_at hl 0 rfl) ?_
    refine gB_0_4 (pc := 30) hNN hx hb hts hown hK h fl_X11_41 dX11_bestDay_30 ?_
    refine lv_iload_n (pc := 33) hx hb dX11_bestDay_33 rfl (lv_at hl 1 rfl) ?_
    obtain ⟨x14, hc, hf⟩ := b1_e hf
    refine k_X1_worthOf (pc := 34) hNN hx hb hml hown hts hK hN hc ml_X11_255 (Nat.le_trans (by decide) hF) (Nat.le_trans (by decide) hLo) h hl.1 ⟨Nat.zero_le _, Nat.zero_le _⟩ (Nat.le_of_ble_eq_true rfl) dX11_bestDay_34 (fun H locs h => ?_)
    refine lv_istore (pc := 37) (lv' := [(6, .int x14), (0, .ref (a 0)), (1, .int p1), (2, .int p2), (3, .int x4), (4, .int x5), (5, .int x6)]) hx hb dX11_bestDay_37 hl (by decide) rfl (fun ls hl => ?_)
    refine lv_iload (pc := 39) hx hb dX11_bestDay_39 (lv_at hl 0 rfl) ?_
    refine lv_iload (pc := 41) hx hb dX11_bestDay_41 (lv_at hl 5 rfl) ?_
    obtain ⟨k15, hk15, hf⟩ := jq_2_e hf
    have jk15 : ∀ (x16 : Int32) (x17 : Int32), k15 x16 x17 = some (rr, uu) → ∀ (H : Heap) (locs : List Loc) (ls : Array Slot), Hh D (AB N a s.heap.size) (wX N a (EB a cI cJ cR) u3) s.heap H locs → lv_has ls 7 [(0, .ref (a 0)), (1, .int p1), (2, .int p2), (3, .int x16), (4, .int x17), (5, .int x6)] → W p l e R s m args below meth c H locs 0 0 Q (F0 m 53 ls []) := by
      intro x16 x17 hf H locs ls h hl
      rw [hk15] at hf
      refine lv_aload_n (pc := 53) hx hb dX11_bestDay_53 rfl (lv_at hl 0 rfl) ?_
      refine gB_0_4 (pc := 54) hNN hx hb hts hown hK h fl_X11_41 dX11_bestDay_54 ?_
      refine lv_iconst (pc := 57) (v := 0) hx hb dX11_bestDay_57 (by decide) ?_
      obtain ⟨u18, hc, hf⟩ := b1_e hf
      refine k_X1_passDay (pc := 58) hNN hx hb hml hown hts hK hN hc ml_X11_258 (Nat.le_trans (by decide) hF) (Nat.le_trans (by decide) hLo) h hl.1 ⟨Nat.zero_le _, Nat.zero_le _⟩ (Nat.le_of_ble_eq_true rfl) dX11_bestDay_58 (fun H locs h => ?_)
      refine lv_iinc (pc := 61) (v := x6 + 1) (lv' := [(5, .int (x6 + 1)), (0, .ref (a 0)), (1, .int p1), (2, .int p2), (3, .int x16), (4, .int x17)]) hx hb dX11_bestDay_61 hl (k := 5) rfl rfl (by decide) rfl (fun ls hl => ?_)
      refine lv_goto (pc := 64) (tgt := 22) hx hb dX11_bestDay_64 (by decide) ?_
      exact irec12 _ _ _ _ hf _ _ _ h (lv_sub hl [1, 2, 3, 4, 5, 0] rfl)
    refine lv_icmp_le (pc := 43) (tgt := 53) hx hb dX11_bestDay_43 (by decide) (fun c19 => ?_) (fun c19 => ?_)
    · have hf := if_t hf c19
      exact jk15 _ _ hf _ _ _ h (lv_sub hl [1, 2, 3, 4, 5, 6] rfl)
    · have hf := if_f hf c19
      refine lv_iload (pc := 46) hx hb dX11_bestDay_46 (lv_at hl 0 rfl) ?_
      refine lv_istore (pc := 48) (lv' := [(4, .int x14), (6, .int x14), (0, .ref (a 0)), (1, .int p1), (2, .int p2), (3, .int x4), (5, .int x6)]) hx hb dX11_bestDay_48 hl (by decide) rfl (fun ls hl => ?_)
      refine lv_iload (pc := 50) hx hb dX11_bestDay_50 (lv_at hl 6 rfl) ?_
      refine lv_istore_n (pc := 52) (lv' := [(3, .int x6), (4, .int x14), (6, .int x14), (0, .ref (a 0)), (1, .int p1), (2, .int p2), (5, .int x6)]) hx hb dX11_bestDay_52 rfl hl (by decide) rfl (fun ls hl => ?_)
      exact jk15 _ _ hf _ _ _ h (lv_sub hl [3, 4, 5, 0, 1, 6] rfl)
theorem k_X11_bestDay {p : Program} {l : Launch} {e : Env} {R : Room} {s : State} {m : MethodId} {args : Array Value} {below : List Frame} {meth : Method} {c : Code} {H : Heap} {locs : List Loc} {cells slots : Nat} {Q : State → Prop} {pc : Nat} {ls : Array Slot} {rest : List Value} {cc : ByteArray} {D : va_G} {cI cJ cR : ClassId} {a : Nat → Nat} {u : St} {own : String} {index nL : Nat} {N : Nat} (hNN : 38 ≤ N) {p1 : Int32} {p2 : Int32} {rr : Int32} {uu : St} (hx : p.tables.exec = Jvm.exec) (hb : c.code = cc) (hml : c.maxLocals = nL) (hown : s.vm.findClass own = some m.cls) (hts : ∀ w ∈ Gd, w.before args s = true) (hK : va_K D vwCl (tyB cI cJ cR) s) (hN : NB s) (hc : f_X11_bestDay u p1 p2 = some (rr, uu)) (hlk : Cond.methodLink own index yX11_bestDay ∈ Gd) (hF : 5 ≤ R.frames) (hLo : 116 ≤ R.locals) (h : Hh D (AB N a s.heap.size) (wX N a (EB a cI cJ cR) u) s.heap H locs) (hsize : ls.size = nL) (hcs : cells ≤ R.cells ∧ slots ≤ R.slots) (hr : (rest.map fun v => v.category).sum ≤ 8) (hdg : decode cc pc = .ok (.invokevirtual index, 3)) (kk : ∀ (H1 : Heap) (locs1 : List Loc), Hh D (AB N a s.heap.size) (wX N a (EB a cI cJ cR) uu) s.heap H1 locs1 → W p l e R s m args below meth c H1 locs1 cells slots Q (F0 m (pc + 3) ls (.int rr :: rest))) : W p l e R s m args below meth c H locs cells slots Q (F0 m pc ls (.int p2 :: .int p1 :: .ref (a 0) :: rest)) :=
  cVi (n := 2) hx hb hml hown hts hK hN (c_X11_bestDay hNN hc) (gdV hlk im_X11_bestDay se_X11_bestDay in_X11 co_X11_bestDay) rfl (by decide +kernel) rfl hF hLo h hsize hcs (Nat.lt_of_lt_of_le (by decide) hNN) rfl rfl rfl hr hdg kk
def f_X11_opening (u : St) (p1 : Int32) (p2 : Int32) : Option (Int32 × St) := b1 (f_X7_has u p1) (fun (x1 : Int32) => if x1 = 0 then some ((-1), u) else b1 (f_X11_within u p2 0 1) (fun (x3 : Int32) => if x3 = 0 then some ((-2), u) else b2 (f_X11_bestDay u ((1 : Int32) <<< (p1 &&& 31)) p2) (fun (x5 : Int32) (u6 : St) => some (x5, u6))))
set_option maxRecDepth 100000 in
set_option maxHeartbeats 4000000 in
theorem c_X11_opening {l : Launch} {D : va_G} {cI cJ cR : ClassId} {a : Nat → Nat} {u : St} {N : Nat} (hNN : 38 ≤ N) {p1 : Int32} {p2 : Int32} {rr : Int32} {uu : St} (hf : f_X11_opening u p1 p2 = some (rr, uu)) : Ci l yX11_opening cX11_opening 3 (some .int) 5 116 D (tyB cI cJ cR) N a (EB a cI cJ cR) [.ref (a 0), .int p1, .int p2] u rr uu := by
  refine metI (by decide +kernel) (Nat.le_of_ble_eq_true rfl) ?_
  intro p e s m args below meth c R Q hx hb hml hown hts hF hLo hret hK hN h ls hl
  have hown : s.vm.findClass RX11 = some m.cls := hown
  have hl : lv_has ls 3 [(0, .ref (a 0)), (1, .int p1), (2, .int p2)] := hl
  unfold f_X11_opening at hf
  refine lv_aload_n (pc := 0) hx hb dX11_opening_0 rfl (lv_at hl 0 rfl) ?_
  refine gB_0_0 (pc := 1) hNN hx hb hts hown hK h fl_X11_12 dX11_opening_1 ?_
  refine gB_1_1 (pc := 4) hNN hx hb hts hown hK h fl_X11_88 dX11_opening_4 ?_
  refine lv_iload_n (pc := 7) hx hb dX11_opening_7 rfl (lv_at hl 1 rfl) ?_
  obtain ⟨x1, hc, hf⟩ := b1_e hf
  refine k_X7_has (pc := 8) hNN hx hb hml hown hts hK hN hc ml_X11_137 (Nat.le_trans (by decide) hF) (Nat.le_trans (by decide) hLo) h hl.1 ⟨Nat.zero_le _, Nat.zero_le _⟩ (Nat.le_of_ble_eq_true rfl) dX11_opening_8 (fun H locs h => ?_)
  refine lv_if_ne (pc := 11) (tgt := 16) hx hb dX11_opening_11 (by decide) (fun c2 => ?_) (fun c2 => ?_)
  · have hf := if_f hf c2
    refine lv_iload_n (pc := 16) hx hb dX11_opening_16 rfl (lv_at hl 2 rfl) ?_
    refine lv_iconst (pc := 17) (v := 0) hx hb dX11_opening_17 (by decide) ?_
    refine lv_iconst (pc := 18) (v := 1) hx hb dX11_opening_18 (by decide) ?_
    obtain ⟨x3, hc, hf⟩ := b1_e hf
    refine kS_X11_within (pc := 19) hNN hx hb hml hown hts hK hN hc ml_X11_70 (Nat.le_trans (by decide) hF) (Nat.le_trans (by decide) hLo) h hl.1 ⟨Nat.zero_le _, Nat.zero_le _⟩ (Nat.le_of_ble_eq_true rfl) dX11_opening_19 (fun H locs h => ?_)
    refine lv_if_ne (pc := 22) (tgt := 28) hx hb dX11_opening_22 (by decide) (fun c4 => ?_) (fun c4 => ?_)
    · have hf := if_f hf c4
      refine lv_aload_n (pc := 28) hx hb dX11_opening_28 rfl (lv_at hl 0 rfl) ?_
      refine lv_iconst (pc := 29) (v := 1) hx hb dX11_opening_29 (by decide) ?_
      refine lv_iload_n (pc := 30) hx hb dX11_opening_30 rfl (lv_at hl 1 rfl) ?_
      refine lv_ishl (pc := 31) hx hb dX11_opening_31 ?_
      refine lv_iload_n (pc := 32) hx hb dX11_opening_32 rfl (lv_at hl 2 rfl) ?_
      obtain ⟨x5, u6, hc, hf⟩ := b2_e hf
      refine k_X11_bestDay (pc := 33) hNN hx hb hml hown hts hK hN hc ml_X11_249 (Nat.le_trans (by decide) hF) (Nat.le_trans (by decide) hLo) h hl.1 ⟨Nat.zero_le _, Nat.zero_le _⟩ (Nat.le_of_ble_eq_true rfl) dX11_opening_33 (fun H locs h => ?_)
      exact hret (so1 hf) rfl (so2 hf) dX11_opening_36 h
    · have hf := if_t hf c4
      refine lv_bipush (pc := 25) (v := (-2)) hx hb dX11_opening_25 (by decide) ?_
      exact hret (so1 hf) rfl (so2 hf) dX11_opening_27 h
  · have hf := if_t hf c2
    refine lv_iconst (pc := 14) (v := (-1)) hx hb dX11_opening_14 (by decide) ?_
    exact hret (so1 hf) rfl (so2 hf) dX11_opening_15 h
theorem k_X11_opening {p : Program} {l : Launch} {e : Env} {R : Room} {s : State} {m : MethodId} {args : Array Value} {below : List Frame} {meth : Method} {c : Code} {H : Heap} {locs : List Loc} {cells slots : Nat} {Q : State → Prop} {pc : Nat} {ls : Array Slot} {rest : List Value} {cc : ByteArray} {D : va_G} {cI cJ cR : ClassId} {a : Nat → Nat} {u : St} {own : String} {index nL : Nat} {N : Nat} (hNN : 38 ≤ N) {p1 : Int32} {p2 : Int32} {rr : Int32} {uu : St} (hx : p.tables.exec = Jvm.exec) (hb : c.code = cc) (hml : c.maxLocals = nL) (hown : s.vm.findClass own = some m.cls) (hts : ∀ w ∈ Gd, w.before args s = true) (hK : va_K D vwCl (tyB cI cJ cR) s) (hN : NB s) (hc : f_X11_opening u p1 p2 = some (rr, uu)) (hlk : Cond.methodLink own index yX11_opening ∈ Gd) (hF : 6 ≤ R.frames) (hLo : 138 ≤ R.locals) (h : Hh D (AB N a s.heap.size) (wX N a (EB a cI cJ cR) u) s.heap H locs) (hsize : ls.size = nL) (hcs : cells ≤ R.cells ∧ slots ≤ R.slots) (hr : (rest.map fun v => v.category).sum ≤ 8) (hdg : decode cc pc = .ok (.invokevirtual index, 3)) (kk : ∀ (H1 : Heap) (locs1 : List Loc), Hh D (AB N a s.heap.size) (wX N a (EB a cI cJ cR) uu) s.heap H1 locs1 → W p l e R s m args below meth c H1 locs1 cells slots Q (F0 m (pc + 3) ls (.int rr :: rest))) : W p l e R s m args below meth c H locs cells slots Q (F0 m pc ls (.int p2 :: .int p1 :: .ref (a 0) :: rest)) :=
  cVi (n := 2) hx hb hml hown hts hK hN (c_X11_opening hNN hc) (gdV hlk im_X11_opening se_X11_opening in_X11 co_X11_opening) rfl (by decide +kernel) rfl hF hLo h hsize hcs (Nat.lt_of_lt_of_le (by decide) hNN) rfl rfl rfl hr hdg kk
def f_X11_banquet (u : St) (p1 : Int32) : Option (Int32 × St) := b1 (f_X11_within u p1 0 1) (fun (x1 : Int32) => if x1 = 0 then some ((-2), u) else b2 (f_X11_bestDay u (u.1 5 4) p1) (fun (x3 : Int32) (u4 : St) => some (x3, u4)))
set_option maxRecDepth 100000 in
set_option maxHeartbeats 4000000 in
theorem c_X11_banquet {l : Launch} {D : va_G} {cI cJ cR : ClassId} {a : Nat → Nat} {u : St} {N : Nat} (hNN : 38 ≤ N) {p1 : Int32} {rr : Int32} {uu : St} (hf : f_X11_banquet u p1 = some (rr, uu)) : Ci l yX11_banquet cX11_banquet 2 (some .int) 5 116 D (tyB cI cJ cR) N a (EB a cI cJ cR) [.ref (a 0), .int p1] u rr uu := by
  refine metI (by decide +kernel) (Nat.le_of_ble_eq_true rfl) ?_
  intro p e s m args below meth c R Q hx hb hml hown hts hF hLo hret hK hN h ls hl
  have hown : s.vm.findClass RX11 = some m.cls := hown
  have hl : lv_has ls 2 [(0, .ref (a 0)), (1, .int p1)] := hl
  unfold f_X11_banquet at hf
  refine lv_iload_n (pc := 0) hx hb dX11_banquet_0 rfl (lv_at hl 1 rfl) ?_
  refine lv_iconst (pc := 1) (v := 0) hx hb dX11_banquet_1 (by decide) ?_
  refine lv_iconst (pc := 2) (v := 1) hx hb dX11_banquet_2 (by decide) ?_
  obtain ⟨x1, hc, hf⟩ := b1_e hf
  refine kS_X11_within (pc := 3) hNN hx hb hml hown hts hK hN hc ml_X11_70 (Nat.le_trans (by decide) hF) (Nat.le_trans (by decide) hLo) h hl.1 ⟨Nat.zero_le _, Nat.zero_le _⟩ (Nat.le_of_ble_eq_true rfl) dX11_banquet_3 (fun H locs h => ?_)
  refine lv_if_ne (pc := 6) (tgt := 12) hx hb dX11_banquet_6 (by decide) (fun c2 => ?_) (fun c2 => ?_)
  · have hf := if_f hf c2
    refine lv_aload_n (pc := 12) hx hb dX11_banquet_12 rfl (lv_at hl 0 rfl) ?_
    refine lv_aload_n (pc := 13) hx hb dX11_banquet_13 rfl (lv_at hl 0 rfl) ?_
    refine gB_0_0 (pc := 14) hNN hx hb hts hown hK h fl_X11_12 dX11_banquet_14 ?_
    refine gB_1_1 (pc := 17) hNN hx hb hts hown hK h fl_X11_88 dX11_banquet_17 ?_
    refine gB_5_4 (pc := 20) hNN hx hb hts hown hK h fl_X11_92 dX11_banquet_20 ?_
    refine lv_iload_n (pc := 23) hx hb dX11_banquet_23 rfl (lv_at hl 1 rfl) ?_
    obtain ⟨x3, u4, hc, hf⟩ := b2_e hf
    refine k_X11_bestDay (pc := 24) hNN hx hb hml hown hts hK hN hc ml_X11_249 (Nat.le_trans (by decide) hF) (Nat.le_trans (by decide) hLo) h hl.1 ⟨Nat.zero_le _, Nat.zero_le _⟩ (Nat.le_of_ble_eq_true rfl) dX11_banquet_24 (fun H locs h => ?_)
    exact hret (so1 hf) rfl (so2 hf) dX11_banquet_27 h
  · have hf := if_t hf c2
    refine lv_bipush (pc := 9) (v := (-2)) hx hb dX11_banquet_9 (by decide) ?_
    exact hret (so1 hf) rfl (so2 hf) dX11_banquet_11 h
theorem k_X11_banquet {p : Program} {l : Launch} {e : Env} {R : Room} {s : State} {m : MethodId} {args : Array Value} {below : List Frame} {meth : Method} {c : Code} {H : Heap} {locs : List Loc} {cells slots : Nat} {Q : State → Prop} {pc : Nat} {ls : Array Slot} {rest : List Value} {cc : ByteArray} {D : va_G} {cI cJ cR : ClassId} {a : Nat → Nat} {u : St} {own : String} {index nL : Nat} {N : Nat} (hNN : 38 ≤ N) {p1 : Int32} {rr : Int32} {uu : St} (hx : p.tables.exec = Jvm.exec) (hb : c.code = cc) (hml : c.maxLocals = nL) (hown : s.vm.findClass own = some m.cls) (hts : ∀ w ∈ Gd, w.before args s = true) (hK : va_K D vwCl (tyB cI cJ cR) s) (hN : NB s) (hc : f_X11_banquet u p1 = some (rr, uu)) (hlk : Cond.methodLink own index yX11_banquet ∈ Gd) (hF : 6 ≤ R.frames) (hLo : 137 ≤ R.locals) (h : Hh D (AB N a s.heap.size) (wX N a (EB a cI cJ cR) u) s.heap H locs) (hsize : ls.size = nL) (hcs : cells ≤ R.cells ∧ slots ≤ R.slots) (hr : (rest.map fun v => v.category).sum ≤ 8) (hdg : decode cc pc = .ok (.invokevirtual index, 3)) (kk : ∀ (H1 : Heap) (locs1 : List Loc), Hh D (AB N a s.heap.size) (wX N a (EB a cI cJ cR) uu) s.heap H1 locs1 → W p l e R s m args below meth c H1 locs1 cells slots Q (F0 m (pc + 3) ls (.int rr :: rest))) : W p l e R s m args below meth c H locs cells slots Q (F0 m pc ls (.int p1 :: .ref (a 0) :: rest)) :=
  cVi (n := 1) hx hb hml hown hts hK hN (c_X11_banquet hNN hc) (gdV hlk im_X11_banquet se_X11_banquet in_X11 co_X11_banquet) rfl (by decide +kernel) rfl hF hLo h hsize hcs (Nat.lt_of_lt_of_le (by decide) hNN) rfl rfl rfl hr hdg kk
def f_X11_poured (u : St) (p1 : Int32) (p2 : Int32) : Option (Int32 × St) := jq_0 (b1 (f_X11_within u p1 0 999) (fun (x2 : Int32) => if x2 = 0 then some ((-2), u) else b1 (f_X0_asItIs u) (fun (u4 : St) => b2 (f_X5_search u4 p1) (fun (x5 : Int32) (u6 : St) => if p2 = ((-1)) then some (x5, u6) else b1 (f_X5_partnerOf u6 p2) (fun (x8 : Int32) => some (x8, u6)))))) (fun (k1 : Option (Int32 × St)) => if p2 = ((-1)) then k1 else b1 (f_X7_has u p2) (fun (x10 : Int32) => if x10 = 0 then some ((-1), u) else k1))
set_option maxRecDepth 100000 in
set_option maxHeartbeats 4000000 in
theorem c_X11_poured {l : Launch} {D : va_G} {cI cJ cR : ClassId} {a : Nat → Nat} {u : St} {N : Nat} (hNN : 38 ≤ N) {p1 : Int32} {p2 : Int32} {rr : Int32} {uu : St} (hf : f_X11_poured u p1 p2 = some (rr, uu)) : Ci l yX11_poured cX11_poured 4 (some .int) 6 137 D (tyB cI cJ cR) N a (EB a cI cJ cR) [.ref (a 0), .int p1, .int p2] u rr uu := by
  refine metI (by decide +kernel) (Nat.le_of_ble_eq_true rfl) ?_
  intro p e s m args below meth c R Q hx hb hml hown hts hF hLo hret hK hN h ls hl
  have hown : s.vm.findClass RX11 = some m.cls := hown
  have hl : lv_has ls 4 [(0, .ref (a 0)), (1, .int p1), (2, .int p2)] := hl
  unfold f_X11_poured at hf
  refine lv_iload_n (pc := 0) hx hb dX11_poured_0 rfl (lv_at hl 2 rfl) ?_
  refine lv_iconst (pc := 1) (v := (-1)) hx hb dX11_poured_1 (by decide) ?_
  obtain ⟨k1, hk1, hf⟩ := jq_0_e hf
  have jk1 : k1 = some (rr, uu) → ∀ (H : Heap) (locs : List Loc) (ls : Array Slot), Hh D (AB N a s.heap.size) (wX N a (EB a cI cJ cR) u) s.heap H locs → lv_has ls 4 [(0, .ref (a 0)), (1, .int p1), (2, .int p2)] → W p l e R s m args below meth c H locs 0 0 Q (F0 m 21 ls []) := by
    intro hf H locs ls h hl
    rw [hk1] at hf
    refine lv_iload_n (pc := 21) hx hb dX11_poured_21 rfl (lv_at hl 1 rfl) ?_
    refine lv_iconst (pc := 22) (v := 0) hx hb dX11_poured_22 (by decide) ?_
    refine lv_sipush (pc := 23) (v := 999) hx hb dX11_poured_23 (by decide) ?_
    obtain ⟨x2, hc, hf⟩ := b1_e hf
    refine kS_X11_within (pc := 26) hNN hx hb hml hown hts hK hN hc ml_X11_70 (Nat.le_trans (by decide) hF) (Nat.le_trans (by decide) hLo) h hl.1 ⟨Nat.zero_le _, Nat.zero_le _⟩ (Nat.le_of_ble_eq_true rfl) dX11_poured_26 (fun H locs h => ?_)
    refine lv_if_ne (pc := 29) (tgt := 35) hx hb dX11_poured_29 (by decide) (fun c3 => ?_) (fun c3 => ?_)
    · have hf := if_f hf c3
      refine lv_aload_n (pc := 35) hx hb dX11_poured_35 rfl (lv_at hl 0 rfl) ?_
      refine gB_0_3 (pc := 36) hNN hx hb hts hown hK h fl_X11_32 dX11_poured_36 ?_
      obtain ⟨u4, hc, hf⟩ := b1_e hf
      refine k_X0_asItIs (pc := 39) hNN hx hb hml hown hts hK hN hc ml_X11_171 (Nat.le_trans (by decide) hF) (Nat.le_trans (by decide) hLo) h hl.1 ⟨Nat.zero_le _, Nat.zero_le _⟩ (Nat.le_of_ble_eq_true rfl) dX11_poured_39 (fun H locs h => ?_)
      refine lv_aload_n (pc := 42) hx hb dX11_poured_42 rfl (lv_at hl 0 rfl) ?_
      refine gB_0_6 (pc := 43) hNN hx hb hts hown hK h fl_X11_55 dX11_poured_43 ?_
      refine lv_iload_n (pc := 46) hx hb dX11_poured_46 rfl (lv_at hl 1 rfl) ?_
      obtain ⟨x5, u6, hc, hf⟩ := b2_e hf
      refine k_X5_search (pc := 47) hNN hx hb hml hown hts hK hN hc ml_X11_261 (Nat.le_trans (by decide) hF) (Nat.le_trans (by decide) hLo) h hl.1 ⟨Nat.zero_le _, Nat.zero_le _⟩ (Nat.le_of_ble_eq_true rfl) dX11_poured_47 (fun H locs h => ?_)
      refine lv_istore_n (pc := 50) (lv' := [(3, .int x5), (0, .ref (a 0)), (1, .int p1), (2, .int p2)]) hx hb dX11_poured_50 rfl hl (by decide) rfl (fun ls hl => ?_)
      refine lv_iload_n (pc := 51) hx hb dX11_poured_51 rfl (lv_at hl 3 rfl) ?_
      refine lv_iconst (pc := 52) (v := (-1)) hx hb dX11_poured_52 (by decide) ?_
      refine lv_icmp_ne (pc := 53) (tgt := 60) hx hb dX11_poured_53 (by decide) (fun c7 => ?_) (fun c7 => ?_)
      · have hf := if_f hf c7
        refine lv_aload_n (pc := 60) hx hb dX11_poured_60 rfl (lv_at hl 1 rfl) ?_
        refine gB_0_6 (pc := 61) hNN hx hb hts hown hK h fl_X11_55 dX11_poured_61 ?_
        refine lv_iload_n (pc := 64) hx hb dX11_poured_64 rfl (lv_at hl 3 rfl) ?_
        obtain ⟨x8, hc, hf⟩ := b1_e hf
        refine k_X5_partnerOf (pc := 65) hNN hx hb hml hown hts hK hN hc ml_X11_263 (Nat.le_trans (by decide) hF) (Nat.le_trans (by decide) hLo) h hl.1 ⟨Nat.zero_le _, Nat.zero_le _⟩ (Nat.le_of_ble_eq_true rfl) dX11_poured_65 (fun H locs h => ?_)
        exact hret (so1 hf) rfl (so2 hf) dX11_poured_68 h
      · have hf := if_t hf c7
        refine lv_iload_n (pc := 56) hx hb dX11_poured_56 rfl (lv_at hl 0 rfl) ?_
        refine lv_goto (pc := 57) (tgt := 68) hx hb dX11_poured_57 (by decide) ?_
        exact hret (so1 hf) rfl (so2 hf) dX11_poured_68 h
    · have hf := if_t hf c3
      refine lv_bipush (pc := 32) (v := (-2)) hx hb dX11_poured_32 (by decide) ?_
      exact hret (so1 hf) rfl (so2 hf) dX11_poured_34 h
  refine lv_icmp_eq (pc := 2) (tgt := 21) hx hb dX11_poured_2 (by decide) (fun c9 => ?_) (fun c9 => ?_)
  · have hf := if_t hf c9
    exact jk1 hf _ _ _ h (lv_sub hl [0, 1, 2] rfl)
  · have hf := if_f hf c9
    refine lv_aload_n (pc := 5) hx hb dX11_poured_5 rfl (lv_at hl 0 rfl) ?_
    refine gB_0_0 (pc := 6) hNN hx hb hts hown hK h fl_X11_12 dX11_poured_6 ?_
    refine gB_1_1 (pc := 9) hNN hx hb hts hown hK h fl_X11_88 dX11_poured_9 ?_
    refine lv_iload_n (pc := 12) hx hb dX11_poured_12 rfl (lv_at hl 2 rfl) ?_
    obtain ⟨x10, hc, hf⟩ := b1_e hf
    refine k_X7_has (pc := 13) hNN hx hb hml hown hts hK hN hc ml_X11_137 (Nat.le_trans (by decide) hF) (Nat.le_trans (by decide) hLo) h hl.1 ⟨Nat.zero_le _, Nat.zero_le _⟩ (Nat.le_of_ble_eq_true rfl) dX11_poured_13 (fun H locs h => ?_)
    refine lv_if_ne (pc := 16) (tgt := 21) hx hb dX11_poured_16 (by decide) (fun c11 => ?_) (fun c11 => ?_)
    · have hf := if_f hf c11
      exact jk1 hf _ _ _ h (lv_sub hl [0, 1, 2] rfl)
    · have hf := if_t hf c11
      refine lv_iconst (pc := 19) (v := (-1)) hx hb dX11_poured_19 (by decide) ?_
      exact hret (so1 hf) rfl (so2 hf) dX11_poured_20 h
theorem k_X11_poured {p : Program} {l : Launch} {e : Env} {R : Room} {s : State} {m : MethodId} {args : Array Value} {below : List Frame} {meth : Method} {c : Code} {H : Heap} {locs : List Loc} {cells slots : Nat} {Q : State → Prop} {pc : Nat} {ls : Array Slot} {rest : List Value} {cc : ByteArray} {D : va_G} {cI cJ cR : ClassId} {a : Nat → Nat} {u : St} {own : String} {index nL : Nat} {N : Nat} (hNN : 38 ≤ N) {p1 : Int32} {p2 : Int32} {rr : Int32} {uu : St} (hx : p.tables.exec = Jvm.exec) (hb : c.code = cc) (hml : c.maxLocals = nL) (hown : s.vm.findClass own = some m.cls) (hts : ∀ w ∈ Gd, w.before args s = true) (hK : va_K D vwCl (tyB cI cJ cR) s) (hN : NB s) (hc : f_X11_poured u p1 p2 = some (rr, uu)) (hlk : Cond.methodLink own index yX11_poured ∈ Gd) (hF : 7 ≤ R.frames) (hLo : 160 ≤ R.locals) (h : Hh D (AB N a s.heap.size) (wX N a (EB a cI cJ cR) u) s.heap H locs) (hsize : ls.size = nL) (hcs : cells ≤ R.cells ∧ slots ≤ R.slots) (hr : (rest.map fun v => v.category).sum ≤ 8) (hdg : decode cc pc = .ok (.invokevirtual index, 3)) (kk : ∀ (H1 : Heap) (locs1 : List Loc), Hh D (AB N a s.heap.size) (wX N a (EB a cI cJ cR) uu) s.heap H1 locs1 → W p l e R s m args below meth c H1 locs1 cells slots Q (F0 m (pc + 3) ls (.int rr :: rest))) : W p l e R s m args below meth c H locs cells slots Q (F0 m pc ls (.int p2 :: .int p1 :: .ref (a 0) :: rest)) :=
  cVi (n := 2) hx hb hml hown hts hK hN (c_X11_poured hNN hc) (gdV hlk im_X11_poured se_X11_poured in_X11 co_X11_poured) rfl (by decide +kernel) rfl hF hLo h hsize hcs (Nat.lt_of_lt_of_le (by decide) hNN) rfl rfl rfl hr hdg kk
