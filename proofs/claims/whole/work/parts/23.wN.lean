def f_X10_copyFrom_2_39 (u : St) : Option (St) := bs (sI u 2 2 (u.1 39 2)) (fun u1 : St => bs (sI u1 2 3 (u1.1 39 3)) (fun u2 : St => bs (sA u2 3 (va_cpy (u2.1 40) (u2.1 3) 0 0 (Int32.toNatClampNeg 6))) (fun u3 : St => bs (sA u3 4 (va_cpy (u3.1 41) (u3.1 4) 0 0 (Int32.toNatClampNeg 6))) (fun u4 : St => some u4))))
set_option maxRecDepth 100000 in
set_option maxHeartbeats 4000000 in
theorem c_X10_copyFrom_2_39 {l : Launch} {D : va_G} {cI cJ cR : ClassId} {a : Nat → Nat} {u : St} {N : Nat} (hNA : 54 ≤ N) (hNN : 38 ≤ N) {uu : St} (hf : f_X10_copyFrom_2_39 u = some uu) : Cv l yX10_copyFrom cX10_copyFrom 2 none 1 40 D (tyB cI cJ cR) N a (EB a cI cJ cR) [.ref (a 2), .ref (a 39)] u uu := by
  refine metV (by decide +kernel) (Nat.le_of_ble_eq_true rfl) ?_
  intro p e s m args below meth c R Q hx hb hml hown hts hF hLo hret hK hN h ls hl
  have hown : s.vm.findClass RX10 = some m.cls := hown
  have hl : lv_has ls 2 [(0, .ref (a 2)), (1, .ref (a 39))] := hl
  unfold f_X10_copyFrom_2_39 at hf
  refine lv_aload_n (pc := 0) hx hb dX10_copyFrom_0 rfl (lv_at hl 0 rfl) ?_
  refine lv_aload_n (pc := 1) hx hb dX10_copyFrom_1 rfl (lv_at hl 1 rfl) ?_
  refine gB_39_2 (pc := 2) hNA hx hb hts hown hK h fl_X10_22 dX10_copyFrom_2 ?_
  refine pB_2_2 (pc := 5) hNN hx hb hts hown hK h fl_X10_22 dX10_copyFrom_5 (fun H locs h => ?_)
  obtain ⟨u1, eu1, hf⟩ := bs_e hf
  rw [← eu1] at h
  refine lv_aload_n (pc := 8) hx hb dX10_copyFrom_8 rfl (lv_at hl 0 rfl) ?_
  refine lv_aload_n (pc := 9) hx hb dX10_copyFrom_9 rfl (lv_at hl 1 rfl) ?_
  refine gB_39_3 (pc := 10) hNA hx hb hts hown hK h fl_X10_26 dX10_copyFrom_10 ?_
  refine pB_2_3 (pc := 13) hNN hx hb hts hown hK h fl_X10_26 dX10_copyFrom_13 (fun H locs h => ?_)
  obtain ⟨u2, eu2, hf⟩ := bs_e hf
  rw [← eu2] at h
  refine lv_aload_n (pc := 16) hx hb dX10_copyFrom_16 rfl (lv_at hl 1 rfl) ?_
  refine gB_39_0 (pc := 17) hNA hx hb hts hown hK h fl_X10_9 dX10_copyFrom_17 ?_
  refine lv_iconst (pc := 20) (v := 0) hx hb dX10_copyFrom_20 (by decide) ?_
  refine lv_aload_n (pc := 21) hx hb dX10_copyFrom_21 rfl (lv_at hl 0 rfl) ?_
  refine gB_2_0 (pc := 22) hNN hx hb hts hown hK h fl_X10_9 dX10_copyFrom_22 ?_
  refine lv_iconst (pc := 25) (v := 0) hx hb dX10_copyFrom_25 (by decide) ?_
  refine lv_bipush (pc := 26) (v := 6) hx hb dX10_copyFrom_26 (by decide) ?_
  refine rCpyI (pc := 28)  hx hb (hml.trans hl.1.symm) hown hts ml_X10_29 hK h 40 3 (Nat.lt_of_lt_of_le (by decide) hNA) (Nat.lt_of_lt_of_le (by decide) hNN) 0 (fun _ => rfl) (fun _ => rfl) rfl (by decide) (by decide) (by decide) (Nat.le_trans (by decide) hF) (Nat.le_trans (by decide) hLo) (Nat.le_of_ble_eq_true rfl) dX10_copyFrom_28 (fun H locs h => ?_)
  obtain ⟨u3, eu3, hf⟩ := bs_e hf
  rw [← eu3] at h
  refine lv_aload_n (pc := 31) hx hb dX10_copyFrom_31 rfl (lv_at hl 1 rfl) ?_
  refine gB_39_1 (pc := 32) hNA hx hb hts hown hK h fl_X10_15 dX10_copyFrom_32 ?_
  refine lv_iconst (pc := 35) (v := 0) hx hb dX10_copyFrom_35 (by decide) ?_
  refine lv_aload_n (pc := 36) hx hb dX10_copyFrom_36 rfl (lv_at hl 0 rfl) ?_
  refine gB_2_1 (pc := 37) hNN hx hb hts hown hK h fl_X10_15 dX10_copyFrom_37 ?_
  refine lv_iconst (pc := 40) (v := 0) hx hb dX10_copyFrom_40 (by decide) ?_
  refine lv_bipush (pc := 41) (v := 6) hx hb dX10_copyFrom_41 (by decide) ?_
  refine rCpyI (pc := 43)  hx hb (hml.trans hl.1.symm) hown hts ml_X10_29 hK h 41 4 (Nat.lt_of_lt_of_le (by decide) hNA) (Nat.lt_of_lt_of_le (by decide) hNN) 0 (fun _ => rfl) (fun _ => rfl) rfl (by decide) (by decide) (by decide) (Nat.le_trans (by decide) hF) (Nat.le_trans (by decide) hLo) (Nat.le_of_ble_eq_true rfl) dX10_copyFrom_43 (fun H locs h => ?_)
  obtain ⟨u4, eu4, hf⟩ := bs_e hf
  rw [← eu4] at h
  exact hret (so hf) dX10_copyFrom_46 h
theorem k_X10_copyFrom_2_39 {p : Program} {l : Launch} {e : Env} {R : Room} {s : State} {m : MethodId} {args : Array Value} {below : List Frame} {meth : Method} {c : Code} {H : Heap} {locs : List Loc} {cells slots : Nat} {Q : State → Prop} {pc : Nat} {ls : Array Slot} {rest : List Value} {cc : ByteArray} {D : va_G} {cI cJ cR : ClassId} {a : Nat → Nat} {u : St} {own : String} {index nL : Nat} {N : Nat} (hNA : 54 ≤ N) (hNN : 38 ≤ N) {uu : St} (hx : p.tables.exec = Jvm.exec) (hb : c.code = cc) (hml : c.maxLocals = nL) (hown : s.vm.findClass own = some m.cls) (hts : ∀ w ∈ Gd, w.before args s = true) (hK : va_K D vwCl (tyB cI cJ cR) s) (hN : NB s) (hc : f_X10_copyFrom_2_39 u = some uu) (hlk : Cond.methodLink own index yX10_copyFrom ∈ Gd) (hF : 2 ≤ R.frames) (hLo : 61 ≤ R.locals) (h : Hh D (AB N a s.heap.size) (wX N a (EB a cI cJ cR) u) s.heap H locs) (hsize : ls.size = nL) (hcs : cells ≤ R.cells ∧ slots ≤ R.slots) (hr : (rest.map fun v => v.category).sum ≤ 8) (hdg : decode cc pc = .ok (.invokevirtual index, 3)) (kk : ∀ (H1 : Heap) (locs1 : List Loc), Hh D (AB N a s.heap.size) (wX N a (EB a cI cJ cR) uu) s.heap H1 locs1 → W p l e R s m args below meth c H1 locs1 cells slots Q (F0 m (pc + 3) ls (rest))) : W p l e R s m args below meth c H locs cells slots Q (F0 m pc ls (.ref (a 39) :: .ref (a 2) :: rest)) :=
  cVv (n := 1) hx hb hml hown hts hK hN (c_X10_copyFrom_2_39 hNA hNN hc) (gdV hlk im_X10_copyFrom se_X10_copyFrom in_X10 co_X10_copyFrom) rfl (by decide +kernel) rfl hF hLo h hsize hcs (Nat.lt_of_lt_of_le (by decide) hNN) rfl rfl rfl hr hdg kk
def f_X7_copyFrom_5_42 (u : St) : Option (St) := bs (sI u 5 4 (u.1 42 4)) (fun u1 : St => bs (sA u1 6 (va_cpy (u1.1 43) (u1.1 6) 0 0 (Int32.toNatClampNeg 8))) (fun u2 : St => bs (sA u2 7 (va_cpy (u2.1 44) (u2.1 7) 0 0 (Int32.toNatClampNeg 8))) (fun u3 : St => bs (sA u3 8 (va_cpy (u3.1 45) (u3.1 8) 0 0 (Int32.toNatClampNeg 8))) (fun u4 : St => bs (sA u4 9 (va_cpy (u4.1 46) (u4.1 9) 0 0 (Int32.toNatClampNeg 8))) (fun u5 : St => some u5)))))
set_option maxRecDepth 100000 in
set_option maxHeartbeats 4000000 in
theorem c_X7_copyFrom_5_42 {l : Launch} {D : va_G} {cI cJ cR : ClassId} {a : Nat → Nat} {u : St} {N : Nat} (hNA : 54 ≤ N) (hNN : 38 ≤ N) {uu : St} (hf : f_X7_copyFrom_5_42 u = some uu) : Cv l yX7_copyFrom cX7_copyFrom 2 none 1 40 D (tyB cI cJ cR) N a (EB a cI cJ cR) [.ref (a 5), .ref (a 42)] u uu := by
  refine metV (by decide +kernel) (Nat.le_of_ble_eq_true rfl) ?_
  intro p e s m args below meth c R Q hx hb hml hown hts hF hLo hret hK hN h ls hl
  have hown : s.vm.findClass RX7 = some m.cls := hown
  have hl : lv_has ls 2 [(0, .ref (a 5)), (1, .ref (a 42))] := hl
  unfold f_X7_copyFrom_5_42 at hf
  refine lv_aload_n (pc := 0) hx hb dX7_copyFrom_0 rfl (lv_at hl 0 rfl) ?_
  refine lv_aload_n (pc := 1) hx hb dX7_copyFrom_1 rfl (lv_at hl 1 rfl) ?_
  refine gB_42_4 (pc := 2) hNA hx hb hts hown hK h fl_X7_24 dX7_copyFrom_2 ?_
  refine pB_5_4 (pc := 5) hNN hx hb hts hown hK h fl_X7_24 dX7_copyFrom_5 (fun H locs h => ?_)
  obtain ⟨u1, eu1, hf⟩ := bs_e hf
  rw [← eu1] at h
  refine lv_aload_n (pc := 8) hx hb dX7_copyFrom_8 rfl (lv_at hl 1 rfl) ?_
  refine gB_42_0 (pc := 9) hNA hx hb hts hown hK h fl_X7_9 dX7_copyFrom_9 ?_
  refine lv_iconst (pc := 12) (v := 0) hx hb dX7_copyFrom_12 (by decide) ?_
  refine lv_aload_n (pc := 13) hx hb dX7_copyFrom_13 rfl (lv_at hl 0 rfl) ?_
  refine gB_5_0 (pc := 14) hNN hx hb hts hown hK h fl_X7_9 dX7_copyFrom_14 ?_
  refine lv_iconst (pc := 17) (v := 0) hx hb dX7_copyFrom_17 (by decide) ?_
  refine lv_bipush (pc := 18) (v := 8) hx hb dX7_copyFrom_18 (by decide) ?_
  refine rCpyI (pc := 20)  hx hb (hml.trans hl.1.symm) hown hts ml_X7_40 hK h 43 6 (Nat.lt_of_lt_of_le (by decide) hNA) (Nat.lt_of_lt_of_le (by decide) hNN) 0 (fun _ => rfl) (fun _ => rfl) rfl (by decide) (by decide) (by decide) (Nat.le_trans (by decide) hF) (Nat.le_trans (by decide) hLo) (Nat.le_of_ble_eq_true rfl) dX7_copyFrom_20 (fun H locs h => ?_)
  obtain ⟨u2, eu2, hf⟩ := bs_e hf
  rw [← eu2] at h
  refine lv_aload_n (pc := 23) hx hb dX7_copyFrom_23 rfl (lv_at hl 1 rfl) ?_
  refine gB_42_1 (pc := 24) hNA hx hb hts hown hK h fl_X7_15 dX7_copyFrom_24 ?_
  refine lv_iconst (pc := 27) (v := 0) hx hb dX7_copyFrom_27 (by decide) ?_
  refine lv_aload_n (pc := 28) hx hb dX7_copyFrom_28 rfl (lv_at hl 0 rfl) ?_
  refine gB_5_1 (pc := 29) hNN hx hb hts hown hK h fl_X7_15 dX7_copyFrom_29 ?_
  refine lv_iconst (pc := 32) (v := 0) hx hb dX7_copyFrom_32 (by decide) ?_
  refine lv_bipush (pc := 33) (v := 8) hx hb dX7_copyFrom_33 (by decide) ?_
  refine rCpyI (pc := 35)  hx hb (hml.trans hl.1.symm) hown hts ml_X7_40 hK h 44 7 (Nat.lt_of_lt_of_le (by decide) hNA) (Nat.lt_of_lt_of_le (by decide) hNN) 0 (fun _ => rfl) (fun _ => rfl) rfl (by decide) (by decide) (by decide) (Nat.le_trans (by decide) hF) (Nat.le_trans (by decide) hLo) (Nat.le_of_ble_eq_true rfl) dX7_copyFrom_35 (fun H locs h => ?_)
  obtain ⟨u3, eu3, hf⟩ := bs_e hf
  rw [← eu3] at h
  refine lv_aload_n (pc := 38) hx hb dX7_copyFrom_38 rfl (lv_at hl 1 rfl) ?_
  refine gB_42_2 (pc := 39) hNA hx hb hts hown hK h fl_X7_18 dX7_copyFrom_39 ?_
  refine lv_iconst (pc := 42) (v := 0) hx hb dX7_copyFrom_42 (by decide) ?_
  refine lv_aload_n (pc := 43) hx hb dX7_copyFrom_43 rfl (lv_at hl 0 rfl) ?_
  refine gB_5_2 (pc := 44) hNN hx hb hts hown hK h fl_X7_18 dX7_copyFrom_44 ?_
  refine lv_iconst (pc := 47) (v := 0) hx hb dX7_copyFrom_47 (by decide) ?_
  refine lv_bipush (pc := 48) (v := 8) hx hb dX7_copyFrom_48 (by decide) ?_
  refine rCpyI (pc := 50)  hx hb (hml.trans hl.1.symm) hown hts ml_X7_40 hK h 45 8 (Nat.lt_of_lt_of_le (by decide) hNA) (Nat.lt_of_lt_of_le (by decide) hNN) 0 (fun _ => rfl) (fun _ => rfl) rfl (by decide) (by decide) (by decide) (Nat.le_trans (by decide) hF) (Nat.le_trans (by decide) hLo) (Nat.le_of_ble_eq_true rfl) dX7_copyFrom_50 (fun H locs h => ?_)
  obtain ⟨u4, eu4, hf⟩ := bs_e hf
  rw [← eu4] at h
  refine lv_aload_n (pc := 53) hx hb dX7_copyFrom_53 rfl (lv_at hl 1 rfl) ?_
  refine gB_42_3 (pc := 54) hNA hx hb hts hown hK h fl_X7_21 dX7_copyFrom_54 ?_
  refine lv_iconst (pc := 57) (v := 0) hx hb dX7_copyFrom_57 (by decide) ?_
  refine lv_aload_n (pc := 58) hx hb dX7_copyFrom_58 rfl (lv_at hl 0 rfl) ?_
  refine gB_5_3 (pc := 59) hNN hx hb hts hown hK h fl_X7_21 dX7_copyFrom_59 ?_
  refine lv_iconst (pc := 62) (v := 0) hx hb dX7_copyFrom_62 (by decide) ?_
  refine lv_bipush (pc := 63) (v := 8) hx hb dX7_copyFrom_63 (by decide) ?_
  refine rCpyI (pc := 65)  hx hb (hml.trans hl.1.symm) hown hts ml_X7_40 hK h 46 9 (Nat.lt_of_lt_of_le (by decide) hNA) (Nat.lt_of_lt_of_le (by decide) hNN) 0 (fun _ => rfl) (fun _ => rfl) rfl (by decide) (by decide) (by decide) (Nat.le_trans (by decide) hF) (Nat.le_trans (by decide) hLo) (Nat.le_of_ble_eq_true rfl) dX7_copyFrom_65 (fun H locs h => ?_)
  obtain ⟨u5, eu5, hf⟩ := bs_e hf
  rw [← eu5] at h
  exact hret (so hf) dX7_copyFrom_68 h
theorem k_X7_copyFrom_5_42 {p : Program} {l : Launch} {e : Env} {R : Room} {s : State} {m : MethodId} {args : Array Value} {below : List Frame} {meth : Method} {c : Code} {H : Heap} {locs : List Loc} {cells slots : Nat} {Q : State → Prop} {pc : Nat} {ls : Array Slot} {rest : List Value} {cc : ByteArray} {D : va_G} {cI cJ cR : ClassId} {a : Nat → Nat} {u : St} {own : String} {index nL : Nat} {N : Nat} (hNA : 54 ≤ N) (hNN : 38 ≤ N) {uu : St} (hx : p.tables.exec = Jvm.exec) (hb : c.code = cc) (hml : c.maxLocals = nL) (hown : s.vm.findClass own = some m.cls) (hts : ∀ w ∈ Gd, w.before args s = true) (hK : va_K D vwCl (tyB cI cJ cR) s) (hN : NB s) (hc : f_X7_copyFrom_5_42 u = some uu) (hlk : Cond.methodLink own index yX7_copyFrom ∈ Gd) (hF : 2 ≤ R.frames) (hLo : 61 ≤ R.locals) (h : Hh D (AB N a s.heap.size) (wX N a (EB a cI cJ cR) u) s.heap H locs) (hsize : ls.size = nL) (hcs : cells ≤ R.cells ∧ slots ≤ R.slots) (hr : (rest.map fun v => v.category).sum ≤ 8) (hdg : decode cc pc = .ok (.invokevirtual index, 3)) (kk : ∀ (H1 : Heap) (locs1 : List Loc), Hh D (AB N a s.heap.size) (wX N a (EB a cI cJ cR) uu) s.heap H1 locs1 → W p l e R s m args below meth c H1 locs1 cells slots Q (F0 m (pc + 3) ls (rest))) : W p l e R s m args below meth c H locs cells slots Q (F0 m pc ls (.ref (a 42) :: .ref (a 5) :: rest)) :=
  cVv (n := 1) hx hb hml hown hts hK hN (c_X7_copyFrom_5_42 hNA hNN hc) (gdV hlk im_X7_copyFrom se_X7_copyFrom in_X7 co_X7_copyFrom) rfl (by decide +kernel) rfl hF hLo h hsize hcs (Nat.lt_of_lt_of_le (by decide) hNN) rfl rfl rfl hr hdg kk
def f_X8_copyFrom_10_47 (u : St) : Option (St) := bs (sI u 10 1 (u.1 47 1)) (fun u1 : St => bs (sA u1 11 (va_cpy (u1.1 48) (u1.1 11) 0 0 (Int32.toNatClampNeg 30))) (fun u2 : St => some u2))
set_option maxRecDepth 100000 in
set_option maxHeartbeats 4000000 in
theorem c_X8_copyFrom_10_47 {l : Launch} {D : va_G} {cI cJ cR : ClassId} {a : Nat → Nat} {u : St} {N : Nat} (hNA : 54 ≤ N) (hNN : 38 ≤ N) {uu : St} (hf : f_X8_copyFrom_10_47 u = some uu) : Cv l yX8_copyFrom cX8_copyFrom 2 none 1 40 D (tyB cI cJ cR) N a (EB a cI cJ cR) [.ref (a 10), .ref (a 47)] u uu := by
  refine metV (by decide +kernel) (Nat.le_of_ble_eq_true rfl) ?_
  intro p e s m args below meth c R Q hx hb hml hown hts hF hLo hret hK hN h ls hl
  have hown : s.vm.findClass RX8 = some m.cls := hown
  have hl : lv_has ls 2 [(0, .ref (a 10)), (1, .ref (a 47))] := hl
  unfold f_X8_copyFrom_10_47 at hf
  refine lv_aload_n (pc := 0) hx hb dX8_copyFrom_0 rfl (lv_at hl 0 rfl) ?_
  refine lv_aload_n (pc := 1) hx hb dX8_copyFrom_1 rfl (lv_at hl 1 rfl) ?_
  refine gB_47_1 (pc := 2) hNA hx hb hts hown hK h fl_X8_15 dX8_copyFrom_2 ?_
  refine pB_10_1 (pc := 5) hNN hx hb hts hown hK h fl_X8_15 dX8_copyFrom_5 (fun H locs h => ?_)
  obtain ⟨u1, eu1, hf⟩ := bs_e hf
  rw [← eu1] at h
  refine lv_aload_n (pc := 8) hx hb dX8_copyFrom_8 rfl (lv_at hl 1 rfl) ?_
  refine gB_47_0 (pc := 9) hNA hx hb hts hown hK h fl_X8_9 dX8_copyFrom_9 ?_
  refine lv_iconst (pc := 12) (v := 0) hx hb dX8_copyFrom_12 (by decide) ?_
  refine lv_aload_n (pc := 13) hx hb dX8_copyFrom_13 rfl (lv_at hl 0 rfl) ?_
  refine gB_10_0 (pc := 14) hNN hx hb hts hown hK h fl_X8_9 dX8_copyFrom_14 ?_
  refine lv_iconst (pc := 17) (v := 0) hx hb dX8_copyFrom_17 (by decide) ?_
  refine lv_bipush (pc := 18) (v := 30) hx hb dX8_copyFrom_18 (by decide) ?_
  refine rCpyI (pc := 20)  hx hb (hml.trans hl.1.symm) hown hts ml_X8_37 hK h 48 11 (Nat.lt_of_lt_of_le (by decide) hNA) (Nat.lt_of_lt_of_le (by decide) hNN) 0 (fun _ => rfl) (fun _ => rfl) rfl (by decide) (by decide) (by decide) (Nat.le_trans (by decide) hF) (Nat.le_trans (by decide) hLo) (Nat.le_of_ble_eq_true rfl) dX8_copyFrom_20 (fun H locs h => ?_)
  obtain ⟨u2, eu2, hf⟩ := bs_e hf
  rw [← eu2] at h
  exact hret (so hf) dX8_copyFrom_23 h
theorem k_X8_copyFrom_10_47 {p : Program} {l : Launch} {e : Env} {R : Room} {s : State} {m : MethodId} {args : Array Value} {below : List Frame} {meth : Method} {c : Code} {H : Heap} {locs : List Loc} {cells slots : Nat} {Q : State → Prop} {pc : Nat} {ls : Array Slot} {rest : List Value} {cc : ByteArray} {D : va_G} {cI cJ cR : ClassId} {a : Nat → Nat} {u : St} {own : String} {index nL : Nat} {N : Nat} (hNA : 54 ≤ N) (hNN : 38 ≤ N) {uu : St} (hx : p.tables.exec = Jvm.exec) (hb : c.code = cc) (hml : c.maxLocals = nL) (hown : s.vm.findClass own = some m.cls) (hts : ∀ w ∈ Gd, w.before args s = true) (hK : va_K D vwCl (tyB cI cJ cR) s) (hN : NB s) (hc : f_X8_copyFrom_10_47 u = some uu) (hlk : Cond.methodLink own index yX8_copyFrom ∈ Gd) (hF : 2 ≤ R.frames) (hLo : 61 ≤ R.locals) (h : Hh D (AB N a s.heap.size) (wX N a (EB a cI cJ cR) u) s.heap H locs) (hsize : ls.size = nL) (hcs : cells ≤ R.cells ∧ slots ≤ R.slots) (hr : (rest.map fun v => v.category).sum ≤ 8) (hdg : decode cc pc = .ok (.invokevirtual index, 3)) (kk : ∀ (H1 : Heap) (locs1 : List Loc), Hh D (AB N a s.heap.size) (wX N a (EB a cI cJ cR) uu) s.heap H1 locs1 → W p l e R s m args below meth c H1 locs1 cells slots Q (F0 m (pc + 3) ls (rest))) : W p l e R s m args below meth c H locs cells slots Q (F0 m pc ls (.ref (a 47) :: .ref (a 10) :: rest)) :=
  cVv (n := 1) hx hb hml hown hts hK hN (c_X8_copyFrom_10_47 hNA hNN hc) (gdV hlk im_X8_copyFrom se_X8_copyFrom in_X8 co_X8_copyFrom) rfl (by decide +kernel) rfl hF hLo h hsize hcs (Nat.lt_of_lt_of_le (by decide) hNN) rfl rfl rfl hr hdg kk
def f_X6_copyFrom_12_49 (u : St) : Option (St) := bs (sI u 12 3 (u.1 49 3)) (fun u1 : St => bs (sA u1 13 (va_cpy (u1.1 50) (u1.1 13) 0 0 (Int32.toNatClampNeg 6))) (fun u2 : St => bs (sA u2 14 (va_cpy (u2.1 51) (u2.1 14) 0 0 (Int32.toNatClampNeg 6))) (fun u3 : St => bs (sA u3 15 (va_cpy (u3.1 52) (u3.1 15) 0 0 (Int32.toNatClampNeg 6))) (fun u4 : St => some u4))))
set_option maxRecDepth 100000 in
set_option maxHeartbeats 4000000 in
theorem c_X6_copyFrom_12_49 {l : Launch} {D : va_G} {cI cJ cR : ClassId} {a : Nat → Nat} {u : St} {N : Nat} (hNA : 54 ≤ N) (hNN : 38 ≤ N) {uu : St} (hf : f_X6_copyFrom_12_49 u = some uu) : Cv l yX6_copyFrom cX6_copyFrom 2 none 1 40 D (tyB cI cJ cR) N a (EB a cI cJ cR) [.ref (a 12), .ref (a 49)] u uu := by
  refine metV (by decide +kernel) (Nat.le_of_ble_eq_true rfl) ?_
  intro p e s m args below meth c R Q hx hb hml hown hts hF hLo hret hK hN h ls hl
  have hown : s.vm.findClass RX6 = some m.cls := hown
  have hl : lv_has ls 2 [(0, .ref (a 12)), (1, .ref (a 49))] := hl
  unfold f_X6_copyFrom_12_49 at hf
  refine lv_aload_n (pc := 0) hx hb dX6_copyFrom_0 rfl (lv_at hl 0 rfl) ?_
  refine lv_aload_n (pc := 1) hx hb dX6_copyFrom_1 rfl (lv_at hl 1 rfl) ?_
  refine gB_49_3 (pc := 2) hNA hx hb hts hown hK h fl_X6_21 dX6_copyFrom_2 ?_
  refine pB_12_3 (pc := 5) hNN hx hb hts hown hK h fl_X6_21 dX6_copyFrom_5 (fun H locs h => ?_)
  obtain ⟨u1, eu1, hf⟩ := bs_e hf
  rw [← eu1] at h
  refine lv_aload_n (pc := 8) hx hb dX6_copyFrom_8 rfl (lv_at hl 1 rfl) ?_
  refine gB_49_0 (pc := 9) hNA hx hb hts hown hK h fl_X6_9 dX6_copyFrom_9 ?_
  refine lv_iconst (pc := 12) (v := 0) hx hb dX6_copyFrom_12 (by decide) ?_
  refine lv_aload_n (pc := 13) hx hb dX6_copyFrom_13 rfl (lv_at hl 0 rfl) ?_
  refine gB_12_0 (pc := 14) hNN hx hb hts hown hK h fl_X6_9 dX6_copyFrom_14 ?_
  refine lv_iconst (pc := 17) (v := 0) hx hb dX6_copyFrom_17 (by decide) ?_
  refine lv_bipush (pc := 18) (v := 6) hx hb dX6_copyFrom_18 (by decide) ?_
  refine rCpyI (pc := 20)  hx hb (hml.trans hl.1.symm) hown hts ml_X6_35 hK h 50 13 (Nat.lt_of_lt_of_le (by decide) hNA) (Nat.lt_of_lt_of_le (by decide) hNN) 0 (fun _ => rfl) (fun _ => rfl) rfl (by decide) (by decide) (by decide) (Nat.le_trans (by decide) hF) (Nat.le_trans (by decide) hLo) (Nat.le_of_ble_eq_true rfl) dX6_copyFrom_20 (fun H locs h => ?_)
  obtain ⟨u2, eu2, hf⟩ := bs_e hf
  rw [← eu2] at h
  refine lv_aload_n (pc := 23) hx hb dX6_copyFrom_23 rfl (lv_at hl 1 rfl) ?_
  refine gB_49_1 (pc := 24) hNA hx hb hts hown hK h fl_X6_15 dX6_copyFrom_24 ?_
  refine lv_iconst (pc := 27) (v := 0) hx hb dX6_copyFrom_27 (by decide) ?_
  refine lv_aload_n (pc := 28) hx hb dX6_copyFrom_28 rfl (lv_at hl 0 rfl) ?_
  refine gB_12_1 (pc := 29) hNN hx hb hts hown hK h fl_X6_15 dX6_copyFrom_29 ?_
  refine lv_iconst (pc := 32) (v := 0) hx hb dX6_copyFrom_32 (by decide) ?_
  refine lv_bipush (pc := 33) (v := 6) hx hb dX6_copyFrom_33 (by decide) ?_
  refine rCpyI (pc := 35)  hx hb (hml.trans hl.1.symm) hown hts ml_X6_35 hK h 51 14 (Nat.lt_of_lt_of_le (by decide) hNA) (Nat.lt_of_lt_of_le (by decide) hNN) 0 (fun _ => rfl) (fun _ => rfl) rfl (by decide) (by decide) (by decide) (Nat.le_trans (by decide) hF) (Nat.le_trans (by decide) hLo) (Nat.le_of_ble_eq_true rfl) dX6_copyFrom_35 (fun H locs h => ?_)
  obtain ⟨u3, eu3, hf⟩ := bs_e hf
  rw [← eu3] at h
  refine lv_aload_n (pc := 38) hx hb dX6_copyFrom_38 rfl (lv_at hl 1 rfl) ?_
  refine gB_49_2 (pc := 39) hNA hx hb hts hown hK h fl_X6_18 dX6_copyFrom_39 ?_
  refine lv_iconst (pc := 42) (v := 0) hx hb dX6_copyFrom_42 (by decide) ?_
  refine lv_aload_n (pc := 43) hx hb dX6_copyFrom_43 rfl (lv_at hl 0 rfl) ?_
  refine gB_12_2 (pc := 44) hNN hx hb hts hown hK h fl_X6_18 dX6_copyFrom_44 ?_
  refine lv_iconst (pc := 47) (v := 0) hx hb dX6_copyFrom_47 (by decide) ?_
  refine lv_bipush (pc := 48) (v := 6) hx hb dX6_copyFrom_48 (by decide) ?_
  refine rCpyI (pc := 50)  hx hb (hml.trans hl.1.symm) hown hts ml_X6_35 hK h 52 15 (Nat.lt_of_lt_of_le (by decide) hNA) (Nat.lt_of_lt_of_le (by decide) hNN) 0 (fun _ => rfl) (fun _ => rfl) rfl (by decide) (by decide) (by decide) (Nat.le_trans (by decide) hF) (Nat.le_trans (by decide) hLo) (Nat.le_of_ble_eq_true rfl) dX6_copyFrom_50 (fun H locs h => ?_)
  obtain ⟨u4, eu4, hf⟩ := bs_e hf
  rw [← eu4] at h
  exact hret (so hf) dX6_copyFrom_53 h
theorem k_X6_copyFrom_12_49 {p : Program} {l : Launch} {e : Env} {R : Room} {s : State} {m : MethodId} {args : Array Value} {below : List Frame} {meth : Method} {c : Code} {H : Heap} {locs : List Loc} {cells slots : Nat} {Q : State → Prop} {pc : Nat} {ls : Array Slot} {rest : List Value} {cc : ByteArray} {D : va_G} {cI cJ cR : ClassId} {a : Nat → Nat} {u : St} {own : String} {index nL : Nat} {N : Nat} (hNA : 54 ≤ N) (hNN : 38 ≤ N) {uu : St} (hx : p.tables.exec = Jvm.exec) (hb : c.code = cc) (hml : c.maxLocals = nL) (hown : s.vm.findClass own = some m.cls) (hts : ∀ w ∈ Gd, w.before args s = true) (hK : va_K D vwCl (tyB cI cJ cR) s) (hN : NB s) (hc : f_X6_copyFrom_12_49 u = some uu) (hlk : Cond.methodLink own index yX6_copyFrom ∈ Gd) (hF : 2 ≤ R.frames) (hLo : 61 ≤ R.locals) (h : Hh D (AB N a s.heap.size) (wX N a (EB a cI cJ cR) u) s.heap H locs) (hsize : ls.size = nL) (hcs : cells ≤ R.cells ∧ slots ≤ R.slots) (hr : (rest.map fun v => v.category).sum ≤ 8) (hdg : decode cc pc = .ok (.invokevirtual index, 3)) (kk : ∀ (H1 : Heap) (locs1 : List Loc), Hh D (AB N a s.heap.size) (wX N a (EB a cI cJ cR) uu) s.heap H1 locs1 → W p l e R s m args below meth c H1 locs1 cells slots Q (F0 m (pc + 3) ls (rest))) : W p l e R s m args below meth c H locs cells slots Q (F0 m pc ls (.ref (a 49) :: .ref (a 12) :: rest)) :=
  cVv (n := 1) hx hb hml hown hts hK hN (c_X6_copyFrom_12_49 hNA hNN hc) (gdV hlk im_X6_copyFrom se_X6_copyFrom in_X6 co_X6_copyFrom) rfl (by decide +kernel) rfl hF hLo h hsize hcs (Nat.lt_of_lt_of_le (by decide) hNN) rfl rfl rfl hr hdg kk
def f_X9_copyFrom_1_38 (u : St) : Option (St) := b1 (f_X10_copyFrom_2_39 u) (fun (u1 : St) => b1 (f_X7_copyFrom_5_42 u1) (fun (u2 : St) => b1 (f_X8_copyFrom_10_47 u2) (fun (u3 : St) => b1 (f_X6_copyFrom_12_49 u3) (fun (u4 : St) => bs (sA u4 16 (va_cpy (u4.1 53) (u4.1 16) 0 0 (Int32.toNatClampNeg 7))) (fun u5 : St => some u5)))))
set_option maxRecDepth 100000 in
set_option maxHeartbeats 4000000 in
theorem c_X9_copyFrom_1_38 {l : Launch} {D : va_G} {cI cJ cR : ClassId} {a : Nat → Nat} {u : St} {N : Nat} (hNA : 54 ≤ N) (hNN : 38 ≤ N) {uu : St} (hf : f_X9_copyFrom_1_38 u = some uu) : Cv l yX9_copyFrom cX9_copyFrom 2 none 2 61 D (tyB cI cJ cR) N a (EB a cI cJ cR) [.ref (a 1), .ref (a 38)] u uu := by
  refine metV (by decide +kernel) (Nat.le_of_ble_eq_true rfl) ?_
  intro p e s m args below meth c R Q hx hb hml hown hts hF hLo hret hK hN h ls hl
  have hown : s.vm.findClass RX9 = some m.cls := hown
  have hl : lv_has ls 2 [(0, .ref (a 1)), (1, .ref (a 38))] := hl
  unfold f_X9_copyFrom_1_38 at hf
  refine lv_aload_n (pc := 0) hx hb dX9_copyFrom_0 rfl (lv_at hl 0 rfl) ?_
  refine gB_1_0 (pc := 1) hNN hx hb hts hown hK h fl_X9_12 dX9_copyFrom_1 ?_
  refine lv_aload_n (pc := 4) hx hb dX9_copyFrom_4 rfl (lv_at hl 1 rfl) ?_
  refine gB_38_0 (pc := 5) hNA hx hb hts hown hK h fl_X9_12 dX9_copyFrom_5 ?_
  obtain ⟨u1, hc, hf⟩ := b1_e hf
  refine k_X10_copyFrom_2_39 (pc := 8) hNA hNN hx hb hml hown hts hK hN hc ml_X9_78 (Nat.le_trans (by decide) hF) (Nat.le_trans (by decide) hLo) h hl.1 ⟨Nat.zero_le _, Nat.zero_le _⟩ (Nat.le_of_ble_eq_true rfl) dX9_copyFrom_8 (fun H locs h => ?_)
  refine lv_aload_n (pc := 11) hx hb dX9_copyFrom_11 rfl (lv_at hl 0 rfl) ?_
  refine gB_1_1 (pc := 12) hNN hx hb hts hown hK h fl_X9_21 dX9_copyFrom_12 ?_
  refine lv_aload_n (pc := 15) hx hb dX9_copyFrom_15 rfl (lv_at hl 1 rfl) ?_
  refine gB_38_1 (pc := 16) hNA hx hb hts hown hK h fl_X9_21 dX9_copyFrom_16 ?_
  obtain ⟨u2, hc, hf⟩ := b1_e hf
  refine k_X7_copyFrom_5_42 (pc := 19) hNA hNN hx hb hml hown hts hK hN hc ml_X9_82 (Nat.le_trans (by decide) hF) (Nat.le_trans (by decide) hLo) h hl.1 ⟨Nat.zero_le _, Nat.zero_le _⟩ (Nat.le_of_ble_eq_true rfl) dX9_copyFrom_19 (fun H locs h => ?_)
  refine lv_aload_n (pc := 22) hx hb dX9_copyFrom_22 rfl (lv_at hl 0 rfl) ?_
  refine gB_1_2 (pc := 23) hNN hx hb hts hown hK h fl_X9_28 dX9_copyFrom_23 ?_
  refine lv_aload_n (pc := 26) hx hb dX9_copyFrom_26 rfl (lv_at hl 1 rfl) ?_
  refine gB_38_2 (pc := 27) hNA hx hb hts hown hK h fl_X9_28 dX9_copyFrom_27 ?_
  obtain ⟨u3, hc, hf⟩ := b1_e hf
  refine k_X8_copyFrom_10_47 (pc := 30) hNA hNN hx hb hml hown hts hK hN hc ml_X9_85 (Nat.le_trans (by decide) hF) (Nat.le_trans (by decide) hLo) h hl.1 ⟨Nat.zero_le _, Nat.zero_le _⟩ (Nat.le_of_ble_eq_true rfl) dX9_copyFrom_30 (fun H locs h => ?_)
  refine lv_aload_n (pc := 33) hx hb dX9_copyFrom_33 rfl (lv_at hl 0 rfl) ?_
  refine gB_1_3 (pc := 34) hNN hx hb hts hown hK h fl_X9_35 dX9_copyFrom_34 ?_
  refine lv_aload_n (pc := 37) hx hb dX9_copyFrom_37 rfl (lv_at hl 1 rfl) ?_
  refine gB_38_3 (pc := 38) hNA hx hb hts hown hK h fl_X9_35 dX9_copyFrom_38 ?_
  obtain ⟨u4, hc, hf⟩ := b1_e hf
  refine k_X6_copyFrom_12_49 (pc := 41) hNA hNN hx hb hml hown hts hK hN hc ml_X9_88 (Nat.le_trans (by decide) hF) (Nat.le_trans (by decide) hLo) h hl.1 ⟨Nat.zero_le _, Nat.zero_le _⟩ (Nat.le_of_ble_eq_true rfl) dX9_copyFrom_41 (fun H locs h => ?_)
  refine lv_aload_n (pc := 44) hx hb dX9_copyFrom_44 rfl (lv_at hl 1 rfl) ?_
  refine gB_38_4 (pc := 45) hNA hx hb hts hown hK h fl_X9_48 dX9_copyFrom_45 ?_
  refine lv_iconst (pc := 48) (v := 0) hx hb dX9_copyFrom_48 (by decide) ?_
  refine lv_aload_n (pc := 49) hx hb dX9_copyFrom_49 rfl (lv_at hl 0 rfl) ?_
  refine gB_1_4 (pc := 50) hNN hx hb hts hown hK h fl_X9_48 dX9_copyFrom_50 ?_
  refine lv_iconst (pc := 53) (v := 0) hx hb dX9_copyFrom_53 (by decide) ?_
  refine lv_aload_n (pc := 54) hx hb dX9_copyFrom_54 rfl (lv_at hl 0 rfl) ?_
  refine gB_1_4 (pc := 55) hNN hx hb hts hown hK h fl_X9_48 dX9_copyFrom_55 ?_
  refine nB_16 (pc := 58) (v := 7) hNN hx hb hK h (by decide) dX9_copyFrom_58 ?_
  refine rCpyI (pc := 59)  hx hb (hml.trans hl.1.symm) hown hts ml_X9_91 hK h 53 16 (Nat.lt_of_lt_of_le (by decide) hNA) (Nat.lt_of_lt_of_le (by decide) hNN) 0 (fun _ => rfl) (fun _ => rfl) rfl (by decide) (by decide) (by decide) (Nat.le_trans (by decide) hF) (Nat.le_trans (by decide) hLo) (Nat.le_of_ble_eq_true rfl) dX9_copyFrom_59 (fun H locs h => ?_)
  obtain ⟨u5, eu5, hf⟩ := bs_e hf
  rw [← eu5] at h
  exact hret (so hf) dX9_copyFrom_62 h
theorem k_X9_copyFrom_1_38 {p : Program} {l : Launch} {e : Env} {R : Room} {s : State} {m : MethodId} {args : Array Value} {below : List Frame} {meth : Method} {c : Code} {H : Heap} {locs : List Loc} {cells slots : Nat} {Q : State → Prop} {pc : Nat} {ls : Array Slot} {rest : List Value} {cc : ByteArray} {D : va_G} {cI cJ cR : ClassId} {a : Nat → Nat} {u : St} {own : String} {index nL : Nat} {N : Nat} (hNA : 54 ≤ N) (hNN : 38 ≤ N) {uu : St} (hx : p.tables.exec = Jvm.exec) (hb : c.code = cc) (hml : c.maxLocals = nL) (hown : s.vm.findClass own = some m.cls) (hts : ∀ w ∈ Gd, w.before args s = true) (hK : va_K D vwCl (tyB cI cJ cR) s) (hN : NB s) (hc : f_X9_copyFrom_1_38 u = some uu) (hlk : Cond.methodLink own index yX9_copyFrom ∈ Gd) (hF : 3 ≤ R.frames) (hLo : 82 ≤ R.locals) (h : Hh D (AB N a s.heap.size) (wX N a (EB a cI cJ cR) u) s.heap H locs) (hsize : ls.size = nL) (hcs : cells ≤ R.cells ∧ slots ≤ R.slots) (hr : (rest.map fun v => v.category).sum ≤ 8) (hdg : decode cc pc = .ok (.invokevirtual index, 3)) (kk : ∀ (H1 : Heap) (locs1 : List Loc), Hh D (AB N a s.heap.size) (wX N a (EB a cI cJ cR) uu) s.heap H1 locs1 → W p l e R s m args below meth c H1 locs1 cells slots Q (F0 m (pc + 3) ls (rest))) : W p l e R s m args below meth c H locs cells slots Q (F0 m pc ls (.ref (a 38) :: .ref (a 1) :: rest)) :=
  cVv (n := 1) hx hb hml hown hts hK hN (c_X9_copyFrom_1_38 hNA hNN hc) (gdV hlk im_X9_copyFrom se_X9_copyFrom in_X9 co_X9_copyFrom) rfl (by decide +kernel) rfl hF hLo h hsize hcs (Nat.lt_of_lt_of_le (by decide) hNN) rfl rfl rfl hr hdg kk
def f_X10_copyFrom_2_55 (u : St) : Option (St) := bs (sI u 2 2 (u.1 55 2)) (fun u1 : St => bs (sI u1 2 3 (u1.1 55 3)) (fun u2 : St => bs (sA u2 3 (va_cpy (u2.1 56) (u2.1 3) 0 0 (Int32.toNatClampNeg 6))) (fun u3 : St => bs (sA u3 4 (va_cpy (u3.1 57) (u3.1 4) 0 0 (Int32.toNatClampNeg 6))) (fun u4 : St => some u4))))
set_option maxRecDepth 100000 in
set_option maxHeartbeats 4000000 in
theorem c_X10_copyFrom_2_55 {l : Launch} {D : va_G} {cI cJ cR : ClassId} {a : Nat → Nat} {u : St} {N : Nat} (hNB : 70 ≤ N) (hNN : 38 ≤ N) {uu : St} (hf : f_X10_copyFrom_2_55 u = some uu) : Cv l yX10_copyFrom cX10_copyFrom 2 none 1 40 D (tyB cI cJ cR) N a (EB a cI cJ cR) [.ref (a 2), .ref (a 55)] u uu := by
  refine metV (by decide +kernel) (Nat.le_of_ble_eq_true rfl) ?_
  intro p e s m args below meth c R Q hx hb hml hown hts hF hLo hret hK hN h ls hl
  have hown : s.vm.findClass RX10 = some m.cls := hown
  have hl : lv_has ls 2 [(0, .ref (a 2)), (1, .ref (a 55))] := hl
  unfold f_X10_copyFrom_2_55 at hf
  refine lv_aload_n (pc := 0) hx hb dX10_copyFrom_0 rfl (lv_at hl 0 rfl) ?_
  refine lv_aload_n (pc := 1) hx hb dX10_copyFrom_1 rfl (lv_at hl 1 rfl) ?_
  refine gB_55_2 (pc := 2) hNB hx hb hts hown hK h fl_X10_22 dX10_copyFrom_2 ?_
  refine pB_2_2 (pc := 5) hNN hx hb hts hown hK h fl_X10_22 dX10_copyFrom_5 (fun H locs h => ?_)
  obtain ⟨u1, eu1, hf⟩ := bs_e hf
  rw [← eu1] at h
  refine lv_aload_n (pc := 8) hx hb dX10_copyFrom_8 rfl (lv_at hl 0 rfl) ?_
  refine lv_aload_n (pc := 9) hx hb dX10_copyFrom_9 rfl (lv_at hl 1 rfl) ?_
  refine gB_55_3 (pc := 10) hNB hx hb hts hown hK h fl_X10_26 dX10_copyFrom_10 ?_
  refine pB_2_3 (pc := 13) hNN hx hb hts hown hK h fl_X10_26 dX10_copyFrom_13 (fun H locs h => ?_)
  obtain ⟨u2, eu2, hf⟩ := bs_e hf
  rw [← eu2] at h
  refine lv_aload_n (pc := 16) hx hb dX10_copyFrom_16 rfl (lv_at hl 1 rfl) ?_
  refine gB_55_0 (pc := 17) hNB hx hb hts hown hK h fl_X10_9 dX10_copyFrom_17 ?_
  refine lv_iconst (pc := 20) (v := 0) hx hb dX10_copyFrom_20 (by decide) ?_
  refine lv_aload_n (pc := 21) hx hb dX10_copyFrom_21 rfl (lv_at hl 0 rfl) ?_
  refine gB_2_0 (pc := 22) hNN hx hb hts hown hK h fl_X10_9 dX10_copyFrom_22 ?_
  refine lv_iconst (pc := 25) (v := 0) hx hb dX10_copyFrom_25 (by decide) ?_
  refine lv_bipush (pc := 26) (v := 6) hx hb dX10_copyFrom_26 (by decide) ?_
  refine rCpyI (pc := 28)  hx hb (hml.trans hl.1.symm) hown hts ml_X10_29 hK h 56 3 (Nat.lt_of_lt_of_le (by decide) hNB) (Nat.lt_of_lt_of_le (by decide) hNN) 0 (fun _ => rfl) (fun _ => rfl) rfl (by decide) (by decide) (by decide) (Nat.le_trans (by decide) hF) (Nat.le_trans (by decide) hLo) (Nat.le_of_ble_eq_true rfl) dX10_copyFrom_28 (fun H locs h => ?_)
  obtain ⟨u3, eu3, hf⟩ := bs_e hf
  rw [← eu3] at h
  refine lv_aload_n (pc := 31) hx hb dX10_copyFrom_31 rfl (lv_at hl 1 rfl) ?_
  refine gB_55_1 (pc := 32) hNB hx hb hts hown hK h fl_X10_15 dX10_copyFrom_32 ?_
  refine lv_iconst (pc := 35) (v := 0) hx hb dX10_copyFrom_35 (by decide) ?_
  refine lv_aload_n (pc := 36) hx hb dX10_copyFrom_36 rfl (lv_at hl 0 rfl) ?_
  refine gB_2_1 (pc := 37) hNN hx hb hts hown hK h fl_X10_15 dX10_copyFrom_37 ?_
  refine lv_iconst (pc := 40) (v := 0) hx hb dX10_copyFrom_40 (by decide) ?_
  refine lv_bipush (pc := 41) (v := 6) hx hb dX10_copyFrom_41 (by decide) ?_
  refine rCpyI (pc := 43)  hx hb (hml.trans hl.1.symm) hown hts ml_X10_29 hK h 57 4 (Nat.lt_of_lt_of_le (by decide) hNB) (Nat.lt_of_lt_of_le (by decide) hNN) 0 (fun _ => rfl) (fun _ => rfl) rfl (by decide) (by decide) (by decide) (Nat.le_trans (by decide) hF) (Nat.le_trans (by decide) hLo) (Nat.le_of_ble_eq_true rfl) dX10_copyFrom_43 (fun H locs h => ?_)
  obtain ⟨u4, eu4, hf⟩ := bs_e hf
  rw [← eu4] at h
  exact hret (so hf) dX10_copyFrom_46 h
theorem k_X10_copyFrom_2_55 {p : Program} {l : Launch} {e : Env} {R : Room} {s : State} {m : MethodId} {args : Array Value} {below : List Frame} {meth : Method} {c : Code} {H : Heap} {locs : List Loc} {cells slots : Nat} {Q : State → Prop} {pc : Nat} {ls : Array Slot} {rest : List Value} {cc : ByteArray} {D : va_G} {cI cJ cR : ClassId} {a : Nat → Nat} {u : St} {own : String} {index nL : Nat} {N : Nat} (hNB : 70 ≤ N) (hNN : 38 ≤ N) {uu : St} (hx : p.tables.exec = Jvm.exec) (hb : c.code = cc) (hml : c.maxLocals = nL) (hown : s.vm.findClass own = some m.cls) (hts : ∀ w ∈ Gd, w.before args s = true) (hK : va_K D vwCl (tyB cI cJ cR) s) (hN : NB s) (hc : f_X10_copyFrom_2_55 u = some uu) (hlk : Cond.methodLink own index yX10_copyFrom ∈ Gd) (hF : 2 ≤ R.frames) (hLo : 61 ≤ R.locals) (h : Hh D (AB N a s.heap.size) (wX N a (EB a cI cJ cR) u) s.heap H locs) (hsize : ls.size = nL) (hcs : cells ≤ R.cells ∧ slots ≤ R.slots) (hr : (rest.map fun v => v.category).sum ≤ 8) (hdg : decode cc pc = .ok (.invokevirtual index, 3)) (kk : ∀ (H1 : Heap) (locs1 : List Loc), Hh D (AB N a s.heap.size) (wX N a (EB a cI cJ cR) uu) s.heap H1 locs1 → W p l e R s m args below meth c H1 locs1 cells slots Q (F0 m (pc + 3) ls (rest))) : W p l e R s m args below meth c H locs cells slots Q (F0 m pc ls (.ref (a 55) :: .ref (a 2) :: rest)) :=
  cVv (n := 1) hx hb hml hown hts hK hN (c_X10_copyFrom_2_55 hNB hNN hc) (gdV hlk im_X10_copyFrom se_X10_copyFrom in_X10 co_X10_copyFrom) rfl (by decide +kernel) rfl hF hLo h hsize hcs (Nat.lt_of_lt_of_le (by decide) hNN) rfl rfl rfl hr hdg kk
def f_X7_copyFrom_5_58 (u : St) : Option (St) := bs (sI u 5 4 (u.1 58 4)) (fun u1 : St => bs (sA u1 6 (va_cpy (u1.1 59) (u1.1 6) 0 0 (Int32.toNatClampNeg 8))) (fun u2 : St => bs (sA u2 7 (va_cpy (u2.1 60) (u2.1 7) 0 0 (Int32.toNatClampNeg 8))) (fun u3 : St => bs (sA u3 8 (va_cpy (u3.1 61) (u3.1 8) 0 0 (Int32.toNatClampNeg 8))) (fun u4 : St => bs (sA u4 9 (va_cpy (u4.1 62) (u4.1 9) 0 0 (Int32.toNatClampNeg 8))) (fun u5 : St => some u5)))))
set_option maxRecDepth 100000 in
set_option maxHeartbeats 4000000 in
theorem c_X7_copyFrom_5_58 {l : Launch} {D : va_G} {cI cJ cR : ClassId} {a : Nat → Nat} {u : St} {N : Nat} (hNB : 70 ≤ N) (hNN : 38 ≤ N) {uu : St} (hf : f_X7_copyFrom_5_58 u = some uu) : Cv l yX7_copyFrom cX7_copyFrom 2 none 1 40 D (tyB cI cJ cR) N a (EB a cI cJ cR) [.ref (a 5), .ref (a 58)] u uu := by
  refine metV (by decide +kernel) (Nat.le_of_ble_eq_true rfl) ?_
  intro p e s m args below meth c R Q hx hb hml hown hts hF hLo hret hK hN h ls hl
  have hown : s.vm.findClass RX7 = some m.cls := hown
  have hl : lv_has ls 2 [(0, .ref (a 5)), (1, .ref (a 58))] := hl
  unfold f_X7_copyFrom_5_58 at hf
  refine lv_aload_n (pc := 0) hx hb dX7_copyFrom_0 rfl (lv_at hl 0 rfl) ?_
  refine lv_aload_n (pc := 1) hx hb dX7_copyFrom_1 rfl (lv_at hl 1 rfl) ?_
  refine gB_58_4 (pc := 2) hNB hx hb hts hown hK h fl_X7_24 dX7_copyFrom_2 ?_
  refine pB_5_4 (pc := 5) hNN hx hb hts hown hK h fl_X7_24 dX7_copyFrom_5 (fun H locs h => ?_)
  obtain ⟨u1, eu1, hf⟩ := bs_e hf
  rw [← eu1] at h
  refine lv_aload_n (pc := 8) hx hb dX7_copyFrom_8 rfl (lv_at hl 1 rfl) ?_
  refine gB_58_0 (pc := 9) hNB hx hb hts hown hK h fl_X7_9 dX7_copyFrom_9 ?_
  refine lv_iconst (pc := 12) (v := 0) hx hb dX7_copyFrom_12 (by decide) ?_
  refine lv_aload_n (pc := 13) hx hb dX7_copyFrom_13 rfl (lv_at hl 0 rfl) ?_
  refine gB_5_0 (pc := 14) hNN hx hb hts hown hK h fl_X7_9 dX7_copyFrom_14 ?_
  refine lv_iconst (pc := 17) (v := 0) hx hb dX7_copyFrom_17 (by decide) ?_
  refine lv_bipush (pc := 18) (v := 8) hx hb dX7_copyFrom_18 (by decide) ?_
  refine rCpyI (pc := 20)  hx hb (hml.trans hl.1.symm) hown hts ml_X7_40 hK h 59 6 (Nat.lt_of_lt_of_le (by decide) hNB) (Nat.lt_of_lt_of_le (by decide) hNN) 0 (fun _ => rfl) (fun _ => rfl) rfl (by decide) (by decide) (by decide) (Nat.le_trans (by decide) hF) (Nat.le_trans (by decide) hLo) (Nat.le_of_ble_eq_true rfl) dX7_copyFrom_20 (fun H locs h => ?_)
  obtain ⟨u2, eu2, hf⟩ := bs_e hf
  rw [← eu2] at h
  refine lv_aload_n (pc := 23) hx hb dX7_copyFrom_23 rfl (lv_at hl 1 rfl) ?_
  refine gB_58_1 (pc := 24) hNB hx hb hts hown hK h fl_X7_15 dX7_copyFrom_24 ?_
  refine lv_iconst (pc := 27) (v := 0) hx hb dX7_copyFrom_27 (by decide) ?_
  refine lv_aload_n (pc := 28) hx hb dX7_copyFrom_28 rfl (lv_at hl 0 rfl) ?_
  refine gB_5_1 (pc := 29) hNN hx hb hts hown hK h fl_X7_15 dX7_copyFrom_29 ?_
  refine lv_iconst (pc := 32) (v := 0) hx hb dX7_copyFrom_32 (by decide) ?_
  refine lv_bipush (pc := 33) (v := 8) hx hb dX7_copyFrom_33 (by decide) ?_
  refine rCpyI (pc := 35)  hx hb (hml.trans hl.1.symm) hown hts ml_X7_40 hK h 60 7 (Nat.lt_of_lt_of_le (by decide) hNB) (Nat.lt_of_lt_of_le (by decide) hNN) 0 (fun _ => rfl) (fun _ => rfl) rfl (by decide) (by decide) (by decide) (Nat.le_trans (by decide) hF) (Nat.le_trans (by decide) hLo) (Nat.le_of_ble_eq_true rfl) dX7_copyFrom_35 (fun H locs h => ?_)
  obtain ⟨u3, eu3, hf⟩ := bs_e hf
  rw [← eu3] at h
  refine lv_aload_n (pc := 38) hx hb dX7_copyFrom_38 rfl (lv_at hl 1 rfl) ?_
  refine gB_58_2 (pc := 39) hNB hx hb hts hown hK h fl_X7_18 dX7_copyFrom_39 ?_
  refine lv_iconst (pc := 42) (v := 0) hx hb dX7_copyFrom_42 (by decide) ?_
  refine lv_aload_n (pc := 43) hx hb dX7_copyFrom_43 rfl (lv_at hl 0 rfl) ?_
  refine gB_5_2 (pc := 44) hNN hx hb hts hown hK h fl_X7_18 dX7_copyFrom_44 ?_
  refine lv_iconst (pc := 47) (v := 0) hx hb dX7_copyFrom_47 (by decide) ?_
  refine lv_bipush (pc := 48) (v := 8) hx hb dX7_copyFrom_48 (by decide) ?_
  refine rCpyI (pc := 50)  hx hb (hml.trans hl.1.symm) hown hts ml_X7_40 hK h 61 8 (Nat.lt_of_lt_of_le (by decide) hNB) (Nat.lt_of_lt_of_le (by decide) hNN) 0 (fun _ => rfl) (fun _ => rfl) rfl (by decide) (by decide) (by decide) (Nat.le_trans (by decide) hF) (Nat.le_trans (by decide) hLo) (Nat.le_of_ble_eq_true rfl) dX7_copyFrom_50 (fun H locs h => ?_)
  obtain ⟨u4, eu4, hf⟩ := bs_e hf
  rw [← eu4] at h
  refine lv_aload_n (pc := 53) hx hb dX7_copyFrom_53 rfl (lv_at hl 1 rfl) ?_
  refine gB_58_3 (pc := 54) hNB hx hb hts hown hK h fl_X7_21 dX7_copyFrom_54 ?_
  refine lv_iconst (pc := 57) (v := 0) hx hb dX7_copyFrom_57 (by decide) ?_
  refine lv_aload_n (pc := 58) hx hb dX7_copyFrom_58 rfl (lv_at hl 0 rfl) ?_
  refine gB_5_3 (pc := 59) hNN hx hb hts hown hK h fl_X7_21 dX7_copyFrom_59 ?_
  refine lv_iconst (pc := 62) (v := 0) hx hb dX7_copyFrom_62 (by decide) ?_
  refine lv_bipush (pc := 63) (v := 8) hx hb dX7_copyFrom_63 (by decide) ?_
  refine rCpyI (pc := 65)  hx hb (hml.trans hl.1.symm) hown hts ml_X7_40 hK h 62 9 (Nat.lt_of_lt_of_le (by decide) hNB) (Nat.lt_of_lt_of_le (by decide) hNN) 0 (fun _ => rfl) (fun _ => rfl) rfl (by decide) (by decide) (by decide) (Nat.le_trans (by decide) hF) (Nat.le_trans (by decide) hLo) (Nat.le_of_ble_eq_true rfl) dX7_copyFrom_65 (fun H locs h => ?_)
  obtain ⟨u5, eu5, hf⟩ := bs_e hf
  rw [← eu5] at h
  exact hret (so hf) dX7_copyFrom_68 h
theorem k_X7_copyFrom_5_58 {p : Program} {l : Launch} {e : Env} {R : Room} {s : State} {m : MethodId} {args : Array Value} {below : List Frame} {meth : Method} {c : Code} {H : Heap} {locs : List Loc} {cells slots : Nat} {Q : State → Prop} {pc : Nat} {ls : Array Slot} {rest : List Value} {cc : ByteArray} {D : va_G} {cI cJ cR : ClassId} {a : Nat → Nat} {u : St} {own : String} {index nL : Nat} {N : Nat} (hNB : 70 ≤ N) (hNN : 38 ≤ N) {uu : St} (hx : p.tables.exec = Jvm.exec) (hb : c.code = cc) (hml : c.maxLocals = nL) (hown : s.vm.findClass own = some m.cls) (hts : ∀ w ∈ Gd, w.before args s = true) (hK : va_K D vwCl (tyB cI cJ cR) s) (hN : NB s) (hc : f_X7_copyFrom_5_58 u = some uu) (hlk : Cond.methodLink own index yX7_copyFrom ∈ Gd) (hF : 2 ≤ R.frames) (hLo : 61 ≤ R.locals) (h : Hh D (AB N a s.heap.size) (wX N a (EB a cI cJ cR) u) s.heap H locs) (hsize : ls.size = nL) (hcs : cells ≤ R.cells ∧ slots ≤ R.slots) (hr : (rest.map fun v => v.category).sum ≤ 8) (hdg : decode cc pc = .ok (.invokevirtual index, 3)) (kk : ∀ (H1 : Heap) (locs1 : List Loc), Hh D (AB N a s.heap.size) (wX N a (EB a cI cJ cR) uu) s.heap H1 locs1 → W p l e R s m args below meth c H1 locs1 cells slots Q (F0 m (pc + 3) ls (rest))) : W p l e R s m args below meth c H locs cells slots Q (F0 m pc ls (.ref (a 58) :: .ref (a 5) :: rest)) :=
  cVv (n := 1) hx hb hml hown hts hK hN (c_X7_copyFrom_5_58 hNB hNN hc) (gdV hlk im_X7_copyFrom se_X7_copyFrom in_X7 co_X7_copyFrom) rfl (by decide +kernel) rfl hF hLo h hsize hcs (Nat.lt_of_lt_of_le (by decide) hNN) rfl rfl rfl hr hdg kk
def f_X8_copyFrom_10_63 (u : St) : Option (St) := bs (sI u 10 1 (u.1 63 1)) (fun u1 : St => bs (sA u1 11 (va_cpy (u1.1 64) (u1.1 11) 0 0 (Int32.toNatClampNeg 30))) (fun u2 : St => some u2))
set_option maxRecDepth 100000 in
set_option maxHeartbeats 4000000 in
theorem c_X8_copyFrom_10_63 {l : Launch} {D : va_G} {cI cJ cR : ClassId} {a : Nat → Nat} {u : St} {N : Nat} (hNB : 70 ≤ N) (hNN : 38 ≤ N) {uu : St} (hf : f_X8_copyFrom_10_63 u = some uu) : Cv l yX8_copyFrom cX8_copyFrom 2 none 1 40 D (tyB cI cJ cR) N a (EB a cI cJ cR) [.ref (a 10), .ref (a 63)] u uu := by
  refine metV (by decide +kernel) (Nat.le_of_ble_eq_true rfl) ?_
  intro p e s m args below meth c R Q hx hb hml hown hts hF hLo hret hK hN h ls hl
  have hown : s.vm.findClass RX8 = some m.cls := hown
  have hl : lv_has ls 2 [(0, .ref (a 10)), (1, .ref (a 63))] := hl
  unfold f_X8_copyFrom_10_63 at hf
  refine lv_aload_n (pc := 0) hx hb dX8_copyFrom_0 rfl (lv_at hl 0 rfl) ?_
  refine lv_aload_n (pc := 1) hx hb dX8_copyFrom_1 rfl (lv_at hl 1 rfl) ?_
  refine gB_63_1 (pc := 2) hNB hx hb hts hown hK h fl_X8_15 dX8_copyFrom_2 ?_
  refine pB_10_1 (pc := 5) hNN hx hb hts hown hK h fl_X8_15 dX8_copyFrom_5 (fun H locs h => ?_)
  obtain ⟨u1, eu1, hf⟩ := bs_e hf
  rw [← eu1] at h
  refine lv_aload_n (pc := 8) hx hb dX8_copyFrom_8 rfl (lv_at hl 1 rfl) ?_
  refine gB_63_0 (pc := 9) hNB hx hb hts hown hK h fl_X8_9 dX8_copyFrom_9 ?_
  refine lv_iconst (pc := 12) (v := 0) hx hb dX8_copyFrom_12 (by decide) ?_
  refine lv_aload_n (pc := 13) hx hb dX8_copyFrom_13 rfl (lv_at hl 0 rfl) ?_
  refine gB_10_0 (pc := 14) hNN hx hb hts hown hK h fl_X8_9 dX8_copyFrom_14 ?_
  refine lv_iconst (pc := 17) (v := 0) hx hb dX8_copyFrom_17 (by decide) ?_
  refine lv_bipush (pc := 18) (v := 30) hx hb dX8_copyFrom_18 (by decide) ?_
  refine rCpyI (pc := 20)  hx hb (hml.trans hl.1.symm) hown hts ml_X8_37 hK h 64 11 (Nat.lt_of_lt_of_le (by decide) hNB) (Nat.lt_of_lt_of_le (by decide) hNN) 0 (fun _ => rfl) (fun _ => rfl) rfl (by decide) (by decide) (by decide) (Nat.le_trans (by decide) hF) (Nat.le_trans (by decide) hLo) (Nat.le_of_ble_eq_true rfl) dX8_copyFrom_20 (fun H locs h => ?_)
  obtain ⟨u2, eu2, hf⟩ := bs_e hf
  rw [← eu2] at h
  exact hret (so hf) dX8_copyFrom_23 h
theorem k_X8_copyFrom_10_63 {p : Program} {l : Launch} {e : Env} {R : Room} {s : State} {m : MethodId} {args : Array Value} {below : List Frame} {meth : Method} {c : Code} {H : Heap} {locs : List Loc} {cells slots : Nat} {Q : State → Prop} {pc : Nat} {ls : Array Slot} {rest : List Value} {cc : ByteArray} {D : va_G} {cI cJ cR : ClassId} {a : Nat → Nat} {u : St} {own : String} {index nL : Nat} {N : Nat} (hNB : 70 ≤ N) (hNN : 38 ≤ N) {uu : St} (hx : p.tables.exec = Jvm.exec) (hb : c.code = cc) (hml : c.maxLocals = nL) (hown : s.vm.findClass own = some m.cls) (hts : ∀ w ∈ Gd, w.before args s = true) (hK : va_K D vwCl (tyB cI cJ cR) s) (hN : NB s) (hc : f_X8_copyFrom_10_63 u = some uu) (hlk : Cond.methodLink own index yX8_copyFrom ∈ Gd) (hF : 2 ≤ R.frames) (hLo : 61 ≤ R.locals) (h : Hh D (AB N a s.heap.size) (wX N a (EB a cI cJ cR) u) s.heap H locs) (hsize : ls.size = nL) (hcs : cells ≤ R.cells ∧ slots ≤ R.slots) (hr : (rest.map fun v => v.category).sum ≤ 8) (hdg : decode cc pc = .ok (.invokevirtual index, 3)) (kk : ∀ (H1 : Heap) (locs1 : List Loc), Hh D (AB N a s.heap.size) (wX N a (EB a cI cJ cR) uu) s.heap H1 locs1 → W p l e R s m args below meth c H1 locs1 cells slots Q (F0 m (pc + 3) ls (rest))) : W p l e R s m args below meth c H locs cells slots Q (F0 m pc ls (.ref (a 63) :: .ref (a 10) :: rest)) :=
  cVv (n := 1) hx hb hml hown hts hK hN (c_X8_copyFrom_10_63 hNB hNN hc) (gdV hlk im_X8_copyFrom se_X8_copyFrom in_X8 co_X8_copyFrom) rfl (by decide +kernel) rfl hF hLo h hsize hcs (Nat.lt_of_lt_of_le (by decide) hNN) rfl rfl rfl hr hdg kk
def f_X6_copyFrom_12_65 (u : St) : Option (St) := bs (sI u 12 3 (u.1 65 3)) (fun u1 : St => bs (sA u1 13 (va_cpy (u1.1 66) (u1.1 13) 0 0 (Int32.toNatClampNeg 6))) (fun u2 : St => bs (sA u2 14 (va_cpy (u2.1 67) (u2.1 14) 0 0 (Int32.toNatClampNeg 6))) (fun u3 : St => bs (sA u3 15 (va_cpy (u3.1 68) (u3.1 15) 0 0 (Int32.toNatClampNeg 6))) (fun u4 : St => some u4))))
set_option maxRecDepth 100000 in
set_option maxHeartbeats 4000000 in
theorem c_X6_copyFrom_12_65 {l : Launch} {D : va_G} {cI cJ cR : ClassId} {a : Nat → Nat} {u : St} {N : Nat} (hNB : 70 ≤ N) (hNN : 38 ≤ N) {uu : St} (hf : f_X6_copyFrom_12_65 u = some uu) : Cv l yX6_copyFrom cX6_copyFrom 2 none 1 40 D (tyB cI cJ cR) N a (EB a cI cJ cR) [.ref (a 12), .ref (a 65)] u uu := by
  refine metV (by decide +kernel) (Nat.le_of_ble_eq_true rfl) ?_
  intro p e s m args below meth c R Q hx hb hml hown hts hF hLo hret hK hN h ls hl
  have hown : s.vm.findClass RX6 = some m.cls := hown
  have hl : lv_has ls 2 [(0, .ref (a 12)), (1, .ref (a 65))] := hl
  unfold f_X6_copyFrom_12_65 at hf
  refine lv_aload_n (pc := 0) hx hb dX6_copyFrom_0 rfl (lv_at hl 0 rfl) ?_
  refine lv_aload_n (pc := 1) hx hb dX6_copyFrom_1 rfl (lv_at hl 1 rfl) ?_
  refine gB_65_3 (pc := 2) hNB hx hb hts hown hK h fl_X6_21 dX6_copyFrom_2 ?_
  refine pB_12_3 (pc := 5) hNN hx hb hts hown hK h fl_X6_21 dX6_copyFrom_5 (fun H locs h => ?_)
  obtain ⟨u1, eu1, hf⟩ := bs_e hf
  rw [← eu1] at h
  refine lv_aload_n (pc := 8) hx hb dX6_copyFrom_8 rfl (lv_at hl 1 rfl) ?_
  refine gB_65_0 (pc := 9) hNB hx hb hts hown hK h fl_X6_9 dX6_copyFrom_9 ?_
  refine lv_iconst (pc := 12) (v := 0) hx hb dX6_copyFrom_12 (by decide) ?_
  refine lv_aload_n (pc := 13) hx hb dX6_copyFrom_13 rfl (lv_at hl 0 rfl) ?_
  refine gB_12_0 (pc := 14) hNN hx hb hts hown hK h fl_X6_9 dX6_copyFrom_14 ?_
  refine lv_iconst (pc := 17) (v := 0) hx hb dX6_copyFrom_17 (by decide) ?_
  refine lv_bipush (pc := 18) (v := 6) hx hb dX6_copyFrom_18 (by decide) ?_
  refine rCpyI (pc := 20)  hx hb (hml.trans hl.1.symm) hown hts ml_X6_35 hK h 66 13 (Nat.lt_of_lt_of_le (by decide) hNB) (Nat.lt_of_lt_of_le (by decide) hNN) 0 (fun _ => rfl) (fun _ => rfl) rfl (by decide) (by decide) (by decide) (Nat.le_trans (by decide) hF) (Nat.le_trans (by decide) hLo) (Nat.le_of_ble_eq_true rfl) dX6_copyFrom_20 (fun H locs h => ?_)
  obtain ⟨u2, eu2, hf⟩ := bs_e hf
  rw [← eu2] at h
  refine lv_aload_n (pc := 23) hx hb dX6_copyFrom_23 rfl (lv_at hl 1 rfl) ?_
  refine gB_65_1 (pc := 24) hNB hx hb hts hown hK h fl_X6_15 dX6_copyFrom_24 ?_
  refine lv_iconst (pc := 27) (v := 0) hx hb dX6_copyFrom_27 (by decide) ?_
  refine lv_aload_n (pc := 28) hx hb dX6_copyFrom_28 rfl (lv_at hl 0 rfl) ?_
  refine gB_12_1 (pc := 29) hNN hx hb hts hown hK h fl_X6_15 dX6_copyFrom_29 ?_
  refine lv_iconst (pc := 32) (v := 0) hx hb dX6_copyFrom_32 (by decide) ?_
  refine lv_bipush (pc := 33) (v := 6) hx hb dX6_copyFrom_33 (by decide) ?_
  refine rCpyI (pc := 35)  hx hb (hml.trans hl.1.symm) hown hts ml_X6_35 hK h 67 14 (Nat.lt_of_lt_of_le (by decide) hNB) (Nat.lt_of_lt_of_le (by decide) hNN) 0 (fun _ => rfl) (fun _ => rfl) rfl (by decide) (by decide) (by decide) (Nat.le_trans (by decide) hF) (Nat.le_trans (by decide) hLo) (Nat.le_of_ble_eq_true rfl) dX6_copyFrom_35 (fun H locs h => ?_)
  obtain ⟨u3, eu3, hf⟩ := bs_e hf
  rw [← eu3] at h
  refine lv_aload_n (pc := 38) hx hb dX6_copyFrom_38 rfl (lv_at hl 1 rfl) ?_
  refine gB_65_2 (pc := 39) hNB hx hb hts hown hK h fl_X6_18 dX6_copyFrom_39 ?_
  refine lv_iconst (pc := 42) (v := 0) hx hb dX6_copyFrom_42 (by decide) ?_
  refine lv_aload_n (pc := 43) hx hb dX6_copyFrom_43 rfl (lv_at hl 0 rfl) ?_
  refine gB_12_2 (pc := 44) hNN hx hb hts hown hK h fl_X6_18 dX6_copyFrom_44 ?_
  refine lv_iconst (pc := 47) (v := 0) hx hb dX6_copyFrom_47 (by decide) ?_
  refine lv_bipush (pc := 48) (v := 6) hx hb dX6_copyFrom_48 (by decide) ?_
  refine rCpyI (pc := 50)  hx hb (hml.trans hl.1.symm) hown hts ml_X6_35 hK h 68 15 (Nat.lt_of_lt_of_le (by decide) hNB) (Nat.lt_of_lt_of_le (by decide) hNN) 0 (fun _ => rfl) (fun _ => rfl) rfl (by decide) (by decide) (by decide) (Nat.le_trans (by decide) hF) (Nat.le_trans (by decide) hLo) (Nat.le_of_ble_eq_true rfl) dX6_copyFrom_50 (fun H locs h => ?_)
  obtain ⟨u4, eu4, hf⟩ := bs_e hf
  rw [← eu4] at h
  exact hret (so hf) dX6_copyFrom_53 h
theorem k_X6_copyFrom_12_65 {p : Program} {l : Launch} {e : Env} {R : Room} {s : State} {m : MethodId} {args : Array Value} {below : List Frame} {meth : Method} {c : Code} {H : Heap} {locs : List Loc} {cells slots : Nat} {Q : State → Prop} {pc : Nat} {ls : Array Slot} {rest : List Value} {cc : ByteArray} {D : va_G} {cI cJ cR : ClassId} {a : Nat → Nat} {u : St} {own : String} {index nL : Nat} {N : Nat} (hNB : 70 ≤ N) (hNN : 38 ≤ N) {uu : St} (hx : p.tables.exec = Jvm.exec) (hb : c.code = cc) (hml : c.maxLocals = nL) (hown : s.vm.findClass own = some m.cls) (hts : ∀ w ∈ Gd, w.before args s = true) (hK : va_K D vwCl (tyB cI cJ cR) s) (hN : NB s) (hc : f_X6_copyFrom_12_65 u = some uu) (hlk : Cond.methodLink own index yX6_copyFrom ∈ Gd) (hF : 2 ≤ R.frames) (hLo : 61 ≤ R.locals) (h : Hh D (AB N a s.heap.size) (wX N a (EB a cI cJ cR) u) s.heap H locs) (hsize : ls.size = nL) (hcs : cells ≤ R.cells ∧ slots ≤ R.slots) (hr : (rest.map fun v => v.category).sum ≤ 8) (hdg : decode cc pc = .ok (.invokevirtual index, 3)) (kk : ∀ (H1 : Heap) (locs1 : List Loc), Hh D (AB N a s.heap.size) (wX N a (EB a cI cJ cR) uu) s.heap H1 locs1 → W p l e R s m args below meth c H1 locs1 cells slots Q (F0 m (pc + 3) ls (rest))) : W p l e R s m args below meth c H locs cells slots Q (F0 m pc ls (.ref (a 65) :: .ref (a 12) :: rest)) :=
  cVv (n := 1) hx hb hml hown hts hK hN (c_X6_copyFrom_12_65 hNB hNN hc) (gdV hlk im_X6_copyFrom se_X6_copyFrom in_X6 co_X6_copyFrom) rfl (by decide +kernel) rfl hF hLo h hsize hcs (Nat.lt_of_lt_of_le (by decide) hNN) rfl rfl rfl hr hdg kk
def f_X9_copyFrom_1_54 (u : St) : Option (St) := b1 (f_X10_copyFrom_2_55 u) (fun (u1 : St) => b1 (f_X7_copyFrom_5_58 u1) (fun (u2 : St) => b1 (f_X8_copyFrom_10_63 u2) (fun (u3 : St) => b1 (f_X6_copyFrom_12_65 u3) (fun (u4 : St) => bs (sA u4 16 (va_cpy (u4.1 69) (u4.1 16) 0 0 (Int32.toNatClampNeg 7))) (fun u5 : St => some u5)))))
set_option maxRecDepth 100000 in
set_option maxHeartbeats 4000000 in
theorem c_X9_copyFrom_1_54 {l : Launch} {D : va_G} {cI cJ cR : ClassId} {a : Nat → Nat} {u : St} {N : Nat} (hNB : 70 ≤ N) (hNN : 38 ≤ N) {uu : St} (hf : f_X9_copyFrom_1_54 u = some uu) : Cv l yX9_copyFrom cX9_copyFrom 2 none 2 61 D (tyB cI cJ cR) N a (EB a cI cJ cR) [.ref (a 1), .ref (a 54)] u uu := by
  refine metV (by decide +kernel) (Nat.le_of_ble_eq_true rfl) ?_
  intro p e s m args below meth c R Q hx hb hml hown hts hF hLo hret hK hN h ls hl
  have hown : s.vm.findClass RX9 = some m.cls := hown
  have hl : lv_has ls 2 [(0, .ref (a 1)), (1, .ref (a 54))] := hl
  unfold f_X9_copyFrom_1_54 at hf
  refine lv_aload_n (pc := 0) hx hb dX9_copyFrom_0 rfl (lv_at hl 0 rfl) ?_
  refine gB_1_0 (pc := 1) hNN hx hb hts hown hK h fl_X9_12 dX9_copyFrom_1 ?_
  refine lv_aload_n (pc := 4) hx hb dX9_copyFrom_4 rfl (lv_at hl 1 rfl) ?_
  refine gB_54_0 (pc := 5) hNB hx hb hts hown hK h fl_X9_12 dX9_copyFrom_5 ?_
  obtain ⟨u1, hc, hf⟩ := b1_e hf
  refine k_X10_copyFrom_2_55 (pc := 8) hNB hNN hx hb hml hown hts hK hN hc ml_X9_78 (Nat.le_trans (by decide) hF) (Nat.le_trans (by decide) hLo) h hl.1 ⟨Nat.zero_le _, Nat.zero_le _⟩ (Nat.le_of_ble_eq_true rfl) dX9_copyFrom_8 (fun H locs h => ?_)
  refine lv_aload_n (pc := 11) hx hb dX9_copyFrom_11 rfl (lv_at hl 0 rfl) ?_
  refine gB_1_1 (pc := 12) hNN hx hb hts hown hK h fl_X9_21 dX9_copyFrom_12 ?_
  refine lv_aload_n (pc := 15) hx hb dX9_copyFrom_15 rfl (lv_at hl 1 rfl) ?_
  refine gB_54_1 (pc := 16) hNB hx hb hts hown hK h fl_X9_21 dX9_copyFrom_16 ?_
  obtain ⟨u2, hc, hf⟩ := b1_e hf
  refine k_X7_copyFrom_5_58 (pc := 19) hNB hNN hx hb hml hown hts hK hN hc ml_X9_82 (Nat.le_trans (by decide) hF) (Nat.le_trans (by decide) hLo) h hl.1 ⟨Nat.zero_le _, Nat.zero_le _⟩ (Nat.le_of_ble_eq_true rfl) dX9_copyFrom_19 (fun H locs h => ?_)
  refine lv_aload_n (pc := 22) hx hb dX9_copyFrom_22 rfl (lv_at hl 0 rfl) ?_
  refine gB_1_2 (pc := 23) hNN hx hb hts hown hK h fl_X9_28 dX9_copyFrom_23 ?_
  refine lv_aload_n (pc := 26) hx hb dX9_copyFrom_26 rfl (lv_at hl 1 rfl) ?_
  refine gB_54_2 (pc := 27) hNB hx hb hts hown hK h fl_X9_28 dX9_copyFrom_27 ?_
  obtain ⟨u3, hc, hf⟩ := b1_e hf
  refine k_X8_copyFrom_10_63 (pc := 30) hNB hNN hx hb hml hown hts hK hN hc ml_X9_85 (Nat.le_trans (by decide) hF) (Nat.le_trans (by decide) hLo) h hl.1 ⟨Nat.zero_le _, Nat.zero_le _⟩ (Nat.le_of_ble_eq_true rfl) dX9_copyFrom_30 (fun H locs h => ?_)
  refine lv_aload_n (pc := 33) hx hb dX9_copyFrom_33 rfl (lv_at hl 0 rfl) ?_
  refine gB_1_3 (pc := 34) hNN hx hb hts hown hK h fl_X9_35 dX9_copyFrom_34 ?_
  refine lv_aload_n (pc := 37) hx hb dX9_copyFrom_37 rfl (lv_at hl 1 rfl) ?_
  refine gB_54_3 (pc := 38) hNB hx hb hts hown hK h fl_X9_35 dX9_copyFrom_38 ?_
  obtain ⟨u4, hc, hf⟩ := b1_e hf
  refine k_X6_copyFrom_12_65 (pc := 41) hNB hNN hx hb hml hown hts hK hN hc ml_X9_88 (Nat.le_trans (by decide) hF) (Nat.le_trans (by decide) hLo) h hl.1 ⟨Nat.zero_le _, Nat.zero_le _⟩ (Nat.le_of_ble_eq_true rfl) dX9_copyFrom_41 (fun H locs h => ?_)
  refine lv_aload_n (pc := 44) hx hb dX9_copyFrom_44 rfl (lv_at hl 1 rfl) ?_
  refine gB_54_4 (pc := 45) hNB hx hb hts hown hK h fl_X9_48 dX9_copyFrom_45 ?_
  refine lv_iconst (pc := 48) (v := 0) hx hb dX9_copyFrom_48 (by decide) ?_
  refine lv_aload_n (pc := 49) hx hb dX9_copyFrom_49 rfl (lv_at hl 0 rfl) ?_
  refine gB_1_4 (pc := 50) hNN hx hb hts hown hK h fl_X9_48 dX9_copyFrom_50 ?_
  refine lv_iconst (pc := 53) (v := 0) hx hb dX9_copyFrom_53 (by decide) ?_
  refine lv_aload_n (pc := 54) hx hb dX9_copyFrom_54 rfl (lv_at hl 0 rfl) ?_
  refine gB_1_4 (pc := 55) hNN hx hb hts hown hK h fl_X9_48 dX9_copyFrom_55 ?_
  refine nB_16 (pc := 58) (v := 7) hNN hx hb hK h (by decide) dX9_copyFrom_58 ?_
  refine rCpyI (pc := 59)  hx hb (hml.trans hl.1.symm) hown hts ml_X9_91 hK h 69 16 (Nat.lt_of_lt_of_le (by decide) hNB) (Nat.lt_of_lt_of_le (by decide) hNN) 0 (fun _ => rfl) (fun _ => rfl) rfl (by decide) (by decide) (by decide) (Nat.le_trans (by decide) hF) (Nat.le_trans (by decide) hLo) (Nat.le_of_ble_eq_true rfl) dX9_copyFrom_59 (fun H locs h => ?_)
  obtain ⟨u5, eu5, hf⟩ := bs_e hf
  rw [← eu5] at h
  exact hret (so hf) dX9_copyFrom_62 h
theorem k_X9_copyFrom_1_54 {p : Program} {l : Launch} {e : Env} {R : Room} {s : State} {m : MethodId} {args : Array Value} {below : List Frame} {meth : Method} {c : Code} {H : Heap} {locs : List Loc} {cells slots : Nat} {Q : State → Prop} {pc : Nat} {ls : Array Slot} {rest : List Value} {cc : ByteArray} {D : va_G} {cI cJ cR : ClassId} {a : Nat → Nat} {u : St} {own : String} {index nL : Nat} {N : Nat} (hNB : 70 ≤ N) (hNN : 38 ≤ N) {uu : St} (hx : p.tables.exec = Jvm.exec) (hb : c.code = cc) (hml : c.maxLocals = nL) (hown : s.vm.findClass own = some m.cls) (hts : ∀ w ∈ Gd, w.before args s = true) (hK : va_K D vwCl (tyB cI cJ cR) s) (hN : NB s) (hc : f_X9_copyFrom_1_54 u = some uu) (hlk : Cond.methodLink own index yX9_copyFrom ∈ Gd) (hF : 3 ≤ R.frames) (hLo : 82 ≤ R.locals) (h : Hh D (AB N a s.heap.size) (wX N a (EB a cI cJ cR) u) s.heap H locs) (hsize : ls.size = nL) (hcs : cells ≤ R.cells ∧ slots ≤ R.slots) (hr : (rest.map fun v => v.category).sum ≤ 8) (hdg : decode cc pc = .ok (.invokevirtual index, 3)) (kk : ∀ (H1 : Heap) (locs1 : List Loc), Hh D (AB N a s.heap.size) (wX N a (EB a cI cJ cR) uu) s.heap H1 locs1 → W p l e R s m args below meth c H1 locs1 cells slots Q (F0 m (pc + 3) ls (rest))) : W p l e R s m args below meth c H locs cells slots Q (F0 m pc ls (.ref (a 54) :: .ref (a 1) :: rest)) :=
  cVv (n := 1) hx hb hml hown hts hK hN (c_X9_copyFrom_1_54 hNB hNN hc) (gdV hlk im_X9_copyFrom se_X9_copyFrom in_X9 co_X9_copyFrom) rfl (by decide +kernel) rfl hF hLo h hsize hcs (Nat.lt_of_lt_of_le (by decide) hNN) rfl rfl rfl hr hdg kk
def f_X10_copyFrom_39_2 (u : St) : Option (St) := bs (sI u 39 2 (u.1 2 2)) (fun u1 : St => bs (sI u1 39 3 (u1.1 2 3)) (fun u2 : St => bs (sA u2 40 (va_cpy (u2.1 3) (u2.1 40) 0 0 (Int32.toNatClampNeg 6))) (fun u3 : St => bs (sA u3 41 (va_cpy (u3.1 4) (u3.1 41) 0 0 (Int32.toNatClampNeg 6))) (fun u4 : St => some u4))))
set_option maxRecDepth 100000 in
set_option maxHeartbeats 4000000 in
theorem c_X10_copyFrom_39_2 {l : Launch} {D : va_G} {cI cJ cR : ClassId} {a : Nat → Nat} {u : St} {N : Nat} (hNA : 54 ≤ N) (hNN : 38 ≤ N) {uu : St} (hf : f_X10_copyFrom_39_2 u = some uu) : Cv l yX10_copyFrom cX10_copyFrom 2 none 1 40 D (tyB cI cJ cR) N a (EB a cI cJ cR) [.ref (a 39), .ref (a 2)] u uu := by
  refine metV (by decide +kernel) (Nat.le_of_ble_eq_true rfl) ?_
  intro p e s m args below meth c R Q hx hb hml hown hts hF hLo hret hK hN h ls hl
  have hown : s.vm.findClass RX10 = some m.cls := hown
  have hl : lv_has ls 2 [(0, .ref (a 39)), (1, .ref (a 2))] := hl
  unfold f_X10_copyFrom_39_2 at hf
  refine lv_aload_n (pc := 0) hx hb dX10_copyFrom_0 rfl (lv_at hl 0 rfl) ?_
  refine lv_aload_n (pc := 1) hx hb dX10_copyFrom_1 rfl (lv_at hl 1 rfl) ?_
  refine gB_2_2 (pc := 2) hNN hx hb hts hown hK h fl_X10_22 dX10_copyFrom_2 ?_
  refine pB_39_2 (pc := 5) hNA hx hb hts hown hK h fl_X10_22 dX10_copyFrom_5 (fun H locs h => ?_)
  obtain ⟨u1, eu1, hf⟩ := bs_e hf
  rw [← eu1] at h
  refine lv_aload_n (pc := 8) hx hb dX10_copyFrom_8 rfl (lv_at hl 0 rfl) ?_
  refine lv_aload_n (pc := 9) hx hb dX10_copyFrom_9 rfl (lv_at hl 1 rfl) ?_
  refine gB_2_3 (pc := 10) hNN hx hb hts hown hK h fl_X10_26 dX10_copyFrom_10 ?_
  refine pB_39_3 (pc := 13) hNA hx hb hts hown hK h fl_X10_26 dX10_copyFrom_13 (fun H locs h => ?_)
  obtain ⟨u2, eu2, hf⟩ := bs_e hf
  rw [← eu2] at h
  refine lv_aload_n (pc := 16) hx hb dX10_copyFrom_16 rfl (lv_at hl 1 rfl) ?_
  refine gB_2_0 (pc := 17) hNN hx hb hts hown hK h fl_X10_9 dX10_copyFrom_17 ?_
  refine lv_iconst (pc := 20) (v := 0) hx hb dX10_copyFrom_20 (by decide) ?_
  refine lv_aload_n (pc := 21) hx hb dX10_copyFrom_21 rfl (lv_at hl 0 rfl) ?_
  refine gB_39_0 (pc := 22) hNA hx hb hts hown hK h fl_X10_9 dX10_copyFrom_22 ?_
  refine lv_iconst (pc := 25) (v := 0) hx hb dX10_copyFrom_25 (by decide) ?_
  refine lv_bipush (pc := 26) (v := 6) hx hb dX10_copyFrom_26 (by decide) ?_
  refine rCpyI (pc := 28)  hx hb (hml.trans hl.1.symm) hown hts ml_X10_29 hK h 3 40 (Nat.lt_of_lt_of_le (by decide) hNN) (Nat.lt_of_lt_of_le (by decide) hNA) 0 (fun _ => rfl) (fun _ => rfl) rfl (by decide) (by decide) (by decide) (Nat.le_trans (by decide) hF) (Nat.le_trans (by decide) hLo) (Nat.le_of_ble_eq_true rfl) dX10_copyFrom_28 (fun H locs h => ?_)
  obtain ⟨u3, eu3, hf⟩ := bs_e hf
  rw [← eu3] at h
  refine lv_aload_n (pc := 31) hx hb dX10_copyFrom_31 rfl (lv_at hl 1 rfl) ?_
  refine gB_2_1 (pc := 32) hNN hx hb hts hown hK h fl_X10_15 dX10_copyFrom_32 ?_
  refine lv_iconst (pc := 35) (v := 0) hx hb dX10_copyFrom_35 (by decide) ?_
  refine lv_aload_n (pc := 36) hx hb dX10_copyFrom_36 rfl (lv_at hl 0 rfl) ?_
  refine gB_39_1 (pc := 37) hNA hx hb hts hown hK h fl_X10_15 dX10_copyFrom_37 ?_
  refine lv_iconst (pc := 40) (v := 0) hx hb dX10_copyFrom_40 (by decide) ?_
  refine lv_bipush (pc := 41) (v := 6) hx hb dX10_copyFrom_41 (by decide) ?_
  refine rCpyI (pc := 43)  hx hb (hml.trans hl.1.symm) hown hts ml_X10_29 hK h 4 41 (Nat.lt_of_lt_of_le (by decide) hNN) (Nat.lt_of_lt_of_le (by decide) hNA) 0 (fun _ => rfl) (fun _ => rfl) rfl (by decide) (by decide) (by decide) (Nat.le_trans (by decide) hF) (Nat.le_trans (by decide) hLo) (Nat.le_of_ble_eq_true rfl) dX10_copyFrom_43 (fun H locs h => ?_)
  obtain ⟨u4, eu4, hf⟩ := bs_e hf
  rw [← eu4] at h
  exact hret (so hf) dX10_copyFrom_46 h
theorem k_X10_copyFrom_39_2 {p : Program} {l : Launch} {e : Env} {R : Room} {s : State} {m : MethodId} {args : Array Value} {below : List Frame} {meth : Method} {c : Code} {H : Heap} {locs : List Loc} {cells slots : Nat} {Q : State → Prop} {pc : Nat} {ls : Array Slot} {rest : List Value} {cc : ByteArray} {D : va_G} {cI cJ cR : ClassId} {a : Nat → Nat} {u : St} {own : String} {index nL : Nat} {N : Nat} (hNA : 54 ≤ N) (hNN : 38 ≤ N) {uu : St} (hx : p.tables.exec = Jvm.exec) (hb : c.code = cc) (hml : c.maxLocals = nL) (hown : s.vm.findClass own = some m.cls) (hts : ∀ w ∈ Gd, w.before args s = true) (hK : va_K D vwCl (tyB cI cJ cR) s) (hN : NB s) (hc : f_X10_copyFrom_39_2 u = some uu) (hlk : Cond.methodLink own index yX10_copyFrom ∈ Gd) (hF : 2 ≤ R.frames) (hLo : 61 ≤ R.locals) (h : Hh D (AB N a s.heap.size) (wX N a (EB a cI cJ cR) u) s.heap H locs) (hsize : ls.size = nL) (hcs : cells ≤ R.cells ∧ slots ≤ R.slots) (hr : (rest.map fun v => v.category).sum ≤ 8) (hdg : decode cc pc = .ok (.invokevirtual index, 3)) (kk : ∀ (H1 : Heap) (locs1 : List Loc), Hh D (AB N a s.heap.size) (wX N a (EB a cI cJ cR) uu) s.heap H1 locs1 → W p l e R s m args below meth c H1 locs1 cells slots Q (F0 m (pc + 3) ls (rest))) : W p l e R s m args below meth c H locs cells slots Q (F0 m pc ls (.ref (a 2) :: .ref (a 39) :: rest)) :=
  cVv (n := 1) hx hb hml hown hts hK hN (c_X10_copyFrom_39_2 hNA hNN hc) (gdV hlk im_X10_copyFrom se_X10_copyFrom in_X10 co_X10_copyFrom) rfl (by decide +kernel) rfl hF hLo h hsize hcs (Nat.lt_of_lt_of_le (by decide) hNA) rfl rfl rfl hr hdg kk
def f_X7_copyFrom_42_5 (u : St) : Option (St) := bs (sI u 42 4 (u.1 5 4)) (fun u1 : St => bs (sA u1 43 (va_cpy (u1.1 6) (u1.1 43) 0 0 (Int32.toNatClampNeg 8))) (fun u2 : St => bs (sA u2 44 (va_cpy (u2.1 7) (u2.1 44) 0 0 (Int32.toNatClampNeg 8))) (fun u3 : St => bs (sA u3 45 (va_cpy (u3.1 8) (u3.1 45) 0 0 (Int32.toNatClampNeg 8))) (fun u4 : St => bs (sA u4 46 (va_cpy (u4.1 9) (u4.1 46) 0 0 (Int32.toNatClampNeg 8))) (fun u5 : St => some u5)))))
set_option maxRecDepth 100000 in
set_option maxHeartbeats 4000000 in
theorem c_X7_copyFrom_42_5 {l : Launch} {D : va_G} {cI cJ cR : ClassId} {a : Nat → Nat} {u : St} {N : Nat} (hNA : 54 ≤ N) (hNN : 38 ≤ N) {uu : St} (hf : f_X7_copyFrom_42_5 u = some uu) : Cv l yX7_copyFrom cX7_copyFrom 2 none 1 40 D (tyB cI cJ cR) N a (EB a cI cJ cR) [.ref (a 42), .ref (a 5)] u uu := by
  refine metV (by decide +kernel) (Nat.le_of_ble_eq_true rfl) ?_
  intro p e s m args below meth c R Q hx hb hml hown hts hF hLo hret hK hN h ls hl
  have hown : s.vm.findClass RX7 = some m.cls := hown
  have hl : lv_has ls 2 [(0, .ref (a 42)), (1, .ref (a 5))] := hl
  unfold f_X7_copyFrom_42_5 at hf
  refine lv_aload_n (pc := 0) hx hb dX7_copyFrom_0 rfl (lv_at hl 0 rfl) ?_
  refine lv_aload_n (pc := 1) hx hb dX7_copyFrom_1 rfl (lv_at hl 1 rfl) ?_
  refine gB_5_4 (pc := 2) hNN hx hb hts hown hK h fl_X7_24 dX7_copyFrom_2 ?_
  refine pB_42_4 (pc := 5) hNA hx hb hts hown hK h fl_X7_24 dX7_copyFrom_5 (fun H locs h => ?_)
  obtain ⟨u1, eu1, hf⟩ := bs_e hf
  rw [← eu1] at h
  refine lv_aload_n (pc := 8) hx hb dX7_copyFrom_8 rfl (lv_at hl 1 rfl) ?_
  refine gB_5_0 (pc := 9) hNN hx hb hts hown hK h fl_X7_9 dX7_copyFrom_9 ?_
  refine lv_iconst (pc := 12) (v := 0) hx hb dX7_copyFrom_12 (by decide) ?_
  refine lv_aload_n (pc := 13) hx hb dX7_copyFrom_13 rfl (lv_at hl 0 rfl) ?_
  refine gB_42_0 (pc := 14) hNA hx hb hts hown hK h fl_X7_9 dX7_copyFrom_14 ?_
  refine lv_iconst (pc := 17) (v := 0) hx hb dX7_copyFrom_17 (by decide) ?_
  refine lv_bipush (pc := 18) (v := 8) hx hb dX7_copyFrom_18 (by decide) ?_
  refine rCpyI (pc := 20)  hx hb (hml.trans hl.1.symm) hown hts ml_X7_40 hK h 6 43 (Nat.lt_of_lt_of_le (by decide) hNN) (Nat.lt_of_lt_of_le (by decide) hNA) 0 (fun _ => rfl) (fun _ => rfl) rfl (by decide) (by decide) (by decide) (Nat.le_trans (by decide) hF) (Nat.le_trans (by decide) hLo) (Nat.le_of_ble_eq_true rfl) dX7_copyFrom_20 (fun H locs h => ?_)
  obtain ⟨u2, eu2, hf⟩ := bs_e hf
  rw [← eu2] at h
  refine lv_aload_n (pc := 23) hx hb dX7_copyFrom_23 rfl (lv_at hl 1 rfl) ?_
  refine gB_5_1 (pc := 24) hNN hx hb hts hown hK h fl_X7_15 dX7_copyFrom_24 ?_
  refine lv_iconst (pc := 27) (v := 0) hx hb dX7_copyFrom_27 (by decide) ?_
  refine lv_aload_n (pc := 28) hx hb dX7_copyFrom_28 rfl (lv_at hl 0 rfl) ?_
  refine gB_42_1 (pc := 29) hNA hx hb hts hown hK h fl_X7_15 dX7_copyFrom_29 ?_
  refine lv_iconst (pc := 32) (v := 0) hx hb dX7_copyFrom_32 (by decide) ?_
  refine lv_bipush (pc := 33) (v := 8) hx hb dX7_copyFrom_33 (by decide) ?_
  refine rCpyI (pc := 35)  hx hb (hml.trans hl.1.symm) hown hts ml_X7_40 hK h 7 44 (Nat.lt_of_lt_of_le (by decide) hNN) (Nat.lt_of_lt_of_le (by decide) hNA) 0 (fun _ => rfl) (fun _ => rfl) rfl (by decide) (by decide) (by decide) (Nat.le_trans (by decide) hF) (Nat.le_trans (by decide) hLo) (Nat.le_of_ble_eq_true rfl) dX7_copyFrom_35 (fun H locs h => ?_)
  obtain ⟨u3, eu3, hf⟩ := bs_e hf
  rw [← eu3] at h
  refine lv_aload_n (pc := 38) hx hb dX7_copyFrom_38 rfl (lv_at hl 1 rfl) ?_
  refine gB_5_2 (pc := 39) hNN hx hb hts hown hK h fl_X7_18 dX7_copyFrom_39 ?_
  refine lv_iconst (pc := 42) (v := 0) hx hb dX7_copyFrom_42 (by decide) ?_
  refine lv_aload_n (pc := 43) hx hb dX7_copyFrom_43 rfl (lv_at hl 0 rfl) ?_
  refine gB_42_2 (pc := 44) hNA hx hb hts hown hK h fl_X7_18 dX7_copyFrom_44 ?_
  refine lv_iconst (pc := 47) (v := 0) hx hb dX7_copyFrom_47 (by decide) ?_
  refine lv_bipush (pc := 48) (v := 8) hx hb dX7_copyFrom_48 (by decide) ?_
  refine rCpyI (pc := 50)  hx hb (hml.trans hl.1.symm) hown hts ml_X7_40 hK h 8 45 (Nat.lt_of_lt_of_le (by decide) hNN) (Nat.lt_of_lt_of_le (by decide) hNA) 0 (fun _ => rfl) (fun _ => rfl) rfl (by decide) (by decide) (by decide) (Nat.le_trans (by decide) hF) (Nat.le_trans (by decide) hLo) (Nat.le_of_ble_eq_true rfl) dX7_copyFrom_50 (fun H locs h => ?_)
  obtain ⟨u4, eu4, hf⟩ := bs_e hf
  rw [← eu4] at h
  refine lv_aload_n (pc := 53) hx hb dX7_copyFrom_53 rfl (lv_at hl 1 rfl) ?_
  refine gB_5_3 (pc := 54) hNN hx hb hts hown hK h fl_X7_21 dX7_copyFrom_54 ?_
  refine lv_iconst (pc := 57) (v := 0) hx hb dX7_copyFrom_57 (by decide) ?_
  refine lv_aload_n (pc := 58) hx hb dX7_copyFrom_58 rfl (lv_at hl 0 rfl) ?_
  refine gB_42_3 (pc := 59) hNA hx hb hts hown hK h fl_X7_21 dX7_copyFrom_59 ?_
  refine lv_iconst (pc := 62) (v := 0) hx hb dX7_copyFrom_62 (by decide) ?_
  refine lv_bipush (pc := 63) (v := 8) hx hb dX7_copyFrom_63 (by decide) ?_
  refine rCpyI (pc := 65)  hx hb (hml.trans hl.1.symm) hown hts ml_X7_40 hK h 9 46 (Nat.lt_of_lt_of_le (by decide) hNN) (Nat.lt_of_lt_of_le (by decide) hNA) 0 (fun _ => rfl) (fun _ => rfl) rfl (by decide) (by decide) (by decide) (Nat.le_trans (by decide) hF) (Nat.le_trans (by decide) hLo) (Nat.le_of_ble_eq_true rfl) dX7_copyFrom_65 (fun H locs h => ?_)
  obtain ⟨u5, eu5, hf⟩ := bs_e hf
  rw [← eu5] at h
  exact hret (so hf) dX7_copyFrom_68 h
theorem k_X7_copyFrom_42_5 {p : Program} {l : Launch} {e : Env} {R : Room} {s : State} {m : MethodId} {args : Array Value} {below : List Frame} {meth : Method} {c : Code} {H : Heap} {locs : List Loc} {cells slots : Nat} {Q : State → Prop} {pc : Nat} {ls : Array Slot} {rest : List Value} {cc : ByteArray} {D : va_G} {cI cJ cR : ClassId} {a : Nat → Nat} {u : St} {own : String} {index nL : Nat} {N : Nat} (hNA : 54 ≤ N) (hNN : 38 ≤ N) {uu : St} (hx : p.tables.exec = Jvm.exec) (hb : c.code = cc) (hml : c.maxLocals = nL) (hown : s.vm.findClass own = some m.cls) (hts : ∀ w ∈ Gd, w.before args s = true) (hK : va_K D vwCl (tyB cI cJ cR) s) (hN : NB s) (hc : f_X7_copyFrom_42_5 u = some uu) (hlk : Cond.methodLink own index yX7_copyFrom ∈ Gd) (hF : 2 ≤ R.frames) (hLo : 61 ≤ R.locals) (h : Hh D (AB N a s.heap.size) (wX N a (EB a cI cJ cR) u) s.heap H locs) (hsize : ls.size = nL) (hcs : cells ≤ R.cells ∧ slots ≤ R.slots) (hr : (rest.map fun v => v.category).sum ≤ 8) (hdg : decode cc pc = .ok (.invokevirtual index, 3)) (kk : ∀ (H1 : Heap) (locs1 : List Loc), Hh D (AB N a s.heap.size) (wX N a (EB a cI cJ cR) uu) s.heap H1 locs1 → W p l e R s m args below meth c H1 locs1 cells slots Q (F0 m (pc + 3) ls (rest))) : W p l e R s m args below meth c H locs cells slots Q (F0 m pc ls (.ref (a 5) :: .ref (a 42) :: rest)) :=
  cVv (n := 1) hx hb hml hown hts hK hN (c_X7_copyFrom_42_5 hNA hNN hc) (gdV hlk im_X7_copyFrom se_X7_copyFrom in_X7 co_X7_copyFrom) rfl (by decide +kernel) rfl hF hLo h hsize hcs (Nat.lt_of_lt_of_le (by decide) hNA) rfl rfl rfl hr hdg kk
def f_X8_copyFrom_47_10 (u : St) : Option (St) := bs (sI u 47 1 (u.1 10 1)) (fun u1 : St => bs (sA u1 48 (va_cpy (u1.1 11) (u1.1 48) 0 0 (Int32.toNatClampNeg 30))) (fun u2 : St => some u2))
set_option maxRecDepth 100000 in
set_option maxHeartbeats 4000000 in
theorem c_X8_copyFrom_47_10 {l : Launch} {D : va_G} {cI cJ cR : ClassId} {a : Nat → Nat} {u : St} {N : Nat} (hNA : 54 ≤ N) (hNN : 38 ≤ N) {uu : St} (hf : f_X8_copyFrom_47_10 u = some uu) : Cv l yX8_copyFrom cX8_copyFrom 2 none 1 40 D (tyB cI cJ cR) N a (EB a cI cJ cR) [.ref (a 47), .ref (a 10)] u uu := by
  refine metV (by decide +kernel) (Nat.le_of_ble_eq_true rfl) ?_
  intro p e s m args below meth c R Q hx hb hml hown hts hF hLo hret hK hN h ls hl
  have hown : s.vm.findClass RX8 = some m.cls := hown
  have hl : lv_has ls 2 [(0, .ref (a 47)), (1, .ref (a 10))] := hl
  unfold f_X8_copyFrom_47_10 at hf
  refine lv_aload_n (pc := 0) hx hb dX8_copyFrom_0 rfl (lv_at hl 0 rfl) ?_
  refine lv_aload_n (pc := 1) hx hb dX8_copyFrom_1 rfl (lv_at hl 1 rfl) ?_
  refine gB_10_1 (pc := 2) hNN hx hb hts hown hK h fl_X8_15 dX8_copyFrom_2 ?_
  refine pB_47_1 (pc := 5) hNA hx hb hts hown hK h fl_X8_15 dX8_copyFrom_5 (fun H locs h => ?_)
  obtain ⟨u1, eu1, hf⟩ := bs_e hf
  rw [← eu1] at h
  refine lv_aload_n (pc := 8) hx hb dX8_copyFrom_8 rfl (lv_at hl 1 rfl) ?_
  refine gB_10_0 (pc := 9) hNN hx hb hts hown hK h fl_X8_9 dX8_copyFrom_9 ?_
  refine lv_iconst (pc := 12) (v := 0) hx hb dX8_copyFrom_12 (by decide) ?_
  refine lv_aload_n (pc := 13) hx hb dX8_copyFrom_13 rfl (lv_at hl 0 rfl) ?_
  refine gB_47_0 (pc := 14) hNA hx hb hts hown hK h fl_X8_9 dX8_copyFrom_14 ?_
  refine lv_iconst (pc := 17) (v := 0) hx hb dX8_copyFrom_17 (by decide) ?_
  refine lv_bipush (pc := 18) (v := 30) hx hb dX8_copyFrom_18 (by decide) ?_
  refine rCpyI (pc := 20)  hx hb (hml.trans hl.1.symm) hown hts ml_X8_37 hK h 11 48 (Nat.lt_of_lt_of_le (by decide) hNN) (Nat.lt_of_lt_of_le (by decide) hNA) 0 (fun _ => rfl) (fun _ => rfl) rfl (by decide) (by decide) (by decide) (Nat.le_trans (by decide) hF) (Nat.le_trans (by decide) hLo) (Nat.le_of_ble_eq_true rfl) dX8_copyFrom_20 (fun H locs h => ?_)
  obtain ⟨u2, eu2, hf⟩ := bs_e hf
  rw [← eu2] at h
  exact hret (so hf) dX8_copyFrom_23 h
theorem k_X8_copyFrom_47_10 {p : Program} {l : Launch} {e : Env} {R : Room} {s : State} {m : MethodId} {args : Array Value} {below : List Frame} {meth : Method} {c : Code} {H : Heap} {locs : List Loc} {cells slots : Nat} {Q : State → Prop} {pc : Nat} {ls : Array Slot} {rest : List Value} {cc : ByteArray} {D : va_G} {cI cJ cR : ClassId} {a : Nat → Nat} {u : St} {own : String} {index nL : Nat} {N : Nat} (hNA : 54 ≤ N) (hNN : 38 ≤ N) {uu : St} (hx : p.tables.exec = Jvm.exec) (hb : c.code = cc) (hml : c.maxLocals = nL) (hown : s.vm.findClass own = some m.cls) (hts : ∀ w ∈ Gd, w.before args s = true) (hK : va_K D vwCl (tyB cI cJ cR) s) (hN : NB s) (hc : f_X8_copyFrom_47_10 u = some uu) (hlk : Cond.methodLink own index yX8_copyFrom ∈ Gd) (hF : 2 ≤ R.frames) (hLo : 61 ≤ R.locals) (h : Hh D (AB N a s.heap.size) (wX N a (EB a cI cJ cR) u) s.heap H locs) (hsize : ls.size = nL) (hcs : cells ≤ R.cells ∧ slots ≤ R.slots) (hr : (rest.map fun v => v.category).sum ≤ 8) (hdg : decode cc pc = .ok (.invokevirtual index, 3)) (kk : ∀ (H1 : Heap) (locs1 : List Loc), Hh D (AB N a s.heap.size) (wX N a (EB a cI cJ cR) uu) s.heap H1 locs1 → W p l e R s m args below meth c H1 locs1 cells slots Q (F0 m (pc + 3) ls (rest))) : W p l e R s m args below meth c H locs cells slots Q (F0 m pc ls (.ref (a 10) :: .ref (a 47) :: rest)) :=
  cVv (n := 1) hx hb hml hown hts hK hN (c_X8_copyFrom_47_10 hNA hNN hc) (gdV hlk im_X8_copyFrom se_X8_copyFrom in_X8 co_X8_copyFrom) rfl (by decide +kernel) rfl hF hLo h hsize hcs (Nat.lt_of_lt_of_le (by decide) hNA) rfl rfl rfl hr hdg kk
def f_X6_copyFrom_49_12 (u : St) : Option (St) := bs (sI u 49 3 (u.1 12 3)) (fun u1 : St => bs (sA u1 50 (va_cpy (u1.1 13) (u1.1 50) 0 0 (Int32.toNatClampNeg 6))) (fun u2 : St => bs (sA u2 51 (va_cpy (u2.1 14) (u2.1 51) 0 0 (Int32.toNatClampNeg 6))) (fun u3 : St => bs (sA u3 52 (va_cpy (u3.1 15) (u3.1 52) 0 0 (Int32.toNatClampNeg 6))) (fun u4 : St => some u4))))
set_option maxRecDepth 100000 in
set_option maxHeartbeats 4000000 in
theorem c_X6_copyFrom_49_12 {l : Launch} {D : va_G} {cI cJ cR : ClassId} {a : Nat → Nat} {u : St} {N : Nat} (hNA : 54 ≤ N) (hNN : 38 ≤ N) {uu : St} (hf : f_X6_copyFrom_49_12 u = some uu) : Cv l yX6_copyFrom cX6_copyFrom 2 none 1 40 D (tyB cI cJ cR) N a (EB a cI cJ cR) [.ref (a 49), .ref (a 12)] u uu := by
  refine metV (by decide +kernel) (Nat.le_of_ble_eq_true rfl) ?_
  intro p e s m args below meth c R Q hx hb hml hown hts hF hLo hret hK hN h ls hl
  have hown : s.vm.findClass RX6 = some m.cls := hown
  have hl : lv_has ls 2 [(0, .ref (a 49)), (1, .ref (a 12))] := hl
  unfold f_X6_copyFrom_49_12 at hf
  refine lv_aload_n (pc := 0) hx hb dX6_copyFrom_0 rfl (lv_at hl 0 rfl) ?_
  refine lv_aload_n (pc := 1) hx hb dX6_copyFrom_1 rfl (lv_at hl 1 rfl) ?_
  refine gB_12_3 (pc := 2) hNN hx hb hts hown hK h fl_X6_21 dX6_copyFrom_2 ?_
  refine pB_49_3 (pc := 5) hNA hx hb hts hown hK h fl_X6_21 dX6_copyFrom_5 (fun H locs h => ?_)
  obtain ⟨u1, eu1, hf⟩ := bs_e hf
  rw [← eu1] at h
  refine lv_aload_n (pc := 8) hx hb dX6_copyFrom_8 rfl (lv_at hl 1 rfl) ?_
  refine gB_12_0 (pc := 9) hNN hx hb hts hown hK h fl_X6_9 dX6_copyFrom_9 ?_
  refine lv_iconst (pc := 12) (v := 0) hx hb dX6_copyFrom_12 (by decide) ?_
  refine lv_aload_n (pc := 13) hx hb dX6_copyFrom_13 rfl (lv_at hl 0 rfl) ?_
  refine gB_49_0 (pc := 14) hNA hx hb hts hown hK h fl_X6_9 dX6_copyFrom_14 ?_
  refine lv_iconst (pc := 17) (v := 0) hx hb dX6_copyFrom_17 (by decide) ?_
  refine lv_bipush (pc := 18) (v := 6) hx hb dX6_copyFrom_18 (by decide) ?_
  refine rCpyI (pc := 20)  hx hb (hml.trans hl.1.symm) hown hts ml_X6_35 hK h 13 50 (Nat.lt_of_lt_of_le (by decide) hNN) (Nat.lt_of_lt_of_le (by decide) hNA) 0 (fun _ => rfl) (fun _ => rfl) rfl (by decide) (by decide) (by decide) (Nat.le_trans (by decide) hF) (Nat.le_trans (by decide) hLo) (Nat.le_of_ble_eq_true rfl) dX6_copyFrom_20 (fun H locs h => ?_)
  obtain ⟨u2, eu2, hf⟩ := bs_e hf
  rw [← eu2] at h
  refine lv_aload_n (pc := 23) hx hb dX6_copyFrom_23 rfl (lv_at hl 1 rfl) ?_
  refine gB_12_1 (pc := 24) hNN hx hb hts hown hK h fl_X6_15 dX6_copyFrom_24 ?_
  refine lv_iconst (pc := 27) (v := 0) hx hb dX6_copyFrom_27 (by decide) ?_
  refine lv_aload_n (pc := 28) hx hb dX6_copyFrom_28 rfl (lv_at hl 0 rfl) ?_
  refine gB_49_1 (pc := 29) hNA hx hb hts hown hK h fl_X6_15 dX6_copyFrom_29 ?_
  refine lv_iconst (pc := 32) (v := 0) hx hb dX6_copyFrom_32 (by decide) ?_
  refine lv_bipush (pc := 33) (v := 6) hx hb dX6_copyFrom_33 (by decide) ?_
  refine rCpyI (pc := 35)  hx hb (hml.trans hl.1.symm) hown hts ml_X6_35 hK h 14 51 (Nat.lt_of_lt_of_le (by decide) hNN) (Nat.lt_of_lt_of_le (by decide) hNA) 0 (fun _ => rfl) (fun _ => rfl) rfl (by decide) (by decide) (by decide) (Nat.le_trans (by decide) hF) (Nat.le_trans (by decide) hLo) (Nat.le_of_ble_eq_true rfl) dX6_copyFrom_35 (fun H locs h => ?_)
  obtain ⟨u3, eu3, hf⟩ := bs_e hf
  rw [← eu3] at h
  refine lv_aload_n (pc := 38) hx hb dX6_copyFrom_38 rfl (lv_at hl 1 rfl) ?_
  refine gB_12_2 (pc := 39) hNN hx hb hts hown hK h fl_X6_18 dX6_copyFrom_39 ?_
  refine lv_iconst (pc := 42) (v := 0) hx hb dX6_copyFrom_42 (by decide) ?_
  refine lv_aload_n (pc := 43) hx hb dX6_copyFrom_43 rfl (lv_at hl 0 rfl) ?_
  refine gB_49_2 (pc := 44) hNA hx hb hts hown hK h fl_X6_18 dX6_copyFrom_44 ?_
  refine lv_iconst (pc := 47) (v := 0) hx hb dX6_copyFrom_47 (by decide) ?_
  refine lv_bipush (pc := 48) (v := 6) hx hb dX6_copyFrom_48 (by decide) ?_
  refine rCpyI (pc := 50)  hx hb (hml.trans hl.1.symm) hown hts ml_X6_35 hK h 15 52 (Nat.lt_of_lt_of_le (by decide) hNN) (Nat.lt_of_lt_of_le (by decide) hNA) 0 (fun _ => rfl) (fun _ => rfl) rfl (by decide) (by decide) (by decide) (Nat.le_trans (by decide) hF) (Nat.le_trans (by decide) hLo) (Nat.le_of_ble_eq_true rfl) dX6_copyFrom_50 (fun H locs h => ?_)
  obtain ⟨u4, eu4, hf⟩ := bs_e hf
  rw [← eu4] at h
  exact hret (so hf) dX6_copyFrom_53 h
theorem k_X6_copyFrom_49_12 {p : Program} {l : Launch} {e : Env} {R : Room} {s : State} {m : MethodId} {args : Array Value} {below : List Frame} {meth : Method} {c : Code} {H : Heap} {locs : List Loc} {cells slots : Nat} {Q : State → Prop} {pc : Nat} {ls : Array Slot} {rest : List Value} {cc : ByteArray} {D : va_G} {cI cJ cR : ClassId} {a : Nat → Nat} {u : St} {own : String} {index nL : Nat} {N : Nat} (hNA : 54 ≤ N) (hNN : 38 ≤ N) {uu : St} (hx : p.tables.exec = Jvm.exec) (hb : c.code = cc) (hml : c.maxLocals = nL) (hown : s.vm.findClass own = some m.cls) (hts : ∀ w ∈ Gd, w.before args s = true) (hK : va_K D vwCl (tyB cI cJ cR) s) (hN : NB s) (hc : f_X6_copyFrom_49_12 u = some uu) (hlk : Cond.methodLink own index yX6_copyFrom ∈ Gd) (hF : 2 ≤ R.frames) (hLo : 61 ≤ R.locals) (h : Hh D (AB N a s.heap.size) (wX N a (EB a cI cJ cR) u) s.heap H locs) (hsize : ls.size = nL) (hcs : cells ≤ R.cells ∧ slots ≤ R.slots) (hr : (rest.map fun v => v.category).sum ≤ 8) (hdg : decode cc pc = .ok (.invokevirtual index, 3)) (kk : ∀ (H1 : Heap) (locs1 : List Loc), Hh D (AB N a s.heap.size) (wX N a (EB a cI cJ cR) uu) s.heap H1 locs1 → W p l e R s m args below meth c H1 locs1 cells slots Q (F0 m (pc + 3) ls (rest))) : W p l e R s m args below meth c H locs cells slots Q (F0 m pc ls (.ref (a 12) :: .ref (a 49) :: rest)) :=
  cVv (n := 1) hx hb hml hown hts hK hN (c_X6_copyFrom_49_12 hNA hNN hc) (gdV hlk im_X6_copyFrom se_X6_copyFrom in_X6 co_X6_copyFrom) rfl (by decide +kernel) rfl hF hLo h hsize hcs (Nat.lt_of_lt_of_le (by decide) hNA) rfl rfl rfl hr hdg kk
def f_X9_copyFrom_38_1 (u : St) : Option (St) := b1 (f_X10_copyFrom_39_2 u) (fun (u1 : St) => b1 (f_X7_copyFrom_42_5 u1) (fun (u2 : St) => b1 (f_X8_copyFrom_47_10 u2) (fun (u3 : St) => b1 (f_X6_copyFrom_49_12 u3) (fun (u4 : St) => bs (sA u4 53 (va_cpy (u4.1 16) (u4.1 53) 0 0 (Int32.toNatClampNeg 7))) (fun u5 : St => some u5)))))
set_option maxRecDepth 100000 in
set_option maxHeartbeats 4000000 in
theorem c_X9_copyFrom_38_1 {l : Launch} {D : va_G} {cI cJ cR : ClassId} {a : Nat → Nat} {u : St} {N : Nat} (hNA : 54 ≤ N) (hNN : 38 ≤ N) {uu : St} (hf : f_X9_copyFrom_38_1 u = some uu) : Cv l yX9_copyFrom cX9_copyFrom 2 none 2 61 D (tyB cI cJ cR) N a (EB a cI cJ cR) [.ref (a 38), .ref (a 1)] u uu := by
  refine metV (by decide +kernel) (Nat.le_of_ble_eq_true rfl) ?_
  intro p e s m args below meth c R Q hx hb hml hown hts hF hLo hret hK hN h ls hl
  have hown : s.vm.findClass RX9 = some m.cls := hown
  have hl : lv_has ls 2 [(0, .ref (a 38)), (1, .ref (a 1))] := hl
  unfold f_X9_copyFrom_38_1 at hf
  refine lv_aload_n (pc := 0) hx hb dX9_copyFrom_0 rfl (lv_at hl 0 rfl) ?_
  refine gB_38_0 (pc := 1) hNA hx hb hts hown hK h fl_X9_12 dX9_copyFrom_1 ?_
  refine lv_aload_n (pc := 4) hx hb dX9_copyFrom_4 rfl (lv_at hl 1 rfl) ?_
  refine gB_1_0 (pc := 5) hNN hx hb hts hown hK h fl_X9_12 dX9_copyFrom_5 ?_
  obtain ⟨u1, hc, hf⟩ := b1_e hf
  refine k_X10_copyFrom_39_2 (pc := 8) hNA hNN hx hb hml hown hts hK hN hc ml_X9_78 (Nat.le_trans (by decide) hF) (Nat.le_trans (by decide) hLo) h hl.1 ⟨Nat.zero_le _, Nat.zero_le _⟩ (Nat.le_of_ble_eq_true rfl) dX9_copyFrom_8 (fun H locs h => ?_)
  refine lv_aload_n (pc := 11) hx hb dX9_copyFrom_11 rfl (lv_at hl 0 rfl) ?_
  refine gB_38_1 (pc := 12) hNA hx hb hts hown hK h fl_X9_21 dX9_copyFrom_12 ?_
  refine lv_aload_n (pc := 15) hx hb dX9_copyFrom_15 rfl (lv_at hl 1 rfl) ?_
  refine gB_1_1 (pc := 16) hNN hx hb hts hown hK h fl_X9_21 dX9_copyFrom_16 ?_
  obtain ⟨u2, hc, hf⟩ := b1_e hf
  refine k_X7_copyFrom_42_5 (pc := 19) hNA hNN hx hb hml hown hts hK hN hc ml_X9_82 (Nat.le_trans (by decide) hF) (Nat.le_trans (by decide) hLo) h hl.1 ⟨Nat.zero_le _, Nat.zero_le _⟩ (Nat.le_of_ble_eq_true rfl) dX9_copyFrom_19 (fun H locs h => ?_)
  refine lv_aload_n (pc := 22) hx hb dX9_copyFrom_22 rfl (lv_at hl 0 rfl) ?_
  refine gB_38_2 (pc := 23) hNA hx hb hts hown hK h fl_X9_28 dX9_copyFrom_23 ?_
  refine lv_aload_n (pc := 26) hx hb dX9_copyFrom_26 rfl (lv_at hl 1 rfl) ?_
  refine gB_1_2 (pc := 27) hNN hx hb hts hown hK h fl_X9_28 dX9_copyFrom_27 ?_
  obtain ⟨u3, hc, hf⟩ := b1_e hf
  refine k_X8_copyFrom_47_10 (pc := 30) hNA hNN hx hb hml hown hts hK hN hc ml_X9_85 (Nat.le_trans (by decide) hF) (Nat.le_trans (by decide) hLo) h hl.1 ⟨Nat.zero_le _, Nat.zero_le _⟩ (Nat.le_of_ble_eq_true rfl) dX9_copyFrom_30 (fun H locs h => ?_)
  refine lv_aload_n (pc := 33) hx hb dX9_copyFrom_33 rfl (lv_at hl 0 rfl) ?_
  refine gB_38_3 (pc := 34) hNA hx hb hts hown hK h fl_X9_35 dX9_copyFrom_34 ?_
  refine lv_aload_n (pc := 37) hx hb dX9_copyFrom_37 rfl (lv_at hl 1 rfl) ?_
  refine gB_1_3 (pc := 38) hNN hx hb hts hown hK h fl_X9_35 dX9_copyFrom_38 ?_
  obtain ⟨u4, hc, hf⟩ := b1_e hf
  refine k_X6_copyFrom_49_12 (pc := 41) hNA hNN hx hb hml hown hts hK hN hc ml_X9_88 (Nat.le_trans (by decide) hF) (Nat.le_trans (by decide) hLo) h hl.1 ⟨Nat.zero_le _, Nat.zero_le _⟩ (Nat.le_of_ble_eq_true rfl) dX9_copyFrom_41 (fun H locs h => ?_)
  refine lv_aload_n (pc := 44) hx hb dX9_copyFrom_44 rfl (lv_at hl 1 rfl) ?_
  refine gB_1_4 (pc := 45) hNN hx hb hts hown hK h fl_X9_48 dX9_copyFrom_45 ?_
  refine lv_iconst (pc := 48) (v := 0) hx hb dX9_copyFrom_48 (by decide) ?_
  refine lv_aload_n (pc := 49) hx hb dX9_copyFrom_49 rfl (lv_at hl 0 rfl) ?_
  refine gB_38_4 (pc := 50) hNA hx hb hts hown hK h fl_X9_48 dX9_copyFrom_50 ?_
  refine lv_iconst (pc := 53) (v := 0) hx hb dX9_copyFrom_53 (by decide) ?_
  refine lv_aload_n (pc := 54) hx hb dX9_copyFrom_54 rfl (lv_at hl 0 rfl) ?_
  refine gB_38_4 (pc := 55) hNA hx hb hts hown hK h fl_X9_48 dX9_copyFrom_55 ?_
  refine nB_53 (pc := 58) (v := 7) hNA hx hb hK h (by decide) dX9_copyFrom_58 ?_
  refine rCpyI (pc := 59)  hx hb (hml.trans hl.1.symm) hown hts ml_X9_91 hK h 16 53 (Nat.lt_of_lt_of_le (by decide) hNN) (Nat.lt_of_lt_of_le (by decide) hNA) 0 (fun _ => rfl) (fun _ => rfl) rfl (by decide) (by decide) (by decide) (Nat.le_trans (by decide) hF) (Nat.le_trans (by decide) hLo) (Nat.le_of_ble_eq_true rfl) dX9_copyFrom_59 (fun H locs h => ?_)
  obtain ⟨u5, eu5, hf⟩ := bs_e hf
  rw [← eu5] at h
  exact hret (so hf) dX9_copyFrom_62 h
theorem k_X9_copyFrom_38_1 {p : Program} {l : Launch} {e : Env} {R : Room} {s : State} {m : MethodId} {args : Array Value} {below : List Frame} {meth : Method} {c : Code} {H : Heap} {locs : List Loc} {cells slots : Nat} {Q : State → Prop} {pc : Nat} {ls : Array Slot} {rest : List Value} {cc : ByteArray} {D : va_G} {cI cJ cR : ClassId} {a : Nat → Nat} {u : St} {own : String} {index nL : Nat} {N : Nat} (hNA : 54 ≤ N) (hNN : 38 ≤ N) {uu : St} (hx : p.tables.exec = Jvm.exec) (hb : c.code = cc) (hml : c.maxLocals = nL) (hown : s.vm.findClass own = some m.cls) (hts : ∀ w ∈ Gd, w.before args s = true) (hK : va_K D vwCl (tyB cI cJ cR) s) (hN : NB s) (hc : f_X9_copyFrom_38_1 u = some uu) (hlk : Cond.methodLink own index yX9_copyFrom ∈ Gd) (hF : 3 ≤ R.frames) (hLo : 82 ≤ R.locals) (h : Hh D (AB N a s.heap.size) (wX N a (EB a cI cJ cR) u) s.heap H locs) (hsize : ls.size = nL) (hcs : cells ≤ R.cells ∧ slots ≤ R.slots) (hr : (rest.map fun v => v.category).sum ≤ 8) (hdg : decode cc pc = .ok (.invokevirtual index, 3)) (kk : ∀ (H1 : Heap) (locs1 : List Loc), Hh D (AB N a s.heap.size) (wX N a (EB a cI cJ cR) uu) s.heap H1 locs1 → W p l e R s m args below meth c H1 locs1 cells slots Q (F0 m (pc + 3) ls (rest))) : W p l e R s m args below meth c H locs cells slots Q (F0 m pc ls (.ref (a 1) :: .ref (a 38) :: rest)) :=
  cVv (n := 1) hx hb hml hown hts hK hN (c_X9_copyFrom_38_1 hNA hNN hc) (gdV hlk im_X9_copyFrom se_X9_copyFrom in_X9 co_X9_copyFrom) rfl (by decide +kernel) rfl hF hLo h hsize hcs (Nat.lt_of_lt_of_le (by decide) hNA) rfl rfl rfl hr hdg kk
def f_X10_copyFrom_55_2 (u : St) : Option (St) := bs (sI u 55 2 (u.1 2 2)) (fun u1 : St => bs (sI u1 55 3 (u1.1 2 3)) (fun u2 : St => bs (sA u2 56 (va_cpy (u2.1 3) (u2.1 56) 0 0 (Int32.toNatClampNeg 6))) (fun u3 : St => bs (sA u3 57 (va_cpy (u3.1 4) (u3.1 57) 0 0 (Int32.toNatClampNeg 6))) (fun u4 : St => some u4))))
set_option maxRecDepth 100000 in
set_option maxHeartbeats 4000000 in
theorem c_X10_copyFrom_55_2 {l : Launch} {D : va_G} {cI cJ cR : ClassId} {a : Nat → Nat} {u : St} {N : Nat} (hNB : 70 ≤ N) (hNN : 38 ≤ N) {uu : St} (hf : f_X10_copyFrom_55_2 u = some uu) : Cv l yX10_copyFrom cX10_copyFrom 2 none 1 40 D (tyB cI cJ cR) N a (EB a cI cJ cR) [.ref (a 55), .ref (a 2)] u uu := by
  refine metV (by decide +kernel) (Nat.le_of_ble_eq_true rfl) ?_
  intro p e s m args below meth c R Q hx hb hml hown hts hF hLo hret hK hN h ls hl
  have hown : s.vm.findClass RX10 = some m.cls := hown
  have hl : lv_has ls 2 [(0, .ref (a 55)), (1, .ref (a 2))] := hl
  unfold f_X10_copyFrom_55_2 at hf
  refine lv_aload_n (pc := 0) hx hb dX10_copyFrom_0 rfl (lv_at hl 0 rfl) ?_
  refine lv_aload_n (pc := 1) hx hb dX10_copyFrom_1 rfl (lv_at hl 1 rfl) ?_
  refine gB_2_2 (pc := 2) hNN hx hb hts hown hK h fl_X10_22 dX10_copyFrom_2 ?_
  refine pB_55_2 (pc := 5) hNB hx hb hts hown hK h fl_X10_22 dX10_copyFrom_5 (fun H locs h => ?_)
  obtain ⟨u1, eu1, hf⟩ := bs_e hf
  rw [← eu1] at h
  refine lv_aload_n (pc := 8) hx hb dX10_copyFrom_8 rfl (lv_at hl 0 rfl) ?_
  refine lv_aload_n (pc := 9) hx hb dX10_copyFrom_9 rfl (lv_at hl 1 rfl) ?_
  refine gB_2_3 (pc := 10) hNN hx hb hts hown hK h fl_X10_26 dX10_copyFrom_10 ?_
  refine pB_55_3 (pc := 13) hNB hx hb hts hown hK h fl_X10_26 dX10_copyFrom_13 (fun H locs h => ?_)
  obtain ⟨u2, eu2, hf⟩ := bs_e hf
  rw [← eu2] at h
  refine lv_aload_n (pc := 16) hx hb dX10_copyFrom_16 rfl (lv_at hl 1 rfl) ?_
  refine gB_2_0 (pc := 17) hNN hx hb hts hown hK h fl_X10_9 dX10_copyFrom_17 ?_
  refine lv_iconst (pc := 20) (v := 0) hx hb dX10_copyFrom_20 (by decide) ?_
  refine lv_aload_n (pc := 21) hx hb dX10_copyFrom_21 rfl (lv_at hl 0 rfl) ?_
  refine gB_55_0 (pc := 22) hNB hx hb hts hown hK h fl_X10_9 dX10_copyFrom_22 ?_
  refine lv_iconst (pc := 25) (v := 0) hx hb dX10_copyFrom_25 (by decide) ?_
  refine lv_bipush (pc := 26) (v := 6) hx hb dX10_copyFrom_26 (by decide) ?_
  refine rCpyI (pc := 28)  hx hb (hml.trans hl.1.symm) hown hts ml_X10_29 hK h 3 56 (Nat.lt_of_lt_of_le (by decide) hNN) (Nat.lt_of_lt_of_le (by decide) hNB) 0 (fun _ => rfl) (fun _ => rfl) rfl (by decide) (by decide) (by decide) (Nat.le_trans (by decide) hF) (Nat.le_trans (by decide) hLo) (Nat.le_of_ble_eq_true rfl) dX10_copyFrom_28 (fun H locs h => ?_)
  obtain ⟨u3, eu3, hf⟩ := bs_e hf
  rw [← eu3] at h
  refine lv_aload_n (pc := 31) hx hb dX10_copyFrom_31 rfl (lv_at hl 1 rfl) ?_
  refine gB_2_1 (pc := 32) hNN hx hb hts hown hK h fl_X10_15 dX10_copyFrom_32 ?_
  refine lv_iconst (pc := 35) (v := 0) hx hb dX10_copyFrom_35 (by decide) ?_
  refine lv_aload_n (pc := 36) hx hb dX10_copyFrom_36 rfl (lv_at hl 0 rfl) ?_
  refine gB_55_1 (pc := 37) hNB hx hb hts hown hK h fl_X10_15 dX10_copyFrom_37 ?_
  refine lv_iconst (pc := 40) (v := 0) hx hb dX10_copyFrom_40 (by decide) ?_
  refine lv_bipush (pc := 41) (v := 6) hx hb dX10_copyFrom_41 (by decide) ?_
  refine rCpyI (pc := 43)  hx hb (hml.trans hl.1.symm) hown hts ml_X10_29 hK h 4 57 (Nat.lt_of_lt_of_le (by decide) hNN) (Nat.lt_of_lt_of_le (by decide) hNB) 0 (fun _ => rfl) (fun _ => rfl) rfl (by decide) (by decide) (by decide) (Nat.le_trans (by decide) hF) (Nat.le_trans (by decide) hLo) (Nat.le_of_ble_eq_true rfl) dX10_copyFrom_43 (fun H locs h => ?_)
  obtain ⟨u4, eu4, hf⟩ := bs_e hf
  rw [← eu4] at h
  exact hret (so hf) dX10_copyFrom_46 h
theorem k_X10_copyFrom_55_2 {p : Program} {l : Launch} {e : Env} {R : Room} {s : State} {m : MethodId} {args : Array Value} {below : List Frame} {meth : Method} {c : Code} {H : Heap} {locs : List Loc} {cells slots : Nat} {Q : State → Prop} {pc : Nat} {ls : Array Slot} {rest : List Value} {cc : ByteArray} {D : va_G} {cI cJ cR : ClassId} {a : Nat → Nat} {u : St} {own : String} {index nL : Nat} {N : Nat} (hNB : 70 ≤ N) (hNN : 38 ≤ N) {uu : St} (hx : p.tables.exec = Jvm.exec) (hb : c.code = cc) (hml : c.maxLocals = nL) (hown : s.vm.findClass own = some m.cls) (hts : ∀ w ∈ Gd, w.before args s = true) (hK : va_K D vwCl (tyB cI cJ cR) s) (hN : NB s) (hc : f_X10_copyFrom_55_2 u = some uu) (hlk : Cond.methodLink own index yX10_copyFrom ∈ Gd) (hF : 2 ≤ R.frames) (hLo : 61 ≤ R.locals) (h : Hh D (AB N a s.heap.size) (wX N a (EB a cI cJ cR) u) s.heap H locs) (hsize : ls.size = nL) (hcs : cells ≤ R.cells ∧ slots ≤ R.slots) (hr : (rest.map fun v => v.category).sum ≤ 8) (hdg : decode cc pc = .ok (.invokevirtual index, 3)) (kk : ∀ (H1 : Heap) (locs1 : List Loc), Hh D (AB N a s.heap.size) (wX N a (EB a cI cJ cR) uu) s.heap H1 locs1 → W p l e R s m args below meth c H1 locs1 cells slots Q (F0 m (pc + 3) ls (rest))) : W p l e R s m args below meth c H locs cells slots Q (F0 m pc ls (.ref (a 2) :: .ref (a 55) :: rest)) :=
  cVv (n := 1) hx hb hml hown hts hK hN (c_X10_copyFrom_55_2 hNB hNN hc) (gdV hlk im_X10_copyFrom se_X10_copyFrom in_X10 co_X10_copyFrom) rfl (by decide +kernel) rfl hF hLo h hsize hcs (Nat.lt_of_lt_of_le (by decide) hNB) rfl rfl rfl hr hdg kk
def f_X7_copyFrom_58_5 (u : St) : Option (St) := bs (sI u 58 4 (u.1 5 4)) (fun u1 : St => bs (sA u1 59 (va_cpy (u1.1 6) (u1.1 59) 0 0 (Int32.toNatClampNeg 8))) (fun u2 : St => bs (sA u2 60 (va_cpy (u2.1 7) (u2.1 60) 0 0 (Int32.toNatClampNeg 8))) (fun u3 : St => bs (sA u3 61 (va_cpy (u3.1 8) (u3.1 61) 0 0 (Int32.toNatClampNeg 8))) (fun u4 : St => bs (sA u4 62 (va_cpy (u4.1 9) (u4.1 62) 0 0 (Int32.toNatClampNeg 8))) (fun u5 : St => some u5)))))
set_option maxRecDepth 100000 in
set_option maxHeartbeats 4000000 in
theorem c_X7_copyFrom_58_5 {l : Launch} {D : va_G} {cI cJ cR : ClassId} {a : Nat → Nat} {u : St} {N : Nat} (hNB : 70 ≤ N) (hNN : 38 ≤ N) {uu : St} (hf : f_X7_copyFrom_58_5 u = some uu) : Cv l yX7_copyFrom cX7_copyFrom 2 none 1 40 D (tyB cI cJ cR) N a (EB a cI cJ cR) [.ref (a 58), .ref (a 5)] u uu := by
  refine metV (by decide +kernel) (Nat.le_of_ble_eq_true rfl) ?_
  intro p e s m args below meth c R Q hx hb hml hown hts hF hLo hret hK hN h ls hl
  have hown : s.vm.findClass RX7 = some m.cls := hown
  have hl : lv_has ls 2 [(0, .ref (a 58)), (1, .ref (a 5))] := hl
  unfold f_X7_copyFrom_58_5 at hf
  refine lv_aload_n (pc := 0) hx hb dX7_copyFrom_0 rfl (lv_at hl 0 rfl) ?_
  refine lv_aload_n (pc := 1) hx hb dX7_copyFrom_1 rfl (lv_at hl 1 rfl) ?_
  refine gB_5_4 (pc := 2) hNN hx hb hts hown hK h fl_X7_24 dX7_copyFrom_2 ?_
  refine pB_58_4 (pc := 5) hNB hx hb hts hown hK h fl_X7_24 dX7_copyFrom_5 (fun H locs h => ?_)
  obtain ⟨u1, eu1, hf⟩ := bs_e hf
  rw [← eu1] at h
  refine lv_aload_n (pc := 8) hx hb dX7_copyFrom_8 rfl (lv_at hl 1 rfl) ?_
  refine gB_5_0 (pc := 9) hNN hx hb hts hown hK h fl_X7_9 dX7_copyFrom_9 ?_
  refine lv_iconst (pc := 12) (v := 0) hx hb dX7_copyFrom_12 (by decide) ?_
  refine lv_aload_n (pc := 13) hx hb dX7_copyFrom_13 rfl (lv_at hl 0 rfl) ?_
  refine gB_58_0 (pc := 14) hNB hx hb hts hown hK h fl_X7_9 dX7_copyFrom_14 ?_
  refine lv_iconst (pc := 17) (v := 0) hx hb dX7_copyFrom_17 (by decide) ?_
  refine lv_bipush (pc := 18) (v := 8) hx hb dX7_copyFrom_18 (by decide) ?_
  refine rCpyI (pc := 20)  hx hb (hml.trans hl.1.symm) hown hts ml_X7_40 hK h 6 59 (Nat.lt_of_lt_of_le (by decide) hNN) (Nat.lt_of_lt_of_le (by decide) hNB) 0 (fun _ => rfl) (fun _ => rfl) rfl (by decide) (by decide) (by decide) (Nat.le_trans (by decide) hF) (Nat.le_trans (by decide) hLo) (Nat.le_of_ble_eq_true rfl) dX7_copyFrom_20 (fun H locs h => ?_)
  obtain ⟨u2, eu2, hf⟩ := bs_e hf
  rw [← eu2] at h
  refine lv_aload_n (pc := 23) hx hb dX7_copyFrom_23 rfl (lv_at hl 1 rfl) ?_
  refine gB_5_1 (pc := 24) hNN hx hb hts hown hK h fl_X7_15 dX7_copyFrom_24 ?_
  refine lv_iconst (pc := 27) (v := 0) hx hb dX7_copyFrom_27 (by decide) ?_
  refine lv_aload_n (pc := 28) hx hb dX7_copyFrom_28 rfl (lv_at hl 0 rfl) ?_
  refine gB_58_1 (pc := 29) hNB hx hb hts hown hK h fl_X7_15 dX7_copyFrom_29 ?_
  refine lv_iconst (pc := 32) (v := 0) hx hb dX7_copyFrom_32 (by decide) ?_
  refine lv_bipush (pc := 33) (v := 8) hx hb dX7_copyFrom_33 (by decide) ?_
  refine rCpyI (pc := 35)  hx hb (hml.trans hl.1.symm) hown hts ml_X7_40 hK h 7 60 (Nat.lt_of_lt_of_le (by decide) hNN) (Nat.lt_of_lt_of_le (by decide) hNB) 0 (fun _ => rfl) (fun _ => rfl) rfl (by decide) (by decide) (by decide) (Nat.le_trans (by decide) hF) (Nat.le_trans (by decide) hLo) (Nat.le_of_ble_eq_true rfl) dX7_copyFrom_35 (fun H locs h => ?_)
  obtain ⟨u3, eu3, hf⟩ := bs_e hf
  rw [← eu3] at h
  refine lv_aload_n (pc := 38) hx hb dX7_copyFrom_38 rfl (lv_at hl 1 rfl) ?_
  refine gB_5_2 (pc := 39) hNN hx hb hts hown hK h fl_X7_18 dX7_copyFrom_39 ?_
  refine lv_iconst (pc := 42) (v := 0) hx hb dX7_copyFrom_42 (by decide) ?_
  refine lv_aload_n (pc := 43) hx hb dX7_copyFrom_43 rfl (lv_at hl 0 rfl) ?_
  refine gB_58_2 (pc := 44) hNB hx hb hts hown hK h fl_X7_18 dX7_copyFrom_44 ?_
  refine lv_iconst (pc := 47) (v := 0) hx hb dX7_copyFrom_47 (by decide) ?_
  refine lv_bipush (pc := 48) (v := 8) hx hb dX7_copyFrom_48 (by decide) ?_
  refine rCpyI (pc := 50)  hx hb (hml.trans hl.1.symm) hown hts ml_X7_40 hK h 8 61 (Nat.lt_of_lt_of_le (by decide) hNN) (Nat.lt_of_lt_of_le (by decide) hNB) 0 (fun _ => rfl) (fun _ => rfl) rfl (by decide) (by decide) (by decide) (Nat.le_trans (by decide) hF) (Nat.le_trans (by decide) hLo) (Nat.le_of_ble_eq_true rfl) dX7_copyFrom_50 (fun H locs h => ?_)
  obtain ⟨u4, eu4, hf⟩ := bs_e hf
  rw [← eu4] at h
  refine lv_aload_n (pc := 53) hx hb dX7_copyFrom_53 rfl (lv_at hl 1 rfl) ?_
  refine gB_5_3 (pc := 54) hNN hx hb hts hown hK h fl_X7_21 dX7_copyFrom_54 ?_
  refine lv_iconst (pc := 57) (v := 0) hx hb dX7_copyFrom_57 (by decide) ?_
  refine lv_aload_n (pc := 58) hx hb dX7_copyFrom_58 rfl (lv_at hl 0 rfl) ?_
  refine gB_58_3 (pc := 59) hNB hx hb hts hown hK h fl_X7_21 dX7_copyFrom_59 ?_
  refine lv_iconst (pc := 62) (v := 0) hx hb dX7_copyFrom_62 (by decide) ?_
  refine lv_bipush (pc := 63) (v := 8) hx hb dX7_copyFrom_63 (by decide) ?_
  refine rCpyI (pc := 65)  hx hb (hml.trans hl.1.symm) hown hts ml_X7_40 hK h 9 62 (Nat.lt_of_lt_of_le (by decide) hNN) (Nat.lt_of_lt_of_le (by decide) hNB) 0 (fun _ => rfl) (fun _ => rfl) rfl (by decide) (by decide) (by decide) (Nat.le_trans (by decide) hF) (Nat.le_trans (by decide) hLo) (Nat.le_of_ble_eq_true rfl) dX7_copyFrom_65 (fun H locs h => ?_)
  obtain ⟨u5, eu5, hf⟩ := bs_e hf
  rw [← eu5] at h
  exact hret (so hf) dX7_copyFrom_68 h
theorem k_X7_copyFrom_58_5 {p : Program} {l : Launch} {e : Env} {R : Room} {s : State} {m : MethodId} {args : Array Value} {below : List Frame} {meth : Method} {c : Code} {H : Heap} {locs : List Loc} {cells slots : Nat} {Q : State → Prop} {pc : Nat} {ls : Array Slot} {rest : List Value} {cc : ByteArray} {D : va_G} {cI cJ cR : ClassId} {a : Nat → Nat} {u : St} {own : String} {index nL : Nat} {N : Nat} (hNB : 70 ≤ N) (hNN : 38 ≤ N) {uu : St} (hx : p.tables.exec = Jvm.exec) (hb : c.code = cc) (hml : c.maxLocals = nL) (hown : s.vm.findClass own = some m.cls) (hts : ∀ w ∈ Gd, w.before args s = true) (hK : va_K D vwCl (tyB cI cJ cR) s) (hN : NB s) (hc : f_X7_copyFrom_58_5 u = some uu) (hlk : Cond.methodLink own index yX7_copyFrom ∈ Gd) (hF : 2 ≤ R.frames) (hLo : 61 ≤ R.locals) (h : Hh D (AB N a s.heap.size) (wX N a (EB a cI cJ cR) u) s.heap H locs) (hsize : ls.size = nL) (hcs : cells ≤ R.cells ∧ slots ≤ R.slots) (hr : (rest.map fun v => v.category).sum ≤ 8) (hdg : decode cc pc = .ok (.invokevirtual index, 3)) (kk : ∀ (H1 : Heap) (locs1 : List Loc), Hh D (AB N a s.heap.size) (wX N a (EB a cI cJ cR) uu) s.heap H1 locs1 → W p l e R s m args below meth c H1 locs1 cells slots Q (F0 m (pc + 3) ls (rest))) : W p l e R s m args below meth c H locs cells slots Q (F0 m pc ls (.ref (a 5) :: .ref (a 58) :: rest)) :=
  cVv (n := 1) hx hb hml hown hts hK hN (c_X7_copyFrom_58_5 hNB hNN hc) (gdV hlk im_X7_copyFrom se_X7_copyFrom in_X7 co_X7_copyFrom) rfl (by decide +kernel) rfl hF hLo h hsize hcs (Nat.lt_of_lt_of_le (by decide) hNB) rfl rfl rfl hr hdg kk
def f_X8_copyFrom_63_10 (u : St) : Option (St) := bs (sI u 63 1 (u.1 10 1)) (fun u1 : St => bs (sA u1 64 (va_cpy (u1.1 11) (u1.1 64) 0 0 (Int32.toNatClampNeg 30))) (fun u2 : St => some u2))
set_option maxRecDepth 100000 in
set_option maxHeartbeats 4000000 in
theorem c_X8_copyFrom_63_10 {l : Launch} {D : va_G} {cI cJ cR : ClassId} {a : Nat → Nat} {u : St} {N : Nat} (hNB : 70 ≤ N) (hNN : 38 ≤ N) {uu : St} (hf : f_X8_copyFrom_63_10 u = some uu) : Cv l yX8_copyFrom cX8_copyFrom 2 none 1 40 D (tyB cI cJ cR) N a (EB a cI cJ cR) [.ref (a 63), .ref (a 10)] u uu := by
  refine metV (by decide +kernel) (Nat.le_of_ble_eq_true rfl) ?_
  intro p e s m args below meth c R Q hx hb hml hown hts hF hLo hret hK hN h ls hl
  have hown : s.vm.findClass RX8 = some m.cls := hown
  have hl : lv_has ls 2 [(0, .ref (a 63)), (1, .ref (a 10))] := hl
  unfold f_X8_copyFrom_63_10 at hf
  refine lv_aload_n (pc := 0) hx hb dX8_copyFrom_0 rfl (lv_at hl 0 rfl) ?_
  refine lv_aload_n (pc := 1) hx hb dX8_copyFrom_1 rfl (lv_at hl 1 rfl) ?_
  refine gB_10_1 (pc := 2) hNN hx hb hts hown hK h fl_X8_15 dX8_copyFrom_2 ?_
  refine pB_63_1 (pc := 5) hNB hx hb hts hown hK h fl_X8_15 dX8_copyFrom_5 (fun H locs h => ?_)
  obtain ⟨u1, eu1, hf⟩ := bs_e hf
  rw [← eu1] at h
  refine lv_aload_n (pc := 8) hx hb dX8_copyFrom_8 rfl (lv_at hl 1 rfl) ?_
  refine gB_10_0 (pc := 9) hNN hx hb hts hown hK h fl_X8_9 dX8_copyFrom_9 ?_
  refine lv_iconst (pc := 12) (v := 0) hx hb dX8_copyFrom_12 (by decide) ?_
  refine lv_aload_n (pc := 13) hx hb dX8_copyFrom_13 rfl (lv_at hl 0 rfl) ?_
  refine gB_63_0 (pc := 14) hNB hx hb hts hown hK h fl_X8_9 dX8_copyFrom_14 ?_
  refine lv_iconst (pc := 17) (v := 0) hx hb dX8_copyFrom_17 (by decide) ?_
  refine lv_bipush (pc := 18) (v := 30) hx hb dX8_copyFrom_18 (by decide) ?_
  refine rCpyI (pc := 20)  hx hb (hml.trans hl.1.symm) hown hts ml_X8_37 hK h 11 64 (Nat.lt_of_lt_of_le (by decide) hNN) (Nat.lt_of_lt_of_le (by decide) hNB) 0 (fun _ => rfl) (fun _ => rfl) rfl (by decide) (by decide) (by decide) (Nat.le_trans (by decide) hF) (Nat.le_trans (by decide) hLo) (Nat.le_of_ble_eq_true rfl) dX8_copyFrom_20 (fun H locs h => ?_)
  obtain ⟨u2, eu2, hf⟩ := bs_e hf
  rw [← eu2] at h
  exact hret (so hf) dX8_copyFrom_23 h
theorem k_X8_copyFrom_63_10 {p : Program} {l : Launch} {e : Env} {R : Room} {s : State} {m : MethodId} {args : Array Value} {below : List Frame} {meth : Method} {c : Code} {H : Heap} {locs : List Loc} {cells slots : Nat} {Q : State → Prop} {pc : Nat} {ls : Array Slot} {rest : List Value} {cc : ByteArray} {D : va_G} {cI cJ cR : ClassId} {a : Nat → Nat} {u : St} {own : String} {index nL : Nat} {N : Nat} (hNB : 70 ≤ N) (hNN : 38 ≤ N) {uu : St} (hx : p.tables.exec = Jvm.exec) (hb : c.code = cc) (hml : c.maxLocals = nL) (hown : s.vm.findClass own = some m.cls) (hts : ∀ w ∈ Gd, w.before args s = true) (hK : va_K D vwCl (tyB cI cJ cR) s) (hN : NB s) (hc : f_X8_copyFrom_63_10 u = some uu) (hlk : Cond.methodLink own index yX8_copyFrom ∈ Gd) (hF : 2 ≤ R.frames) (hLo : 61 ≤ R.locals) (h : Hh D (AB N a s.heap.size) (wX N a (EB a cI cJ cR) u) s.heap H locs) (hsize : ls.size = nL) (hcs : cells ≤ R.cells ∧ slots ≤ R.slots) (hr : (rest.map fun v => v.category).sum ≤ 8) (hdg : decode cc pc = .ok (.invokevirtual index, 3)) (kk : ∀ (H1 : Heap) (locs1 : List Loc), Hh D (AB N a s.heap.size) (wX N a (EB a cI cJ cR) uu) s.heap H1 locs1 → W p l e R s m args below meth c H1 locs1 cells slots Q (F0 m (pc + 3) ls (rest))) : W p l e R s m args below meth c H locs cells slots Q (F0 m pc ls (.ref (a 10) :: .ref (a 63) :: rest)) :=
  cVv (n := 1) hx hb hml hown hts hK hN (c_X8_copyFrom_63_10 hNB hNN hc) (gdV hlk im_X8_copyFrom se_X8_copyFrom in_X8 co_X8_copyFrom) rfl (by decide +kernel) rfl hF hLo h hsize hcs (Nat.lt_of_lt_of_le (by decide) hNB) rfl rfl rfl hr hdg kk
def f_X6_copyFrom_65_12 (u : St) : Option (St) := bs (sI u 65 3 (u.1 12 3)) (fun u1 : St => bs (sA u1 66 (va_cpy (u1.1 13) (u1.1 66) 0 0 (Int32.toNatClampNeg 6))) (fun u2 : St => bs (sA u2 67 (va_cpy (u2.1 14) (u2.1 67) 0 0 (Int32.toNatClampNeg 6))) (fun u3 : St => bs (sA u3 68 (va_cpy (u3.1 15) (u3.1 68) 0 0 (Int32.toNatClampNeg 6))) (fun u4 : St => some u4))))
set_option maxRecDepth 100000 in
set_option maxHeartbeats 4000000 in
theorem c_X6_copyFrom_65_12 {l : Launch} {D : va_G} {cI cJ cR : ClassId} {a : Nat → Nat} {u : St} {N : Nat} (hNB : 70 ≤ N) (hNN : 38 ≤ N) {uu : St} (hf : f_X6_copyFrom_65_12 u = some uu) : Cv l yX6_copyFrom cX6_copyFrom 2 none 1 40 D (tyB cI cJ cR) N a (EB a cI cJ cR) [.ref (a 65), .ref (a 12)] u uu := by
  refine metV (by decide +kernel) (Nat.le_of_ble_eq_true rfl) ?_
  intro p e s m args below meth c R Q hx hb hml hown hts hF hLo hret hK hN h ls hl
  have hown : s.vm.findClass RX6 = some m.cls := hown
  have hl : lv_has ls 2 [(0, .ref (a 65)), (1, .ref (a 12))] := hl
  unfold f_X6_copyFrom_65_12 at hf
  refine lv_aload_n (pc := 0) hx hb dX6_copyFrom_0 rfl (lv_at hl 0 rfl) ?_
  refine lv_aload_n (pc := 1) hx hb dX6_copyFrom_1 rfl (lv_at hl 1 rfl) ?_
  refine gB_12_3 (pc := 2) hNN hx hb hts hown hK h fl_X6_21 dX6_copyFrom_2 ?_
  refine pB_65_3 (pc := 5) hNB hx hb hts hown hK h fl_X6_21 dX6_copyFrom_5 (fun H locs h => ?_)
  obtain ⟨u1, eu1, hf⟩ := bs_e hf
  rw [← eu1] at h
  refine lv_aload_n (pc := 8) hx hb dX6_copyFrom_8 rfl (lv_at hl 1 rfl) ?_
  refine gB_12_0 (pc := 9) hNN hx hb hts hown hK h fl_X6_9 dX6_copyFrom_9 ?_
  refine lv_iconst (pc := 12) (v := 0) hx hb dX6_copyFrom_12 (by decide) ?_
  refine lv_aload_n (pc := 13) hx hb dX6_copyFrom_13 rfl (lv_at hl 0 rfl) ?_
  refine gB_65_0 (pc := 14) hNB hx hb hts hown hK h fl_X6_9 dX6_copyFrom_14 ?_
  refine lv_iconst (pc := 17) (v := 0) hx hb dX6_copyFrom_17 (by decide) ?_
  refine lv_bipush (pc := 18) (v := 6) hx hb dX6_copyFrom_18 (by decide) ?_
  refine rCpyI (pc := 20)  hx hb (hml.trans hl.1.symm) hown hts ml_X6_35 hK h 13 66 (Nat.lt_of_lt_of_le (by decide) hNN) (Nat.lt_of_lt_of_le (by decide) hNB) 0 (fun _ => rfl) (fun _ => rfl) rfl (by decide) (by decide) (by decide) (Nat.le_trans (by decide) hF) (Nat.le_trans (by decide) hLo) (Nat.le_of_ble_eq_true rfl) dX6_copyFrom_20 (fun H locs h => ?_)
  obtain ⟨u2, eu2, hf⟩ := bs_e hf
  rw [← eu2] at h
  refine lv_aload_n (pc := 23) hx hb dX6_copyFrom_23 rfl (lv_at hl 1 rfl) ?_
  refine gB_12_1 (pc := 24) hNN hx hb hts hown hK h fl_X6_15 dX6_copyFrom_24 ?_
  refine lv_iconst (pc := 27) (v := 0) hx hb dX6_copyFrom_27 (by decide) ?_
  refine lv_aload_n (pc := 28) hx hb dX6_copyFrom_28 rfl (lv_at hl 0 rfl) ?_
  refine gB_65_1 (pc := 29) hNB hx hb hts hown hK h fl_X6_15 dX6_copyFrom_29 ?_
  refine lv_iconst (pc := 32) (v := 0) hx hb dX6_copyFrom_32 (by decide) ?_
  refine lv_bipush (pc := 33) (v := 6) hx hb dX6_copyFrom_33 (by decide) ?_
  refine rCpyI (pc := 35)  hx hb (hml.trans hl.1.symm) hown hts ml_X6_35 hK h 14 67 (Nat.lt_of_lt_of_le (by decide) hNN) (Nat.lt_of_lt_of_le (by decide) hNB) 0 (fun _ => rfl) (fun _ => rfl) rfl (by decide) (by decide) (by decide) (Nat.le_trans (by decide) hF) (Nat.le_trans (by decide) hLo) (Nat.le_of_ble_eq_true rfl) dX6_copyFrom_35 (fun H locs h => ?_)
  obtain ⟨u3, eu3, hf⟩ := bs_e hf
  rw [← eu3] at h
  refine lv_aload_n (pc := 38) hx hb dX6_copyFrom_38 rfl (lv_at hl 1 rfl) ?_
  refine gB_12_2 (pc := 39) hNN hx hb hts hown hK h fl_X6_18 dX6_copyFrom_39 ?_
  refine lv_iconst (pc := 42) (v := 0) hx hb dX6_copyFrom_42 (by decide) ?_
  refine lv_aload_n (pc := 43) hx hb dX6_copyFrom_43 rfl (lv_at hl 0 rfl) ?_
  refine gB_65_2 (pc := 44) hNB hx hb hts hown hK h fl_X6_18 dX6_copyFrom_44 ?_
  refine lv_iconst (pc := 47) (v := 0) hx hb dX6_copyFrom_47 (by decide) ?_
  refine lv_bipush (pc := 48) (v := 6) hx hb dX6_copyFrom_48 (by decide) ?_
  refine rCpyI (pc := 50)  hx hb (hml.trans hl.1.symm) hown hts ml_X6_35 hK h 15 68 (Nat.lt_of_lt_of_le (by decide) hNN) (Nat.lt_of_lt_of_le (by decide) hNB) 0 (fun _ => rfl) (fun _ => rfl) rfl (by decide) (by decide) (by decide) (Nat.le_trans (by decide) hF) (Nat.le_trans (by decide) hLo) (Nat.le_of_ble_eq_true rfl) dX6_copyFrom_50 (fun H locs h => ?_)
  obtain ⟨u4, eu4, hf⟩ := bs_e hf
  rw [← eu4] at h
  exact hret (so hf) dX6_copyFrom_53 h
theorem k_X6_copyFrom_65_12 {p : Program} {l : Launch} {e : Env} {R : Room} {s : State} {m : MethodId} {args : Array Value} {below : List Frame} {meth : Method} {c : Code} {H : Heap} {locs : List Loc} {cells slots : Nat} {Q : State → Prop} {pc : Nat} {ls : Array Slot} {rest : List Value} {cc : ByteArray} {D : va_G} {cI cJ cR : ClassId} {a : Nat → Nat} {u : St} {own : String} {index nL : Nat} {N : Nat} (hNB : 70 ≤ N) (hNN : 38 ≤ N) {uu : St} (hx : p.tables.exec = Jvm.exec) (hb : c.code = cc) (hml : c.maxLocals = nL) (hown : s.vm.findClass own = some m.cls) (hts : ∀ w ∈ Gd, w.before args s = true) (hK : va_K D vwCl (tyB cI cJ cR) s) (hN : NB s) (hc : f_X6_copyFrom_65_12 u = some uu) (hlk : Cond.methodLink own index yX6_copyFrom ∈ Gd) (hF : 2 ≤ R.frames) (hLo : 61 ≤ R.locals) (h : Hh D (AB N a s.heap.size) (wX N a (EB a cI cJ cR) u) s.heap H locs) (hsize : ls.size = nL) (hcs : cells ≤ R.cells ∧ slots ≤ R.slots) (hr : (rest.map fun v => v.category).sum ≤ 8) (hdg : decode cc pc = .ok (.invokevirtual index, 3)) (kk : ∀ (H1 : Heap) (locs1 : List Loc), Hh D (AB N a s.heap.size) (wX N a (EB a cI cJ cR) uu) s.heap H1 locs1 → W p l e R s m args below meth c H1 locs1 cells slots Q (F0 m (pc + 3) ls (rest))) : W p l e R s m args below meth c H locs cells slots Q (F0 m pc ls (.ref (a 12) :: .ref (a 65) :: rest)) :=
  cVv (n := 1) hx hb hml hown hts hK hN (c_X6_copyFrom_65_12 hNB hNN hc) (gdV hlk im_X6_copyFrom se_X6_copyFrom in_X6 co_X6_copyFrom) rfl (by decide +kernel) rfl hF hLo h hsize hcs (Nat.lt_of_lt_of_le (by decide) hNB) rfl rfl rfl hr hdg kk
def f_X9_copyFrom_54_1 (u : St) : Option (St) := b1 (f_X10_copyFrom_55_2 u) (fun (u1 : St) => b1 (f_X7_copyFrom_58_5 u1) (fun (u2 : St) => b1 (f_X8_copyFrom_63_10 u2) (fun (u3 : St) => b1 (f_X6_copyFrom_65_12 u3) (fun (u4 : St) => bs (sA u4 69 (va_cpy (u4.1 16) (u4.1 69) 0 0 (Int32.toNatClampNeg 7))) (fun u5 : St => some u5)))))
set_option maxRecDepth 100000 in
set_option maxHeartbeats 4000000 in
theorem c_X9_copyFrom_54_1 {l : Launch} {D : va_G} {cI cJ cR : ClassId} {a : Nat → Nat} {u : St} {N : Nat} (hNB : 70 ≤ N) (hNN : 38 ≤ N) {uu : St} (hf : f_X9_copyFrom_54_1 u = some uu) : Cv l yX9_copyFrom cX9_copyFrom 2 none 2 61 D (tyB cI cJ cR) N a (EB a cI cJ cR) [.ref (a 54), .ref (a 1)] u uu := by
  refine metV (by decide +kernel) (Nat.le_of_ble_eq_true rfl) ?_
  intro p e s m args below meth c R Q hx hb hml hown hts hF hLo hret hK hN h ls hl
  have hown : s.vm.findClass RX9 = some m.cls := hown
  have hl : lv_has ls 2 [(0, .ref (a 54)), (1, .ref (a 1))] := hl
  unfold f_X9_copyFrom_54_1 at hf
  refine lv_aload_n (pc := 0) hx hb dX9_copyFrom_0 rfl (lv_at hl 0 rfl) ?_
  refine gB_54_0 (pc := 1) hNB hx hb hts hown hK h fl_X9_12 dX9_copyFrom_1 ?_
  refine lv_aload_n (pc := 4) hx hb dX9_copyFrom_4 rfl (lv_at hl 1 rfl) ?_
  refine gB_1_0 (pc := 5) hNN hx hb hts hown hK h fl_X9_12 dX9_copyFrom_5 ?_
  obtain ⟨u1, hc, hf⟩ := b1_e hf
  refine k_X10_copyFrom_55_2 (pc := 8) hNB hNN hx hb hml hown hts hK hN hc ml_X9_78 (Nat.le_trans (by decide) hF) (Nat.le_trans (by decide) hLo) h hl.1 ⟨Nat.zero_le _, Nat.zero_le _⟩ (Nat.le_of_ble_eq_true rfl) dX9_copyFrom_8 (fun H locs h => ?_)
  refine lv_aload_n (pc := 11) hx hb dX9_copyFrom_11 rfl (lv_at hl 0 rfl) ?_
  refine gB_54_1 (pc := 12) hNB hx hb hts hown hK h fl_X9_21 dX9_copyFrom_12 ?_
  refine lv_aload_n (pc := 15) hx hb dX9_copyFrom_15 rfl (lv_at hl 1 rfl) ?_
  refine gB_1_1 (pc := 16) hNN hx hb hts hown hK h fl_X9_21 dX9_copyFrom_16 ?_
  obtain ⟨u2, hc, hf⟩ := b1_e hf
  refine k_X7_copyFrom_58_5 (pc := 19) hNB hNN hx hb hml hown hts hK hN hc ml_X9_82 (Nat.le_trans (by decide) hF) (Nat.le_trans (by decide) hLo) h hl.1 ⟨Nat.zero_le _, Nat.zero_le _⟩ (Nat.le_of_ble_eq_true rfl) dX9_copyFrom_19 (fun H locs h => ?_)
  refine lv_aload_n (pc := 22) hx hb dX9_copyFrom_22 rfl (lv_at hl 0 rfl) ?_
  refine gB_54_2 (pc := 23) hNB hx hb hts hown hK h fl_X9_28 dX9_copyFrom_23 ?_
  refine lv_aload_n (pc := 26) hx hb dX9_copyFrom_26 rfl (lv_at hl 1 rfl) ?_
  refine gB_1_2 (pc := 27) hNN hx hb hts hown hK h fl_X9_28 dX9_copyFrom_27 ?_
  obtain ⟨u3, hc, hf⟩ := b1_e hf
  refine k_X8_copyFrom_63_10 (pc := 30) hNB hNN hx hb hml hown hts hK hN hc ml_X9_85 (Nat.le_trans (by decide) hF) (Nat.le_trans (by decide) hLo) h hl.1 ⟨Nat.zero_le _, Nat.zero_le _⟩ (Nat.le_of_ble_eq_true rfl) dX9_copyFrom_30 (fun H locs h => ?_)
  refine lv_aload_n (pc := 33) hx hb dX9_copyFrom_33 rfl (lv_at hl 0 rfl) ?_
  refine gB_54_3 (pc := 34) hNB hx hb hts hown hK h fl_X9_35 dX9_copyFrom_34 ?_
  refine lv_aload_n (pc := 37) hx hb dX9_copyFrom_37 rfl (lv_at hl 1 rfl) ?_
  refine gB_1_3 (pc := 38) hNN hx hb hts hown hK h fl_X9_35 dX9_copyFrom_38 ?_
  obtain ⟨u4, hc, hf⟩ := b1_e hf
  refine k_X6_copyFrom_65_12 (pc := 41) hNB hNN hx hb hml hown hts hK hN hc ml_X9_88 (Nat.le_trans (by decide) hF) (Nat.le_trans (by decide) hLo) h hl.1 ⟨Nat.zero_le _, Nat.zero_le _⟩ (Nat.le_of_ble_eq_true rfl) dX9_copyFrom_41 (fun H locs h => ?_)
  refine lv_aload_n (pc := 44) hx hb dX9_copyFrom_44 rfl (lv_at hl 1 rfl) ?_
  refine gB_1_4 (pc := 45) hNN hx hb hts hown hK h fl_X9_48 dX9_copyFrom_45 ?_
  refine lv_iconst (pc := 48) (v := 0) hx hb dX9_copyFrom_48 (by decide) ?_
  refine lv_aload_n (pc := 49) hx hb dX9_copyFrom_49 rfl (lv_at hl 0 rfl) ?_
  refine gB_54_4 (pc := 50) hNB hx hb hts hown hK h fl_X9_48 dX9_copyFrom_50 ?_
  refine lv_iconst (pc := 53) (v := 0) hx hb dX9_copyFrom_53 (by decide) ?_
  refine lv_aload_n (pc := 54) hx hb dX9_copyFrom_54 rfl (lv_at hl 0 rfl) ?_
  refine gB_54_4 (pc := 55) hNB hx hb hts hown hK h fl_X9_48 dX9_copyFrom_55 ?_
  refine nB_69 (pc := 58) (v := 7) hNB hx hb hK h (by decide) dX9_copyFrom_58 ?_
  refine rCpyI (pc := 59)  hx hb (hml.trans hl.1.symm) hown hts ml_X9_91 hK h 16 69 (Nat.lt_of_lt_of_le (by decide) hNN) (Nat.lt_of_lt_of_le (by decide) hNB) 0 (fun _ => rfl) (fun _ => rfl) rfl (by decide) (by decide) (by decide) (Nat.le_trans (by decide) hF) (Nat.le_trans (by decide) hLo) (Nat.le_of_ble_eq_true rfl) dX9_copyFrom_59 (fun H locs h => ?_)
  obtain ⟨u5, eu5, hf⟩ := bs_e hf
  rw [← eu5] at h
  exact hret (so hf) dX9_copyFrom_62 h
theorem k_X9_copyFrom_54_1 {p : Program} {l : Launch} {e : Env} {R : Room} {s : State} {m : MethodId} {args : Array Value} {below : List Frame} {meth : Method} {c : Code} {H : Heap} {locs : List Loc} {cells slots : Nat} {Q : State → Prop} {pc : Nat} {ls : Array Slot} {rest : List Value} {cc : ByteArray} {D : va_G} {cI cJ cR : ClassId} {a : Nat → Nat} {u : St} {own : String} {index nL : Nat} {N : Nat} (hNB : 70 ≤ N) (hNN : 38 ≤ N) {uu : St} (hx : p.tables.exec = Jvm.exec) (hb : c.code = cc) (hml : c.maxLocals = nL) (hown : s.vm.findClass own = some m.cls) (hts : ∀ w ∈ Gd, w.before args s = true) (hK : va_K D vwCl (tyB cI cJ cR) s) (hN : NB s) (hc : f_X9_copyFrom_54_1 u = some uu) (hlk : Cond.methodLink own index yX9_copyFrom ∈ Gd) (hF : 3 ≤ R.frames) (hLo : 82 ≤ R.locals) (h : Hh D (AB N a s.heap.size) (wX N a (EB a cI cJ cR) u) s.heap H locs) (hsize : ls.size = nL) (hcs : cells ≤ R.cells ∧ slots ≤ R.slots) (hr : (rest.map fun v => v.category).sum ≤ 8) (hdg : decode cc pc = .ok (.invokevirtual index, 3)) (kk : ∀ (H1 : Heap) (locs1 : List Loc), Hh D (AB N a s.heap.size) (wX N a (EB a cI cJ cR) uu) s.heap H1 locs1 → W p l e R s m args below meth c H1 locs1 cells slots Q (F0 m (pc + 3) ls (rest))) : W p l e R s m args below meth c H locs cells slots Q (F0 m pc ls (.ref (a 1) :: .ref (a 54) :: rest)) :=
  cVv (n := 1) hx hb hml hown hts hK hN (c_X9_copyFrom_54_1 hNB hNN hc) (gdV hlk im_X9_copyFrom se_X9_copyFrom in_X9 co_X9_copyFrom) rfl (by decide +kernel) rfl hF hLo h hsize hcs (Nat.lt_of_lt_of_le (by decide) hNB) rfl rfl rfl hr hdg kk
