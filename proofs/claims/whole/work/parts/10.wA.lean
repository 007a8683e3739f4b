def f_X0_asItIs (u : St) : Option (St) := cki 2 7 (bs (sI u 20 1 (u.1 16 (ix 2))) (fun u1 : St => bs (sI u1 20 2 (u1.1 2 3)) (fun u2 : St => bs (sI u2 20 3 ((-1))) (fun u3 : St => bs (sI u3 20 4 0) (fun u4 : St => some u4)))))
set_option maxRecDepth 100000 in
set_option maxHeartbeats 4000000 in
theorem c_X0_asItIs {l : Launch} {D : va_G} {cI cJ cR : ClassId} {a : Nat → Nat} {u : St} {N : Nat} (hNN : 38 ≤ N) {uu : St} (hf : f_X0_asItIs u = some uu) : Cv l yX0_asItIs cX0_asItIs 1 none 0 0 D (tyB cI cJ cR) N a (EB a cI cJ cR) [.ref (a 20)] u uu := by
  refine metV (by decide +kernel) (Nat.le_of_ble_eq_true rfl) ?_
  intro p e s m args below meth c R Q hx hb hml hown hts hF hLo hret hK hN h ls hl
  have hown : s.vm.findClass RX0 = some m.cls := hown
  have hl : lv_has ls 1 [(0, .ref (a 20))] := hl
  unfold f_X0_asItIs at hf
  refine lv_aload_n (pc := 0) hx hb dX0_asItIs_0 rfl (lv_at hl 0 rfl) ?_
  refine lv_aload_n (pc := 1) hx hb dX0_asItIs_1 rfl (lv_at hl 0 rfl) ?_
  refine gB_20_0 (pc := 2) hNN hx hb hts hown hK h fl_X0_9 dX0_asItIs_2 ?_
  refine gB_1_4 (pc := 5) hNN hx hb hts hown hK h fl_X0_15 dX0_asItIs_5 ?_
  refine lv_iconst (pc := 8) (v := 2) hx hb dX0_asItIs_8 (by decide) ?_
  obtain ⟨hin, hf⟩ := cki_e hf
  refine gB_16 (pc := 9) hNN hx hb hK h hin dX0_asItIs_9 ?_
  refine pB_20_1 (pc := 10) hNN hx hb hts hown hK h fl_X0_21 dX0_asItIs_10 (fun H locs h => ?_)
  obtain ⟨u1, eu1, hf⟩ := bs_e hf
  rw [← eu1] at h
  refine lv_aload_n (pc := 13) hx hb dX0_asItIs_13 rfl (lv_at hl 0 rfl) ?_
  refine lv_aload_n (pc := 14) hx hb dX0_asItIs_14 rfl (lv_at hl 0 rfl) ?_
  refine gB_20_0 (pc := 15) hNN hx hb hts hown hK h fl_X0_9 dX0_asItIs_15 ?_
  refine gB_1_0 (pc := 18) hNN hx hb hts hown hK h fl_X0_25 dX0_asItIs_18 ?_
  refine gB_2_3 (pc := 21) hNN hx hb hts hown hK h fl_X0_29 dX0_asItIs_21 ?_
  refine pB_20_2 (pc := 24) hNN hx hb hts hown hK h fl_X0_34 dX0_asItIs_24 (fun H locs h => ?_)
  obtain ⟨u2, eu2, hf⟩ := bs_e hf
  rw [← eu2] at h
  refine lv_aload_n (pc := 27) hx hb dX0_asItIs_27 rfl (lv_at hl 0 rfl) ?_
  refine lv_iconst (pc := 28) (v := (-1)) hx hb dX0_asItIs_28 (by decide) ?_
  refine pB_20_3 (pc := 29) hNN hx hb hts hown hK h fl_X0_35 dX0_asItIs_29 (fun H locs h => ?_)
  obtain ⟨u3, eu3, hf⟩ := bs_e hf
  rw [← eu3] at h
  refine lv_aload_n (pc := 32) hx hb dX0_asItIs_32 rfl (lv_at hl 0 rfl) ?_
  refine lv_iconst (pc := 33) (v := 0) hx hb dX0_asItIs_33 (by decide) ?_
  refine pB_20_4 (pc := 34) hNN hx hb hts hown hK h fl_X0_38 dX0_asItIs_34 (fun H locs h => ?_)
  obtain ⟨u4, eu4, hf⟩ := bs_e hf
  rw [← eu4] at h
  exact hret (so hf) dX0_asItIs_37 h
theorem k_X0_asItIs {p : Program} {l : Launch} {e : Env} {R : Room} {s : State} {m : MethodId} {args : Array Value} {below : List Frame} {meth : Method} {c : Code} {H : Heap} {locs : List Loc} {cells slots : Nat} {Q : State → Prop} {pc : Nat} {ls : Array Slot} {rest : List Value} {cc : ByteArray} {D : va_G} {cI cJ cR : ClassId} {a : Nat → Nat} {u : St} {own : String} {index nL : Nat} {N : Nat} (hNN : 38 ≤ N) {uu : St} (hx : p.tables.exec = Jvm.exec) (hb : c.code = cc) (hml : c.maxLocals = nL) (hown : s.vm.findClass own = some m.cls) (hts : ∀ w ∈ Gd, w.before args s = true) (hK : va_K D vwCl (tyB cI cJ cR) s) (hN : NB s) (hc : f_X0_asItIs u = some uu) (hlk : Cond.methodLink own index yX0_asItIs ∈ Gd) (hF : 1 ≤ R.frames) (hLo : 20 ≤ R.locals) (h : Hh D (AB N a s.heap.size) (wX N a (EB a cI cJ cR) u) s.heap H locs) (hsize : ls.size = nL) (hcs : cells ≤ R.cells ∧ slots ≤ R.slots) (hr : (rest.map fun v => v.category).sum ≤ 8) (hdg : decode cc pc = .ok (.invokevirtual index, 3)) (kk : ∀ (H1 : Heap) (locs1 : List Loc), Hh D (AB N a s.heap.size) (wX N a (EB a cI cJ cR) uu) s.heap H1 locs1 → W p l e R s m args below meth c H1 locs1 cells slots Q (F0 m (pc + 3) ls (rest))) : W p l e R s m args below meth c H locs cells slots Q (F0 m pc ls (.ref (a 20) :: rest)) :=
  cVv (n := 0) hx hb hml hown hts hK hN (c_X0_asItIs hNN hc) (gdV hlk im_X0_asItIs se_X0_asItIs in_X0 co_X0_asItIs) rfl (by decide +kernel) rfl hF hLo h hsize hcs (Nat.lt_of_lt_of_le (by decide) hNN) rfl rfl rfl hr hdg kk
def f_X8_digitAt (u : St) (p1 : Int32) : Option (Int32) := if p1 < 0 then some 0 else if (u.1 10 1) < 1 then some 0 else if (u.1 10 1) ≤ 30 then ck (¬ (u.1 10 1) = 0) (cki (p1 - p1 / (u.1 10 1) * (u.1 10 1)) 30 (some (u.1 11 (ix (p1 - p1 / (u.1 10 1) * (u.1 10 1)))))) else some 0
set_option maxRecDepth 100000 in
set_option maxHeartbeats 4000000 in
theorem c_X8_digitAt {l : Launch} {D : va_G} {cI cJ cR : ClassId} {a : Nat → Nat} {u : St} {N : Nat} (hNN : 38 ≤ N) {p1 : Int32} {rr : Int32} (hf : f_X8_digitAt u p1 = some rr) : Ci l yX8_digitAt cX8_digitAt 2 (some .int) 0 0 D (tyB cI cJ cR) N a (EB a cI cJ cR) [.ref (a 10), .int p1] u rr u := by
  refine metI (by decide +kernel) (Nat.le_of_ble_eq_true rfl) ?_
  intro p e s m args below meth c R Q hx hb hml hown hts hF hLo hret hK hN h ls hl
  have hown : s.vm.findClass RX8 = some m.cls := hown
  have hl : lv_has ls 2 [(0, .ref (a 10)), (1, .int p1)] := hl
  unfold f_X8_digitAt at hf
  refine lv_iload_n (pc := 0) hx hb dX8_digitAt_0 rfl (lv_at hl 1 rfl) ?_
  refine lv_if_lt (pc := 1) (tgt := 21) hx hb dX8_digitAt_1 (by decide) (fun c1 => ?_) (fun c1 => ?_)
  · have hf := if_t hf c1
    refine lv_iconst (pc := 21) (v := 0) hx hb dX8_digitAt_21 (by decide) ?_
    exact hret (so hf) rfl rfl dX8_digitAt_22 h
  · have hf := if_f hf c1
    refine lv_aload_n (pc := 4) hx hb dX8_digitAt_4 rfl (lv_at hl 0 rfl) ?_
    refine gB_10_1 (pc := 5) hNN hx hb hts hown hK h fl_X8_15 dX8_digitAt_5 ?_
    refine lv_iconst (pc := 8) (v := 1) hx hb dX8_digitAt_8 (by decide) ?_
    refine lv_icmp_lt (pc := 9) (tgt := 21) hx hb dX8_digitAt_9 (by decide) (fun c2 => ?_) (fun c2 => ?_)
    · have hf := if_t hf c2
      refine lv_iconst (pc := 21) (v := 0) hx hb dX8_digitAt_21 (by decide) ?_
      exact hret (so hf) rfl rfl dX8_digitAt_22 h
    · have hf := if_f hf c2
      refine lv_aload_n (pc := 12) hx hb dX8_digitAt_12 rfl (lv_at hl 0 rfl) ?_
      refine gB_10_1 (pc := 13) hNN hx hb hts hown hK h fl_X8_15 dX8_digitAt_13 ?_
      refine lv_bipush (pc := 16) (v := 30) hx hb dX8_digitAt_16 (by decide) ?_
      refine lv_icmp_le (pc := 18) (tgt := 23) hx hb dX8_digitAt_18 (by decide) (fun c3 => ?_) (fun c3 => ?_)
      · have hf := if_t hf c3
        refine lv_aload_n (pc := 23) hx hb dX8_digitAt_23 rfl (lv_at hl 0 rfl) ?_
        refine gB_10_0 (pc := 24) hNN hx hb hts hown hK h fl_X8_9 dX8_digitAt_24 ?_
        refine lv_iload_n (pc := 27) hx hb dX8_digitAt_27 rfl (lv_at hl 1 rfl) ?_
        refine lv_aload_n (pc := 28) hx hb dX8_digitAt_28 rfl (lv_at hl 0 rfl) ?_
        refine gB_10_1 (pc := 29) hNN hx hb hts hown hK h fl_X8_15 dX8_digitAt_29 ?_
        obtain ⟨hne, hf⟩ := ck_e hf
        refine lv_irem (pc := 32) hx hb dX8_digitAt_32 hne ?_
        obtain ⟨hin, hf⟩ := cki_e hf
        refine gB_11 (pc := 33) hNN hx hb hK h hin dX8_digitAt_33 ?_
        exact hret (so hf) rfl rfl dX8_digitAt_34 h
      · have hf := if_f hf c3
        refine lv_iconst (pc := 21) (v := 0) hx hb dX8_digitAt_21 (by decide) ?_
        exact hret (so hf) rfl rfl dX8_digitAt_22 h
theorem k_X8_digitAt {p : Program} {l : Launch} {e : Env} {R : Room} {s : State} {m : MethodId} {args : Array Value} {below : List Frame} {meth : Method} {c : Code} {H : Heap} {locs : List Loc} {cells slots : Nat} {Q : State → Prop} {pc : Nat} {ls : Array Slot} {rest : List Value} {cc : ByteArray} {D : va_G} {cI cJ cR : ClassId} {a : Nat → Nat} {u : St} {own : String} {index nL : Nat} {N : Nat} (hNN : 38 ≤ N) {p1 : Int32} {rr : Int32} (hx : p.tables.exec = Jvm.exec) (hb : c.code = cc) (hml : c.maxLocals = nL) (hown : s.vm.findClass own = some m.cls) (hts : ∀ w ∈ Gd, w.before args s = true) (hK : va_K D vwCl (tyB cI cJ cR) s) (hN : NB s) (hc : f_X8_digitAt u p1 = some rr) (hlk : Cond.methodLink own index yX8_digitAt ∈ Gd) (hF : 1 ≤ R.frames) (hLo : 21 ≤ R.locals) (h : Hh D (AB N a s.heap.size) (wX N a (EB a cI cJ cR) u) s.heap H locs) (hsize : ls.size = nL) (hcs : cells ≤ R.cells ∧ slots ≤ R.slots) (hr : (rest.map fun v => v.category).sum ≤ 8) (hdg : decode cc pc = .ok (.invokevirtual index, 3)) (kk : ∀ (H1 : Heap) (locs1 : List Loc), Hh D (AB N a s.heap.size) (wX N a (EB a cI cJ cR) u) s.heap H1 locs1 → W p l e R s m args below meth c H1 locs1 cells slots Q (F0 m (pc + 3) ls (.int rr :: rest))) : W p l e R s m args below meth c H locs cells slots Q (F0 m pc ls (.int p1 :: .ref (a 10) :: rest)) :=
  cVi (n := 1) hx hb hml hown hts hK hN (c_X8_digitAt hNN hc) (gdV hlk im_X8_digitAt se_X8_digitAt in_X8 co_X8_digitAt) rfl (by decide +kernel) rfl hF hLo h hsize hcs (Nat.lt_of_lt_of_le (by decide) hNN) rfl rfl rfl hr hdg kk
def f_X0_levelOn (u : St) (p1 : Int32) : Option (Int32) := b1 (f_X8_digitAt u (p1 + (u.1 20 1))) (fun (x1 : Int32) => some (mxI 0 (x1 - (u.1 20 4))))
set_option maxRecDepth 100000 in
set_option maxHeartbeats 4000000 in
theorem c_X0_levelOn {l : Launch} {D : va_G} {cI cJ cR : ClassId} {a : Nat → Nat} {u : St} {N : Nat} (hNN : 38 ≤ N) {p1 : Int32} {rr : Int32} (hf : f_X0_levelOn u p1 = some rr) : Ci l yX0_levelOn cX0_levelOn 2 (some .int) 1 21 D (tyB cI cJ cR) N a (EB a cI cJ cR) [.ref (a 20), .int p1] u rr u := by
  refine metI (by decide +kernel) (Nat.le_of_ble_eq_true rfl) ?_
  intro p e s m args below meth c R Q hx hb hml hown hts hF hLo hret hK hN h ls hl
  have hown : s.vm.findClass RX0 = some m.cls := hown
  have hl : lv_has ls 2 [(0, .ref (a 20)), (1, .int p1)] := hl
  unfold f_X0_levelOn at hf
  refine lv_iconst (pc := 0) (v := 0) hx hb dX0_levelOn_0 (by decide) ?_
  refine lv_aload_n (pc := 1) hx hb dX0_levelOn_1 rfl (lv_at hl 0 rfl) ?_
  refine gB_20_0 (pc := 2) hNN hx hb hts hown hK h fl_X0_9 dX0_levelOn_2 ?_
  refine gB_1_2 (pc := 5) hNN hx hb hts hown hK h fl_X0_41 dX0_levelOn_5 ?_
  refine lv_iload_n (pc := 8) hx hb dX0_levelOn_8 rfl (lv_at hl 1 rfl) ?_
  refine lv_aload_n (pc := 9) hx hb dX0_levelOn_9 rfl (lv_at hl 0 rfl) ?_
  refine gB_20_1 (pc := 10) hNN hx hb hts hown hK h fl_X0_21 dX0_levelOn_10 ?_
  refine lv_iadd (pc := 13) hx hb dX0_levelOn_13 ?_
  obtain ⟨x1, hc, hf⟩ := b1_e hf
  refine k_X8_digitAt (pc := 14) hNN hx hb hml hown hts hK hN hc ml_X0_45 (Nat.le_trans (by decide) hF) (Nat.le_trans (by decide) hLo) h hl.1 ⟨Nat.zero_le _, Nat.zero_le _⟩ (Nat.le_of_ble_eq_true rfl) dX0_levelOn_14 (fun H locs h => ?_)
  refine lv_aload_n (pc := 17) hx hb dX0_levelOn_17 rfl (lv_at hl 0 rfl) ?_
  refine gB_20_4 (pc := 18) hNN hx hb hts hown hK h fl_X0_38 dX0_levelOn_18 ?_
  refine lv_isub (pc := 21) hx hb dX0_levelOn_21 ?_
  refine rMmax (pc := 22) hx hb (hml.trans hl.1.symm) hown hts ml_X0_51 (Nat.le_trans (by decide) hF) (Nat.le_trans (by decide) hLo) (Nat.le_of_ble_eq_true rfl) ⟨Nat.zero_le _, Nat.zero_le _⟩ dX0_levelOn_22 ?_
  exact hret (so hf) rfl rfl dX0_levelOn_25 h
theorem k_X0_levelOn {p : Program} {l : Launch} {e : Env} {R : Room} {s : State} {m : MethodId} {args : Array Value} {below : List Frame} {meth : Method} {c : Code} {H : Heap} {locs : List Loc} {cells slots : Nat} {Q : State → Prop} {pc : Nat} {ls : Array Slot} {rest : List Value} {cc : ByteArray} {D : va_G} {cI cJ cR : ClassId} {a : Nat → Nat} {u : St} {own : String} {index nL : Nat} {N : Nat} (hNN : 38 ≤ N) {p1 : Int32} {rr : Int32} (hx : p.tables.exec = Jvm.exec) (hb : c.code = cc) (hml : c.maxLocals = nL) (hown : s.vm.findClass own = some m.cls) (hts : ∀ w ∈ Gd, w.before args s = true) (hK : va_K D vwCl (tyB cI cJ cR) s) (hN : NB s) (hc : f_X0_levelOn u p1 = some rr) (hlk : Cond.methodLink own index yX0_levelOn ∈ Gd) (hF : 2 ≤ R.frames) (hLo : 42 ≤ R.locals) (h : Hh D (AB N a s.heap.size) (wX N a (EB a cI cJ cR) u) s.heap H locs) (hsize : ls.size = nL) (hcs : cells ≤ R.cells ∧ slots ≤ R.slots) (hr : (rest.map fun v => v.category).sum ≤ 8) (hdg : decode cc pc = .ok (.invokevirtual index, 3)) (kk : ∀ (H1 : Heap) (locs1 : List Loc), Hh D (AB N a s.heap.size) (wX N a (EB a cI cJ cR) u) s.heap H1 locs1 → W p l e R s m args below meth c H1 locs1 cells slots Q (F0 m (pc + 3) ls (.int rr :: rest))) : W p l e R s m args below meth c H locs cells slots Q (F0 m pc ls (.int p1 :: .ref (a 20) :: rest)) :=
  cVi (n := 1) hx hb hml hown hts hK hN (c_X0_levelOn hNN hc) (gdV hlk im_X0_levelOn se_X0_levelOn in_X0 co_X0_levelOn) rfl (by decide +kernel) rfl hF hLo h hsize hcs (Nat.lt_of_lt_of_le (by decide) hNN) rfl rfl rfl hr hdg kk
def f_X10_has (u : St) (p1 : Int32) : Option (Int32) := if p1 < 0 then some 0 else if (u.1 2 2) ≤ p1 then some 0 else if 6 ≤ p1 then some 0 else some 1
set_option maxRecDepth 100000 in
set_option maxHeartbeats 4000000 in
theorem c_X10_has {l : Launch} {D : va_G} {cI cJ cR : ClassId} {a : Nat → Nat} {u : St} {N : Nat} (hNN : 38 ≤ N) {p1 : Int32} {rr : Int32} (hf : f_X10_has u p1 = some rr) : Ci l yX10_has cX10_has 2 (some .boolean) 0 0 D (tyB cI cJ cR) N a (EB a cI cJ cR) [.ref (a 2), .int p1] u rr u := by
  refine metI (by decide +kernel) (Nat.le_of_ble_eq_true rfl) ?_
  intro p e s m args below meth c R Q hx hb hml hown hts hF hLo hret hK hN h ls hl
  have hown : s.vm.findClass RX10 = some m.cls := hown
  have hl : lv_has ls 2 [(0, .ref (a 2)), (1, .int p1)] := hl
  unfold f_X10_has at hf
  refine lv_iload_n (pc := 0) hx hb dX10_has_0 rfl (lv_at hl 1 rfl) ?_
  refine lv_if_lt (pc := 1) (tgt := 22) hx hb dX10_has_1 (by decide) (fun c1 => ?_) (fun c1 => ?_)
  · have hf := if_t hf c1
    refine lv_iconst (pc := 22) (v := 0) hx hb dX10_has_22 (by decide) ?_
    exact hret (so hf) rfl rfl dX10_has_23 h
  · have hf := if_f hf c1
    refine lv_iload_n (pc := 4) hx hb dX10_has_4 rfl (lv_at hl 1 rfl) ?_
    refine lv_aload_n (pc := 5) hx hb dX10_has_5 rfl (lv_at hl 0 rfl) ?_
    refine gB_2_2 (pc := 6) hNN hx hb hts hown hK h fl_X10_22 dX10_has_6 ?_
    refine lv_icmp_ge (pc := 9) (tgt := 22) hx hb dX10_has_9 (by decide) (fun c2 => ?_) (fun c2 => ?_)
    · have hf := if_t hf c2
      refine lv_iconst (pc := 22) (v := 0) hx hb dX10_has_22 (by decide) ?_
      exact hret (so hf) rfl rfl dX10_has_23 h
    · have hf := if_f hf c2
      refine lv_iload_n (pc := 12) hx hb dX10_has_12 rfl (lv_at hl 1 rfl) ?_
      refine lv_bipush (pc := 13) (v := 6) hx hb dX10_has_13 (by decide) ?_
      refine lv_icmp_ge (pc := 15) (tgt := 22) hx hb dX10_has_15 (by decide) (fun c3 => ?_) (fun c3 => ?_)
      · have hf := if_t hf c3
        refine lv_iconst (pc := 22) (v := 0) hx hb dX10_has_22 (by decide) ?_
        exact hret (so hf) rfl rfl dX10_has_23 h
      · have hf := if_f hf c3
        refine lv_iconst (pc := 18) (v := 1) hx hb dX10_has_18 (by decide) ?_
        refine lv_goto (pc := 19) (tgt := 23) hx hb dX10_has_19 (by decide) ?_
        exact hret (so hf) rfl rfl dX10_has_23 h
theorem k_X10_has {p : Program} {l : Launch} {e : Env} {R : Room} {s : State} {m : MethodId} {args : Array Value} {below : List Frame} {meth : Method} {c : Code} {H : Heap} {locs : List Loc} {cells slots : Nat} {Q : State → Prop} {pc : Nat} {ls : Array Slot} {rest : List Value} {cc : ByteArray} {D : va_G} {cI cJ cR : ClassId} {a : Nat → Nat} {u : St} {own : String} {index nL : Nat} {N : Nat} (hNN : 38 ≤ N) {p1 : Int32} {rr : Int32} (hx : p.tables.exec = Jvm.exec) (hb : c.code = cc) (hml : c.maxLocals = nL) (hown : s.vm.findClass own = some m.cls) (hts : ∀ w ∈ Gd, w.before args s = true) (hK : va_K D vwCl (tyB cI cJ cR) s) (hN : NB s) (hc : f_X10_has u p1 = some rr) (hlk : Cond.methodLink own index yX10_has ∈ Gd) (hF : 1 ≤ R.frames) (hLo : 21 ≤ R.locals) (h : Hh D (AB N a s.heap.size) (wX N a (EB a cI cJ cR) u) s.heap H locs) (hsize : ls.size = nL) (hcs : cells ≤ R.cells ∧ slots ≤ R.slots) (hr : (rest.map fun v => v.category).sum ≤ 8) (hdg : decode cc pc = .ok (.invokevirtual index, 3)) (kk : ∀ (H1 : Heap) (locs1 : List Loc), Hh D (AB N a s.heap.size) (wX N a (EB a cI cJ cR) u) s.heap H1 locs1 → W p l e R s m args below meth c H1 locs1 cells slots Q (F0 m (pc + 3) ls (.int rr :: rest))) : W p l e R s m args below meth c H locs cells slots Q (F0 m pc ls (.int p1 :: .ref (a 2) :: rest)) :=
  cVi (n := 1) hx hb hml hown hts hK hN (c_X10_has hNN hc) (gdV hlk im_X10_has se_X10_has in_X10 co_X10_has) rfl (by decide +kernel) rfl hF hLo h hsize hcs (Nat.lt_of_lt_of_le (by decide) hNN) rfl rfl rfl hr hdg kk
def f_X11_hasBit (u : St) (p1 : Int32) (p2 : Int32) : Option (Int32) := if p2 < 0 then some 0 else if 31 ≤ p2 then some 0 else if ((p1 >>> (p2 &&& 31)) &&& (1 : Int32)) = 1 then some 1 else some 0
set_option maxRecDepth 100000 in
set_option maxHeartbeats 4000000 in
theorem c_X11_hasBit {l : Launch} {D : va_G} {cI cJ cR : ClassId} {a : Nat → Nat} {u : St} {N : Nat} (hNN : 38 ≤ N) {p1 : Int32} {p2 : Int32} {rr : Int32} (hf : f_X11_hasBit u p1 p2 = some rr) : Ci l yX11_hasBit cX11_hasBit 2 (some .boolean) 0 0 D (tyB cI cJ cR) N a (EB a cI cJ cR) [.int p1, .int p2] u rr u := by
  refine metI (by decide +kernel) (Nat.le_of_ble_eq_true rfl) ?_
  intro p e s m args below meth c R Q hx hb hml hown hts hF hLo hret hK hN h ls hl
  have hown : s.vm.findClass RX11 = some m.cls := hown
  have hl : lv_has ls 2 [(0, .int p1), (1, .int p2)] := hl
  unfold f_X11_hasBit at hf
  refine lv_iload_n (pc := 0) hx hb dX11_hasBit_0 rfl (lv_at hl 1 rfl) ?_
  refine lv_if_lt (pc := 1) (tgt := 23) hx hb dX11_hasBit_1 (by decide) (fun c1 => ?_) (fun c1 => ?_)
  · have hf := if_t hf c1
    refine lv_iconst (pc := 23) (v := 0) hx hb dX11_hasBit_23 (by decide) ?_
    exact hret (so hf) rfl rfl dX11_hasBit_24 h
  · have hf := if_f hf c1
    refine lv_iload_n (pc := 4) hx hb dX11_hasBit_4 rfl (lv_at hl 1 rfl) ?_
    refine lv_bipush (pc := 5) (v := 31) hx hb dX11_hasBit_5 (by decide) ?_
    refine lv_icmp_ge (pc := 7) (tgt := 23) hx hb dX11_hasBit_7 (by decide) (fun c2 => ?_) (fun c2 => ?_)
    · have hf := if_t hf c2
      refine lv_iconst (pc := 23) (v := 0) hx hb dX11_hasBit_23 (by decide) ?_
      exact hret (so hf) rfl rfl dX11_hasBit_24 h
    · have hf := if_f hf c2
      refine lv_iload_n (pc := 10) hx hb dX11_hasBit_10 rfl (lv_at hl 0 rfl) ?_
      refine lv_iload_n (pc := 11) hx hb dX11_hasBit_11 rfl (lv_at hl 1 rfl) ?_
      refine lv_ishr (pc := 12) hx hb dX11_hasBit_12 ?_
      refine lv_iconst (pc := 13) (v := 1) hx hb dX11_hasBit_13 (by decide) ?_
      refine lv_iand (pc := 14) hx hb dX11_hasBit_14 ?_
      refine lv_iconst (pc := 15) (v := 1) hx hb dX11_hasBit_15 (by decide) ?_
      refine lv_icmp_ne (pc := 16) (tgt := 23) hx hb dX11_hasBit_16 (by decide) (fun c3 => ?_) (fun c3 => ?_)
      · have hf := if_f hf c3
        refine lv_iconst (pc := 23) (v := 0) hx hb dX11_hasBit_23 (by decide) ?_
        exact hret (so hf) rfl rfl dX11_hasBit_24 h
      · have hf := if_t hf c3
        refine lv_iconst (pc := 19) (v := 1) hx hb dX11_hasBit_19 (by decide) ?_
        refine lv_goto (pc := 20) (tgt := 24) hx hb dX11_hasBit_20 (by decide) ?_
        exact hret (so hf) rfl rfl dX11_hasBit_24 h
theorem kS_X11_hasBit {p : Program} {l : Launch} {e : Env} {R : Room} {s : State} {m : MethodId} {args : Array Value} {below : List Frame} {meth : Method} {c : Code} {H : Heap} {locs : List Loc} {cells slots : Nat} {Q : State → Prop} {pc : Nat} {ls : Array Slot} {rest : List Value} {cc : ByteArray} {D : va_G} {cI cJ cR : ClassId} {a : Nat → Nat} {u : St} {own : String} {index nL : Nat} {N : Nat} (hNN : 38 ≤ N) {p1 : Int32} {p2 : Int32} {rr : Int32} (hx : p.tables.exec = Jvm.exec) (hb : c.code = cc) (hml : c.maxLocals = nL) (hown : s.vm.findClass own = some m.cls) (hts : ∀ w ∈ Gd, w.before args s = true) (hK : va_K D vwCl (tyB cI cJ cR) s) (hN : NB s) (hc : f_X11_hasBit u p1 p2 = some rr) (hlk : Cond.methodLink own index yX11_hasBit ∈ Gd) (hF : 1 ≤ R.frames) (hLo : 21 ≤ R.locals) (h : Hh D (AB N a s.heap.size) (wX N a (EB a cI cJ cR) u) s.heap H locs) (hsize : ls.size = nL) (hcs : cells ≤ R.cells ∧ slots ≤ R.slots) (hr : (rest.map fun v => v.category).sum ≤ 8) (hdg : decode cc pc = .ok (.invokestatic index, 3)) (kk : ∀ (H1 : Heap) (locs1 : List Loc), Hh D (AB N a s.heap.size) (wX N a (EB a cI cJ cR) u) s.heap H1 locs1 → W p l e R s m args below meth c H1 locs1 cells slots Q (F0 m (pc + 3) ls (.int rr :: rest))) : W p l e R s m args below meth c H locs cells slots Q (F0 m pc ls (.int p2 :: .int p1 :: rest)) :=
  cSi (n := 2) hx hb hml hown hts hK hN (c_X11_hasBit hNN hc) (gdS hlk sm_X11_hasBit in_X11 co_X11_hasBit) (by decide +kernel) rfl hF hLo h hsize hcs rfl hr hdg kk
theorem kN_X11_hasBit {p : Program} {l : Launch} {e : Env} {R : Room} {s : State} {m : MethodId} {args : Array Value} {below : List Frame} {meth : Method} {c : Code} {H : Heap} {locs : List Loc} {cells slots : Nat} {Q : State → Prop} {pc : Nat} {ls : Array Slot} {rest : List Value} {cc : ByteArray} {D : va_G} {cI cJ cR : ClassId} {a : Nat → Nat} {u : St} {own : String} {index nL : Nat} {N : Nat} (hNN : 38 ≤ N) {p1 : Int32} {p2 : Int32} {rr : Int32} (hx : p.tables.exec = Jvm.exec) (hb : c.code = cc) (hml : c.maxLocals = nL) (hown : s.vm.findClass own = some m.cls) (hts : ∀ w ∈ Gd, w.before args s = true) (hK : va_K D vwCl (tyB cI cJ cR) s) (hN : NB s) (hc : f_X11_hasBit u p1 p2 = some rr) {host : String} (hnl : va_Nw (.methodLinkNest own index yX11_hasBit host) s) (hF : 1 ≤ R.frames) (hLo : 21 ≤ R.locals) (h : Hh D (AB N a s.heap.size) (wX N a (EB a cI cJ cR) u) s.heap H locs) (hsize : ls.size = nL) (hcs : cells ≤ R.cells ∧ slots ≤ R.slots) (hr : (rest.map fun v => v.category).sum ≤ 8) (hdg : decode cc pc = .ok (.invokestatic index, 3)) (kk : ∀ (H1 : Heap) (locs1 : List Loc), Hh D (AB N a s.heap.size) (wX N a (EB a cI cJ cR) u) s.heap H1 locs1 → W p l e R s m args below meth c H1 locs1 cells slots Q (F0 m (pc + 3) ls (.int rr :: rest))) : W p l e R s m args below meth c H locs cells slots Q (F0 m pc ls (.int p2 :: .int p1 :: rest)) :=
  cNi (n := 2) hx hb hml hown hts hK hN (c_X11_hasBit hNN hc) co_X11_hasBit sm_X11_hasBit in_X11 hnl (by decide +kernel) rfl hF hLo h hsize hcs rfl hr hdg kk
def f_X0_breathIn (u : St) (p1 : Int32) (p2 : Int32) : Option (Int32) := b1 (f_X10_has u p1) (fun (x1 : Int32) => if x1 = 0 then some 0 else b1 (f_X11_hasBit u (u.1 20 2) p1) (fun (x3 : Int32) => if x3 = 0 then cki p1 6 (some (mxI 0 (p2 - (u.1 3 (ix p1))))) else some 0))
set_option maxRecDepth 100000 in
set_option maxHeartbeats 4000000 in
theorem c_X0_breathIn {l : Launch} {D : va_G} {cI cJ cR : ClassId} {a : Nat → Nat} {u : St} {N : Nat} (hNN : 38 ≤ N) {p1 : Int32} {p2 : Int32} {rr : Int32} (hf : f_X0_breathIn u p1 p2 = some rr) : Ci l yX0_breathIn cX0_breathIn 3 (some .int) 1 21 D (tyB cI cJ cR) N a (EB a cI cJ cR) [.ref (a 20), .int p1, .int p2] u rr u := by
  refine metI (by decide +kernel) (Nat.le_of_ble_eq_true rfl) ?_
  intro p e s m args below meth c R Q hx hb hml hown hts hF hLo hret hK hN h ls hl
  have hown : s.vm.findClass RX0 = some m.cls := hown
  have hl : lv_has ls 3 [(0, .ref (a 20)), (1, .int p1), (2, .int p2)] := hl
  unfold f_X0_breathIn at hf
  refine lv_aload_n (pc := 0) hx hb dX0_breathIn_0 rfl (lv_at hl 0 rfl) ?_
  refine gB_20_0 (pc := 1) hNN hx hb hts hown hK h fl_X0_9 dX0_breathIn_1 ?_
  refine gB_1_0 (pc := 4) hNN hx hb hts hown hK h fl_X0_25 dX0_breathIn_4 ?_
  refine lv_iload_n (pc := 7) hx hb dX0_breathIn_7 rfl (lv_at hl 1 rfl) ?_
  obtain ⟨x1, hc, hf⟩ := b1_e hf
  refine k_X10_has (pc := 8) hNN hx hb hml hown hts hK hN hc ml_X0_57 (Nat.le_trans (by decide) hF) (Nat.le_trans (by decide) hLo) h hl.1 ⟨Nat.zero_le _, Nat.zero_le _⟩ (Nat.le_of_ble_eq_true rfl) dX0_breathIn_8 (fun H locs h => ?_)
  refine lv_if_eq (pc := 11) (tgt := 25) hx hb dX0_breathIn_11 (by decide) (fun c2 => ?_) (fun c2 => ?_)
  · have hf := if_t hf c2
    refine lv_iconst (pc := 25) (v := 0) hx hb dX0_breathIn_25 (by decide) ?_
    exact hret (so hf) rfl rfl dX0_breathIn_26 h
  · have hf := if_f hf c2
    refine lv_aload_n (pc := 14) hx hb dX0_breathIn_14 rfl (lv_at hl 0 rfl) ?_
    refine gB_20_2 (pc := 15) hNN hx hb hts hown hK h fl_X0_34 dX0_breathIn_15 ?_
    refine lv_iload_n (pc := 18) hx hb dX0_breathIn_18 rfl (lv_at hl 1 rfl) ?_
    obtain ⟨x3, hc, hf⟩ := b1_e hf
    refine kN_X11_hasBit (pc := 19) hNN hx hb hml hown hts hK hN hc (nl_X0_61 hN) (Nat.le_trans (by decide) hF) (Nat.le_trans (by decide) hLo) h hl.1 ⟨Nat.zero_le _, Nat.zero_le _⟩ (Nat.le_of_ble_eq_true rfl) dX0_breathIn_19 (fun H locs h => ?_)
    refine lv_if_eq (pc := 22) (tgt := 27) hx hb dX0_breathIn_22 (by decide) (fun c4 => ?_) (fun c4 => ?_)
    · have hf := if_t hf c4
      refine lv_iconst (pc := 27) (v := 0) hx hb dX0_breathIn_27 (by decide) ?_
      refine lv_iload_n (pc := 28) hx hb dX0_breathIn_28 rfl (lv_at hl 2 rfl) ?_
      refine lv_aload_n (pc := 29) hx hb dX0_breathIn_29 rfl (lv_at hl 0 rfl) ?_
      refine gB_20_0 (pc := 30) hNN hx hb hts hown hK h fl_X0_9 dX0_breathIn_30 ?_
      refine gB_1_0 (pc := 33) hNN hx hb hts hown hK h fl_X0_25 dX0_breathIn_33 ?_
      refine gB_2_0 (pc := 36) hNN hx hb hts hown hK h fl_X0_65 dX0_breathIn_36 ?_
      refine lv_iload_n (pc := 39) hx hb dX0_breathIn_39 rfl (lv_at hl 1 rfl) ?_
      obtain ⟨hin, hf⟩ := cki_e hf
      refine gB_3 (pc := 40) hNN hx hb hK h hin dX0_breathIn_40 ?_
      refine lv_isub (pc := 41) hx hb dX0_breathIn_41 ?_
      refine rMmax (pc := 42) hx hb (hml.trans hl.1.symm) hown hts ml_X0_51 (Nat.le_trans (by decide) hF) (Nat.le_trans (by decide) hLo) (Nat.le_of_ble_eq_true rfl) ⟨Nat.zero_le _, Nat.zero_le _⟩ dX0_breathIn_42 ?_
      exact hret (so hf) rfl rfl dX0_breathIn_45 h
    · have hf := if_f hf c4
      refine lv_iconst (pc := 25) (v := 0) hx hb dX0_breathIn_25 (by decide) ?_
      exact hret (so hf) rfl rfl dX0_breathIn_26 h
theorem k_X0_breathIn {p : Program} {l : Launch} {e : Env} {R : Room} {s : State} {m : MethodId} {args : Array Value} {below : List Frame} {meth : Method} {c : Code} {H : Heap} {locs : List Loc} {cells slots : Nat} {Q : State → Prop} {pc : Nat} {ls : Array Slot} {rest : List Value} {cc : ByteArray} {D : va_G} {cI cJ cR : ClassId} {a : Nat → Nat} {u : St} {own : String} {index nL : Nat} {N : Nat} (hNN : 38 ≤ N) {p1 : Int32} {p2 : Int32} {rr : Int32} (hx : p.tables.exec = Jvm.exec) (hb : c.code = cc) (hml : c.maxLocals = nL) (hown : s.vm.findClass own = some m.cls) (hts : ∀ w ∈ Gd, w.before args s = true) (hK : va_K D vwCl (tyB cI cJ cR) s) (hN : NB s) (hc : f_X0_breathIn u p1 p2 = some rr) (hlk : Cond.methodLink own index yX0_breathIn ∈ Gd) (hF : 2 ≤ R.frames) (hLo : 43 ≤ R.locals) (h : Hh D (AB N a s.heap.size) (wX N a (EB a cI cJ cR) u) s.heap H locs) (hsize : ls.size = nL) (hcs : cells ≤ R.cells ∧ slots ≤ R.slots) (hr : (rest.map fun v => v.category).sum ≤ 8) (hdg : decode cc pc = .ok (.invokevirtual index, 3)) (kk : ∀ (H1 : Heap) (locs1 : List Loc), Hh D (AB N a s.heap.size) (wX N a (EB a cI cJ cR) u) s.heap H1 locs1 → W p l e R s m args below meth c H1 locs1 cells slots Q (F0 m (pc + 3) ls (.int rr :: rest))) : W p l e R s m args below meth c H locs cells slots Q (F0 m pc ls (.int p2 :: .int p1 :: .ref (a 20) :: rest)) :=
  cVi (n := 2) hx hb hml hown hts hK hN (c_X0_breathIn hNN hc) (gdV hlk im_X0_breathIn se_X0_breathIn in_X0 co_X0_breathIn) rfl (by decide +kernel) rfl hF hLo h hsize hcs (Nat.lt_of_lt_of_le (by decide) hNN) rfl rfl rfl hr hdg kk
def f_X0_riseAt (u : St) (p1 : Int32) (p2 : Int32) (p3 : Int32) : Option (Int32) := b1 (f_X0_breathIn u p2 p1) (fun (x1 : Int32) => some (mxI 0 (x1 - p3)))
set_option maxRecDepth 100000 in
set_option maxHeartbeats 4000000 in
theorem c_X0_riseAt {l : Launch} {D : va_G} {cI cJ cR : ClassId} {a : Nat → Nat} {u : St} {N : Nat} (hNN : 38 ≤ N) {p1 : Int32} {p2 : Int32} {p3 : Int32} {rr : Int32} (hf : f_X0_riseAt u p1 p2 p3 = some rr) : Ci l yX0_riseAt cX0_riseAt 4 (some .int) 2 43 D (tyB cI cJ cR) N a (EB a cI cJ cR) [.ref (a 20), .int p1, .int p2, .int p3] u rr u := by
  refine metI (by decide +kernel) (Nat.le_of_ble_eq_true rfl) ?_
  intro p e s m args below meth c R Q hx hb hml hown hts hF hLo hret hK hN h ls hl
  have hown : s.vm.findClass RX0 = some m.cls := hown
  have hl : lv_has ls 4 [(0, .ref (a 20)), (1, .int p1), (2, .int p2), (3, .int p3)] := hl
  unfold f_X0_riseAt at hf
  refine lv_iconst (pc := 0) (v := 0) hx hb dX0_riseAt_0 (by decide) ?_
  refine lv_aload_n (pc := 1) hx hb dX0_riseAt_1 rfl (lv_at hl 0 rfl) ?_
  refine lv_iload_n (pc := 2) hx hb dX0_riseAt_2 rfl (lv_at hl 2 rfl) ?_
  refine lv_iload_n (pc := 3) hx hb dX0_riseAt_3 rfl (lv_at hl 1 rfl) ?_
  obtain ⟨x1, hc, hf⟩ := b1_e hf
  refine k_X0_breathIn (pc := 4) hNN hx hb hml hown hts hK hN hc ml_X0_68 (Nat.le_trans (by decide) hF) (Nat.le_trans (by decide) hLo) h hl.1 ⟨Nat.zero_le _, Nat.zero_le _⟩ (Nat.le_of_ble_eq_true rfl) dX0_riseAt_4 (fun H locs h => ?_)
  refine lv_iload_n (pc := 7) hx hb dX0_riseAt_7 rfl (lv_at hl 3 rfl) ?_
  refine lv_isub (pc := 8) hx hb dX0_riseAt_8 ?_
  refine rMmax (pc := 9) hx hb (hml.trans hl.1.symm) hown hts ml_X0_51 (Nat.le_trans (by decide) hF) (Nat.le_trans (by decide) hLo) (Nat.le_of_ble_eq_true rfl) ⟨Nat.zero_le _, Nat.zero_le _⟩ dX0_riseAt_9 ?_
  exact hret (so hf) rfl rfl dX0_riseAt_12 h
theorem k_X0_riseAt {p : Program} {l : Launch} {e : Env} {R : Room} {s : State} {m : MethodId} {args : Array Value} {below : List Frame} {meth : Method} {c : Code} {H : Heap} {locs : List Loc} {cells slots : Nat} {Q : State → Prop} {pc : Nat} {ls : Array Slot} {rest : List Value} {cc : ByteArray} {D : va_G} {cI cJ cR : ClassId} {a : Nat → Nat} {u : St} {own : String} {index nL : Nat} {N : Nat} (hNN : 38 ≤ N) {p1 : Int32} {p2 : Int32} {p3 : Int32} {rr : Int32} (hx : p.tables.exec = Jvm.exec) (hb : c.code = cc) (hml : c.maxLocals = nL) (hown : s.vm.findClass own = some m.cls) (hts : ∀ w ∈ Gd, w.before args s = true) (hK : va_K D vwCl (tyB cI cJ cR) s) (hN : NB s) (hc : f_X0_riseAt u p1 p2 p3 = some rr) (hlk : Cond.methodLink own index yX0_riseAt ∈ Gd) (hF : 3 ≤ R.frames) (hLo : 66 ≤ R.locals) (h : Hh D (AB N a s.heap.size) (wX N a (EB a cI cJ cR) u) s.heap H locs) (hsize : ls.size = nL) (hcs : cells ≤ R.cells ∧ slots ≤ R.slots) (hr : (rest.map fun v => v.category).sum ≤ 8) (hdg : decode cc pc = .ok (.invokevirtual index, 3)) (kk : ∀ (H1 : Heap) (locs1 : List Loc), Hh D (AB N a s.heap.size) (wX N a (EB a cI cJ cR) u) s.heap H1 locs1 → W p l e R s m args below meth c H1 locs1 cells slots Q (F0 m (pc + 3) ls (.int rr :: rest))) : W p l e R s m args below meth c H locs cells slots Q (F0 m pc ls (.int p3 :: .int p2 :: .int p1 :: .ref (a 20) :: rest)) :=
  cVi (n := 3) hx hb hml hown hts hK hN (c_X0_riseAt hNN hc) (gdV hlk im_X0_riseAt se_X0_riseAt in_X0 co_X0_riseAt) rfl (by decide +kernel) rfl hF hLo h hsize hcs (Nat.lt_of_lt_of_le (by decide) hNN) rfl rfl rfl hr hdg kk
def f_X7_has (u : St) (p1 : Int32) : Option (Int32) := if p1 < 0 then some 0 else if 8 ≤ p1 then some 0 else b1 (f_X11_hasBit u (u.1 5 4) p1) (fun (x3 : Int32) => if x3 = 0 then some 0 else some 1)
set_option maxRecDepth 100000 in
set_option maxHeartbeats 4000000 in
theorem c_X7_has {l : Launch} {D : va_G} {cI cJ cR : ClassId} {a : Nat → Nat} {u : St} {N : Nat} (hNN : 38 ≤ N) {p1 : Int32} {rr : Int32} (hf : f_X7_has u p1 = some rr) : Ci l yX7_has cX7_has 2 (some .boolean) 1 21 D (tyB cI cJ cR) N a (EB a cI cJ cR) [.ref (a 5), .int p1] u rr u := by
  refine metI (by decide +kernel) (Nat.le_of_ble_eq_true rfl) ?_
  intro p e s m args below meth c R Q hx hb hml hown hts hF hLo hret hK hN h ls hl
  have hown : s.vm.findClass RX7 = some m.cls := hown
  have hl : lv_has ls 2 [(0, .ref (a 5)), (1, .int p1)] := hl
  unfold f_X7_has at hf
  refine lv_iload_n (pc := 0) hx hb dX7_has_0 rfl (lv_at hl 1 rfl) ?_
  refine lv_if_lt (pc := 1) (tgt := 25) hx hb dX7_has_1 (by decide) (fun c1 => ?_) (fun c1 => ?_)
  · have hf := if_t hf c1
    refine lv_iconst (pc := 25) (v := 0) hx hb dX7_has_25 (by decide) ?_
    exact hret (so hf) rfl rfl dX7_has_26 h
  · have hf := if_f hf c1
    refine lv_iload_n (pc := 4) hx hb dX7_has_4 rfl (lv_at hl 1 rfl) ?_
    refine lv_bipush (pc := 5) (v := 8) hx hb dX7_has_5 (by decide) ?_
    refine lv_icmp_ge (pc := 7) (tgt := 25) hx hb dX7_has_7 (by decide) (fun c2 => ?_) (fun c2 => ?_)
    · have hf := if_t hf c2
      refine lv_iconst (pc := 25) (v := 0) hx hb dX7_has_25 (by decide) ?_
      exact hret (so hf) rfl rfl dX7_has_26 h
    · have hf := if_f hf c2
      refine lv_aload_n (pc := 10) hx hb dX7_has_10 rfl (lv_at hl 0 rfl) ?_
      refine gB_5_4 (pc := 11) hNN hx hb hts hown hK h fl_X7_24 dX7_has_11 ?_
      refine lv_iload_n (pc := 14) hx hb dX7_has_14 rfl (lv_at hl 1 rfl) ?_
      obtain ⟨x3, hc, hf⟩ := b1_e hf
      refine kN_X11_hasBit (pc := 15) hNN hx hb hml hown hts hK hN hc (nl_X7_28 hN) (Nat.le_trans (by decide) hF) (Nat.le_trans (by decide) hLo) h hl.1 ⟨Nat.zero_le _, Nat.zero_le _⟩ (Nat.le_of_ble_eq_true rfl) dX7_has_15 (fun H locs h => ?_)
      refine lv_if_eq (pc := 18) (tgt := 25) hx hb dX7_has_18 (by decide) (fun c4 => ?_) (fun c4 => ?_)
      · have hf := if_t hf c4
        refine lv_iconst (pc := 25) (v := 0) hx hb dX7_has_25 (by decide) ?_
        exact hret (so hf) rfl rfl dX7_has_26 h
      · have hf := if_f hf c4
        refine lv_iconst (pc := 21) (v := 1) hx hb dX7_has_21 (by decide) ?_
        refine lv_goto (pc := 22) (tgt := 26) hx hb dX7_has_22 (by decide) ?_
        exact hret (so hf) rfl rfl dX7_has_26 h
theorem k_X7_has {p : Program} {l : Launch} {e : Env} {R : Room} {s : State} {m : MethodId} {args : Array Value} {below : List Frame} {meth : Method} {c : Code} {H : Heap} {locs : List Loc} {cells slots : Nat} {Q : State → Prop} {pc : Nat} {ls : Array Slot} {rest : List Value} {cc : ByteArray} {D : va_G} {cI cJ cR : ClassId} {a : Nat → Nat} {u : St} {own : String} {index nL : Nat} {N : Nat} (hNN : 38 ≤ N) {p1 : Int32} {rr : Int32} (hx : p.tables.exec = Jvm.exec) (hb : c.code = cc) (hml : c.maxLocals = nL) (hown : s.vm.findClass own = some m.cls) (hts : ∀ w ∈ Gd, w.before args s = true) (hK : va_K D vwCl (tyB cI cJ cR) s) (hN : NB s) (hc : f_X7_has u p1 = some rr) (hlk : Cond.methodLink own index yX7_has ∈ Gd) (hF : 2 ≤ R.frames) (hLo : 42 ≤ R.locals) (h : Hh D (AB N a s.heap.size) (wX N a (EB a cI cJ cR) u) s.heap H locs) (hsize : ls.size = nL) (hcs : cells ≤ R.cells ∧ slots ≤ R.slots) (hr : (rest.map fun v => v.category).sum ≤ 8) (hdg : decode cc pc = .ok (.invokevirtual index, 3)) (kk : ∀ (H1 : Heap) (locs1 : List Loc), Hh D (AB N a s.heap.size) (wX N a (EB a cI cJ cR) u) s.heap H1 locs1 → W p l e R s m args below meth c H1 locs1 cells slots Q (F0 m (pc + 3) ls (.int rr :: rest))) : W p l e R s m args below meth c H locs cells slots Q (F0 m pc ls (.int p1 :: .ref (a 5) :: rest)) :=
  cVi (n := 1) hx hb hml hown hts hK hN (c_X7_has hNN hc) (gdV hlk im_X7_has se_X7_has in_X7 co_X7_has) rfl (by decide +kernel) rfl hF hLo h hsize hcs (Nat.lt_of_lt_of_le (by decide) hNN) rfl rfl rfl hr hdg kk
def f_X11_within (u : St) (p1 : Int32) (p2 : Int32) (p3 : Int32) : Option (Int32) := if p1 < p2 then some 0 else if p3 < p1 then some 0 else some 1
set_option maxRecDepth 100000 in
set_option maxHeartbeats 4000000 in
theorem c_X11_within {l : Launch} {D : va_G} {cI cJ cR : ClassId} {a : Nat → Nat} {u : St} {N : Nat} (hNN : 38 ≤ N) {p1 : Int32} {p2 : Int32} {p3 : Int32} {rr : Int32} (hf : f_X11_within u p1 p2 p3 = some rr) : Ci l yX11_within cX11_within 3 (some .boolean) 0 0 D (tyB cI cJ cR) N a (EB a cI cJ cR) [.int p1, .int p2, .int p3] u rr u := by
  refine metI (by decide +kernel) (Nat.le_of_ble_eq_true rfl) ?_
  intro p e s m args below meth c R Q hx hb hml hown hts hF hLo hret hK hN h ls hl
  have hown : s.vm.findClass RX11 = some m.cls := hown
  have hl : lv_has ls 3 [(0, .int p1), (1, .int p2), (2, .int p3)] := hl
  unfold f_X11_within at hf
  refine lv_iload_n (pc := 0) hx hb dX11_within_0 rfl (lv_at hl 0 rfl) ?_
  refine lv_iload_n (pc := 1) hx hb dX11_within_1 rfl (lv_at hl 1 rfl) ?_
  refine lv_icmp_lt (pc := 2) (tgt := 14) hx hb dX11_within_2 (by decide) (fun c1 => ?_) (fun c1 => ?_)
  · have hf := if_t hf c1
    refine lv_iconst (pc := 14) (v := 0) hx hb dX11_within_14 (by decide) ?_
    exact hret (so hf) rfl rfl dX11_within_15 h
  · have hf := if_f hf c1
    refine lv_iload_n (pc := 5) hx hb dX11_within_5 rfl (lv_at hl 0 rfl) ?_
    refine lv_iload_n (pc := 6) hx hb dX11_within_6 rfl (lv_at hl 2 rfl) ?_
    refine lv_icmp_gt (pc := 7) (tgt := 14) hx hb dX11_within_7 (by decide) (fun c2 => ?_) (fun c2 => ?_)
    · have hf := if_t hf c2
      refine lv_iconst (pc := 14) (v := 0) hx hb dX11_within_14 (by decide) ?_
      exact hret (so hf) rfl rfl dX11_within_15 h
    · have hf := if_f hf c2
      refine lv_iconst (pc := 10) (v := 1) hx hb dX11_within_10 (by decide) ?_
      refine lv_goto (pc := 11) (tgt := 15) hx hb dX11_within_11 (by decide) ?_
      exact hret (so hf) rfl rfl dX11_within_15 h
theorem kS_X11_within {p : Program} {l : Launch} {e : Env} {R : Room} {s : State} {m : MethodId} {args : Array Value} {below : List Frame} {meth : Method} {c : Code} {H : Heap} {locs : List Loc} {cells slots : Nat} {Q : State → Prop} {pc : Nat} {ls : Array Slot} {rest : List Value} {cc : ByteArray} {D : va_G} {cI cJ cR : ClassId} {a : Nat → Nat} {u : St} {own : String} {index nL : Nat} {N : Nat} (hNN : 38 ≤ N) {p1 : Int32} {p2 : Int32} {p3 : Int32} {rr : Int32} (hx : p.tables.exec = Jvm.exec) (hb : c.code = cc) (hml : c.maxLocals = nL) (hown : s.vm.findClass own = some m.cls) (hts : ∀ w ∈ Gd, w.before args s = true) (hK : va_K D vwCl (tyB cI cJ cR) s) (hN : NB s) (hc : f_X11_within u p1 p2 p3 = some rr) (hlk : Cond.methodLink own index yX11_within ∈ Gd) (hF : 1 ≤ R.frames) (hLo : 22 ≤ R.locals) (h : Hh D (AB N a s.heap.size) (wX N a (EB a cI cJ cR) u) s.heap H locs) (hsize : ls.size = nL) (hcs : cells ≤ R.cells ∧ slots ≤ R.slots) (hr : (rest.map fun v => v.category).sum ≤ 8) (hdg : decode cc pc = .ok (.invokestatic index, 3)) (kk : ∀ (H1 : Heap) (locs1 : List Loc), Hh D (AB N a s.heap.size) (wX N a (EB a cI cJ cR) u) s.heap H1 locs1 → W p l e R s m args below meth c H1 locs1 cells slots Q (F0 m (pc + 3) ls (.int rr :: rest))) : W p l e R s m args below meth c H locs cells slots Q (F0 m pc ls (.int p3 :: .int p2 :: .int p1 :: rest)) :=
  cSi (n := 3) hx hb hml hown hts hK hN (c_X11_within hNN hc) (gdS hlk sm_X11_within in_X11 co_X11_within) (by decide +kernel) rfl hF hLo h hsize hcs rfl hr hdg kk
theorem kN_X11_within {p : Program} {l : Launch} {e : Env} {R : Room} {s : State} {m : MethodId} {args : Array Value} {below : List Frame} {meth : Method} {c : Code} {H : Heap} {locs : List Loc} {cells slots : Nat} {Q : State → Prop} {pc : Nat} {ls : Array Slot} {rest : List Value} {cc : ByteArray} {D : va_G} {cI cJ cR : ClassId} {a : Nat → Nat} {u : St} {own : String} {index nL : Nat} {N : Nat} (hNN : 38 ≤ N) {p1 : Int32} {p2 : Int32} {p3 : Int32} {rr : Int32} (hx : p.tables.exec = Jvm.exec) (hb : c.code = cc) (hml : c.maxLocals = nL) (hown : s.vm.findClass own = some m.cls) (hts : ∀ w ∈ Gd, w.before args s = true) (hK : va_K D vwCl (tyB cI cJ cR) s) (hN : NB s) (hc : f_X11_within u p1 p2 p3 = some rr) {host : String} (hnl : va_Nw (.methodLinkNest own index yX11_within host) s) (hF : 1 ≤ R.frames) (hLo : 22 ≤ R.locals) (h : Hh D (AB N a s.heap.size) (wX N a (EB a cI cJ cR) u) s.heap H locs) (hsize : ls.size = nL) (hcs : cells ≤ R.cells ∧ slots ≤ R.slots) (hr : (rest.map fun v => v.category).sum ≤ 8) (hdg : decode cc pc = .ok (.invokestatic index, 3)) (kk : ∀ (H1 : Heap) (locs1 : List Loc), Hh D (AB N a s.heap.size) (wX N a (EB a cI cJ cR) u) s.heap H1 locs1 → W p l e R s m args below meth c H1 locs1 cells slots Q (F0 m (pc + 3) ls (.int rr :: rest))) : W p l e R s m args below meth c H locs cells slots Q (F0 m pc ls (.int p3 :: .int p2 :: .int p1 :: rest)) :=
  cNi (n := 3) hx hb hml hown hts hK hN (c_X11_within hNN hc) co_X11_within sm_X11_within in_X11 hnl (by decide +kernel) rfl hF hLo h hsize hcs rfl hr hdg kk
def B_X0_acidBehind_18 (p1 : Int32) (p2 : Int32) (p3 : Int32) (u : St) (k3 : Int32 → Option (Int32)) (rec10 : Int32 → Int32 → Option (Int32)) (x1 : Int32) (x2 : Int32) : Option (Int32) := if p1 ≤ x2 then k3 x1 else if (u.1 10 1) ≤ x2 then k3 x1 else ck (¬ (u.1 10 1) = 0) (bs ((((p1 - (1 : Int32)) - x2) / (u.1 10 1)) + (1 : Int32)) (fun x13 : Int32 => b1 (f_X0_levelOn u x2) (fun (x14 : Int32) => b1 (f_X0_riseAt u x14 p2 p3) (fun (x15 : Int32) => rec10 (x1 + (x13 * x15)) (x2 + 1)))))
def f_X0_acidBehind (u : St) (p1 : Int32) (p2 : Int32) (p3 : Int32) : Option (Int32) := jq_1 (fun (x4 : Int32) => b1 (f_X11_within u (u.1 20 3) 0 (p1 - (1 : Int32))) (fun (x5 : Int32) => if x5 = 0 then some (mnI 99 x4) else b1 (f_X0_levelOn u (u.1 20 3)) (fun (x7 : Int32) => b1 (f_X0_riseAt u (x7 + (1 : Int32)) p2 p3) (fun (x8 : Int32) => b1 (f_X0_riseAt u x7 p2 p3) (fun (x9 : Int32) => some (mnI 99 (x4 + (x8 - x9)))))))) (fun (k3 : Int32 → Option (Int32)) => lq_2 (B_X0_acidBehind_18 p1 p2 p3 u k3) FU 0 0)
set_option maxRecDepth 100000 in
set_option maxHeartbeats 4000000 in
theorem c_X0_acidBehind {l : Launch} {D : va_G} {cI cJ cR : ClassId} {a : Nat → Nat} {u : St} {N : Nat} (hNN : 38 ≤ N) {p1 : Int32} {p2 : Int32} {p3 : Int32} {rr : Int32} (hf : f_X0_acidBehind u p1 p2 p3 = some rr) : Ci l yX0_acidBehind cX0_acidBehind 8 (some .int) 3 66 D (tyB cI cJ cR) N a (EB a cI cJ cR) [.ref (a 20), .int p1, .int p2, .int p3] u rr u := by
  refine metI (by decide +kernel) (Nat.le_of_ble_eq_true rfl) ?_
  intro p e s m args below meth c R Q hx hb hml hown hts hF hLo hret hK hN h ls hl
  have hown : s.vm.findClass RX0 = some m.cls := hown
  have hl : lv_has ls 8 [(0, .ref (a 20)), (1, .int p1), (2, .int p2), (3, .int p3)] := hl
  unfold f_X0_acidBehind at hf
  refine lv_aload_n (pc := 0) hx hb dX0_acidBehind_0 rfl (lv_at hl 0 rfl) ?_
  refine gB_20_0 (pc := 1) hNN hx hb hts hown hK h fl_X0_9 dX0_acidBehind_1 ?_
  refine gB_1_2 (pc := 4) hNN hx hb hts hown hK h fl_X0_41 dX0_acidBehind_4 ?_
  refine gB_10_1 (pc := 7) hNN hx hb hts hown hK h fl_X0_88 dX0_acidBehind_7 ?_
  refine lv_istore (pc := 10) (lv' := [(4, .int (u.1 10 1)), (0, .ref (a 20)), (1, .int p1), (2, .int p2), (3, .int p3)]) hx hb dX0_acidBehind_10 hl (by decide) rfl (fun ls hl => ?_)
  refine lv_iconst (pc := 12) (v := 0) hx hb dX0_acidBehind_12 (by decide) ?_
  refine lv_istore (pc := 13) (lv' := [(5, .int 0), (4, .int (u.1 10 1)), (0, .ref (a 20)), (1, .int p1), (2, .int p2), (3, .int p3)]) hx hb dX0_acidBehind_13 hl (by decide) rfl (fun ls hl => ?_)
  refine lv_iconst (pc := 15) (v := 0) hx hb dX0_acidBehind_15 (by decide) ?_
  refine lv_istore (pc := 16) (lv' := [(6, .int 0), (5, .int 0), (4, .int (u.1 10 1)), (0, .ref (a 20)), (1, .int p1), (2, .int p2), (3, .int p3)]) hx hb dX0_acidBehind_16 hl (by decide) rfl (fun ls hl => ?_)
  obtain ⟨k3, hk3, hf⟩ := jq_1_e hf
  have jk3 : ∀ (x4 : Int32), k3 x4 = some rr → ∀ (H : Heap) (locs : List Loc) (ls : Array Slot), Hh D (AB N a s.heap.size) (wX N a (EB a cI cJ cR) u) s.heap H locs → lv_has ls 8 [(0, .ref (a 20)), (1, .int p1), (2, .int p2), (3, .int p3), (5, .int x4)] → W p l e R s m args below meth c H locs 0 0 Q (F0 m 70 ls []) := by
    intro x4 hf H locs ls h hl
    rw [hk3] at hf
    refine lv_aload_n (pc := 70) hx hb dX0_acidBehind_70 rfl (lv_at hl 0 rfl) ?_
    refine gB_20_3 (pc := 71) hNN hx hb hts hown hK h fl_X0_35 dX0_acidBehind_71 ?_
    refine lv_iconst (pc := 74) (v := 0) hx hb dX0_acidBehind_74 (by decide) ?_
    refine lv_iload_n (pc := 75) hx hb dX0_acidBehind_75 rfl (lv_at hl 1 rfl) ?_
    refine lv_iconst (pc := 76) (v := 1) hx hb dX0_acidBehind_76 (by decide) ?_
    refine lv_isub (pc := 77) hx hb dX0_acidBehind_77 ?_
    obtain ⟨x5, hc, hf⟩ := b1_e hf
    refine kN_X11_within (pc := 78) hNN hx hb hml hown hts hK hN hc (nl_X0_97 hN) (Nat.le_trans (by decide) hF) (Nat.le_trans (by decide) hLo) h hl.1 ⟨Nat.zero_le _, Nat.zero_le _⟩ (Nat.le_of_ble_eq_true rfl) dX0_acidBehind_78 (fun H locs h => ?_)
    refine lv_if_eq (pc := 81) (tgt := 118) hx hb dX0_acidBehind_81 (by decide) (fun c6 => ?_) (fun c6 => ?_)
    · have hf := if_t hf c6
      refine lv_bipush (pc := 118) (v := 99) hx hb dX0_acidBehind_118 (by decide) ?_
      refine lv_iload (pc := 120) hx hb dX0_acidBehind_120 (lv_at hl 4 rfl) ?_
      refine rMmin (pc := 122) hx hb (hml.trans hl.1.symm) hown hts ml_X0_101 (Nat.le_trans (by decide) hF) (Nat.le_trans (by decide) hLo) (Nat.le_of_ble_eq_true rfl) ⟨Nat.zero_le _, Nat.zero_le _⟩ dX0_acidBehind_122 ?_
      exact hret (so hf) rfl rfl dX0_acidBehind_125 h
    · have hf := if_f hf c6
      refine lv_aload_n (pc := 84) hx hb dX0_acidBehind_84 rfl (lv_at hl 0 rfl) ?_
      refine lv_aload_n (pc := 85) hx hb dX0_acidBehind_85 rfl (lv_at hl 0 rfl) ?_
      refine gB_20_3 (pc := 86) hNN hx hb hts hown hK h fl_X0_35 dX0_acidBehind_86 ?_
      obtain ⟨x7, hc, hf⟩ := b1_e hf
      refine k_X0_levelOn (pc := 89) hNN hx hb hml hown hts hK hN hc ml_X0_91 (Nat.le_trans (by decide) hF) (Nat.le_trans (by decide) hLo) h hl.1 ⟨Nat.zero_le _, Nat.zero_le _⟩ (Nat.le_of_ble_eq_true rfl) dX0_acidBehind_89 (fun H locs h => ?_)
      refine lv_istore (pc := 92) (lv' := [(6, .int x7), (0, .ref (a 20)), (1, .int p1), (2, .int p2), (3, .int p3), (5, .int x4)]) hx hb dX0_acidBehind_92 hl (by decide) rfl (fun ls hl => ?_)
      refine lv_iload (pc := 94) hx hb dX0_acidBehind_94 (lv_at hl 5 rfl) ?_
      refine lv_aload_n (pc := 96) hx hb dX0_acidBehind_96 rfl (lv_at hl 1 rfl) ?_
      refine lv_iload (pc := 97) hx hb dX0_acidBehind_97 (lv_at hl 0 rfl) ?_
      refine lv_iconst (pc := 99) (v := 1) hx hb dX0_acidBehind_99 (by decide) ?_
      refine lv_iadd (pc := 100) hx hb dX0_acidBehind_100 ?_
      refine lv_iload_n (pc := 101) hx hb dX0_acidBehind_101 rfl (lv_at hl 3 rfl) ?_
      refine lv_iload_n (pc := 102) hx hb dX0_acidBehind_102 rfl (lv_at hl 4 rfl) ?_
      obtain ⟨x8, hc, hf⟩ := b1_e hf
      refine k_X0_riseAt (pc := 103) hNN hx hb hml hown hts hK hN hc ml_X0_94 (Nat.le_trans (by decide) hF) (Nat.le_trans (by decide) hLo) h hl.1 ⟨Nat.zero_le _, Nat.zero_le _⟩ (Nat.le_of_ble_eq_true rfl) dX0_acidBehind_103 (fun H locs h => ?_)
      refine lv_aload_n (pc := 106) hx hb dX0_acidBehind_106 rfl (lv_at hl 1 rfl) ?_
      refine lv_iload (pc := 107) hx hb dX0_acidBehind_107 (lv_at hl 0 rfl) ?_
      refine lv_iload_n (pc := 109) hx hb dX0_acidBehind_109 rfl (lv_at hl 3 rfl) ?_
      refine lv_iload_n (pc := 110) hx hb dX0_acidBehind_110 rfl (lv_at hl 4 rfl) ?_
      obtain ⟨x9, hc, hf⟩ := b1_e hf
      refine k_X0_riseAt (pc := 111) hNN hx hb hml hown hts hK hN hc ml_X0_94 (Nat.le_trans (by decide) hF) (Nat.le_trans (by decide) hLo) h hl.1 ⟨Nat.zero_le _, Nat.zero_le _⟩ (Nat.le_of_ble_eq_true rfl) dX0_acidBehind_111 (fun H locs h => ?_)
      refine lv_isub (pc := 114) hx hb dX0_acidBehind_114 ?_
      refine lv_iadd (pc := 115) hx hb dX0_acidBehind_115 ?_
      refine lv_istore (pc := 116) (lv' := [(5, .int (x4 + (x8 - x9))), (6, .int x7), (0, .ref (a 20)), (1, .int p1), (2, .int p2), (3, .int p3)]) hx hb dX0_acidBehind_116 hl (by decide) rfl (fun ls hl => ?_)
      refine lv_bipush (pc := 118) (v := 99) hx hb dX0_acidBehind_118 (by decide) ?_
      refine lv_iload (pc := 120) hx hb dX0_acidBehind_120 (lv_at hl 0 rfl) ?_
      refine rMmin (pc := 122) hx hb (hml.trans hl.1.symm) hown hts ml_X0_101 (Nat.le_trans (by decide) hF) (Nat.le_trans (by decide) hLo) (Nat.le_of_ble_eq_true rfl) ⟨Nat.zero_le _, Nat.zero_le _⟩ dX0_acidBehind_122 ?_
      exact hret (so hf) rfl rfl dX0_acidBehind_125 h
  refine lq_2_e (P := fun (x1 : Int32) (x2 : Int32) => ∀ (H : Heap) (locs : List Loc) (ls : Array Slot), Hh D (AB N a s.heap.size) (wX N a (EB a cI cJ cR) u) s.heap H locs → lv_has ls 8 [(0, .ref (a 20)), (1, .int p1), (2, .int p2), (3, .int p3), (4, .int (u.1 10 1)), (5, .int x1), (6, .int x2)] → W p l e R s m args below meth c H locs 0 0 Q (F0 m 18 ls [])) ?_ FU _ _ hf _ _ _ h (lv_sub hl [3, 4, 5, 6, 2, 1, 0] rfl)
  intro rec10 irec10 x1 x2 hf H locs ls h hl
  unfold B_X0_acidBehind_18 at hf
  refine lv_iload (pc := 18) hx hb dX0_acidBehind_18 (lv_at hl 6 rfl) ?_
  refine lv_iload_n (pc := 20) hx hb dX0_acidBehind_20 rfl (lv_at hl 1 rfl) ?_
  refine lv_icmp_ge (pc := 21) (tgt := 70) hx hb dX0_acidBehind_21 (by decide) (fun c11 => ?_) (fun c11 => ?_)
  · have hf := if_t hf c11
    exact jk3 _ hf _ _ _ h (lv_sub hl [0, 1, 2, 3, 5] rfl)
  · have hf := if_f hf c11
    refine lv_iload (pc := 24) hx hb dX0_acidBehind_24 (lv_at hl 6 rfl) ?_
    refine lv_iload (pc := 26) hx hb dX0_acidBehind_26 (lv_at hl 4 rfl) ?_
    refine lv_icmp_ge (pc := 28) (tgt := 70) hx hb dX0_acidBehind_28 (by decide) (fun c12 => ?_) (fun c12 => ?_)
    · have hf := if_t hf c12
      exact jk3 _ hf _ _ _ h (lv_sub hl [0, 1, 2, 3, 5] rfl)
    · have hf := if_f hf c12
      refine lv_iload_n (pc := 31) hx hb dX0_acidBehind_31 rfl (lv_at hl 1 rfl) ?_
      refine lv_iconst (pc := 32) (v := 1) hx hb dX0_acidBehind_32 (by decide) ?_
      refine lv_isub (pc := 33) hx hb dX0_acidBehind_33 ?_
      refine lv_iload (pc := 34) hx hb dX0_acidBehind_34 (lv_at hl 6 rfl) ?_
      refine lv_isub (pc := 36) hx hb dX0_acidBehind_36 ?_
      refine lv_iload (pc := 37) hx hb dX0_acidBehind_37 (lv_at hl 4 rfl) ?_
      obtain ⟨hne, hf⟩ := ck_e hf
      refine lv_idiv (pc := 39) hx hb dX0_acidBehind_39 hne ?_
      refine lv_iconst (pc := 40) (v := 1) hx hb dX0_acidBehind_40 (by decide) ?_
      refine lv_iadd (pc := 41) hx hb dX0_acidBehind_41 ?_
      obtain ⟨x13, ex13, hf⟩ := bs_e hf
      refine rTop ex13 ?_
      refine lv_istore (pc := 42) (lv' := [(7, .int x13), (0, .ref (a 20)), (1, .int p1), (2, .int p2), (3, .int p3), (4, .int (u.1 10 1)), (5, .int x1), (6, .int x2)]) hx hb dX0_acidBehind_42 hl (by decide) rfl (fun ls hl => ?_)
      refine lv_iload (pc := 44) hx hb dX0_acidBehind_44 (lv_at hl 6 rfl) ?_
      refine lv_iload (pc := 46) hx hb dX0_acidBehind_46 (lv_at hl 0 rfl) ?_
      refine lv_aload_n (pc := 48) hx hb dX0_acidBehind_48 rfl (lv_at hl 1 rfl) ?_
      refine lv_aload_n (pc := 49) hx hb dX0_acidBehind_49 rfl (lv_at hl 1 rfl) ?_
      refine lv_iload (pc := 50) hx hb dX0_acidBehind_50 (lv_at hl 7 rfl) ?_
      obtain ⟨x14, hc, hf⟩ := b1_e hf
      refine k_X0_levelOn (pc := 52) hNN hx hb hml hown hts hK hN hc ml_X0_91 (Nat.le_trans (by decide) hF) (Nat.le_trans (by decide) hLo) h hl.1 ⟨Nat.zero_le _, Nat.zero_le _⟩ (Nat.le_of_ble_eq_true rfl) dX0_acidBehind_52 (fun H locs h => ?_)
      refine lv_iload_n (pc := 55) hx hb dX0_acidBehind_55 rfl (lv_at hl 3 rfl) ?_
      refine lv_iload_n (pc := 56) hx hb dX0_acidBehind_56 rfl (lv_at hl 4 rfl) ?_
      obtain ⟨x15, hc, hf⟩ := b1_e hf
      refine k_X0_riseAt (pc := 57) hNN hx hb hml hown hts hK hN hc ml_X0_94 (Nat.le_trans (by decide) hF) (Nat.le_trans (by decide) hLo) h hl.1 ⟨Nat.zero_le _, Nat.zero_le _⟩ (Nat.le_of_ble_eq_true rfl) dX0_acidBehind_57 (fun H locs h => ?_)
      refine lv_imul (pc := 60) hx hb dX0_acidBehind_60 ?_
      refine lv_iadd (pc := 61) hx hb dX0_acidBehind_61 ?_
      refine lv_istore (pc := 62) (lv' := [(5, .int (x1 + (x13 * x15))), (7, .int x13), (0, .ref (a 20)), (1, .int p1), (2, .int p2), (3, .int p3), (4, .int (u.1 10 1)), (6, .int x2)]) hx hb dX0_acidBehind_62 hl (by decide) rfl (fun ls hl => ?_)
      refine lv_iinc (pc := 64) (v := x2 + 1) (lv' := [(6, .int (x2 + 1)), (5, .int (x1 + (x13 * x15))), (7, .int x13), (0, .ref (a 20)), (1, .int p1), (2, .int p2), (3, .int p3), (4, .int (u.1 10 1))]) hx hb dX0_acidBehind_64 hl (k := 7) rfl rfl (by decide) rfl (fun ls hl => ?_)
      refine lv_goto (pc := 67) (tgt := 18) hx hb dX0_acidBehind_67 (by decide) ?_
      exact irec10 _ _ hf _ _ _ h (lv_sub hl [3, 4, 5, 6, 7, 1, 0] rfl)
theorem k_X0_acidBehind {p : Program} {l : Launch} {e : Env} {R : Room} {s : State} {m : MethodId} {args : Array Value} {below : List Frame} {meth : Method} {c : Code} {H : Heap} {locs : List Loc} {cells slots : Nat} {Q : State → Prop} {pc : Nat} {ls : Array Slot} {rest : List Value} {cc : ByteArray} {D : va_G} {cI cJ cR : ClassId} {a : Nat → Nat} {u : St} {own : String} {index nL : Nat} {N : Nat} (hNN : 38 ≤ N) {p1 : Int32} {p2 : Int32} {p3 : Int32} {rr : Int32} (hx : p.tables.exec = Jvm.exec) (hb : c.code = cc) (hml : c.maxLocals = nL) (hown : s.vm.findClass own = some m.cls) (hts : ∀ w ∈ Gd, w.before args s = true) (hK : va_K D vwCl (tyB cI cJ cR) s) (hN : NB s) (hc : f_X0_acidBehind u p1 p2 p3 = some rr) (hlk : Cond.methodLink own index yX0_acidBehind ∈ Gd) (hF : 4 ≤ R.frames) (hLo : 93 ≤ R.locals) (h : Hh D (AB N a s.heap.size) (wX N a (EB a cI cJ cR) u) s.heap H locs) (hsize : ls.size = nL) (hcs : cells ≤ R.cells ∧ slots ≤ R.slots) (hr : (rest.map fun v => v.category).sum ≤ 8) (hdg : decode cc pc = .ok (.invokevirtual index, 3)) (kk : ∀ (H1 : Heap) (locs1 : List Loc), Hh D (AB N a s.heap.size) (wX N a (EB a cI cJ cR) u) s.heap H1 locs1 → W p l e R s m args below meth c H1 locs1 cells slots Q (F0 m (pc + 3) ls (.int rr :: rest))) : W p l e R s m args below meth c H locs cells slots Q (F0 m pc ls (.int p3 :: .int p2 :: .int p1 :: .ref (a 20) :: rest)) :=
  cVi (n := 3) hx hb hml hown hts hK hN (c_X0_acidBehind hNN hc) (gdV hlk im_X0_acidBehind se_X0_acidBehind in_X0 co_X0_acidBehind) rfl (by decide +kernel) rfl hF hLo h hsize hcs (Nat.lt_of_lt_of_le (by decide) hNN) rfl rfl rfl hr hdg kk
def f_X0_acidOf (u : St) (p1 : Int32) (p2 : Int32) : Option (Int32) := b1 (f_X7_has u p1) (fun (x1 : Int32) => if x1 = 0 then some 0 else cki p1 8 (cki p1 8 (b1 (f_X0_acidBehind u p2 (u.1 6 (ix p1)) (u.1 8 (ix p1))) (fun (x3 : Int32) => some x3))))
set_option maxRecDepth 100000 in
set_option maxHeartbeats 4000000 in
theorem c_X0_acidOf {l : Launch} {D : va_G} {cI cJ cR : ClassId} {a : Nat → Nat} {u : St} {N : Nat} (hNN : 38 ≤ N) {p1 : Int32} {p2 : Int32} {rr : Int32} (hf : f_X0_acidOf u p1 p2 = some rr) : Ci l yX0_acidOf cX0_acidOf 3 (some .int) 4 93 D (tyB cI cJ cR) N a (EB a cI cJ cR) [.ref (a 20), .int p1, .int p2] u rr u := by
  refine metI (by decide +kernel) (Nat.le_of_ble_eq_true rfl) ?_
  intro p e s m args below meth c R Q hx hb hml hown hts hF hLo hret hK hN h ls hl
  have hown : s.vm.findClass RX0 = some m.cls := hown
  have hl : lv_has ls 3 [(0, .ref (a 20)), (1, .int p1), (2, .int p2)] := hl
  unfold f_X0_acidOf at hf
  refine lv_aload_n (pc := 0) hx hb dX0_acidOf_0 rfl (lv_at hl 0 rfl) ?_
  refine gB_20_0 (pc := 1) hNN hx hb hts hown hK h fl_X0_9 dX0_acidOf_1 ?_
  refine gB_1_1 (pc := 4) hNN hx hb hts hown hK h fl_X0_71 dX0_acidOf_4 ?_
  refine lv_iload_n (pc := 7) hx hb dX0_acidOf_7 rfl (lv_at hl 1 rfl) ?_
  obtain ⟨x1, hc, hf⟩ := b1_e hf
  refine k_X7_has (pc := 8) hNN hx hb hml hown hts hK hN hc ml_X0_75 (Nat.le_trans (by decide) hF) (Nat.le_trans (by decide) hLo) h hl.1 ⟨Nat.zero_le _, Nat.zero_le _⟩ (Nat.le_of_ble_eq_true rfl) dX0_acidOf_8 (fun H locs h => ?_)
  refine lv_if_ne (pc := 11) (tgt := 16) hx hb dX0_acidOf_11 (by decide) (fun c2 => ?_) (fun c2 => ?_)
  · have hf := if_f hf c2
    refine lv_aload_n (pc := 16) hx hb dX0_acidOf_16 rfl (lv_at hl 0 rfl) ?_
    refine lv_iload_n (pc := 17) hx hb dX0_acidOf_17 rfl (lv_at hl 2 rfl) ?_
    refine lv_aload_n (pc := 18) hx hb dX0_acidOf_18 rfl (lv_at hl 0 rfl) ?_
    refine gB_20_0 (pc := 19) hNN hx hb hts hown hK h fl_X0_9 dX0_acidOf_19 ?_
    refine gB_1_1 (pc := 22) hNN hx hb hts hown hK h fl_X0_71 dX0_acidOf_22 ?_
    refine gB_5_0 (pc := 25) hNN hx hb hts hown hK h fl_X0_78 dX0_acidOf_25 ?_
    refine lv_iload_n (pc := 28) hx hb dX0_acidOf_28 rfl (lv_at hl 1 rfl) ?_
    obtain ⟨hin, hf⟩ := cki_e hf
    refine gB_6 (pc := 29) hNN hx hb hK h hin dX0_acidOf_29 ?_
    refine lv_aload_n (pc := 30) hx hb dX0_acidOf_30 rfl (lv_at hl 0 rfl) ?_
    refine gB_20_0 (pc := 31) hNN hx hb hts hown hK h fl_X0_9 dX0_acidOf_31 ?_
    refine gB_1_1 (pc := 34) hNN hx hb hts hown hK h fl_X0_71 dX0_acidOf_34 ?_
    refine gB_5_2 (pc := 37) hNN hx hb hts hown hK h fl_X0_81 dX0_acidOf_37 ?_
    refine lv_iload_n (pc := 40) hx hb dX0_acidOf_40 rfl (lv_at hl 1 rfl) ?_
    obtain ⟨hin, hf⟩ := cki_e hf
    refine gB_8 (pc := 41) hNN hx hb hK h hin dX0_acidOf_41 ?_
    obtain ⟨x3, hc, hf⟩ := b1_e hf
    refine k_X0_acidBehind (pc := 42) hNN hx hb hml hown hts hK hN hc ml_X0_84 (Nat.le_trans (by decide) hF) (Nat.le_trans (by decide) hLo) h hl.1 ⟨Nat.zero_le _, Nat.zero_le _⟩ (Nat.le_of_ble_eq_true rfl) dX0_acidOf_42 (fun H locs h => ?_)
    exact hret (so hf) rfl rfl dX0_acidOf_45 h
  · have hf := if_t hf c2
    refine lv_iconst (pc := 14) (v := 0) hx hb dX0_acidOf_14 (by decide) ?_
    exact hret (so hf) rfl rfl dX0_acidOf_15 h
theorem k_X0_acidOf {p : Program} {l : Launch} {e : Env} {R : Room} {s : State} {m : MethodId} {args : Array Value} {below : List Frame} {meth : Method} {c : Code} {H : Heap} {locs : List Loc} {cells slots : Nat} {Q : State → Prop} {pc : Nat} {ls : Array Slot} {rest : List Value} {cc : ByteArray} {D : va_G} {cI cJ cR : ClassId} {a : Nat → Nat} {u : St} {own : String} {index nL : Nat} {N : Nat} (hNN : 38 ≤ N) {p1 : Int32} {p2 : Int32} {rr : Int32} (hx : p.tables.exec = Jvm.exec) (hb : c.code = cc) (hml : c.maxLocals = nL) (hown : s.vm.findClass own = some m.cls) (hts : ∀ w ∈ Gd, w.before args s = true) (hK : va_K D vwCl (tyB cI cJ cR) s) (hN : NB s) (hc : f_X0_acidOf u p1 p2 = some rr) (hlk : Cond.methodLink own index yX0_acidOf ∈ Gd) (hF : 5 ≤ R.frames) (hLo : 115 ≤ R.locals) (h : Hh D (AB N a s.heap.size) (wX N a (EB a cI cJ cR) u) s.heap H locs) (hsize : ls.size = nL) (hcs : cells ≤ R.cells ∧ slots ≤ R.slots) (hr : (rest.map fun v => v.category).sum ≤ 8) (hdg : decode cc pc = .ok (.invokevirtual index, 3)) (kk : ∀ (H1 : Heap) (locs1 : List Loc), Hh D (AB N a s.heap.size) (wX N a (EB a cI cJ cR) u) s.heap H1 locs1 → W p l e R s m args below meth c H1 locs1 cells slots Q (F0 m (pc + 3) ls (.int rr :: rest))) : W p l e R s m args below meth c H locs cells slots Q (F0 m pc ls (.int p2 :: .int p1 :: .ref (a 20) :: rest)) :=
  cVi (n := 2) hx hb hml hown hts hK hN (c_X0_acidOf hNN hc) (gdV hlk im_X0_acidOf se_X0_acidOf in_X0 co_X0_acidOf) rfl (by decide +kernel) rfl hF hLo h hsize hcs (Nat.lt_of_lt_of_le (by decide) hNN) rfl rfl rfl hr hdg kk
def B_X1_begin_7 (k4 : St → Option (St)) (rec6 : St → Int32 → Option (St)) (u2 : St) (x3 : Int32) : Option (St) := if 8 ≤ x3 then k4 u2 else cki x3 8 (cki x3 8 (bs (sI u2 22 (ix x3) (u2.1 6 (ix x3))) (fun u8 : St => cki x3 8 (bs (sI u8 23 (ix x3) 0) (fun u9 : St => rec6 u9 (x3 + 1))))))
def f_X1_begin (u : St) : Option (St) := bs (sI u 21 5 0) (fun u1 : St => jq_1 (fun (u5 : St) => some u5) (fun (k4 : St → Option (St)) => lq_2 (B_X1_begin_7 k4) FU u1 0))
set_option maxRecDepth 100000 in
set_option maxHeartbeats 4000000 in
theorem c_X1_begin {l : Launch} {D : va_G} {cI cJ cR : ClassId} {a : Nat → Nat} {u : St} {N : Nat} (hNN : 38 ≤ N) {uu : St} (hf : f_X1_begin u = some uu) : Cv l yX1_begin cX1_begin 2 none 0 0 D (tyB cI cJ cR) N a (EB a cI cJ cR) [.ref (a 21)] u uu := by
  refine metV (by decide +kernel) (Nat.le_of_ble_eq_true rfl) ?_
  intro p e s m args below meth c R Q hx hb hml hown hts hF hLo hret hK hN h ls hl
  have hown : s.vm.findClass RX1 = some m.cls := hown
  have hl : lv_has ls 2 [(0, .ref (a 21))] := hl
  unfold f_X1_begin at hf
  refine lv_aload_n (pc := 0) hx hb dX1_begin_0 rfl (lv_at hl 0 rfl) ?_
  refine lv_iconst (pc := 1) (v := 0) hx hb dX1_begin_1 (by decide) ?_
  refine pB_21_5 (pc := 2) hNN hx hb hts hown hK h fl_X1_29 dX1_begin_2 (fun H locs h => ?_)
  obtain ⟨u1, eu1, hf⟩ := bs_e hf
  rw [← eu1] at h
  refine lv_iconst (pc := 5) (v := 0) hx hb dX1_begin_5 (by decide) ?_
  refine lv_istore_n (pc := 6) (lv' := [(1, .int 0), (0, .ref (a 21))]) hx hb dX1_begin_6 rfl hl (by decide) rfl (fun ls hl => ?_)
  obtain ⟨k4, hk4, hf⟩ := jq_1_e hf
  have jk4 : ∀ (u5 : St), k4 u5 = some uu → ∀ (H : Heap) (locs : List Loc) (ls : Array Slot), Hh D (AB N a s.heap.size) (wX N a (EB a cI cJ cR) u5) s.heap H locs → lv_has ls 2 [] → W p l e R s m args below meth c H locs 0 0 Q (F0 m 44 ls []) := by
    intro u5 hf H locs ls h hl
    rw [hk4] at hf
    exact hret (so hf) dX1_begin_44 h
  refine lq_2_e (P := fun (u2 : St) (x3 : Int32) => ∀ (H : Heap) (locs : List Loc) (ls : Array Slot), Hh D (AB N a s.heap.size) (wX N a (EB a cI cJ cR) u2) s.heap H locs → lv_has ls 2 [(0, .ref (a 21)), (1, .int x3)] → W p l e R s m args below meth c H locs 0 0 Q (F0 m 7 ls [])) ?_ FU _ _ hf _ _ _ h (lv_sub hl [1, 0] rfl)
  intro rec6 irec6 u2 x3 hf H locs ls h hl
  unfold B_X1_begin_7 at hf
  refine lv_iload_n (pc := 7) hx hb dX1_begin_7 rfl (lv_at hl 1 rfl) ?_
  refine lv_bipush (pc := 8) (v := 8) hx hb dX1_begin_8 (by decide) ?_
  refine lv_icmp_ge (pc := 10) (tgt := 44) hx hb dX1_begin_10 (by decide) (fun c7 => ?_) (fun c7 => ?_)
  · have hf := if_t hf c7
    exact jk4 _ hf _ _ _ h (lv_sub hl [] rfl)
  · have hf := if_f hf c7
    refine lv_aload_n (pc := 13) hx hb dX1_begin_13 rfl (lv_at hl 0 rfl) ?_
    refine gB_21_2 (pc := 14) hNN hx hb hts hown hK h fl_X1_9 dX1_begin_14 ?_
    refine lv_iload_n (pc := 17) hx hb dX1_begin_17 rfl (lv_at hl 1 rfl) ?_
    refine lv_aload_n (pc := 18) hx hb dX1_begin_18 rfl (lv_at hl 0 rfl) ?_
    refine gB_21_0 (pc := 19) hNN hx hb hts hown hK h fl_X1_21 dX1_begin_19 ?_
    refine gB_1_1 (pc := 22) hNN hx hb hts hown hK h fl_X1_33 dX1_begin_22 ?_
    refine gB_5_0 (pc := 25) hNN hx hb hts hown hK h fl_X1_39 dX1_begin_25 ?_
    refine lv_iload_n (pc := 28) hx hb dX1_begin_28 rfl (lv_at hl 1 rfl) ?_
    obtain ⟨hin, hf⟩ := cki_e hf
    refine gB_6 (pc := 29) hNN hx hb hK h hin dX1_begin_29 ?_
    obtain ⟨hin, hf⟩ := cki_e hf
    refine pB_22 (pc := 30) hNN hx hb hK h hin dX1_begin_30 (fun H locs h => ?_)
    obtain ⟨u8, eu8, hf⟩ := bs_e hf
    rw [← eu8] at h
    refine lv_aload_n (pc := 31) hx hb dX1_begin_31 rfl (lv_at hl 0 rfl) ?_
    refine gB_21_3 (pc := 32) hNN hx hb hts hown hK h fl_X1_15 dX1_begin_32 ?_
    refine lv_iload_n (pc := 35) hx hb dX1_begin_35 rfl (lv_at hl 1 rfl) ?_
    refine lv_iconst (pc := 36) (v := 0) hx hb dX1_begin_36 (by decide) ?_
    obtain ⟨hin, hf⟩ := cki_e hf
    refine pB_23 (pc := 37) hNN hx hb hK h hin dX1_begin_37 (fun H locs h => ?_)
    obtain ⟨u9, eu9, hf⟩ := bs_e hf
    rw [← eu9] at h
    refine lv_iinc (pc := 38) (v := x3 + 1) (lv' := [(1, .int (x3 + 1)), (0, .ref (a 21))]) hx hb dX1_begin_38 hl (k := 1) rfl rfl (by decide) rfl (fun ls hl => ?_)
    refine lv_goto (pc := 41) (tgt := 7) hx hb dX1_begin_41 (by decide) ?_
    exact irec6 _ _ hf _ _ _ h (lv_sub hl [1, 0] rfl)
theorem k_X1_begin {p : Program} {l : Launch} {e : Env} {R : Room} {s : State} {m : MethodId} {args : Array Value} {below : List Frame} {meth : Method} {c : Code} {H : Heap} {locs : List Loc} {cells slots : Nat} {Q : State → Prop} {pc : Nat} {ls : Array Slot} {rest : List Value} {cc : ByteArray} {D : va_G} {cI cJ cR : ClassId} {a : Nat → Nat} {u : St} {own : String} {index nL : Nat} {N : Nat} (hNN : 38 ≤ N) {uu : St} (hx : p.tables.exec = Jvm.exec) (hb : c.code = cc) (hml : c.maxLocals = nL) (hown : s.vm.findClass own = some m.cls) (hts : ∀ w ∈ Gd, w.before args s = true) (hK : va_K D vwCl (tyB cI cJ cR) s) (hN : NB s) (hc : f_X1_begin u = some uu) (hlk : Cond.methodLink own index yX1_begin ∈ Gd) (hF : 1 ≤ R.frames) (hLo : 21 ≤ R.locals) (h : Hh D (AB N a s.heap.size) (wX N a (EB a cI cJ cR) u) s.heap H locs) (hsize : ls.size = nL) (hcs : cells ≤ R.cells ∧ slots ≤ R.slots) (hr : (rest.map fun v => v.category).sum ≤ 8) (hdg : decode cc pc = .ok (.invokevirtual index, 3)) (kk : ∀ (H1 : Heap) (locs1 : List Loc), Hh D (AB N a s.heap.size) (wX N a (EB a cI cJ cR) uu) s.heap H1 locs1 → W p l e R s m args below meth c H1 locs1 cells slots Q (F0 m (pc + 3) ls (rest))) : W p l e R s m args below meth c H locs cells slots Q (F0 m pc ls (.ref (a 21) :: rest)) :=
  cVv (n := 0) hx hb hml hown hts hK hN (c_X1_begin hNN hc) (gdV hlk im_X1_begin se_X1_begin in_X1 co_X1_begin) rfl (by decide +kernel) rfl hF hLo h hsize hcs (Nat.lt_of_lt_of_le (by decide) hNN) rfl rfl rfl hr hdg kk
def B_X1_passDay_16 (p1 : Int32) (x1 : Int32) (k4 : St → Option (St)) (rec7 : St → Int32 → Option (St)) (u2 : St) (x3 : Int32) : Option (St) := if 8 ≤ x3 then k4 u2 else b1 (f_X7_has u2 x3) (fun (x9 : Int32) => if x9 = 0 then rec7 u2 (x3 + 1) else cki x3 8 (cki x3 8 (b1 (f_X0_riseAt u2 (x1 + p1) (u2.1 22 (ix x3)) (u2.1 8 (ix x3))) (fun (x11 : Int32) => cki x3 8 (cki x3 8 (bs (sI u2 23 (ix x3) (mnI 99 ((u2.1 23 (ix x3)) + x11))) (fun u12 : St => rec7 u12 (x3 + 1))))))))
def f_X1_passDay (u : St) (p1 : Int32) : Option (St) := b1 (f_X0_levelOn u (u.1 21 5)) (fun (x1 : Int32) => jq_1 (fun (u5 : St) => bs (sI u5 21 5 ((u5.1 21 5) + (1 : Int32))) (fun u6 : St => some u6)) (fun (k4 : St → Option (St)) => lq_2 (B_X1_passDay_16 p1 x1 k4) FU u 0))
set_option maxRecDepth 100000 in
set_option maxHeartbeats 4000000 in
theorem c_X1_passDay {l : Launch} {D : va_G} {cI cJ cR : ClassId} {a : Nat → Nat} {u : St} {N : Nat} (hNN : 38 ≤ N) {p1 : Int32} {uu : St} (hf : f_X1_passDay u p1 = some uu) : Cv l yX1_passDay cX1_passDay 5 none 3 66 D (tyB cI cJ cR) N a (EB a cI cJ cR) [.ref (a 21), .int p1] u uu := by
  refine metV (by decide +kernel) (Nat.le_of_ble_eq_true rfl) ?_
  intro p e s m args below meth c R Q hx hb hml hown hts hF hLo hret hK hN h ls hl
  have hown : s.vm.findClass RX1 = some m.cls := hown
  have hl : lv_has ls 5 [(0, .ref (a 21)), (1, .int p1)] := hl
  unfold f_X1_passDay at hf
  refine lv_aload_n (pc := 0) hx hb dX1_passDay_0 rfl (lv_at hl 0 rfl) ?_
  refine gB_21_1 (pc := 1) hNN hx hb hts hown hK h fl_X1_25 dX1_passDay_1 ?_
  refine lv_aload_n (pc := 4) hx hb dX1_passDay_4 rfl (lv_at hl 0 rfl) ?_
  refine gB_21_5 (pc := 5) hNN hx hb hts hown hK h fl_X1_29 dX1_passDay_5 ?_
  obtain ⟨x1, hc, hf⟩ := b1_e hf
  refine k_X0_levelOn (pc := 8) hNN hx hb hml hown hts hK hN hc ml_X1_42 (Nat.le_trans (by decide) hF) (Nat.le_trans (by decide) hLo) h hl.1 ⟨Nat.zero_le _, Nat.zero_le _⟩ (Nat.le_of_ble_eq_true rfl) dX1_passDay_8 (fun H locs h => ?_)
  refine lv_iload_n (pc := 11) hx hb dX1_passDay_11 rfl (lv_at hl 1 rfl) ?_
  refine lv_iadd (pc := 12) hx hb dX1_passDay_12 ?_
  refine lv_istore_n (pc := 13) (lv' := [(2, .int (x1 + p1)), (0, .ref (a 21)), (1, .int p1)]) hx hb dX1_passDay_13 rfl hl (by decide) rfl (fun ls hl => ?_)
  refine lv_iconst (pc := 14) (v := 0) hx hb dX1_passDay_14 (by decide) ?_
  refine lv_istore_n (pc := 15) (lv' := [(3, .int 0), (2, .int (x1 + p1)), (0, .ref (a 21)), (1, .int p1)]) hx hb dX1_passDay_15 rfl hl (by decide) rfl (fun ls hl => ?_)
  obtain ⟨k4, hk4, hf⟩ := jq_1_e hf
  have jk4 : ∀ (u5 : St), k4 u5 = some uu → ∀ (H : Heap) (locs : List Loc) (ls : Array Slot), Hh D (AB N a s.heap.size) (wX N a (EB a cI cJ cR) u5) s.heap H locs → lv_has ls 5 [(0, .ref (a 21))] → W p l e R s m args below meth c H locs 0 0 Q (F0 m 90 ls []) := by
    intro u5 hf H locs ls h hl
    rw [hk4] at hf
    refine lv_aload_n (pc := 90) hx hb dX1_passDay_90 rfl (lv_at hl 0 rfl) ?_
    refine lv_dup (pc := 91) hx hb dX1_passDay_91 rfl ?_
    refine gB_21_5 (pc := 92) hNN hx hb hts hown hK h fl_X1_29 dX1_passDay_92 ?_
    refine lv_iconst (pc := 95) (v := 1) hx hb dX1_passDay_95 (by decide) ?_
    refine lv_iadd (pc := 96) hx hb dX1_passDay_96 ?_
    refine pB_21_5 (pc := 97) hNN hx hb hts hown hK h fl_X1_29 dX1_passDay_97 (fun H locs h => ?_)
    obtain ⟨u6, eu6, hf⟩ := bs_e hf
    rw [← eu6] at h
    exact hret (so hf) dX1_passDay_100 h
  refine lq_2_e (P := fun (u2 : St) (x3 : Int32) => ∀ (H : Heap) (locs : List Loc) (ls : Array Slot), Hh D (AB N a s.heap.size) (wX N a (EB a cI cJ cR) u2) s.heap H locs → lv_has ls 5 [(0, .ref (a 21)), (2, .int (x1 + p1)), (3, .int x3)] → W p l e R s m args below meth c H locs 0 0 Q (F0 m 16 ls [])) ?_ FU _ _ hf _ _ _ h (lv_sub hl [2, 1, 0] rfl)
  intro rec7 irec7 u2 x3 hf H locs ls h hl
  unfold B_X1_passDay_16 at hf
  refine lv_iload_n (pc := 16) hx hb dX1_passDay_16 rfl (lv_at hl 2 rfl) ?_
  refine lv_bipush (pc := 17) (v := 8) hx hb dX1_passDay_17 (by decide) ?_
  refine lv_icmp_ge (pc := 19) (tgt := 90) hx hb dX1_passDay_19 (by decide) (fun c8 => ?_) (fun c8 => ?_)
  · have hf := if_t hf c8
    exact jk4 _ hf _ _ _ h (lv_sub hl [0] rfl)
  · have hf := if_f hf c8
    refine lv_aload_n (pc := 22) hx hb dX1_passDay_22 rfl (lv_at hl 0 rfl) ?_
    refine gB_21_0 (pc := 23) hNN hx hb hts hown hK h fl_X1_21 dX1_passDay_23 ?_
    refine gB_1_1 (pc := 26) hNN hx hb hts hown hK h fl_X1_33 dX1_passDay_26 ?_
    refine lv_iload_n (pc := 29) hx hb dX1_passDay_29 rfl (lv_at hl 2 rfl) ?_
    obtain ⟨x9, hc, hf⟩ := b1_e hf
    refine k_X7_has (pc := 30) hNN hx hb hml hown hts hK hN hc ml_X1_48 (Nat.le_trans (by decide) hF) (Nat.le_trans (by decide) hLo) h hl.1 ⟨Nat.zero_le _, Nat.zero_le _⟩ (Nat.le_of_ble_eq_true rfl) dX1_passDay_30 (fun H locs h => ?_)
    refine lv_if_eq (pc := 33) (tgt := 84) hx hb dX1_passDay_33 (by decide) (fun c10 => ?_) (fun c10 => ?_)
    · have hf := if_t hf c10
      refine lv_iinc (pc := 84) (v := x3 + 1) (lv' := [(3, .int (x3 + 1)), (0, .ref (a 21)), (2, .int (x1 + p1))]) hx hb dX1_passDay_84 hl (k := 2) rfl rfl (by decide) rfl (fun ls hl => ?_)
      refine lv_goto (pc := 87) (tgt := 16) hx hb dX1_passDay_87 (by decide) ?_
      exact irec7 _ _ hf _ _ _ h (lv_sub hl [1, 2, 0] rfl)
    · have hf := if_f hf c10
      refine lv_aload_n (pc := 36) hx hb dX1_passDay_36 rfl (lv_at hl 0 rfl) ?_
      refine gB_21_1 (pc := 37) hNN hx hb hts hown hK h fl_X1_25 dX1_passDay_37 ?_
      refine lv_iload_n (pc := 40) hx hb dX1_passDay_40 rfl (lv_at hl 1 rfl) ?_
      refine lv_aload_n (pc := 41) hx hb dX1_passDay_41 rfl (lv_at hl 0 rfl) ?_
      refine gB_21_2 (pc := 42) hNN hx hb hts hown hK h fl_X1_9 dX1_passDay_42 ?_
      refine lv_iload_n (pc := 45) hx hb dX1_passDay_45 rfl (lv_at hl 2 rfl) ?_
      obtain ⟨hin, hf⟩ := cki_e hf
      refine gB_22 (pc := 46) hNN hx hb hK h hin dX1_passDay_46 ?_
      refine lv_aload_n (pc := 47) hx hb dX1_passDay_47 rfl (lv_at hl 0 rfl) ?_
      refine gB_21_0 (pc := 48) hNN hx hb hts hown hK h fl_X1_21 dX1_passDay_48 ?_
      refine gB_1_1 (pc := 51) hNN hx hb hts hown hK h fl_X1_33 dX1_passDay_51 ?_
      refine gB_5_2 (pc := 54) hNN hx hb hts hown hK h fl_X1_52 dX1_passDay_54 ?_
      refine lv_iload_n (pc := 57) hx hb dX1_passDay_57 rfl (lv_at hl 2 rfl) ?_
      obtain ⟨hin, hf⟩ := cki_e hf
      refine gB_8 (pc := 58) hNN hx hb hK h hin dX1_passDay_58 ?_
      obtain ⟨x11, hc, hf⟩ := b1_e hf
      refine k_X0_riseAt (pc := 59) hNN hx hb hml hown hts hK hN hc ml_X1_55 (Nat.le_trans (by decide) hF) (Nat.le_trans (by decide) hLo) h hl.1 ⟨Nat.zero_le _, Nat.zero_le _⟩ (Nat.le_of_ble_eq_true rfl) dX1_passDay_59 (fun H locs h => ?_)
      refine lv_istore (pc := 62) (lv' := [(4, .int x11), (0, .ref (a 21)), (2, .int (x1 + p1)), (3, .int x3)]) hx hb dX1_passDay_62 hl (by decide) rfl (fun ls hl => ?_)
      refine lv_aload_n (pc := 64) hx hb dX1_passDay_64 rfl (lv_at hl 1 rfl) ?_
      refine gB_21_3 (pc := 65) hNN hx hb hts hown hK h fl_X1_15 dX1_passDay_65 ?_
      refine lv_iload_n (pc := 68) hx hb dX1_passDay_68 rfl (lv_at hl 3 rfl) ?_
      refine lv_bipush (pc := 69) (v := 99) hx hb dX1_passDay_69 (by decide) ?_
      refine lv_aload_n (pc := 71) hx hb dX1_passDay_71 rfl (lv_at hl 1 rfl) ?_
      refine gB_21_3 (pc := 72) hNN hx hb hts hown hK h fl_X1_15 dX1_passDay_72 ?_
      refine lv_iload_n (pc := 75) hx hb dX1_passDay_75 rfl (lv_at hl 3 rfl) ?_
      obtain ⟨hin, hf⟩ := cki_e hf
      refine gB_23 (pc := 76) hNN hx hb hK h hin dX1_passDay_76 ?_
      refine lv_iload (pc := 77) hx hb dX1_passDay_77 (lv_at hl 0 rfl) ?_
      refine lv_iadd (pc := 79) hx hb dX1_passDay_79 ?_
      refine rMmin (pc := 80) hx hb (hml.trans hl.1.symm) hown hts ml_X1_59 (Nat.le_trans (by decide) hF) (Nat.le_trans (by decide) hLo) (Nat.le_of_ble_eq_true rfl) ⟨Nat.zero_le _, Nat.zero_le _⟩ dX1_passDay_80 ?_
      obtain ⟨hin, hf⟩ := cki_e hf
      refine pB_23 (pc := 83) hNN hx hb hK h hin dX1_passDay_83 (fun H locs h => ?_)
      obtain ⟨u12, eu12, hf⟩ := bs_e hf
      rw [← eu12] at h
      refine lv_iinc (pc := 84) (v := x3 + 1) (lv' := [(3, .int (x3 + 1)), (4, .int x11), (0, .ref (a 21)), (2, .int (x1 + p1))]) hx hb dX1_passDay_84 hl (k := 3) rfl rfl (by decide) rfl (fun ls hl => ?_)
      refine lv_goto (pc := 87) (tgt := 16) hx hb dX1_passDay_87 (by decide) ?_
      exact irec7 _ _ hf _ _ _ h (lv_sub hl [2, 3, 0] rfl)
theorem k_X1_passDay {p : Program} {l : Launch} {e : Env} {R : Room} {s : State} {m : MethodId} {args : Array Value} {below : List Frame} {meth : Method} {c : Code} {H : Heap} {locs : List Loc} {cells slots : Nat} {Q : State → Prop} {pc : Nat} {ls : Array Slot} {rest : List Value} {cc : ByteArray} {D : va_G} {cI cJ cR : ClassId} {a : Nat → Nat} {u : St} {own : String} {index nL : Nat} {N : Nat} (hNN : 38 ≤ N) {p1 : Int32} {uu : St} (hx : p.tables.exec = Jvm.exec) (hb : c.code = cc) (hml : c.maxLocals = nL) (hown : s.vm.findClass own = some m.cls) (hts : ∀ w ∈ Gd, w.before args s = true) (hK : va_K D vwCl (tyB cI cJ cR) s) (hN : NB s) (hc : f_X1_passDay u p1 = some uu) (hlk : Cond.methodLink own index yX1_passDay ∈ Gd) (hF : 4 ≤ R.frames) (hLo : 90 ≤ R.locals) (h : Hh D (AB N a s.heap.size) (wX N a (EB a cI cJ cR) u) s.heap H locs) (hsize : ls.size = nL) (hcs : cells ≤ R.cells ∧ slots ≤ R.slots) (hr : (rest.map fun v => v.category).sum ≤ 8) (hdg : decode cc pc = .ok (.invokevirtual index, 3)) (kk : ∀ (H1 : Heap) (locs1 : List Loc), Hh D (AB N a s.heap.size) (wX N a (EB a cI cJ cR) uu) s.heap H1 locs1 → W p l e R s m args below meth c H1 locs1 cells slots Q (F0 m (pc + 3) ls (rest))) : W p l e R s m args below meth c H locs cells slots Q (F0 m pc ls (.int p1 :: .ref (a 21) :: rest)) :=
  cVv (n := 1) hx hb hml hown hts hK hN (c_X1_passDay hNN hc) (gdV hlk im_X1_passDay se_X1_passDay in_X1 co_X1_passDay) rfl (by decide +kernel) rfl hF hLo h hsize hcs (Nat.lt_of_lt_of_le (by decide) hNN) rfl rfl rfl hr hdg kk
def f_X9_isVinegar (u : St) (p1 : Int32) : Option (Int32) := cki 0 7 (if p1 < (u.1 16 (ix 0)) then some 0 else some 1)
set_option maxRecDepth 100000 in
set_option maxHeartbeats 4000000 in
theorem c_X9_isVinegar {l : Launch} {D : va_G} {cI cJ cR : ClassId} {a : Nat → Nat} {u : St} {N : Nat} (hNN : 38 ≤ N) {p1 : Int32} {rr : Int32} (hf : f_X9_isVinegar u p1 = some rr) : Ci l yX9_isVinegar cX9_isVinegar 2 (some .boolean) 0 0 D (tyB cI cJ cR) N a (EB a cI cJ cR) [.ref (a 1), .int p1] u rr u := by
  refine metI (by decide +kernel) (Nat.le_of_ble_eq_true rfl) ?_
  intro p e s m args below meth c R Q hx hb hml hown hts hF hLo hret hK hN h ls hl
  have hown : s.vm.findClass RX9 = some m.cls := hown
  have hl : lv_has ls 2 [(0, .ref (a 1)), (1, .int p1)] := hl
  unfold f_X9_isVinegar at hf
  refine lv_iload_n (pc := 0) hx hb dX9_isVinegar_0 rfl (lv_at hl 1 rfl) ?_
  refine lv_aload_n (pc := 1) hx hb dX9_isVinegar_1 rfl (lv_at hl 0 rfl) ?_
  refine gB_1_4 (pc := 2) hNN hx hb hts hown hK h fl_X9_48 dX9_isVinegar_2 ?_
  refine lv_iconst (pc := 5) (v := 0) hx hb dX9_isVinegar_5 (by decide) ?_
  obtain ⟨hin, hf⟩ := cki_e hf
  refine gB_16 (pc := 6) hNN hx hb hK h hin dX9_isVinegar_6 ?_
  refine lv_icmp_lt (pc := 7) (tgt := 14) hx hb dX9_isVinegar_7 (by decide) (fun c1 => ?_) (fun c1 => ?_)
  · have hf := if_t hf c1
    refine lv_iconst (pc := 14) (v := 0) hx hb dX9_isVinegar_14 (by decide) ?_
    exact hret (so hf) rfl rfl dX9_isVinegar_15 h
  · have hf := if_f hf c1
    refine lv_iconst (pc := 10) (v := 1) hx hb dX9_isVinegar_10 (by decide) ?_
    refine lv_goto (pc := 11) (tgt := 15) hx hb dX9_isVinegar_11 (by decide) ?_
    exact hret (so hf) rfl rfl dX9_isVinegar_15 h
theorem k_X9_isVinegar {p : Program} {l : Launch} {e : Env} {R : Room} {s : State} {m : MethodId} {args : Array Value} {below : List Frame} {meth : Method} {c : Code} {H : Heap} {locs : List Loc} {cells slots : Nat} {Q : State → Prop} {pc : Nat} {ls : Array Slot} {rest : List Value} {cc : ByteArray} {D : va_G} {cI cJ cR : ClassId} {a : Nat → Nat} {u : St} {own : String} {index nL : Nat} {N : Nat} (hNN : 38 ≤ N) {p1 : Int32} {rr : Int32} (hx : p.tables.exec = Jvm.exec) (hb : c.code = cc) (hml : c.maxLocals = nL) (hown : s.vm.findClass own = some m.cls) (hts : ∀ w ∈ Gd, w.before args s = true) (hK : va_K D vwCl (tyB cI cJ cR) s) (hN : NB s) (hc : f_X9_isVinegar u p1 = some rr) (hlk : Cond.methodLink own index yX9_isVinegar ∈ Gd) (hF : 1 ≤ R.frames) (hLo : 21 ≤ R.locals) (h : Hh D (AB N a s.heap.size) (wX N a (EB a cI cJ cR) u) s.heap H locs) (hsize : ls.size = nL) (hcs : cells ≤ R.cells ∧ slots ≤ R.slots) (hr : (rest.map fun v => v.category).sum ≤ 8) (hdg : decode cc pc = .ok (.invokevirtual index, 3)) (kk : ∀ (H1 : Heap) (locs1 : List Loc), Hh D (AB N a s.heap.size) (wX N a (EB a cI cJ cR) u) s.heap H1 locs1 → W p l e R s m args below meth c H1 locs1 cells slots Q (F0 m (pc + 3) ls (.int rr :: rest))) : W p l e R s m args below meth c H locs cells slots Q (F0 m pc ls (.int p1 :: .ref (a 1) :: rest)) :=
  cVi (n := 1) hx hb hml hown hts hK hN (c_X9_isVinegar hNN hc) (gdV hlk im_X9_isVinegar se_X9_isVinegar in_X9 co_X9_isVinegar) rfl (by decide +kernel) rfl hF hLo h hsize hcs (Nat.lt_of_lt_of_le (by decide) hNN) rfl rfl rfl hr hdg kk
def f_X9_worth (u : St) (p1 : Int32) (p2 : Int32) (p3 : Int32) : Option (Int32) := cki p1 8 (b1 (f_X9_isVinegar u p3) (fun (x1 : Int32) => if x1 = 0 then b1 (f_X11_within u (u.1 9 (ix p1)) 0 3) (fun (x3 : Int32) => if x3 = 0 then some 0 else cki ((3 : Int32) + (u.1 9 (ix p1))) 7 (bs (abI (p2 - (u.1 16 (ix ((3 : Int32) + (u.1 9 (ix p1))))))) (fun x5 : Int32 => cki p1 8 (some (mxI 0 ((u.1 7 (ix p1)) * (((50 : Int32) - x5) - p3))))))) else some 0))
set_option maxRecDepth 100000 in
set_option maxHeartbeats 4000000 in
theorem c_X9_worth {l : Launch} {D : va_G} {cI cJ cR : ClassId} {a : Nat → Nat} {u : St} {N : Nat} (hNN : 38 ≤ N) {p1 : Int32} {p2 : Int32} {p3 : Int32} {rr : Int32} (hf : f_X9_worth u p1 p2 p3 = some rr) : Ci l yX9_worth cX9_worth 6 (some .int) 1 22 D (tyB cI cJ cR) N a (EB a cI cJ cR) [.ref (a 1), .int p1, .int p2, .int p3] u rr u := by
  refine metI (by decide +kernel) (Nat.le_of_ble_eq_true rfl) ?_
  intro p e s m args below meth c R Q hx hb hml hown hts hF hLo hret hK hN h ls hl
  have hown : s.vm.findClass RX9 = some m.cls := hown
  have hl : lv_has ls 6 [(0, .ref (a 1)), (1, .int p1), (2, .int p2), (3, .int p3)] := hl
  unfold f_X9_worth at hf
  refine lv_aload_n (pc := 0) hx hb dX9_worth_0 rfl (lv_at hl 0 rfl) ?_
  refine gB_1_1 (pc := 1) hNN hx hb hts hown hK h fl_X9_21 dX9_worth_1 ?_
  refine gB_5_3 (pc := 4) hNN hx hb hts hown hK h fl_X9_51 dX9_worth_4 ?_
  refine lv_iload_n (pc := 7) hx hb dX9_worth_7 rfl (lv_at hl 1 rfl) ?_
  obtain ⟨hin, hf⟩ := cki_e hf
  refine gB_9 (pc := 8) hNN hx hb hK h hin dX9_worth_8 ?_
  refine lv_istore (pc := 9) (lv' := [(4, .int (u.1 9 (ix p1))), (0, .ref (a 1)), (1, .int p1), (2, .int p2), (3, .int p3)]) hx hb dX9_worth_9 hl (by decide) rfl (fun ls hl => ?_)
  refine lv_aload_n (pc := 11) hx hb dX9_worth_11 rfl (lv_at hl 1 rfl) ?_
  refine lv_iload_n (pc := 12) hx hb dX9_worth_12 rfl (lv_at hl 4 rfl) ?_
  obtain ⟨x1, hc, hf⟩ := b1_e hf
  refine k_X9_isVinegar (pc := 13) hNN hx hb hml hown hts hK hN hc ml_X9_54 (Nat.le_trans (by decide) hF) (Nat.le_trans (by decide) hLo) h hl.1 ⟨Nat.zero_le _, Nat.zero_le _⟩ (Nat.le_of_ble_eq_true rfl) dX9_worth_13 (fun H locs h => ?_)
  refine lv_if_ne (pc := 16) (tgt := 29) hx hb dX9_worth_16 (by decide) (fun c2 => ?_) (fun c2 => ?_)
  · have hf := if_f hf c2
    refine lv_iconst (pc := 29) (v := 0) hx hb dX9_worth_29 (by decide) ?_
    exact hret (so hf) rfl rfl dX9_worth_30 h
  · have hf := if_t hf c2
    refine lv_iload (pc := 19) hx hb dX9_worth_19 (lv_at hl 0 rfl) ?_
    refine lv_iconst (pc := 21) (v := 0) hx hb dX9_worth_21 (by decide) ?_
    refine lv_iconst (pc := 22) (v := 3) hx hb dX9_worth_22 (by decide) ?_
    obtain ⟨x3, hc, hf⟩ := b1_e hf
    refine kN_X11_within (pc := 23) hNN hx hb hml hown hts hK hN hc (nl_X9_58 hN) (Nat.le_trans (by decide) hF) (Nat.le_trans (by decide) hLo) h hl.1 ⟨Nat.zero_le _, Nat.zero_le _⟩ (Nat.le_of_ble_eq_true rfl) dX9_worth_23 (fun H locs h => ?_)
    refine lv_if_ne (pc := 26) (tgt := 31) hx hb dX9_worth_26 (by decide) (fun c4 => ?_) (fun c4 => ?_)
    · have hf := if_f hf c4
      refine lv_iload_n (pc := 31) hx hb dX9_worth_31 rfl (lv_at hl 3 rfl) ?_
      refine lv_aload_n (pc := 32) hx hb dX9_worth_32 rfl (lv_at hl 1 rfl) ?_
      refine gB_1_4 (pc := 33) hNN hx hb hts hown hK h fl_X9_48 dX9_worth_33 ?_
      refine lv_iconst (pc := 36) (v := 3) hx hb dX9_worth_36 (by decide) ?_
      refine lv_iload (pc := 37) hx hb dX9_worth_37 (lv_at hl 0 rfl) ?_
      refine lv_iadd (pc := 39) hx hb dX9_worth_39 ?_
      obtain ⟨hin, hf⟩ := cki_e hf
      refine gB_16 (pc := 40) hNN hx hb hK h hin dX9_worth_40 ?_
      refine lv_isub (pc := 41) hx hb dX9_worth_41 ?_
      refine rMabs (pc := 42) hx hb (hml.trans hl.1.symm) hown hts ml_X9_62 (Nat.le_trans (by decide) hF) (Nat.le_trans (by decide) hLo) (Nat.le_of_ble_eq_true rfl) ⟨Nat.zero_le _, Nat.zero_le _⟩ dX9_worth_42 ?_
      obtain ⟨x5, ex5, hf⟩ := bs_e hf
      refine rTop ex5 ?_
      refine lv_istore (pc := 45) (lv' := [(5, .int x5), (4, .int (u.1 9 (ix p1))), (0, .ref (a 1)), (1, .int p1), (2, .int p2), (3, .int p3)]) hx hb dX9_worth_45 hl (by decide) rfl (fun ls hl => ?_)
      refine lv_iconst (pc := 47) (v := 0) hx hb dX9_worth_47 (by decide) ?_
      refine lv_aload_n (pc := 48) hx hb dX9_worth_48 rfl (lv_at hl 2 rfl) ?_
      refine gB_1_1 (pc := 49) hNN hx hb hts hown hK h fl_X9_21 dX9_worth_49 ?_
      refine gB_5_1 (pc := 52) hNN hx hb hts hown hK h fl_X9_68 dX9_worth_52 ?_
      refine lv_iload_n (pc := 55) hx hb dX9_worth_55 rfl (lv_at hl 3 rfl) ?_
      obtain ⟨hin, hf⟩ := cki_e hf
      refine gB_7 (pc := 56) hNN hx hb hK h hin dX9_worth_56 ?_
      refine lv_bipush (pc := 57) (v := 50) hx hb dX9_worth_57 (by decide) ?_
      refine lv_iload (pc := 59) hx hb dX9_worth_59 (lv_at hl 0 rfl) ?_
      refine lv_isub (pc := 61) hx hb dX9_worth_61 ?_
      refine lv_iload_n (pc := 62) hx hb dX9_worth_62 rfl (lv_at hl 5 rfl) ?_
      refine lv_isub (pc := 63) hx hb dX9_worth_63 ?_
      refine lv_imul (pc := 64) hx hb dX9_worth_64 ?_
      refine rMmax (pc := 65) hx hb (hml.trans hl.1.symm) hown hts ml_X9_71 (Nat.le_trans (by decide) hF) (Nat.le_trans (by decide) hLo) (Nat.le_of_ble_eq_true rfl) ⟨Nat.zero_le _, Nat.zero_le _⟩ dX9_worth_65 ?_
      exact hret (so hf) rfl rfl dX9_worth_68 h
    · have hf := if_t hf c4
      refine lv_iconst (pc := 29) (v := 0) hx hb dX9_worth_29 (by decide) ?_
      exact hret (so hf) rfl rfl dX9_worth_30 h
theorem k_X9_worth {p : Program} {l : Launch} {e : Env} {R : Room} {s : State} {m : MethodId} {args : Array Value} {below : List Frame} {meth : Method} {c : Code} {H : Heap} {locs : List Loc} {cells slots : Nat} {Q : State → Prop} {pc : Nat} {ls : Array Slot} {rest : List Value} {cc : ByteArray} {D : va_G} {cI cJ cR : ClassId} {a : Nat → Nat} {u : St} {own : String} {index nL : Nat} {N : Nat} (hNN : 38 ≤ N) {p1 : Int32} {p2 : Int32} {p3 : Int32} {rr : Int32} (hx : p.tables.exec = Jvm.exec) (hb : c.code = cc) (hml : c.maxLocals = nL) (hown : s.vm.findClass own = some m.cls) (hts : ∀ w ∈ Gd, w.before args s = true) (hK : va_K D vwCl (tyB cI cJ cR) s) (hN : NB s) (hc : f_X9_worth u p1 p2 p3 = some rr) (hlk : Cond.methodLink own index yX9_worth ∈ Gd) (hF : 2 ≤ R.frames) (hLo : 47 ≤ R.locals) (h : Hh D (AB N a s.heap.size) (wX N a (EB a cI cJ cR) u) s.heap H locs) (hsize : ls.size = nL) (hcs : cells ≤ R.cells ∧ slots ≤ R.slots) (hr : (rest.map fun v => v.category).sum ≤ 8) (hdg : decode cc pc = .ok (.invokevirtual index, 3)) (kk : ∀ (H1 : Heap) (locs1 : List Loc), Hh D (AB N a s.heap.size) (wX N a (EB a cI cJ cR) u) s.heap H1 locs1 → W p l e R s m args below meth c H1 locs1 cells slots Q (F0 m (pc + 3) ls (.int rr :: rest))) : W p l e R s m args below meth c H locs cells slots Q (F0 m pc ls (.int p3 :: .int p2 :: .int p1 :: .ref (a 1) :: rest)) :=
  cVi (n := 3) hx hb hml hown hts hK hN (c_X9_worth hNN hc) (gdV hlk im_X9_worth se_X9_worth in_X9 co_X9_worth) rfl (by decide +kernel) rfl hF hLo h hsize hcs (Nat.lt_of_lt_of_le (by decide) hNN) rfl rfl rfl hr hdg kk
def B_X1_worthOf_4 (p1 : Int32) (u : St) (k3 : Int32 → Option (Int32)) (rec5 : Int32 → Int32 → Option (Int32)) (x1 : Int32) (x2 : Int32) : Option (Int32) := if 8 ≤ x2 then k3 x1 else b1 (f_X7_has u x2) (fun (x7 : Int32) => if x7 = 0 then rec5 x1 (x2 + 1) else b1 (f_X11_hasBit u p1 x2) (fun (x9 : Int32) => if x9 = 0 then rec5 x1 (x2 + 1) else cki x2 8 (b1 (f_X9_worth u x2 (u.1 21 5) (u.1 23 (ix x2))) (fun (x11 : Int32) => rec5 (x1 + x11) (x2 + 1)))))
def f_X1_worthOf (u : St) (p1 : Int32) : Option (Int32) := jq_1 (fun (x4 : Int32) => some x4) (fun (k3 : Int32 → Option (Int32)) => lq_2 (B_X1_worthOf_4 p1 u k3) FU 0 0)
set_option maxRecDepth 100000 in
set_option maxHeartbeats 4000000 in
theorem c_X1_worthOf {l : Launch} {D : va_G} {cI cJ cR : ClassId} {a : Nat → Nat} {u : St} {N : Nat} (hNN : 38 ≤ N) {p1 : Int32} {rr : Int32} (hf : f_X1_worthOf u p1 = some rr) : Ci l yX1_worthOf cX1_worthOf 4 (some .int) 2 47 D (tyB cI cJ cR) N a (EB a cI cJ cR) [.ref (a 21), .int p1] u rr u := by
  refine metI (by decide +kernel) (Nat.le_of_ble_eq_true rfl) ?_
  intro p e s m args below meth c R Q hx hb hml hown hts hF hLo hret hK hN h ls hl
  have hown : s.vm.findClass RX1 = some m.cls := hown
  have hl : lv_has ls 4 [(0, .ref (a 21)), (1, .int p1)] := hl
  unfold f_X1_worthOf at hf
  refine lv_iconst (pc := 0) (v := 0) hx hb dX1_worthOf_0 (by decide) ?_
  refine lv_istore_n (pc := 1) (lv' := [(2, .int 0), (0, .ref (a 21)), (1, .int p1)]) hx hb dX1_worthOf_1 rfl hl (by decide) rfl (fun ls hl => ?_)
  refine lv_iconst (pc := 2) (v := 0) hx hb dX1_worthOf_2 (by decide) ?_
  refine lv_istore_n (pc := 3) (lv' := [(3, .int 0), (2, .int 0), (0, .ref (a 21)), (1, .int p1)]) hx hb dX1_worthOf_3 rfl hl (by decide) rfl (fun ls hl => ?_)
  obtain ⟨k3, hk3, hf⟩ := jq_1_e hf
  have jk3 : ∀ (x4 : Int32), k3 x4 = some rr → ∀ (H : Heap) (locs : List Loc) (ls : Array Slot), Hh D (AB N a s.heap.size) (wX N a (EB a cI cJ cR) u) s.heap H locs → lv_has ls 4 [(2, .int x4)] → W p l e R s m args below meth c H locs 0 0 Q (F0 m 59 ls []) := by
    intro x4 hf H locs ls h hl
    rw [hk3] at hf
    refine lv_iload_n (pc := 59) hx hb dX1_worthOf_59 rfl (lv_at hl 0 rfl) ?_
    exact hret (so hf) rfl rfl dX1_worthOf_60 h
  refine lq_2_e (P := fun (x1 : Int32) (x2 : Int32) => ∀ (H : Heap) (locs : List Loc) (ls : Array Slot), Hh D (AB N a s.heap.size) (wX N a (EB a cI cJ cR) u) s.heap H locs → lv_has ls 4 [(0, .ref (a 21)), (1, .int p1), (2, .int x1), (3, .int x2)] → W p l e R s m args below meth c H locs 0 0 Q (F0 m 4 ls [])) ?_ FU _ _ hf _ _ _ h (lv_sub hl [2, 3, 1, 0] rfl)
  intro rec5 irec5 x1 x2 hf H locs ls h hl
  unfold B_X1_worthOf_4 at hf
  refine lv_iload_n (pc := 4) hx hb dX1_worthOf_4 rfl (lv_at hl 3 rfl) ?_
  refine lv_bipush (pc := 5) (v := 8) hx hb dX1_worthOf_5 (by decide) ?_
  refine lv_icmp_ge (pc := 7) (tgt := 59) hx hb dX1_worthOf_7 (by decide) (fun c6 => ?_) (fun c6 => ?_)
  · have hf := if_t hf c6
    exact jk3 _ hf _ _ _ h (lv_sub hl [2] rfl)
  · have hf := if_f hf c6
    refine lv_aload_n (pc := 10) hx hb dX1_worthOf_10 rfl (lv_at hl 0 rfl) ?_
    refine gB_21_0 (pc := 11) hNN hx hb hts hown hK h fl_X1_21 dX1_worthOf_11 ?_
    refine gB_1_1 (pc := 14) hNN hx hb hts hown hK h fl_X1_33 dX1_worthOf_14 ?_
    refine lv_iload_n (pc := 17) hx hb dX1_worthOf_17 rfl (lv_at hl 3 rfl) ?_
    obtain ⟨x7, hc, hf⟩ := b1_e hf
    refine k_X7_has (pc := 18) hNN hx hb hml hown hts hK hN hc ml_X1_48 (Nat.le_trans (by decide) hF) (Nat.le_trans (by decide) hLo) h hl.1 ⟨Nat.zero_le _, Nat.zero_le _⟩ (Nat.le_of_ble_eq_true rfl) dX1_worthOf_18 (fun H locs h => ?_)
    refine lv_if_eq (pc := 21) (tgt := 53) hx hb dX1_worthOf_21 (by decide) (fun c8 => ?_) (fun c8 => ?_)
    · have hf := if_t hf c8
      refine lv_iinc (pc := 53) (v := x2 + 1) (lv' := [(3, .int (x2 + 1)), (0, .ref (a 21)), (1, .int p1), (2, .int x1)]) hx hb dX1_worthOf_53 hl (k := 3) rfl rfl (by decide) rfl (fun ls hl => ?_)
      refine lv_goto (pc := 56) (tgt := 4) hx hb dX1_worthOf_56 (by decide) ?_
      exact irec5 _ _ hf _ _ _ h (lv_sub hl [1, 2, 3, 0] rfl)
    · have hf := if_f hf c8
      refine lv_iload_n (pc := 24) hx hb dX1_worthOf_24 rfl (lv_at hl 1 rfl) ?_
      refine lv_iload_n (pc := 25) hx hb dX1_worthOf_25 rfl (lv_at hl 3 rfl) ?_
      obtain ⟨x9, hc, hf⟩ := b1_e hf
      refine kN_X11_hasBit (pc := 26) hNN hx hb hml hown hts hK hN hc (nl_X1_65 hN) (Nat.le_trans (by decide) hF) (Nat.le_trans (by decide) hLo) h hl.1 ⟨Nat.zero_le _, Nat.zero_le _⟩ (Nat.le_of_ble_eq_true rfl) dX1_worthOf_26 (fun H locs h => ?_)
      refine lv_if_eq (pc := 29) (tgt := 53) hx hb dX1_worthOf_29 (by decide) (fun c10 => ?_) (fun c10 => ?_)
      · have hf := if_t hf c10
        refine lv_iinc (pc := 53) (v := x2 + 1) (lv' := [(3, .int (x2 + 1)), (0, .ref (a 21)), (1, .int p1), (2, .int x1)]) hx hb dX1_worthOf_53 hl (k := 3) rfl rfl (by decide) rfl (fun ls hl => ?_)
        refine lv_goto (pc := 56) (tgt := 4) hx hb dX1_worthOf_56 (by decide) ?_
        exact irec5 _ _ hf _ _ _ h (lv_sub hl [1, 2, 3, 0] rfl)
      · have hf := if_f hf c10
        refine lv_iload_n (pc := 32) hx hb dX1_worthOf_32 rfl (lv_at hl 2 rfl) ?_
        refine lv_aload_n (pc := 33) hx hb dX1_worthOf_33 rfl (lv_at hl 0 rfl) ?_
        refine gB_21_0 (pc := 34) hNN hx hb hts hown hK h fl_X1_21 dX1_worthOf_34 ?_
        refine lv_iload_n (pc := 37) hx hb dX1_worthOf_37 rfl (lv_at hl 3 rfl) ?_
        refine lv_aload_n (pc := 38) hx hb dX1_worthOf_38 rfl (lv_at hl 0 rfl) ?_
        refine gB_21_5 (pc := 39) hNN hx hb hts hown hK h fl_X1_29 dX1_worthOf_39 ?_
        refine lv_aload_n (pc := 42) hx hb dX1_worthOf_42 rfl (lv_at hl 0 rfl) ?_
        refine gB_21_3 (pc := 43) hNN hx hb hts hown hK h fl_X1_15 dX1_worthOf_43 ?_
        refine lv_iload_n (pc := 46) hx hb dX1_worthOf_46 rfl (lv_at hl 3 rfl) ?_
        obtain ⟨hin, hf⟩ := cki_e hf
        refine gB_23 (pc := 47) hNN hx hb hK h hin dX1_worthOf_47 ?_
        obtain ⟨x11, hc, hf⟩ := b1_e hf
        refine k_X9_worth (pc := 48) hNN hx hb hml hown hts hK hN hc ml_X1_69 (Nat.le_trans (by decide) hF) (Nat.le_trans (by decide) hLo) h hl.1 ⟨Nat.zero_le _, Nat.zero_le _⟩ (Nat.le_of_ble_eq_true rfl) dX1_worthOf_48 (fun H locs h => ?_)
        refine lv_iadd (pc := 51) hx hb dX1_worthOf_51 ?_
        refine lv_istore_n (pc := 52) (lv' := [(2, .int (x1 + x11)), (0, .ref (a 21)), (1, .int p1), (3, .int x2)]) hx hb dX1_worthOf_52 rfl hl (by decide) rfl (fun ls hl => ?_)
        refine lv_iinc (pc := 53) (v := x2 + 1) (lv' := [(3, .int (x2 + 1)), (2, .int (x1 + x11)), (0, .ref (a 21)), (1, .int p1)]) hx hb dX1_worthOf_53 hl (k := 3) rfl rfl (by decide) rfl (fun ls hl => ?_)
        refine lv_goto (pc := 56) (tgt := 4) hx hb dX1_worthOf_56 (by decide) ?_
        exact irec5 _ _ hf _ _ _ h (lv_sub hl [2, 3, 1, 0] rfl)
theorem k_X1_worthOf {p : Program} {l : Launch} {e : Env} {R : Room} {s : State} {m : MethodId} {args : Array Value} {below : List Frame} {meth : Method} {c : Code} {H : Heap} {locs : List Loc} {cells slots : Nat} {Q : State → Prop} {pc : Nat} {ls : Array Slot} {rest : List Value} {cc : ByteArray} {D : va_G} {cI cJ cR : ClassId} {a : Nat → Nat} {u : St} {own : String} {index nL : Nat} {N : Nat} (hNN : 38 ≤ N) {p1 : Int32} {rr : Int32} (hx : p.tables.exec = Jvm.exec) (hb : c.code = cc) (hml : c.maxLocals = nL) (hown : s.vm.findClass own = some m.cls) (hts : ∀ w ∈ Gd, w.before args s = true) (hK : va_K D vwCl (tyB cI cJ cR) s) (hN : NB s) (hc : f_X1_worthOf u p1 = some rr) (hlk : Cond.methodLink own index yX1_worthOf ∈ Gd) (hF : 3 ≤ R.frames) (hLo : 70 ≤ R.locals) (h : Hh D (AB N a s.heap.size) (wX N a (EB a cI cJ cR) u) s.heap H locs) (hsize : ls.size = nL) (hcs : cells ≤ R.cells ∧ slots ≤ R.slots) (hr : (rest.map fun v => v.category).sum ≤ 8) (hdg : decode cc pc = .ok (.invokevirtual index, 3)) (kk : ∀ (H1 : Heap) (locs1 : List Loc), Hh D (AB N a s.heap.size) (wX N a (EB a cI cJ cR) u) s.heap H1 locs1 → W p l e R s m args below meth c H1 locs1 cells slots Q (F0 m (pc + 3) ls (.int rr :: rest))) : W p l e R s m args below meth c H locs cells slots Q (F0 m pc ls (.int p1 :: .ref (a 21) :: rest)) :=
  cVi (n := 1) hx hb hml hown hts hK hN (c_X1_worthOf hNN hc) (gdV hlk im_X1_worthOf se_X1_worthOf in_X1 co_X1_worthOf) rfl (by decide +kernel) rfl hF hLo h hsize hcs (Nat.lt_of_lt_of_le (by decide) hNN) rfl rfl rfl hr hdg kk
def B_X1_lostNow_4 (u : St) (k3 : Int32 → Option (Int32)) (rec5 : Int32 → Int32 → Option (Int32)) (x1 : Int32) (x2 : Int32) : Option (Int32) := if 8 ≤ x2 then k3 x1 else b1 (f_X7_has u x2) (fun (x7 : Int32) => if x7 = 0 then rec5 x1 (x2 + 1) else cki x2 8 (b1 (f_X9_isVinegar u (u.1 23 (ix x2))) (fun (x9 : Int32) => if x9 = 0 then rec5 x1 (x2 + 1) else cki x2 8 (rec5 (x1 + (u.1 7 (ix x2))) (x2 + 1)))))
def f_X1_lostNow (u : St) : Option (Int32) := jq_1 (fun (x4 : Int32) => some x4) (fun (k3 : Int32 → Option (Int32)) => lq_2 (B_X1_lostNow_4 u k3) FU 0 0)
set_option maxRecDepth 100000 in
set_option maxHeartbeats 4000000 in
theorem c_X1_lostNow {l : Launch} {D : va_G} {cI cJ cR : ClassId} {a : Nat → Nat} {u : St} {N : Nat} (hNN : 38 ≤ N) {rr : Int32} (hf : f_X1_lostNow u = some rr) : Ci l yX1_lostNow cX1_lostNow 3 (some .int) 2 42 D (tyB cI cJ cR) N a (EB a cI cJ cR) [.ref (a 21)] u rr u := by
  refine metI (by decide +kernel) (Nat.le_of_ble_eq_true rfl) ?_
  intro p e s m args below meth c R Q hx hb hml hown hts hF hLo hret hK hN h ls hl
  have hown : s.vm.findClass RX1 = some m.cls := hown
  have hl : lv_has ls 3 [(0, .ref (a 21))] := hl
  unfold f_X1_lostNow at hf
  refine lv_iconst (pc := 0) (v := 0) hx hb dX1_lostNow_0 (by decide) ?_
  refine lv_istore_n (pc := 1) (lv' := [(1, .int 0), (0, .ref (a 21))]) hx hb dX1_lostNow_1 rfl hl (by decide) rfl (fun ls hl => ?_)
  refine lv_iconst (pc := 2) (v := 0) hx hb dX1_lostNow_2 (by decide) ?_
  refine lv_istore_n (pc := 3) (lv' := [(2, .int 0), (1, .int 0), (0, .ref (a 21))]) hx hb dX1_lostNow_3 rfl hl (by decide) rfl (fun ls hl => ?_)
  obtain ⟨k3, hk3, hf⟩ := jq_1_e hf
  have jk3 : ∀ (x4 : Int32), k3 x4 = some rr → ∀ (H : Heap) (locs : List Loc) (ls : Array Slot), Hh D (AB N a s.heap.size) (wX N a (EB a cI cJ cR) u) s.heap H locs → lv_has ls 3 [(1, .int x4)] → W p l e R s m args below meth c H locs 0 0 Q (F0 m 61 ls []) := by
    intro x4 hf H locs ls h hl
    rw [hk3] at hf
    refine lv_iload_n (pc := 61) hx hb dX1_lostNow_61 rfl (lv_at hl 0 rfl) ?_
    exact hret (so hf) rfl rfl dX1_lostNow_62 h
  refine lq_2_e (P := fun (x1 : Int32) (x2 : Int32) => ∀ (H : Heap) (locs : List Loc) (ls : Array Slot), Hh D (AB N a s.heap.size) (wX N a (EB a cI cJ cR) u) s.heap H locs → lv_has ls 3 [(0, .ref (a 21)), (1, .int x1), (2, .int x2)] → W p l e R s m args below meth c H locs 0 0 Q (F0 m 4 ls [])) ?_ FU _ _ hf _ _ _ h (lv_sub hl [2, 1, 0] rfl)
  intro rec5 irec5 x1 x2 hf H locs ls h hl
  unfold B_X1_lostNow_4 at hf
  refine lv_iload_n (pc := 4) hx hb dX1_lostNow_4 rfl (lv_at hl 2 rfl) ?_
  refine lv_bipush (pc := 5) (v := 8) hx hb dX1_lostNow_5 (by decide) ?_
  refine lv_icmp_ge (pc := 7) (tgt := 61) hx hb dX1_lostNow_7 (by decide) (fun c6 => ?_) (fun c6 => ?_)
  · have hf := if_t hf c6
    exact jk3 _ hf _ _ _ h (lv_sub hl [1] rfl)
  · have hf := if_f hf c6
    refine lv_aload_n (pc := 10) hx hb dX1_lostNow_10 rfl (lv_at hl 0 rfl) ?_
    refine gB_21_0 (pc := 11) hNN hx hb hts hown hK h fl_X1_21 dX1_lostNow_11 ?_
    refine gB_1_1 (pc := 14) hNN hx hb hts hown hK h fl_X1_33 dX1_lostNow_14 ?_
    refine lv_iload_n (pc := 17) hx hb dX1_lostNow_17 rfl (lv_at hl 2 rfl) ?_
    obtain ⟨x7, hc, hf⟩ := b1_e hf
    refine k_X7_has (pc := 18) hNN hx hb hml hown hts hK hN hc ml_X1_48 (Nat.le_trans (by decide) hF) (Nat.le_trans (by decide) hLo) h hl.1 ⟨Nat.zero_le _, Nat.zero_le _⟩ (Nat.le_of_ble_eq_true rfl) dX1_lostNow_18 (fun H locs h => ?_)
    refine lv_if_eq (pc := 21) (tgt := 55) hx hb dX1_lostNow_21 (by decide) (fun c8 => ?_) (fun c8 => ?_)
    · have hf := if_t hf c8
      refine lv_iinc (pc := 55) (v := x2 + 1) (lv' := [(2, .int (x2 + 1)), (0, .ref (a 21)), (1, .int x1)]) hx hb dX1_lostNow_55 hl (k := 2) rfl rfl (by decide) rfl (fun ls hl => ?_)
      refine lv_goto (pc := 58) (tgt := 4) hx hb dX1_lostNow_58 (by decide) ?_
      exact irec5 _ _ hf _ _ _ h (lv_sub hl [1, 2, 0] rfl)
    · have hf := if_f hf c8
      refine lv_aload_n (pc := 24) hx hb dX1_lostNow_24 rfl (lv_at hl 0 rfl) ?_
      refine gB_21_0 (pc := 25) hNN hx hb hts hown hK h fl_X1_21 dX1_lostNow_25 ?_
      refine lv_aload_n (pc := 28) hx hb dX1_lostNow_28 rfl (lv_at hl 0 rfl) ?_
      refine gB_21_3 (pc := 29) hNN hx hb hts hown hK h fl_X1_15 dX1_lostNow_29 ?_
      refine lv_iload_n (pc := 32) hx hb dX1_lostNow_32 rfl (lv_at hl 2 rfl) ?_
      obtain ⟨hin, hf⟩ := cki_e hf
      refine gB_23 (pc := 33) hNN hx hb hK h hin dX1_lostNow_33 ?_
      obtain ⟨x9, hc, hf⟩ := b1_e hf
      refine k_X9_isVinegar (pc := 34) hNN hx hb hml hown hts hK hN hc ml_X1_72 (Nat.le_trans (by decide) hF) (Nat.le_trans (by decide) hLo) h hl.1 ⟨Nat.zero_le _, Nat.zero_le _⟩ (Nat.le_of_ble_eq_true rfl) dX1_lostNow_34 (fun H locs h => ?_)
      refine lv_if_eq (pc := 37) (tgt := 55) hx hb dX1_lostNow_37 (by decide) (fun c10 => ?_) (fun c10 => ?_)
      · have hf := if_t hf c10
        refine lv_iinc (pc := 55) (v := x2 + 1) (lv' := [(2, .int (x2 + 1)), (0, .ref (a 21)), (1, .int x1)]) hx hb dX1_lostNow_55 hl (k := 2) rfl rfl (by decide) rfl (fun ls hl => ?_)
        refine lv_goto (pc := 58) (tgt := 4) hx hb dX1_lostNow_58 (by decide) ?_
        exact irec5 _ _ hf _ _ _ h (lv_sub hl [1, 2, 0] rfl)
      · have hf := if_f hf c10
        refine lv_iload_n (pc := 40) hx hb dX1_lostNow_40 rfl (lv_at hl 1 rfl) ?_
        refine lv_aload_n (pc := 41) hx hb dX1_lostNow_41 rfl (lv_at hl 0 rfl) ?_
        refine gB_21_0 (pc := 42) hNN hx hb hts hown hK h fl_X1_21 dX1_lostNow_42 ?_
        refine gB_1_1 (pc := 45) hNN hx hb hts hown hK h fl_X1_33 dX1_lostNow_45 ?_
        refine gB_5_1 (pc := 48) hNN hx hb hts hown hK h fl_X1_75 dX1_lostNow_48 ?_
        refine lv_iload_n (pc := 51) hx hb dX1_lostNow_51 rfl (lv_at hl 2 rfl) ?_
        obtain ⟨hin, hf⟩ := cki_e hf
        refine gB_7 (pc := 52) hNN hx hb hK h hin dX1_lostNow_52 ?_
        refine lv_iadd (pc := 53) hx hb dX1_lostNow_53 ?_
        refine lv_istore_n (pc := 54) (lv' := [(1, .int (x1 + (u.1 7 (ix x2)))), (0, .ref (a 21)), (2, .int x2)]) hx hb dX1_lostNow_54 rfl hl (by decide) rfl (fun ls hl => ?_)
        refine lv_iinc (pc := 55) (v := x2 + 1) (lv' := [(2, .int (x2 + 1)), (1, .int (x1 + (u.1 7 (ix x2)))), (0, .ref (a 21))]) hx hb dX1_lostNow_55 hl (k := 2) rfl rfl (by decide) rfl (fun ls hl => ?_)
        refine lv_goto (pc := 58) (tgt := 4) hx hb dX1_lostNow_58 (by decide) ?_
        exact irec5 _ _ hf _ _ _ h (lv_sub hl [2, 1, 0] rfl)
theorem k_X1_lostNow {p : Program} {l : Launch} {e : Env} {R : Room} {s : State} {m : MethodId} {args : Array Value} {below : List Frame} {meth : Method} {c : Code} {H : Heap} {locs : List Loc} {cells slots : Nat} {Q : State → Prop} {pc : Nat} {ls : Array Slot} {rest : List Value} {cc : ByteArray} {D : va_G} {cI cJ cR : ClassId} {a : Nat → Nat} {u : St} {own : String} {index nL : Nat} {N : Nat} (hNN : 38 ≤ N) {rr : Int32} (hx : p.tables.exec = Jvm.exec) (hb : c.code = cc) (hml : c.maxLocals = nL) (hown : s.vm.findClass own = some m.cls) (hts : ∀ w ∈ Gd, w.before args s = true) (hK : va_K D vwCl (tyB cI cJ cR) s) (hN : NB s) (hc : f_X1_lostNow u = some rr) (hlk : Cond.methodLink own index yX1_lostNow ∈ Gd) (hF : 3 ≤ R.frames) (hLo : 64 ≤ R.locals) (h : Hh D (AB N a s.heap.size) (wX N a (EB a cI cJ cR) u) s.heap H locs) (hsize : ls.size = nL) (hcs : cells ≤ R.cells ∧ slots ≤ R.slots) (hr : (rest.map fun v => v.category).sum ≤ 8) (hdg : decode cc pc = .ok (.invokevirtual index, 3)) (kk : ∀ (H1 : Heap) (locs1 : List Loc), Hh D (AB N a s.heap.size) (wX N a (EB a cI cJ cR) u) s.heap H1 locs1 → W p l e R s m args below meth c H1 locs1 cells slots Q (F0 m (pc + 3) ls (.int rr :: rest))) : W p l e R s m args below meth c H locs cells slots Q (F0 m pc ls (.ref (a 21) :: rest)) :=
  cVi (n := 0) hx hb hml hown hts hK hN (c_X1_lostNow hNN hc) (gdV hlk im_X1_lostNow se_X1_lostNow in_X1 co_X1_lostNow) rfl (by decide +kernel) rfl hF hLo h hsize hcs (Nat.lt_of_lt_of_le (by decide) hNN) rfl rfl rfl hr hdg kk
def B_X7_countIn_5 (p1 : Int32) (p2 : Int32) (u : St) (k3 : Int32 → Option (Int32)) (rec5 : Int32 → Int32 → Option (Int32)) (x1 : Int32) (x2 : Int32) : Option (Int32) := if 8 ≤ x2 then k3 x1 else b1 (f_X7_has u x2) (fun (x7 : Int32) => if x7 = 0 then rec5 x1 (x2 + 1) else b1 (f_X11_hasBit u p2 x2) (fun (x9 : Int32) => if x9 = 0 then cki x2 8 (if (u.1 6 (ix x2)) = p1 then rec5 (x1 + 1) (x2 + 1) else rec5 x1 (x2 + 1)) else rec5 x1 (x2 + 1)))
def f_X7_countIn (u : St) (p1 : Int32) (p2 : Int32) : Option (Int32) := jq_1 (fun (x4 : Int32) => some x4) (fun (k3 : Int32 → Option (Int32)) => lq_2 (B_X7_countIn_5 p1 p2 u k3) FU 0 0)
set_option maxRecDepth 100000 in
set_option maxHeartbeats 4000000 in
theorem c_X7_countIn {l : Launch} {D : va_G} {cI cJ cR : ClassId} {a : Nat → Nat} {u : St} {N : Nat} (hNN : 38 ≤ N) {p1 : Int32} {p2 : Int32} {rr : Int32} (hf : f_X7_countIn u p1 p2 = some rr) : Ci l yX7_countIn cX7_countIn 5 (some .int) 2 42 D (tyB cI cJ cR) N a (EB a cI cJ cR) [.ref (a 5), .int p1, .int p2] u rr u := by
  refine metI (by decide +kernel) (Nat.le_of_ble_eq_true rfl) ?_
  intro p e s m args below meth c R Q hx hb hml hown hts hF hLo hret hK hN h ls hl
  have hown : s.vm.findClass RX7 = some m.cls := hown
  have hl : lv_has ls 5 [(0, .ref (a 5)), (1, .int p1), (2, .int p2)] := hl
  unfold f_X7_countIn at hf
  refine lv_iconst (pc := 0) (v := 0) hx hb dX7_countIn_0 (by decide) ?_
  refine lv_istore_n (pc := 1) (lv' := [(3, .int 0), (0, .ref (a 5)), (1, .int p1), (2, .int p2)]) hx hb dX7_countIn_1 rfl hl (by decide) rfl (fun ls hl => ?_)
  refine lv_iconst (pc := 2) (v := 0) hx hb dX7_countIn_2 (by decide) ?_
  refine lv_istore (pc := 3) (lv' := [(4, .int 0), (3, .int 0), (0, .ref (a 5)), (1, .int p1), (2, .int p2)]) hx hb dX7_countIn_3 hl (by decide) rfl (fun ls hl => ?_)
  obtain ⟨k3, hk3, hf⟩ := jq_1_e hf
  have jk3 : ∀ (x4 : Int32), k3 x4 = some rr → ∀ (H : Heap) (locs : List Loc) (ls : Array Slot), Hh D (AB N a s.heap.size) (wX N a (EB a cI cJ cR) u) s.heap H locs → lv_has ls 5 [(3, .int x4)] → W p l e R s m args below meth c H locs 0 0 Q (F0 m 50 ls []) := by
    intro x4 hf H locs ls h hl
    rw [hk3] at hf
    refine lv_iload_n (pc := 50) hx hb dX7_countIn_50 rfl (lv_at hl 0 rfl) ?_
    exact hret (so hf) rfl rfl dX7_countIn_51 h
  refine lq_2_e (P := fun (x1 : Int32) (x2 : Int32) => ∀ (H : Heap) (locs : List Loc) (ls : Array Slot), Hh D (AB N a s.heap.size) (wX N a (EB a cI cJ cR) u) s.heap H locs → lv_has ls 5 [(0, .ref (a 5)), (1, .int p1), (2, .int p2), (3, .int x1), (4, .int x2)] → W p l e R s m args below meth c H locs 0 0 Q (F0 m 5 ls [])) ?_ FU _ _ hf _ _ _ h (lv_sub hl [2, 3, 4, 1, 0] rfl)
  intro rec5 irec5 x1 x2 hf H locs ls h hl
  unfold B_X7_countIn_5 at hf
  refine lv_iload (pc := 5) hx hb dX7_countIn_5 (lv_at hl 4 rfl) ?_
  refine lv_bipush (pc := 7) (v := 8) hx hb dX7_countIn_7 (by decide) ?_
  refine lv_icmp_ge (pc := 9) (tgt := 50) hx hb dX7_countIn_9 (by decide) (fun c6 => ?_) (fun c6 => ?_)
  · have hf := if_t hf c6
    exact jk3 _ hf _ _ _ h (lv_sub hl [3] rfl)
  · have hf := if_f hf c6
    refine lv_aload_n (pc := 12) hx hb dX7_countIn_12 rfl (lv_at hl 0 rfl) ?_
    refine lv_iload (pc := 13) hx hb dX7_countIn_13 (lv_at hl 4 rfl) ?_
    obtain ⟨x7, hc, hf⟩ := b1_e hf
    refine k_X7_has (pc := 15) hNN hx hb hml hown hts hK hN hc ml_X7_32 (Nat.le_trans (by decide) hF) (Nat.le_trans (by decide) hLo) h hl.1 ⟨Nat.zero_le _, Nat.zero_le _⟩ (Nat.le_of_ble_eq_true rfl) dX7_countIn_15 (fun H locs h => ?_)
    refine lv_if_eq (pc := 18) (tgt := 44) hx hb dX7_countIn_18 (by decide) (fun c8 => ?_) (fun c8 => ?_)
    · have hf := if_t hf c8
      refine lv_iinc (pc := 44) (v := x2 + 1) (lv' := [(4, .int (x2 + 1)), (0, .ref (a 5)), (1, .int p1), (2, .int p2), (3, .int x1)]) hx hb dX7_countIn_44 hl (k := 4) rfl rfl (by decide) rfl (fun ls hl => ?_)
      refine lv_goto (pc := 47) (tgt := 5) hx hb dX7_countIn_47 (by decide) ?_
      exact irec5 _ _ hf _ _ _ h (lv_sub hl [1, 2, 3, 4, 0] rfl)
    · have hf := if_f hf c8
      refine lv_iload_n (pc := 21) hx hb dX7_countIn_21 rfl (lv_at hl 2 rfl) ?_
      refine lv_iload (pc := 22) hx hb dX7_countIn_22 (lv_at hl 4 rfl) ?_
      obtain ⟨x9, hc, hf⟩ := b1_e hf
      refine kN_X11_hasBit (pc := 24) hNN hx hb hml hown hts hK hN hc (nl_X7_28 hN) (Nat.le_trans (by decide) hF) (Nat.le_trans (by decide) hLo) h hl.1 ⟨Nat.zero_le _, Nat.zero_le _⟩ (Nat.le_of_ble_eq_true rfl) dX7_countIn_24 (fun H locs h => ?_)
      refine lv_if_ne (pc := 27) (tgt := 44) hx hb dX7_countIn_27 (by decide) (fun c10 => ?_) (fun c10 => ?_)
      · have hf := if_f hf c10
        refine lv_iinc (pc := 44) (v := x2 + 1) (lv' := [(4, .int (x2 + 1)), (0, .ref (a 5)), (1, .int p1), (2, .int p2), (3, .int x1)]) hx hb dX7_countIn_44 hl (k := 4) rfl rfl (by decide) rfl (fun ls hl => ?_)
        refine lv_goto (pc := 47) (tgt := 5) hx hb dX7_countIn_47 (by decide) ?_
        exact irec5 _ _ hf _ _ _ h (lv_sub hl [1, 2, 3, 4, 0] rfl)
      · have hf := if_t hf c10
        refine lv_aload_n (pc := 30) hx hb dX7_countIn_30 rfl (lv_at hl 0 rfl) ?_
        refine gB_5_0 (pc := 31) hNN hx hb hts hown hK h fl_X7_9 dX7_countIn_31 ?_
        refine lv_iload (pc := 34) hx hb dX7_countIn_34 (lv_at hl 4 rfl) ?_
        obtain ⟨hin, hf⟩ := cki_e hf
        refine gB_6 (pc := 36) hNN hx hb hK h hin dX7_countIn_36 ?_
        refine lv_iload_n (pc := 37) hx hb dX7_countIn_37 rfl (lv_at hl 1 rfl) ?_
        refine lv_icmp_ne (pc := 38) (tgt := 44) hx hb dX7_countIn_38 (by decide) (fun c11 => ?_) (fun c11 => ?_)
        · have hf := if_f hf c11
          refine lv_iinc (pc := 44) (v := x2 + 1) (lv' := [(4, .int (x2 + 1)), (0, .ref (a 5)), (1, .int p1), (2, .int p2), (3, .int x1)]) hx hb dX7_countIn_44 hl (k := 4) rfl rfl (by decide) rfl (fun ls hl => ?_)
          refine lv_goto (pc := 47) (tgt := 5) hx hb dX7_countIn_47 (by decide) ?_
          exact irec5 _ _ hf _ _ _ h (lv_sub hl [1, 2, 3, 4, 0] rfl)
        · have hf := if_t hf c11
          refine lv_iinc (pc := 41) (v := x1 + 1) (lv' := [(3, .int (x1 + 1)), (0, .ref (a 5)), (1, .int p1), (2, .int p2), (4, .int x2)]) hx hb dX7_countIn_41 hl (k := 3) rfl rfl (by decide) rfl (fun ls hl => ?_)
          refine lv_iinc (pc := 44) (v := x2 + 1) (lv' := [(4, .int (x2 + 1)), (3, .int (x1 + 1)), (0, .ref (a 5)), (1, .int p1), (2, .int p2)]) hx hb dX7_countIn_44 hl (k := 4) rfl rfl (by decide) rfl (fun ls hl => ?_)
          refine lv_goto (pc := 47) (tgt := 5) hx hb dX7_countIn_47 (by decide) ?_
          exact irec5 _ _ hf _ _ _ h (lv_sub hl [2, 3, 4, 1, 0] rfl)
theorem k_X7_countIn {p : Program} {l : Launch} {e : Env} {R : Room} {s : State} {m : MethodId} {args : Array Value} {below : List Frame} {meth : Method} {c : Code} {H : Heap} {locs : List Loc} {cells slots : Nat} {Q : State → Prop} {pc : Nat} {ls : Array Slot} {rest : List Value} {cc : ByteArray} {D : va_G} {cI cJ cR : ClassId} {a : Nat → Nat} {u : St} {own : String} {index nL : Nat} {N : Nat} (hNN : 38 ≤ N) {p1 : Int32} {p2 : Int32} {rr : Int32} (hx : p.tables.exec = Jvm.exec) (hb : c.code = cc) (hml : c.maxLocals = nL) (hown : s.vm.findClass own = some m.cls) (hts : ∀ w ∈ Gd, w.before args s = true) (hK : va_K D vwCl (tyB cI cJ cR) s) (hN : NB s) (hc : f_X7_countIn u p1 p2 = some rr) (hlk : Cond.methodLink own index yX7_countIn ∈ Gd) (hF : 3 ≤ R.frames) (hLo : 66 ≤ R.locals) (h : Hh D (AB N a s.heap.size) (wX N a (EB a cI cJ cR) u) s.heap H locs) (hsize : ls.size = nL) (hcs : cells ≤ R.cells ∧ slots ≤ R.slots) (hr : (rest.map fun v => v.category).sum ≤ 8) (hdg : decode cc pc = .ok (.invokevirtual index, 3)) (kk : ∀ (H1 : Heap) (locs1 : List Loc), Hh D (AB N a s.heap.size) (wX N a (EB a cI cJ cR) u) s.heap H1 locs1 → W p l e R s m args below meth c H1 locs1 cells slots Q (F0 m (pc + 3) ls (.int rr :: rest))) : W p l e R s m args below meth c H locs cells slots Q (F0 m pc ls (.int p2 :: .int p1 :: .ref (a 5) :: rest)) :=
  cVi (n := 2) hx hb hml hown hts hK hN (c_X7_countIn hNN hc) (gdV hlk im_X7_countIn se_X7_countIn in_X7 co_X7_countIn) rfl (by decide +kernel) rfl hF hLo h hsize hcs (Nat.lt_of_lt_of_le (by decide) hNN) rfl rfl rfl hr hdg kk
def B_X1_beginMoves_27 (k8 : St → Option (St)) (rec10 : St → Int32 → Option (St)) (u6 : St) (x7 : Int32) : Option (St) := if 6 ≤ x7 then k8 u6 else b1 (f_X7_countIn u6 x7 0) (fun (x12 : Int32) => cki x7 6 (bs (sI u6 24 (ix x7) x12) (fun u13 : St => rec10 u13 (x7 + 1))))
def f_X1_beginMoves (u : St) : Option (St) := bs (sI u 21 6 0) (fun u1 : St => bs (sI u1 21 7 0) (fun u2 : St => bs (sI u2 21 8 0) (fun u3 : St => bs (sI u3 21 9 0) (fun u4 : St => bs (sI u4 21 10 0) (fun u5 : St => jq_1 (fun (u9 : St) => some u9) (fun (k8 : St → Option (St)) => lq_2 (B_X1_beginMoves_27 k8) FU u5 0))))))
set_option maxRecDepth 100000 in
set_option maxHeartbeats 4000000 in
theorem c_X1_beginMoves {l : Launch} {D : va_G} {cI cJ cR : ClassId} {a : Nat → Nat} {u : St} {N : Nat} (hNN : 38 ≤ N) {uu : St} (hf : f_X1_beginMoves u = some uu) : Cv l yX1_beginMoves cX1_beginMoves 2 none 3 66 D (tyB cI cJ cR) N a (EB a cI cJ cR) [.ref (a 21)] u uu := by
  refine metV (by decide +kernel) (Nat.le_of_ble_eq_true rfl) ?_
  intro p e s m args below meth c R Q hx hb hml hown hts hF hLo hret hK hN h ls hl
  have hown : s.vm.findClass RX1 = some m.cls := hown
  have hl : lv_has ls 2 [(0, .ref (a 21))] := hl
  unfold f_X1_beginMoves at hf
  refine lv_aload_n (pc := 0) hx hb dX1_beginMoves_0 rfl (lv_at hl 0 rfl) ?_
  refine lv_iconst (pc := 1) (v := 0) hx hb dX1_beginMoves_1 (by decide) ?_
  refine pB_21_6 (pc := 2) hNN hx hb hts hown hK h fl_X1_102 dX1_beginMoves_2 (fun H locs h => ?_)
  obtain ⟨u1, eu1, hf⟩ := bs_e hf
  rw [← eu1] at h
  refine lv_aload_n (pc := 5) hx hb dX1_beginMoves_5 rfl (lv_at hl 0 rfl) ?_
  refine lv_iconst (pc := 6) (v := 0) hx hb dX1_beginMoves_6 (by decide) ?_
  refine pB_21_7 (pc := 7) hNN hx hb hts hown hK h fl_X1_89 dX1_beginMoves_7 (fun H locs h => ?_)
  obtain ⟨u2, eu2, hf⟩ := bs_e hf
  rw [← eu2] at h
  refine lv_aload_n (pc := 10) hx hb dX1_beginMoves_10 rfl (lv_at hl 0 rfl) ?_
  refine lv_iconst (pc := 11) (v := 0) hx hb dX1_beginMoves_11 (by decide) ?_
  refine pB_21_8 (pc := 12) hNN hx hb hts hown hK h fl_X1_112 dX1_beginMoves_12 (fun H locs h => ?_)
  obtain ⟨u3, eu3, hf⟩ := bs_e hf
  rw [← eu3] at h
  refine lv_aload_n (pc := 15) hx hb dX1_beginMoves_15 rfl (lv_at hl 0 rfl) ?_
  refine lv_iconst (pc := 16) (v := 0) hx hb dX1_beginMoves_16 (by decide) ?_
  refine pB_21_9 (pc := 17) hNN hx hb hts hown hK h fl_X1_99 dX1_beginMoves_17 (fun H locs h => ?_)
  obtain ⟨u4, eu4, hf⟩ := bs_e hf
  rw [← eu4] at h
  refine lv_aload_n (pc := 20) hx hb dX1_beginMoves_20 rfl (lv_at hl 0 rfl) ?_
  refine lv_iconst (pc := 21) (v := 0) hx hb dX1_beginMoves_21 (by decide) ?_
  refine pB_21_10 (pc := 22) hNN hx hb hts hown hK h fl_X1_115 dX1_beginMoves_22 (fun H locs h => ?_)
  obtain ⟨u5, eu5, hf⟩ := bs_e hf
  rw [← eu5] at h
  refine lv_iconst (pc := 25) (v := 0) hx hb dX1_beginMoves_25 (by decide) ?_
  refine lv_istore_n (pc := 26) (lv' := [(1, .int 0), (0, .ref (a 21))]) hx hb dX1_beginMoves_26 rfl hl (by decide) rfl (fun ls hl => ?_)
  obtain ⟨k8, hk8, hf⟩ := jq_1_e hf
  have jk8 : ∀ (u9 : St), k8 u9 = some uu → ∀ (H : Heap) (locs : List Loc) (ls : Array Slot), Hh D (AB N a s.heap.size) (wX N a (EB a cI cJ cR) u9) s.heap H locs → lv_has ls 2 [] → W p l e R s m args below meth c H locs 0 0 Q (F0 m 57 ls []) := by
    intro u9 hf H locs ls h hl
    rw [hk8] at hf
    exact hret (so hf) dX1_beginMoves_57 h
  refine lq_2_e (P := fun (u6 : St) (x7 : Int32) => ∀ (H : Heap) (locs : List Loc) (ls : Array Slot), Hh D (AB N a s.heap.size) (wX N a (EB a cI cJ cR) u6) s.heap H locs → lv_has ls 2 [(0, .ref (a 21)), (1, .int x7)] → W p l e R s m args below meth c H locs 0 0 Q (F0 m 27 ls [])) ?_ FU _ _ hf _ _ _ h (lv_sub hl [1, 0] rfl)
  intro rec10 irec10 u6 x7 hf H locs ls h hl
  unfold B_X1_beginMoves_27 at hf
  refine lv_iload_n (pc := 27) hx hb dX1_beginMoves_27 rfl (lv_at hl 1 rfl) ?_
  refine lv_bipush (pc := 28) (v := 6) hx hb dX1_beginMoves_28 (by decide) ?_
  refine lv_icmp_ge (pc := 30) (tgt := 57) hx hb dX1_beginMoves_30 (by decide) (fun c11 => ?_) (fun c11 => ?_)
  · have hf := if_t hf c11
    exact jk8 _ hf _ _ _ h (lv_sub hl [] rfl)
  · have hf := if_f hf c11
    refine lv_aload_n (pc := 33) hx hb dX1_beginMoves_33 rfl (lv_at hl 0 rfl) ?_
    refine gB_21_4 (pc := 34) hNN hx hb hts hown hK h fl_X1_18 dX1_beginMoves_34 ?_
    refine lv_iload_n (pc := 37) hx hb dX1_beginMoves_37 rfl (lv_at hl 1 rfl) ?_
    refine lv_aload_n (pc := 38) hx hb dX1_beginMoves_38 rfl (lv_at hl 0 rfl) ?_
    refine gB_21_0 (pc := 39) hNN hx hb hts hown hK h fl_X1_21 dX1_beginMoves_39 ?_
    refine gB_1_1 (pc := 42) hNN hx hb hts hown hK h fl_X1_33 dX1_beginMoves_42 ?_
    refine lv_iload_n (pc := 45) hx hb dX1_beginMoves_45 rfl (lv_at hl 1 rfl) ?_
    refine lv_iconst (pc := 46) (v := 0) hx hb dX1_beginMoves_46 (by decide) ?_
    obtain ⟨x12, hc, hf⟩ := b1_e hf
    refine k_X7_countIn (pc := 47) hNN hx hb hml hown hts hK hN hc ml_X1_118 (Nat.le_trans (by decide) hF) (Nat.le_trans (by decide) hLo) h hl.1 ⟨Nat.zero_le _, Nat.zero_le _⟩ (Nat.le_of_ble_eq_true rfl) dX1_beginMoves_47 (fun H locs h => ?_)
    obtain ⟨hin, hf⟩ := cki_e hf
    refine pB_24 (pc := 50) hNN hx hb hK h hin dX1_beginMoves_50 (fun H locs h => ?_)
    obtain ⟨u13, eu13, hf⟩ := bs_e hf
    rw [← eu13] at h
    refine lv_iinc (pc := 51) (v := x7 + 1) (lv' := [(1, .int (x7 + 1)), (0, .ref (a 21))]) hx hb dX1_beginMoves_51 hl (k := 1) rfl rfl (by decide) rfl (fun ls hl => ?_)
    refine lv_goto (pc := 54) (tgt := 27) hx hb dX1_beginMoves_54 (by decide) ?_
    exact irec10 _ _ hf _ _ _ h (lv_sub hl [1, 0] rfl)
theorem k_X1_beginMoves {p : Program} {l : Launch} {e : Env} {R : Room} {s : State} {m : MethodId} {args : Array Value} {below : List Frame} {meth : Method} {c : Code} {H : Heap} {locs : List Loc} {cells slots : Nat} {Q : State → Prop} {pc : Nat} {ls : Array Slot} {rest : List Value} {cc : ByteArray} {D : va_G} {cI cJ cR : ClassId} {a : Nat → Nat} {u : St} {own : String} {index nL : Nat} {N : Nat} (hNN : 38 ≤ N) {uu : St} (hx : p.tables.exec = Jvm.exec) (hb : c.code = cc) (hml : c.maxLocals = nL) (hown : s.vm.findClass own = some m.cls) (hts : ∀ w ∈ Gd, w.before args s = true) (hK : va_K D vwCl (tyB cI cJ cR) s) (hN : NB s) (hc : f_X1_beginMoves u = some uu) (hlk : Cond.methodLink own index yX1_beginMoves ∈ Gd) (hF : 4 ≤ R.frames) (hLo : 87 ≤ R.locals) (h : Hh D (AB N a s.heap.size) (wX N a (EB a cI cJ cR) u) s.heap H locs) (hsize : ls.size = nL) (hcs : cells ≤ R.cells ∧ slots ≤ R.slots) (hr : (rest.map fun v => v.category).sum ≤ 8) (hdg : decode cc pc = .ok (.invokevirtual index, 3)) (kk : ∀ (H1 : Heap) (locs1 : List Loc), Hh D (AB N a s.heap.size) (wX N a (EB a cI cJ cR) uu) s.heap H1 locs1 → W p l e R s m args below meth c H1 locs1 cells slots Q (F0 m (pc + 3) ls (rest))) : W p l e R s m args below meth c H locs cells slots Q (F0 m pc ls (.ref (a 21) :: rest)) :=
  cVv (n := 0) hx hb hml hown hts hK hN (c_X1_beginMoves hNN hc) (gdV hlk im_X1_beginMoves se_X1_beginMoves in_X1 co_X1_beginMoves) rfl (by decide +kernel) rfl hF hLo h hsize hcs (Nat.lt_of_lt_of_le (by decide) hNN) rfl rfl rfl hr hdg kk
