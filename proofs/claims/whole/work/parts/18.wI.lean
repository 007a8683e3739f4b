def f_X12_fault (u : St) (p1 : Int32) : Option (Int32) := if p1 = 0 then b1 (f_X12_faultOfTable u) (fun (x4 : Int32) => some x4) else if p1 = 1 then b1 (f_X12_faultOfMoves u) (fun (x3 : Int32) => some x3) else some ((-2))
set_option maxRecDepth 100000 in
set_option maxHeartbeats 4000000 in
theorem c_X12_fault {l : Launch} {D : va_G} {cI cZ : ClassId} {a : Nat → Nat} {u : St} {p1 : Int32} {rr : Int32} (hf : f_X12_fault u p1 = some rr) : Ci l yX12_fault cX12_fault 2 (some .int) 3 70 D (tyM cI cZ) 21 a (EM a cI cZ) [.ref (a 0), .int p1] u rr u := by
  refine metI (by decide +kernel) (Nat.le_of_ble_eq_true rfl) ?_
  intro p e s m args below meth c R Q hx hb hml hown hts hF hLo hret hK hN h ls hl
  have hown : s.vm.findClass RX12 = some m.cls := hown
  have hl : lv_has ls 2 [(0, .ref (a 0)), (1, .int p1)] := hl
  unfold f_X12_fault at hf
  refine lv_iload_n (pc := 0) hx hb dX12_fault_0 rfl (lv_at hl 1 rfl) ?_
  refine lv_if_ne (pc := 1) (tgt := 11) hx hb dX12_fault_1 (by decide) (fun c1 => ?_) (fun c1 => ?_)
  · have hf := if_f hf c1
    refine lv_iload_n (pc := 11) hx hb dX12_fault_11 rfl (lv_at hl 1 rfl) ?_
    refine lv_iconst (pc := 12) (v := 1) hx hb dX12_fault_12 (by decide) ?_
    refine lv_icmp_ne (pc := 13) (tgt := 23) hx hb dX12_fault_13 (by decide) (fun c2 => ?_) (fun c2 => ?_)
    · have hf := if_f hf c2
      refine lv_bipush (pc := 23) (v := (-2)) hx hb dX12_fault_23 (by decide) ?_
      exact hret (so hf) rfl rfl dX12_fault_25 h
    · have hf := if_t hf c2
      refine lv_aload_n (pc := 16) hx hb dX12_fault_16 rfl (lv_at hl 0 rfl) ?_
      obtain ⟨x3, hc, hf⟩ := b1_e hf
      refine k_X12_faultOfMoves (pc := 17) hx hb hml hown hts hK hN hc ml_X12_148 (Nat.le_trans (by decide) hF) (Nat.le_trans (by decide) hLo) h hl.1 ⟨Nat.zero_le _, Nat.zero_le _⟩ (Nat.le_of_ble_eq_true rfl) dX12_fault_17 (fun H locs h => ?_)
      refine lv_goto (pc := 20) (tgt := 25) hx hb dX12_fault_20 (by decide) ?_
      exact hret (so hf) rfl rfl dX12_fault_25 h
  · have hf := if_t hf c1
    refine lv_aload_n (pc := 4) hx hb dX12_fault_4 rfl (lv_at hl 0 rfl) ?_
    obtain ⟨x4, hc, hf⟩ := b1_e hf
    refine k_X12_faultOfTable (pc := 5) hx hb hml hown hts hK hN hc ml_X12_144 (Nat.le_trans (by decide) hF) (Nat.le_trans (by decide) hLo) h hl.1 ⟨Nat.zero_le _, Nat.zero_le _⟩ (Nat.le_of_ble_eq_true rfl) dX12_fault_5 (fun H locs h => ?_)
    refine lv_goto (pc := 8) (tgt := 25) hx hb dX12_fault_8 (by decide) ?_
    exact hret (so hf) rfl rfl dX12_fault_25 h
theorem k_X12_fault {p : Program} {l : Launch} {e : Env} {R : Room} {s : State} {m : MethodId} {args : Array Value} {below : List Frame} {meth : Method} {c : Code} {H : Heap} {locs : List Loc} {cells slots : Nat} {Q : State → Prop} {pc : Nat} {ls : Array Slot} {rest : List Value} {cc : ByteArray} {D : va_G} {cI cZ : ClassId} {a : Nat → Nat} {u : St} {own : String} {index nL : Nat} {p1 : Int32} {rr : Int32} (hx : p.tables.exec = Jvm.exec) (hb : c.code = cc) (hml : c.maxLocals = nL) (hown : s.vm.findClass own = some m.cls) (hts : ∀ w ∈ Gd, w.before args s = true) (hK : va_K D vwCl (tyM cI cZ) s) (hN : NB s) (hc : f_X12_fault u p1 = some rr) (hlk : Cond.methodLink own index yX12_fault ∈ Gd) (hF : 4 ≤ R.frames) (hLo : 91 ≤ R.locals) (h : Hh D (AB 21 a s.heap.size) (wX 21 a (EM a cI cZ) u) s.heap H locs) (hsize : ls.size = nL) (hcs : cells ≤ R.cells ∧ slots ≤ R.slots) (hr : (rest.map fun v => v.category).sum ≤ 8) (hdg : decode cc pc = .ok (.invokevirtual index, 3)) (kk : ∀ (H1 : Heap) (locs1 : List Loc), Hh D (AB 21 a s.heap.size) (wX 21 a (EM a cI cZ) u) s.heap H1 locs1 → W p l e R s m args below meth c H1 locs1 cells slots Q (F0 m (pc + 3) ls (.int rr :: rest))) : W p l e R s m args below meth c H locs cells slots Q (F0 m pc ls (.int p1 :: .ref (a 0) :: rest)) :=
  cVi (n := 1) hx hb hml hown hts hK hN (c_X12_fault hc) (gdV hlk im_X12_fault se_X12_fault in_X12 co_X12_fault) rfl (by decide +kernel) rfl hF hLo h hsize hcs (by decide) rfl rfl rfl hr hdg kk
def B_X12_table_12 (k5 : St → Option (Int32 × St)) (rec9 : St → Int32 → Option (Int32 × St)) (u3 : St) (x4 : Int32) : Option (Int32 × St) := if (u3.1 0 20) ≤ x4 then k5 u3 else cki x4 60 (cki x4 30 (bs (sI u3 7 (ix x4) ((u3.1 12 (ix x4)) - (48 : Int32))) (fun u11 : St => rec9 u11 (x4 + 1))))
def f_X12_table (u : St) : Option (Int32 × St) := b1 (f_X12_faultOfTable u) (fun (x1 : Int32) => if x1 < 0 then jq_1 (fun (u6 : St) => bs (sI u6 0 10 (u6.1 0 20)) (fun u7 : St => bs (sI u7 0 20 0) (fun u8 : St => some (u8.1 0 10, u8)))) (fun (k5 : St → Option (Int32 × St)) => lq_2 (B_X12_table_12 k5) FU u 0) else some ((-5), u))
set_option maxRecDepth 100000 in
set_option maxHeartbeats 4000000 in
theorem c_X12_table {l : Launch} {D : va_G} {cI cZ : ClassId} {a : Nat → Nat} {u : St} {rr : Int32} {uu : St} (hf : f_X12_table u = some (rr, uu)) : Ci l yX12_table cX12_table 2 (some .int) 2 46 D (tyM cI cZ) 21 a (EM a cI cZ) [.ref (a 0)] u rr uu := by
  refine metI (by decide +kernel) (Nat.le_of_ble_eq_true rfl) ?_
  intro p e s m args below meth c R Q hx hb hml hown hts hF hLo hret hK hN h ls hl
  have hown : s.vm.findClass RX12 = some m.cls := hown
  have hl : lv_has ls 2 [(0, .ref (a 0))] := hl
  unfold f_X12_table at hf
  refine lv_aload_n (pc := 0) hx hb dX12_table_0 rfl (lv_at hl 0 rfl) ?_
  obtain ⟨x1, hc, hf⟩ := b1_e hf
  refine k_X12_faultOfTable (pc := 1) hx hb hml hown hts hK hN hc ml_X12_144 (Nat.le_trans (by decide) hF) (Nat.le_trans (by decide) hLo) h hl.1 ⟨Nat.zero_le _, Nat.zero_le _⟩ (Nat.le_of_ble_eq_true rfl) dX12_table_1 (fun H locs h => ?_)
  refine lv_if_lt (pc := 4) (tgt := 10) hx hb dX12_table_4 (by decide) (fun c2 => ?_) (fun c2 => ?_)
  · have hf := if_t hf c2
    refine lv_iconst (pc := 10) (v := 0) hx hb dX12_table_10 (by decide) ?_
    refine lv_istore_n (pc := 11) (lv' := [(1, .int 0), (0, .ref (a 0))]) hx hb dX12_table_11 rfl hl (by decide) rfl (fun ls hl => ?_)
    obtain ⟨k5, hk5, hf⟩ := jq_1_e hf
    have jk5 : ∀ (u6 : St), k5 u6 = some (rr, uu) → ∀ (H : Heap) (locs : List Loc) (ls : Array Slot), Hh D (AB 21 a s.heap.size) (wX 21 a (EM a cI cZ) u6) s.heap H locs → lv_has ls 2 [(0, .ref (a 0))] → W p l e R s m args below meth c H locs 0 0 Q (F0 m 41 ls []) := by
      intro u6 hf H locs ls h hl
      rw [hk5] at hf
      refine lv_aload_n (pc := 41) hx hb dX12_table_41 rfl (lv_at hl 0 rfl) ?_
      refine lv_aload_n (pc := 42) hx hb dX12_table_42 rfl (lv_at hl 0 rfl) ?_
      refine gM_0_20 (pc := 43) hx hb hts hown hK h fl_X12_135 dX12_table_43 ?_
      refine pM_0_10 (pc := 46) hx hb hts hown hK h fl_X12_78 dX12_table_46 (fun H locs h => ?_)
      obtain ⟨u7, eu7, hf⟩ := bs_e hf
      rw [← eu7] at h
      refine lv_aload_n (pc := 49) hx hb dX12_table_49 rfl (lv_at hl 0 rfl) ?_
      refine lv_iconst (pc := 50) (v := 0) hx hb dX12_table_50 (by decide) ?_
      refine pM_0_20 (pc := 51) hx hb hts hown hK h fl_X12_135 dX12_table_51 (fun H locs h => ?_)
      obtain ⟨u8, eu8, hf⟩ := bs_e hf
      rw [← eu8] at h
      refine lv_aload_n (pc := 54) hx hb dX12_table_54 rfl (lv_at hl 0 rfl) ?_
      refine gM_0_10 (pc := 55) hx hb hts hown hK h fl_X12_78 dX12_table_55 ?_
      exact hret (so1 hf) rfl (so2 hf) dX12_table_58 h
    refine lq_2_e (P := fun (u3 : St) (x4 : Int32) => ∀ (H : Heap) (locs : List Loc) (ls : Array Slot), Hh D (AB 21 a s.heap.size) (wX 21 a (EM a cI cZ) u3) s.heap H locs → lv_has ls 2 [(0, .ref (a 0)), (1, .int x4)] → W p l e R s m args below meth c H locs 0 0 Q (F0 m 12 ls [])) ?_ FU _ _ hf _ _ _ h (lv_sub hl [1, 0] rfl)
    intro rec9 irec9 u3 x4 hf H locs ls h hl
    unfold B_X12_table_12 at hf
    refine lv_iload_n (pc := 12) hx hb dX12_table_12 rfl (lv_at hl 1 rfl) ?_
    refine lv_aload_n (pc := 13) hx hb dX12_table_13 rfl (lv_at hl 0 rfl) ?_
    refine gM_0_20 (pc := 14) hx hb hts hown hK h fl_X12_135 dX12_table_14 ?_
    refine lv_icmp_ge (pc := 17) (tgt := 41) hx hb dX12_table_17 (by decide) (fun c10 => ?_) (fun c10 => ?_)
    · have hf := if_t hf c10
      exact jk5 _ hf _ _ _ h (lv_sub hl [0] rfl)
    · have hf := if_f hf c10
      refine lv_aload_n (pc := 20) hx hb dX12_table_20 rfl (lv_at hl 0 rfl) ?_
      refine gM_0_9 (pc := 21) hx hb hts hown hK h fl_X12_28 dX12_table_21 ?_
      refine lv_iload_n (pc := 24) hx hb dX12_table_24 rfl (lv_at hl 1 rfl) ?_
      refine lv_aload_n (pc := 25) hx hb dX12_table_25 rfl (lv_at hl 0 rfl) ?_
      refine gM_0_19 (pc := 26) hx hb hts hown hK h fl_X12_43 dX12_table_26 ?_
      refine lv_iload_n (pc := 29) hx hb dX12_table_29 rfl (lv_at hl 1 rfl) ?_
      obtain ⟨hin, hf⟩ := cki_e hf
      refine gM_12 (pc := 30) hx hb hK h hin dX12_table_30 ?_
      refine lv_bipush (pc := 31) (v := 48) hx hb dX12_table_31 (by decide) ?_
      refine lv_isub (pc := 33) hx hb dX12_table_33 ?_
      obtain ⟨hin, hf⟩ := cki_e hf
      refine pM_7 (pc := 34) hx hb hK h hin dX12_table_34 (fun H locs h => ?_)
      obtain ⟨u11, eu11, hf⟩ := bs_e hf
      rw [← eu11] at h
      refine lv_iinc (pc := 35) (v := x4 + 1) (lv' := [(1, .int (x4 + 1)), (0, .ref (a 0))]) hx hb dX12_table_35 hl (k := 1) rfl rfl (by decide) rfl (fun ls hl => ?_)
      refine lv_goto (pc := 38) (tgt := 12) hx hb dX12_table_38 (by decide) ?_
      exact irec9 _ _ hf _ _ _ h (lv_sub hl [1, 0] rfl)
  · have hf := if_f hf c2
    refine lv_bipush (pc := 7) (v := (-5)) hx hb dX12_table_7 (by decide) ?_
    exact hret (so1 hf) rfl (so2 hf) dX12_table_9 h
theorem k_X12_table {p : Program} {l : Launch} {e : Env} {R : Room} {s : State} {m : MethodId} {args : Array Value} {below : List Frame} {meth : Method} {c : Code} {H : Heap} {locs : List Loc} {cells slots : Nat} {Q : State → Prop} {pc : Nat} {ls : Array Slot} {rest : List Value} {cc : ByteArray} {D : va_G} {cI cZ : ClassId} {a : Nat → Nat} {u : St} {own : String} {index nL : Nat} {rr : Int32} {uu : St} (hx : p.tables.exec = Jvm.exec) (hb : c.code = cc) (hml : c.maxLocals = nL) (hown : s.vm.findClass own = some m.cls) (hts : ∀ w ∈ Gd, w.before args s = true) (hK : va_K D vwCl (tyM cI cZ) s) (hN : NB s) (hc : f_X12_table u = some (rr, uu)) (hlk : Cond.methodLink own index yX12_table ∈ Gd) (hF : 3 ≤ R.frames) (hLo : 67 ≤ R.locals) (h : Hh D (AB 21 a s.heap.size) (wX 21 a (EM a cI cZ) u) s.heap H locs) (hsize : ls.size = nL) (hcs : cells ≤ R.cells ∧ slots ≤ R.slots) (hr : (rest.map fun v => v.category).sum ≤ 8) (hdg : decode cc pc = .ok (.invokevirtual index, 3)) (kk : ∀ (H1 : Heap) (locs1 : List Loc), Hh D (AB 21 a s.heap.size) (wX 21 a (EM a cI cZ) uu) s.heap H1 locs1 → W p l e R s m args below meth c H1 locs1 cells slots Q (F0 m (pc + 3) ls (.int rr :: rest))) : W p l e R s m args below meth c H locs cells slots Q (F0 m pc ls (.ref (a 0) :: rest)) :=
  cVi (n := 0) hx hb hml hown hts hK hN (c_X12_table hc) (gdV hlk im_X12_table se_X12_table in_X12 co_X12_table) rfl (by decide +kernel) rfl hF hLo h hsize hcs (by decide) rfl rfl rfl hr hdg kk
def f_X12_levelOn (u : St) (p1 : Int32) : Option (Int32) := ck (¬ (u.1 0 10) = 0) (cki ((p1 + (u.1 0 13)) - (p1 + (u.1 0 13)) / (u.1 0 10) * (u.1 0 10)) 30 (jq_1 (fun (x2 : Int32) => bs (((u.1 7 (ix ((p1 + (u.1 0 13)) - (p1 + (u.1 0 13)) / (u.1 0 10) * (u.1 0 10)))) + x2) - (u.1 0 22)) (fun x3 : Int32 => if x3 ≤ 0 then some 0 else some x3)) (fun (k1 : Int32 → Option (Int32)) => if 63 ≤ p1 then k1 0 else if (lg_cmp (((u.2 0 21) >>> (Int32.toInt64 p1 &&& 63)) &&& (1 : Int64)) 1) = 0 then k1 1 else k1 0)))
set_option maxRecDepth 100000 in
set_option maxHeartbeats 4000000 in
theorem c_X12_levelOn {l : Launch} {D : va_G} {cI cZ : ClassId} {a : Nat → Nat} {u : St} {p1 : Int32} {rr : Int32} (hf : f_X12_levelOn u p1 = some rr) : Ci l yX12_levelOn cX12_levelOn 3 (some .int) 0 0 D (tyM cI cZ) 21 a (EM a cI cZ) [.ref (a 0), .int p1] u rr u := by
  refine metI (by decide +kernel) (Nat.le_of_ble_eq_true rfl) ?_
  intro p e s m args below meth c R Q hx hb hml hown hts hF hLo hret hK hN h ls hl
  have hown : s.vm.findClass RX12 = some m.cls := hown
  have hl : lv_has ls 3 [(0, .ref (a 0)), (1, .int p1)] := hl
  unfold f_X12_levelOn at hf
  refine lv_aload_n (pc := 0) hx hb dX12_levelOn_0 rfl (lv_at hl 0 rfl) ?_
  refine gM_0_9 (pc := 1) hx hb hts hown hK h fl_X12_28 dX12_levelOn_1 ?_
  refine lv_iload_n (pc := 4) hx hb dX12_levelOn_4 rfl (lv_at hl 1 rfl) ?_
  refine lv_aload_n (pc := 5) hx hb dX12_levelOn_5 rfl (lv_at hl 0 rfl) ?_
  refine gM_0_13 (pc := 6) hx hb hts hown hK h fl_X12_128 dX12_levelOn_6 ?_
  refine lv_iadd (pc := 9) hx hb dX12_levelOn_9 ?_
  refine lv_aload_n (pc := 10) hx hb dX12_levelOn_10 rfl (lv_at hl 0 rfl) ?_
  refine gM_0_10 (pc := 11) hx hb hts hown hK h fl_X12_78 dX12_levelOn_11 ?_
  obtain ⟨hne, hf⟩ := ck_e hf
  refine lv_irem (pc := 14) hx hb dX12_levelOn_14 hne ?_
  obtain ⟨hin, hf⟩ := cki_e hf
  refine gM_7 (pc := 15) hx hb hK h hin dX12_levelOn_15 ?_
  refine lv_iload_n (pc := 16) hx hb dX12_levelOn_16 rfl (lv_at hl 1 rfl) ?_
  refine lv_bipush (pc := 17) (v := 63) hx hb dX12_levelOn_17 (by decide) ?_
  obtain ⟨k1, hk1, hf⟩ := jq_1_e hf
  have jk1 : ∀ (x2 : Int32), k1 x2 = some rr → ∀ (H : Heap) (locs : List Loc) (ls : Array Slot), Hh D (AB 21 a s.heap.size) (wX 21 a (EM a cI cZ) u) s.heap H locs → lv_has ls 3 [(0, .ref (a 0))] → W p l e R s m args below meth c H locs 0 0 Q (F0 m 40 ls [.int x2, .int (u.1 7 (ix ((p1 + (u.1 0 13)) - (p1 + (u.1 0 13)) / (u.1 0 10) * (u.1 0 10))))]) := by
    intro x2 hf H locs ls h hl
    rw [hk1] at hf
    refine lv_iadd (pc := 40) hx hb dX12_levelOn_40 ?_
    refine lv_aload_n (pc := 41) hx hb dX12_levelOn_41 rfl (lv_at hl 0 rfl) ?_
    refine gM_0_22 (pc := 42) hx hb hts hown hK h fl_X12_155 dX12_levelOn_42 ?_
    refine lv_isub (pc := 45) hx hb dX12_levelOn_45 ?_
    obtain ⟨x3, ex3, hf⟩ := bs_e hf
    refine rTop ex3 ?_
    refine lv_istore_n (pc := 46) (lv' := [(2, .int x3), (0, .ref (a 0))]) hx hb dX12_levelOn_46 rfl hl (by decide) rfl (fun ls hl => ?_)
    refine lv_iload_n (pc := 47) hx hb dX12_levelOn_47 rfl (lv_at hl 0 rfl) ?_
    refine lv_if_le (pc := 48) (tgt := 55) hx hb dX12_levelOn_48 (by decide) (fun c4 => ?_) (fun c4 => ?_)
    · have hf := if_t hf c4
      refine lv_iconst (pc := 55) (v := 0) hx hb dX12_levelOn_55 (by decide) ?_
      exact hret (so hf) rfl rfl dX12_levelOn_56 h
    · have hf := if_f hf c4
      refine lv_iload_n (pc := 51) hx hb dX12_levelOn_51 rfl (lv_at hl 0 rfl) ?_
      refine lv_goto (pc := 52) (tgt := 56) hx hb dX12_levelOn_52 (by decide) ?_
      exact hret (so hf) rfl rfl dX12_levelOn_56 h
  refine lv_icmp_ge (pc := 19) (tgt := 39) hx hb dX12_levelOn_19 (by decide) (fun c5 => ?_) (fun c5 => ?_)
  · have hf := if_t hf c5
    refine lv_iconst (pc := 39) (v := 0) hx hb dX12_levelOn_39 (by decide) ?_
    exact jk1 _ hf _ _ _ h (lv_sub hl [0] rfl)
  · have hf := if_f hf c5
    refine lv_aload_n (pc := 22) hx hb dX12_levelOn_22 rfl (lv_at hl 0 rfl) ?_
    refine gM_0_21 (pc := 23) hx hb hts hown hK h fl_X12_151 dX12_levelOn_23 ?_
    refine lv_iload_n (pc := 26) hx hb dX12_levelOn_26 rfl (lv_at hl 1 rfl) ?_
    refine lv_lshr (pc := 27) (v := (u.2 0 21) >>> (Int32.toInt64 p1 &&& 63)) hx hb dX12_levelOn_27 rfl ?_
    refine lv_lconst (pc := 28) (v := 1) hx hb dX12_levelOn_28 (by decide) ?_
    refine lv_land (pc := 29) hx hb dX12_levelOn_29 ?_
    refine lv_lconst (pc := 30) (v := 1) hx hb dX12_levelOn_30 (by decide) ?_
    refine W.lcmp (pc := 31) hx hb dX12_levelOn_31 ?_
    refine lv_if_ne (pc := 32) (tgt := 39) hx hb dX12_levelOn_32 (by decide) (fun c6 => ?_) (fun c6 => ?_)
    · have hf := if_f hf c6
      refine lv_iconst (pc := 39) (v := 0) hx hb dX12_levelOn_39 (by decide) ?_
      exact jk1 _ hf _ _ _ h (lv_sub hl [0] rfl)
    · have hf := if_t hf c6
      refine lv_iconst (pc := 35) (v := 1) hx hb dX12_levelOn_35 (by decide) ?_
      refine lv_goto (pc := 36) (tgt := 40) hx hb dX12_levelOn_36 (by decide) ?_
      exact jk1 _ hf _ _ _ h (lv_sub hl [0] rfl)
theorem k_X12_levelOn {p : Program} {l : Launch} {e : Env} {R : Room} {s : State} {m : MethodId} {args : Array Value} {below : List Frame} {meth : Method} {c : Code} {H : Heap} {locs : List Loc} {cells slots : Nat} {Q : State → Prop} {pc : Nat} {ls : Array Slot} {rest : List Value} {cc : ByteArray} {D : va_G} {cI cZ : ClassId} {a : Nat → Nat} {u : St} {own : String} {index nL : Nat} {p1 : Int32} {rr : Int32} (hx : p.tables.exec = Jvm.exec) (hb : c.code = cc) (hml : c.maxLocals = nL) (hown : s.vm.findClass own = some m.cls) (hts : ∀ w ∈ Gd, w.before args s = true) (hK : va_K D vwCl (tyM cI cZ) s) (hN : NB s) (hc : f_X12_levelOn u p1 = some rr) (hlk : Cond.methodLink own index yX12_levelOn ∈ Gd) (hF : 1 ≤ R.frames) (hLo : 22 ≤ R.locals) (h : Hh D (AB 21 a s.heap.size) (wX 21 a (EM a cI cZ) u) s.heap H locs) (hsize : ls.size = nL) (hcs : cells ≤ R.cells ∧ slots ≤ R.slots) (hr : (rest.map fun v => v.category).sum ≤ 8) (hdg : decode cc pc = .ok (.invokevirtual index, 3)) (kk : ∀ (H1 : Heap) (locs1 : List Loc), Hh D (AB 21 a s.heap.size) (wX 21 a (EM a cI cZ) u) s.heap H1 locs1 → W p l e R s m args below meth c H1 locs1 cells slots Q (F0 m (pc + 3) ls (.int rr :: rest))) : W p l e R s m args below meth c H locs cells slots Q (F0 m pc ls (.int p1 :: .ref (a 0) :: rest)) :=
  cVi (n := 1) hx hb hml hown hts hK hN (c_X12_levelOn hc) (gdV hlk im_X12_levelOn se_X12_levelOn in_X12 co_X12_levelOn) rfl (by decide +kernel) rfl hF hLo h hsize hcs (by decide) rfl rfl rfl hr hdg kk
def f_X12_breathOn (u : St) (p1 : Int32) (p2 : Int32) : Option (Int32) := b1 (f_X12_levelOn u p2) (fun (x1 : Int32) => cki p1 6 (if (((u.1 0 3) >>> (p1 &&& 31)) &&& (1 : Int32)) = 1 then some 0 else if 0 ≤ (x1 - (u.1 1 (ix p1))) then some (x1 - (u.1 1 (ix p1))) else some 0))
set_option maxRecDepth 100000 in
set_option maxHeartbeats 4000000 in
theorem c_X12_breathOn {l : Launch} {D : va_G} {cI cZ : ClassId} {a : Nat → Nat} {u : St} {p1 : Int32} {p2 : Int32} {rr : Int32} (hf : f_X12_breathOn u p1 p2 = some rr) : Ci l yX12_breathOn cX12_breathOn 4 (some .int) 1 22 D (tyM cI cZ) 21 a (EM a cI cZ) [.ref (a 0), .int p1, .int p2] u rr u := by
  refine metI (by decide +kernel) (Nat.le_of_ble_eq_true rfl) ?_
  intro p e s m args below meth c R Q hx hb hml hown hts hF hLo hret hK hN h ls hl
  have hown : s.vm.findClass RX12 = some m.cls := hown
  have hl : lv_has ls 4 [(0, .ref (a 0)), (1, .int p1), (2, .int p2)] := hl
  unfold f_X12_breathOn at hf
  refine lv_aload_n (pc := 0) hx hb dX12_breathOn_0 rfl (lv_at hl 0 rfl) ?_
  refine lv_iload_n (pc := 1) hx hb dX12_breathOn_1 rfl (lv_at hl 2 rfl) ?_
  obtain ⟨x1, hc, hf⟩ := b1_e hf
  refine k_X12_levelOn (pc := 2) hx hb hml hown hts hK hN hc ml_X12_158 (Nat.le_trans (by decide) hF) (Nat.le_trans (by decide) hLo) h hl.1 ⟨Nat.zero_le _, Nat.zero_le _⟩ (Nat.le_of_ble_eq_true rfl) dX12_breathOn_2 (fun H locs h => ?_)
  refine lv_aload_n (pc := 5) hx hb dX12_breathOn_5 rfl (lv_at hl 0 rfl) ?_
  refine gM_0_1 (pc := 6) hx hb hts hown hK h fl_X12_7 dX12_breathOn_6 ?_
  refine lv_iload_n (pc := 9) hx hb dX12_breathOn_9 rfl (lv_at hl 1 rfl) ?_
  obtain ⟨hin, hf⟩ := cki_e hf
  refine gM_1 (pc := 10) hx hb hK h hin dX12_breathOn_10 ?_
  refine lv_isub (pc := 11) hx hb dX12_breathOn_11 ?_
  refine lv_istore_n (pc := 12) (lv' := [(3, .int (x1 - (u.1 1 (ix p1)))), (0, .ref (a 0)), (1, .int p1), (2, .int p2)]) hx hb dX12_breathOn_12 rfl hl (by decide) rfl (fun ls hl => ?_)
  refine lv_aload_n (pc := 13) hx hb dX12_breathOn_13 rfl (lv_at hl 1 rfl) ?_
  refine gM_0_3 (pc := 14) hx hb hts hown hK h fl_X12_88 dX12_breathOn_14 ?_
  refine lv_iload_n (pc := 17) hx hb dX12_breathOn_17 rfl (lv_at hl 2 rfl) ?_
  refine lv_ishr (pc := 18) hx hb dX12_breathOn_18 ?_
  refine lv_iconst (pc := 19) (v := 1) hx hb dX12_breathOn_19 (by decide) ?_
  refine lv_iand (pc := 20) hx hb dX12_breathOn_20 ?_
  refine lv_iconst (pc := 21) (v := 1) hx hb dX12_breathOn_21 (by decide) ?_
  refine lv_icmp_eq (pc := 22) (tgt := 29) hx hb dX12_breathOn_22 (by decide) (fun c2 => ?_) (fun c2 => ?_)
  · have hf := if_t hf c2
    refine lv_iconst (pc := 29) (v := 0) hx hb dX12_breathOn_29 (by decide) ?_
    refine lv_goto (pc := 30) (tgt := 34) hx hb dX12_breathOn_30 (by decide) ?_
    exact hret (so hf) rfl rfl dX12_breathOn_34 h
  · have hf := if_f hf c2
    refine lv_iload_n (pc := 25) hx hb dX12_breathOn_25 rfl (lv_at hl 0 rfl) ?_
    refine lv_if_ge (pc := 26) (tgt := 33) hx hb dX12_breathOn_26 (by decide) (fun c3 => ?_) (fun c3 => ?_)
    · have hf := if_t hf c3
      refine lv_iload_n (pc := 33) hx hb dX12_breathOn_33 rfl (lv_at hl 0 rfl) ?_
      exact hret (so hf) rfl rfl dX12_breathOn_34 h
    · have hf := if_f hf c3
      refine lv_iconst (pc := 29) (v := 0) hx hb dX12_breathOn_29 (by decide) ?_
      refine lv_goto (pc := 30) (tgt := 34) hx hb dX12_breathOn_30 (by decide) ?_
      exact hret (so hf) rfl rfl dX12_breathOn_34 h
theorem k_X12_breathOn {p : Program} {l : Launch} {e : Env} {R : Room} {s : State} {m : MethodId} {args : Array Value} {below : List Frame} {meth : Method} {c : Code} {H : Heap} {locs : List Loc} {cells slots : Nat} {Q : State → Prop} {pc : Nat} {ls : Array Slot} {rest : List Value} {cc : ByteArray} {D : va_G} {cI cZ : ClassId} {a : Nat → Nat} {u : St} {own : String} {index nL : Nat} {p1 : Int32} {p2 : Int32} {rr : Int32} (hx : p.tables.exec = Jvm.exec) (hb : c.code = cc) (hml : c.maxLocals = nL) (hown : s.vm.findClass own = some m.cls) (hts : ∀ w ∈ Gd, w.before args s = true) (hK : va_K D vwCl (tyM cI cZ) s) (hN : NB s) (hc : f_X12_breathOn u p1 p2 = some rr) (hlk : Cond.methodLink own index yX12_breathOn ∈ Gd) (hF : 2 ≤ R.frames) (hLo : 45 ≤ R.locals) (h : Hh D (AB 21 a s.heap.size) (wX 21 a (EM a cI cZ) u) s.heap H locs) (hsize : ls.size = nL) (hcs : cells ≤ R.cells ∧ slots ≤ R.slots) (hr : (rest.map fun v => v.category).sum ≤ 8) (hdg : decode cc pc = .ok (.invokevirtual index, 3)) (kk : ∀ (H1 : Heap) (locs1 : List Loc), Hh D (AB 21 a s.heap.size) (wX 21 a (EM a cI cZ) u) s.heap H1 locs1 → W p l e R s m args below meth c H1 locs1 cells slots Q (F0 m (pc + 3) ls (.int rr :: rest))) : W p l e R s m args below meth c H locs cells slots Q (F0 m pc ls (.int p2 :: .int p1 :: .ref (a 0) :: rest)) :=
  cVi (n := 2) hx hb hml hown hts hK hN (c_X12_breathOn hc) (gdV hlk im_X12_breathOn se_X12_breathOn in_X12 co_X12_breathOn) rfl (by decide +kernel) rfl hF hLo h hsize hcs (by decide) rfl rfl rfl hr hdg kk
def f_X12_rise (u : St) (p1 : Int32) (p2 : Int32) (p3 : Int32) : Option (Int32) := b1 (f_X12_breathOn u p2 p3) (fun (x1 : Int32) => cki p1 8 (if (x1 - (u.1 5 (ix p1))) ≤ 0 then some 0 else some (x1 - (u.1 5 (ix p1)))))
set_option maxRecDepth 100000 in
set_option maxHeartbeats 4000000 in
theorem c_X12_rise {l : Launch} {D : va_G} {cI cZ : ClassId} {a : Nat → Nat} {u : St} {p1 : Int32} {p2 : Int32} {p3 : Int32} {rr : Int32} (hf : f_X12_rise u p1 p2 p3 = some rr) : Ci l yX12_rise cX12_rise 5 (some .int) 2 45 D (tyM cI cZ) 21 a (EM a cI cZ) [.ref (a 0), .int p1, .int p2, .int p3] u rr u := by
  refine metI (by decide +kernel) (Nat.le_of_ble_eq_true rfl) ?_
  intro p e s m args below meth c R Q hx hb hml hown hts hF hLo hret hK hN h ls hl
  have hown : s.vm.findClass RX12 = some m.cls := hown
  have hl : lv_has ls 5 [(0, .ref (a 0)), (1, .int p1), (2, .int p2), (3, .int p3)] := hl
  unfold f_X12_rise at hf
  refine lv_aload_n (pc := 0) hx hb dX12_rise_0 rfl (lv_at hl 0 rfl) ?_
  refine lv_iload_n (pc := 1) hx hb dX12_rise_1 rfl (lv_at hl 2 rfl) ?_
  refine lv_iload_n (pc := 2) hx hb dX12_rise_2 rfl (lv_at hl 3 rfl) ?_
  obtain ⟨x1, hc, hf⟩ := b1_e hf
  refine k_X12_breathOn (pc := 3) hx hb hml hown hts hK hN hc ml_X12_161 (Nat.le_trans (by decide) hF) (Nat.le_trans (by decide) hLo) h hl.1 ⟨Nat.zero_le _, Nat.zero_le _⟩ (Nat.le_of_ble_eq_true rfl) dX12_rise_3 (fun H locs h => ?_)
  refine lv_aload_n (pc := 6) hx hb dX12_rise_6 rfl (lv_at hl 0 rfl) ?_
  refine gM_0_7 (pc := 7) hx hb hts hown hK h fl_X12_22 dX12_rise_7 ?_
  refine lv_iload_n (pc := 10) hx hb dX12_rise_10 rfl (lv_at hl 1 rfl) ?_
  obtain ⟨hin, hf⟩ := cki_e hf
  refine gM_5 (pc := 11) hx hb hK h hin dX12_rise_11 ?_
  refine lv_isub (pc := 12) hx hb dX12_rise_12 ?_
  refine lv_istore (pc := 13) (lv' := [(4, .int (x1 - (u.1 5 (ix p1)))), (0, .ref (a 0)), (1, .int p1), (2, .int p2), (3, .int p3)]) hx hb dX12_rise_13 hl (by decide) rfl (fun ls hl => ?_)
  refine lv_iload (pc := 15) hx hb dX12_rise_15 (lv_at hl 0 rfl) ?_
  refine lv_if_le (pc := 17) (tgt := 25) hx hb dX12_rise_17 (by decide) (fun c2 => ?_) (fun c2 => ?_)
  · have hf := if_t hf c2
    refine lv_iconst (pc := 25) (v := 0) hx hb dX12_rise_25 (by decide) ?_
    exact hret (so hf) rfl rfl dX12_rise_26 h
  · have hf := if_f hf c2
    refine lv_iload (pc := 20) hx hb dX12_rise_20 (lv_at hl 0 rfl) ?_
    refine lv_goto (pc := 22) (tgt := 26) hx hb dX12_rise_22 (by decide) ?_
    exact hret (so hf) rfl rfl dX12_rise_26 h
theorem k_X12_rise {p : Program} {l : Launch} {e : Env} {R : Room} {s : State} {m : MethodId} {args : Array Value} {below : List Frame} {meth : Method} {c : Code} {H : Heap} {locs : List Loc} {cells slots : Nat} {Q : State → Prop} {pc : Nat} {ls : Array Slot} {rest : List Value} {cc : ByteArray} {D : va_G} {cI cZ : ClassId} {a : Nat → Nat} {u : St} {own : String} {index nL : Nat} {p1 : Int32} {p2 : Int32} {p3 : Int32} {rr : Int32} (hx : p.tables.exec = Jvm.exec) (hb : c.code = cc) (hml : c.maxLocals = nL) (hown : s.vm.findClass own = some m.cls) (hts : ∀ w ∈ Gd, w.before args s = true) (hK : va_K D vwCl (tyM cI cZ) s) (hN : NB s) (hc : f_X12_rise u p1 p2 p3 = some rr) (hlk : Cond.methodLink own index yX12_rise ∈ Gd) (hF : 3 ≤ R.frames) (hLo : 69 ≤ R.locals) (h : Hh D (AB 21 a s.heap.size) (wX 21 a (EM a cI cZ) u) s.heap H locs) (hsize : ls.size = nL) (hcs : cells ≤ R.cells ∧ slots ≤ R.slots) (hr : (rest.map fun v => v.category).sum ≤ 8) (hdg : decode cc pc = .ok (.invokevirtual index, 3)) (kk : ∀ (H1 : Heap) (locs1 : List Loc), Hh D (AB 21 a s.heap.size) (wX 21 a (EM a cI cZ) u) s.heap H1 locs1 → W p l e R s m args below meth c H1 locs1 cells slots Q (F0 m (pc + 3) ls (.int rr :: rest))) : W p l e R s m args below meth c H locs cells slots Q (F0 m pc ls (.int p3 :: .int p2 :: .int p1 :: .ref (a 0) :: rest)) :=
  cVi (n := 3) hx hb hml hown hts hK hN (c_X12_rise hc) (gdV hlk im_X12_rise se_X12_rise in_X12 co_X12_rise) rfl (by decide +kernel) rfl hF hLo h hsize hcs (by decide) rfl rfl rfl hr hdg kk
def f_X12_upTo (u : St) (p1 : Int32) : Option (Int32) := if 99 ≤ p1 then some 99 else some p1
set_option maxRecDepth 100000 in
set_option maxHeartbeats 4000000 in
theorem c_X12_upTo {l : Launch} {D : va_G} {cI cZ : ClassId} {a : Nat → Nat} {u : St} {p1 : Int32} {rr : Int32} (hf : f_X12_upTo u p1 = some rr) : Ci l yX12_upTo cX12_upTo 1 (some .int) 0 0 D (tyM cI cZ) 21 a (EM a cI cZ) [.int p1] u rr u := by
  refine metI (by decide +kernel) (Nat.le_of_ble_eq_true rfl) ?_
  intro p e s m args below meth c R Q hx hb hml hown hts hF hLo hret hK hN h ls hl
  have hown : s.vm.findClass RX12 = some m.cls := hown
  have hl : lv_has ls 1 [(0, .int p1)] := hl
  unfold f_X12_upTo at hf
  refine lv_iload_n (pc := 0) hx hb dX12_upTo_0 rfl (lv_at hl 0 rfl) ?_
  refine lv_bipush (pc := 1) (v := 99) hx hb dX12_upTo_1 (by decide) ?_
  refine lv_icmp_ge (pc := 3) (tgt := 10) hx hb dX12_upTo_3 (by decide) (fun c1 => ?_) (fun c1 => ?_)
  · have hf := if_t hf c1
    refine lv_bipush (pc := 10) (v := 99) hx hb dX12_upTo_10 (by decide) ?_
    exact hret (so hf) rfl rfl dX12_upTo_12 h
  · have hf := if_f hf c1
    refine lv_iload_n (pc := 6) hx hb dX12_upTo_6 rfl (lv_at hl 0 rfl) ?_
    refine lv_goto (pc := 7) (tgt := 12) hx hb dX12_upTo_7 (by decide) ?_
    exact hret (so hf) rfl rfl dX12_upTo_12 h
theorem kS_X12_upTo {p : Program} {l : Launch} {e : Env} {R : Room} {s : State} {m : MethodId} {args : Array Value} {below : List Frame} {meth : Method} {c : Code} {H : Heap} {locs : List Loc} {cells slots : Nat} {Q : State → Prop} {pc : Nat} {ls : Array Slot} {rest : List Value} {cc : ByteArray} {D : va_G} {cI cZ : ClassId} {a : Nat → Nat} {u : St} {own : String} {index nL : Nat} {p1 : Int32} {rr : Int32} (hx : p.tables.exec = Jvm.exec) (hb : c.code = cc) (hml : c.maxLocals = nL) (hown : s.vm.findClass own = some m.cls) (hts : ∀ w ∈ Gd, w.before args s = true) (hK : va_K D vwCl (tyM cI cZ) s) (hN : NB s) (hc : f_X12_upTo u p1 = some rr) (hlk : Cond.methodLink own index yX12_upTo ∈ Gd) (hF : 1 ≤ R.frames) (hLo : 20 ≤ R.locals) (h : Hh D (AB 21 a s.heap.size) (wX 21 a (EM a cI cZ) u) s.heap H locs) (hsize : ls.size = nL) (hcs : cells ≤ R.cells ∧ slots ≤ R.slots) (hr : (rest.map fun v => v.category).sum ≤ 8) (hdg : decode cc pc = .ok (.invokestatic index, 3)) (kk : ∀ (H1 : Heap) (locs1 : List Loc), Hh D (AB 21 a s.heap.size) (wX 21 a (EM a cI cZ) u) s.heap H1 locs1 → W p l e R s m args below meth c H1 locs1 cells slots Q (F0 m (pc + 3) ls (.int rr :: rest))) : W p l e R s m args below meth c H locs cells slots Q (F0 m pc ls (.int p1 :: rest)) :=
  cSi (n := 1) hx hb hml hown hts hK hN (c_X12_upTo hc) (gdS hlk sm_X12_upTo in_X12 co_X12_upTo) (by decide +kernel) rfl hF hLo h hsize hcs rfl hr hdg kk
def B_X12_acidIn_6 (p1 : Int32) (p2 : Int32) (p3 : Int32) (u : St) (k3 : Int32 → Option (Int32)) (rec5 : Int32 → Int32 → Option (Int32)) (x1 : Int32) (x2 : Int32) : Option (Int32) := if p3 ≤ x2 then k3 x1 else b1 (f_X12_rise u p1 p2 x2) (fun (x7 : Int32) => b1 (f_X12_upTo u (x1 + x7)) (fun (x8 : Int32) => rec5 x8 (x2 + 1)))
def f_X12_acidIn (u : St) (p1 : Int32) (p2 : Int32) (p3 : Int32) : Option (Int32) := jq_1 (fun (x4 : Int32) => some x4) (fun (k3 : Int32 → Option (Int32)) => lq_2 (B_X12_acidIn_6 p1 p2 p3 u k3) FU 0 0)
set_option maxRecDepth 100000 in
set_option maxHeartbeats 4000000 in
theorem c_X12_acidIn {l : Launch} {D : va_G} {cI cZ : ClassId} {a : Nat → Nat} {u : St} {p1 : Int32} {p2 : Int32} {p3 : Int32} {rr : Int32} (hf : f_X12_acidIn u p1 p2 p3 = some rr) : Ci l yX12_acidIn cX12_acidIn 6 (some .int) 3 69 D (tyM cI cZ) 21 a (EM a cI cZ) [.ref (a 0), .int p1, .int p2, .int p3] u rr u := by
  refine metI (by decide +kernel) (Nat.le_of_ble_eq_true rfl) ?_
  intro p e s m args below meth c R Q hx hb hml hown hts hF hLo hret hK hN h ls hl
  have hown : s.vm.findClass RX12 = some m.cls := hown
  have hl : lv_has ls 6 [(0, .ref (a 0)), (1, .int p1), (2, .int p2), (3, .int p3)] := hl
  unfold f_X12_acidIn at hf
  refine lv_iconst (pc := 0) (v := 0) hx hb dX12_acidIn_0 (by decide) ?_
  refine lv_istore (pc := 1) (lv' := [(4, .int 0), (0, .ref (a 0)), (1, .int p1), (2, .int p2), (3, .int p3)]) hx hb dX12_acidIn_1 hl (by decide) rfl (fun ls hl => ?_)
  refine lv_iconst (pc := 3) (v := 0) hx hb dX12_acidIn_3 (by decide) ?_
  refine lv_istore (pc := 4) (lv' := [(5, .int 0), (4, .int 0), (0, .ref (a 0)), (1, .int p1), (2, .int p2), (3, .int p3)]) hx hb dX12_acidIn_4 hl (by decide) rfl (fun ls hl => ?_)
  obtain ⟨k3, hk3, hf⟩ := jq_1_e hf
  have jk3 : ∀ (x4 : Int32), k3 x4 = some rr → ∀ (H : Heap) (locs : List Loc) (ls : Array Slot), Hh D (AB 21 a s.heap.size) (wX 21 a (EM a cI cZ) u) s.heap H locs → lv_has ls 6 [(4, .int x4)] → W p l e R s m args below meth c H locs 0 0 Q (F0 m 34 ls []) := by
    intro x4 hf H locs ls h hl
    rw [hk3] at hf
    refine lv_iload (pc := 34) hx hb dX12_acidIn_34 (lv_at hl 0 rfl) ?_
    exact hret (so hf) rfl rfl dX12_acidIn_36 h
  refine lq_2_e (P := fun (x1 : Int32) (x2 : Int32) => ∀ (H : Heap) (locs : List Loc) (ls : Array Slot), Hh D (AB 21 a s.heap.size) (wX 21 a (EM a cI cZ) u) s.heap H locs → lv_has ls 6 [(0, .ref (a 0)), (1, .int p1), (2, .int p2), (3, .int p3), (4, .int x1), (5, .int x2)] → W p l e R s m args below meth c H locs 0 0 Q (F0 m 6 ls [])) ?_ FU _ _ hf _ _ _ h (lv_sub hl [2, 3, 4, 5, 1, 0] rfl)
  intro rec5 irec5 x1 x2 hf H locs ls h hl
  unfold B_X12_acidIn_6 at hf
  refine lv_iload (pc := 6) hx hb dX12_acidIn_6 (lv_at hl 5 rfl) ?_
  refine lv_iload_n (pc := 8) hx hb dX12_acidIn_8 rfl (lv_at hl 3 rfl) ?_
  refine lv_icmp_ge (pc := 9) (tgt := 34) hx hb dX12_acidIn_9 (by decide) (fun c6 => ?_) (fun c6 => ?_)
  · have hf := if_t hf c6
    exact jk3 _ hf _ _ _ h (lv_sub hl [4] rfl)
  · have hf := if_f hf c6
    refine lv_iload (pc := 12) hx hb dX12_acidIn_12 (lv_at hl 4 rfl) ?_
    refine lv_aload_n (pc := 14) hx hb dX12_acidIn_14 rfl (lv_at hl 0 rfl) ?_
    refine lv_iload_n (pc := 15) hx hb dX12_acidIn_15 rfl (lv_at hl 1 rfl) ?_
    refine lv_iload_n (pc := 16) hx hb dX12_acidIn_16 rfl (lv_at hl 2 rfl) ?_
    refine lv_iload (pc := 17) hx hb dX12_acidIn_17 (lv_at hl 5 rfl) ?_
    obtain ⟨x7, hc, hf⟩ := b1_e hf
    refine k_X12_rise (pc := 19) hx hb hml hown hts hK hN hc ml_X12_165 (Nat.le_trans (by decide) hF) (Nat.le_trans (by decide) hLo) h hl.1 ⟨Nat.zero_le _, Nat.zero_le _⟩ (Nat.le_of_ble_eq_true rfl) dX12_acidIn_19 (fun H locs h => ?_)
    refine lv_iadd (pc := 22) hx hb dX12_acidIn_22 ?_
    obtain ⟨x8, hc, hf⟩ := b1_e hf
    refine kS_X12_upTo (pc := 23) hx hb hml hown hts hK hN hc ml_X12_169 (Nat.le_trans (by decide) hF) (Nat.le_trans (by decide) hLo) h hl.1 ⟨Nat.zero_le _, Nat.zero_le _⟩ (Nat.le_of_ble_eq_true rfl) dX12_acidIn_23 (fun H locs h => ?_)
    refine lv_istore (pc := 26) (lv' := [(4, .int x8), (0, .ref (a 0)), (1, .int p1), (2, .int p2), (3, .int p3), (5, .int x2)]) hx hb dX12_acidIn_26 hl (by decide) rfl (fun ls hl => ?_)
    refine lv_iinc (pc := 28) (v := x2 + 1) (lv' := [(5, .int (x2 + 1)), (4, .int x8), (0, .ref (a 0)), (1, .int p1), (2, .int p2), (3, .int p3)]) hx hb dX12_acidIn_28 hl (k := 5) rfl rfl (by decide) rfl (fun ls hl => ?_)
    refine lv_goto (pc := 31) (tgt := 6) hx hb dX12_acidIn_31 (by decide) ?_
    exact irec5 _ _ hf _ _ _ h (lv_sub hl [2, 3, 4, 5, 1, 0] rfl)
theorem k_X12_acidIn {p : Program} {l : Launch} {e : Env} {R : Room} {s : State} {m : MethodId} {args : Array Value} {below : List Frame} {meth : Method} {c : Code} {H : Heap} {locs : List Loc} {cells slots : Nat} {Q : State → Prop} {pc : Nat} {ls : Array Slot} {rest : List Value} {cc : ByteArray} {D : va_G} {cI cZ : ClassId} {a : Nat → Nat} {u : St} {own : String} {index nL : Nat} {p1 : Int32} {p2 : Int32} {p3 : Int32} {rr : Int32} (hx : p.tables.exec = Jvm.exec) (hb : c.code = cc) (hml : c.maxLocals = nL) (hown : s.vm.findClass own = some m.cls) (hts : ∀ w ∈ Gd, w.before args s = true) (hK : va_K D vwCl (tyM cI cZ) s) (hN : NB s) (hc : f_X12_acidIn u p1 p2 p3 = some rr) (hlk : Cond.methodLink own index yX12_acidIn ∈ Gd) (hF : 4 ≤ R.frames) (hLo : 94 ≤ R.locals) (h : Hh D (AB 21 a s.heap.size) (wX 21 a (EM a cI cZ) u) s.heap H locs) (hsize : ls.size = nL) (hcs : cells ≤ R.cells ∧ slots ≤ R.slots) (hr : (rest.map fun v => v.category).sum ≤ 8) (hdg : decode cc pc = .ok (.invokevirtual index, 3)) (kk : ∀ (H1 : Heap) (locs1 : List Loc), Hh D (AB 21 a s.heap.size) (wX 21 a (EM a cI cZ) u) s.heap H1 locs1 → W p l e R s m args below meth c H1 locs1 cells slots Q (F0 m (pc + 3) ls (.int rr :: rest))) : W p l e R s m args below meth c H locs cells slots Q (F0 m pc ls (.int p3 :: .int p2 :: .int p1 :: .ref (a 0) :: rest)) :=
  cVi (n := 3) hx hb hml hown hts hK hN (c_X12_acidIn hc) (gdV hlk im_X12_acidIn se_X12_acidIn in_X12 co_X12_acidIn) rfl (by decide +kernel) rfl hF hLo h hsize hcs (by decide) rfl rfl rfl hr hdg kk
def f_X12_acidBehind (u : St) (p1 : Int32) (p2 : Int32) : Option (Int32) := cki p1 8 (b1 (f_X12_acidIn u p1 (u.1 3 (ix p1)) p2) (fun (x1 : Int32) => some x1))
set_option maxRecDepth 100000 in
set_option maxHeartbeats 4000000 in
theorem c_X12_acidBehind {l : Launch} {D : va_G} {cI cZ : ClassId} {a : Nat → Nat} {u : St} {p1 : Int32} {p2 : Int32} {rr : Int32} (hf : f_X12_acidBehind u p1 p2 = some rr) : Ci l yX12_acidBehind cX12_acidBehind 3 (some .int) 4 94 D (tyM cI cZ) 21 a (EM a cI cZ) [.ref (a 0), .int p1, .int p2] u rr u := by
  refine metI (by decide +kernel) (Nat.le_of_ble_eq_true rfl) ?_
  intro p e s m args below meth c R Q hx hb hml hown hts hF hLo hret hK hN h ls hl
  have hown : s.vm.findClass RX12 = some m.cls := hown
  have hl : lv_has ls 3 [(0, .ref (a 0)), (1, .int p1), (2, .int p2)] := hl
  unfold f_X12_acidBehind at hf
  refine lv_aload_n (pc := 0) hx hb dX12_acidBehind_0 rfl (lv_at hl 0 rfl) ?_
  refine lv_iload_n (pc := 1) hx hb dX12_acidBehind_1 rfl (lv_at hl 1 rfl) ?_
  refine lv_aload_n (pc := 2) hx hb dX12_acidBehind_2 rfl (lv_at hl 0 rfl) ?_
  refine gM_0_5 (pc := 3) hx hb hts hown hK h fl_X12_16 dX12_acidBehind_3 ?_
  refine lv_iload_n (pc := 6) hx hb dX12_acidBehind_6 rfl (lv_at hl 1 rfl) ?_
  obtain ⟨hin, hf⟩ := cki_e hf
  refine gM_3 (pc := 7) hx hb hK h hin dX12_acidBehind_7 ?_
  refine lv_iload_n (pc := 8) hx hb dX12_acidBehind_8 rfl (lv_at hl 2 rfl) ?_
  obtain ⟨x1, hc, hf⟩ := b1_e hf
  refine k_X12_acidIn (pc := 9) hx hb hml hown hts hK hN hc ml_X12_172 (Nat.le_trans (by decide) hF) (Nat.le_trans (by decide) hLo) h hl.1 ⟨Nat.zero_le _, Nat.zero_le _⟩ (Nat.le_of_ble_eq_true rfl) dX12_acidBehind_9 (fun H locs h => ?_)
  exact hret (so hf) rfl rfl dX12_acidBehind_12 h
theorem k_X12_acidBehind {p : Program} {l : Launch} {e : Env} {R : Room} {s : State} {m : MethodId} {args : Array Value} {below : List Frame} {meth : Method} {c : Code} {H : Heap} {locs : List Loc} {cells slots : Nat} {Q : State → Prop} {pc : Nat} {ls : Array Slot} {rest : List Value} {cc : ByteArray} {D : va_G} {cI cZ : ClassId} {a : Nat → Nat} {u : St} {own : String} {index nL : Nat} {p1 : Int32} {p2 : Int32} {rr : Int32} (hx : p.tables.exec = Jvm.exec) (hb : c.code = cc) (hml : c.maxLocals = nL) (hown : s.vm.findClass own = some m.cls) (hts : ∀ w ∈ Gd, w.before args s = true) (hK : va_K D vwCl (tyM cI cZ) s) (hN : NB s) (hc : f_X12_acidBehind u p1 p2 = some rr) (hlk : Cond.methodLink own index yX12_acidBehind ∈ Gd) (hF : 5 ≤ R.frames) (hLo : 116 ≤ R.locals) (h : Hh D (AB 21 a s.heap.size) (wX 21 a (EM a cI cZ) u) s.heap H locs) (hsize : ls.size = nL) (hcs : cells ≤ R.cells ∧ slots ≤ R.slots) (hr : (rest.map fun v => v.category).sum ≤ 8) (hdg : decode cc pc = .ok (.invokevirtual index, 3)) (kk : ∀ (H1 : Heap) (locs1 : List Loc), Hh D (AB 21 a s.heap.size) (wX 21 a (EM a cI cZ) u) s.heap H1 locs1 → W p l e R s m args below meth c H1 locs1 cells slots Q (F0 m (pc + 3) ls (.int rr :: rest))) : W p l e R s m args below meth c H locs cells slots Q (F0 m pc ls (.int p2 :: .int p1 :: .ref (a 0) :: rest)) :=
  cVi (n := 2) hx hb hml hown hts hK hN (c_X12_acidBehind hc) (gdV hlk im_X12_acidBehind se_X12_acidBehind in_X12 co_X12_acidBehind) rfl (by decide +kernel) rfl hF hLo h hsize hcs (by decide) rfl rfl rfl hr hdg kk
def f_X12_isDays (u : St) (p1 : Int32) : Option (Int32) := b1 (f_X12_in u (Int32.toInt64 p1) 0 999) (fun (x1 : Int32) => ck (x1 = 0 ∨ x1 = 1) (some x1))
set_option maxRecDepth 100000 in
set_option maxHeartbeats 4000000 in
theorem c_X12_isDays {l : Launch} {D : va_G} {cI cZ : ClassId} {a : Nat → Nat} {u : St} {p1 : Int32} {rr : Int32} (hf : f_X12_isDays u p1 = some rr) : Ci l yX12_isDays cX12_isDays 1 (some .boolean) 1 25 D (tyM cI cZ) 21 a (EM a cI cZ) [.int p1] u rr u := by
  refine metI (by decide +kernel) (Nat.le_of_ble_eq_true rfl) ?_
  intro p e s m args below meth c R Q hx hb hml hown hts hF hLo hret hK hN h ls hl
  have hown : s.vm.findClass RX12 = some m.cls := hown
  have hl : lv_has ls 1 [(0, .int p1)] := hl
  unfold f_X12_isDays at hf
  refine lv_iload_n (pc := 0) hx hb dX12_isDays_0 rfl (lv_at hl 0 rfl) ?_
  refine lv_i2l (pc := 1) (v := Int32.toInt64 p1) hx hb dX12_isDays_1 rfl ?_
  refine lv_lconst (pc := 2) (v := 0) hx hb dX12_isDays_2 (by decide) ?_
  refine lv_ldc2 (pc := 3) hx hb hown (hts _ ctl_X12_175) dX12_isDays_3 ?_
  obtain ⟨x1, hc, hf⟩ := b1_e hf
  refine kS_X12_in (pc := 6) hx hb hml hown hts hK hN hc ml_X12_97 (Nat.le_trans (by decide) hF) (Nat.le_trans (by decide) hLo) h hl.1 ⟨Nat.zero_le _, Nat.zero_le _⟩ (Nat.le_of_ble_eq_true rfl) dX12_isDays_6 (fun H locs h => ?_)
  obtain ⟨hz, hf⟩ := ck_e hf
  exact hret (so hf) (nz hz) rfl dX12_isDays_9 h
theorem kS_X12_isDays {p : Program} {l : Launch} {e : Env} {R : Room} {s : State} {m : MethodId} {args : Array Value} {below : List Frame} {meth : Method} {c : Code} {H : Heap} {locs : List Loc} {cells slots : Nat} {Q : State → Prop} {pc : Nat} {ls : Array Slot} {rest : List Value} {cc : ByteArray} {D : va_G} {cI cZ : ClassId} {a : Nat → Nat} {u : St} {own : String} {index nL : Nat} {p1 : Int32} {rr : Int32} (hx : p.tables.exec = Jvm.exec) (hb : c.code = cc) (hml : c.maxLocals = nL) (hown : s.vm.findClass own = some m.cls) (hts : ∀ w ∈ Gd, w.before args s = true) (hK : va_K D vwCl (tyM cI cZ) s) (hN : NB s) (hc : f_X12_isDays u p1 = some rr) (hlk : Cond.methodLink own index yX12_isDays ∈ Gd) (hF : 2 ≤ R.frames) (hLo : 45 ≤ R.locals) (h : Hh D (AB 21 a s.heap.size) (wX 21 a (EM a cI cZ) u) s.heap H locs) (hsize : ls.size = nL) (hcs : cells ≤ R.cells ∧ slots ≤ R.slots) (hr : (rest.map fun v => v.category).sum ≤ 8) (hdg : decode cc pc = .ok (.invokestatic index, 3)) (kk : ∀ (H1 : Heap) (locs1 : List Loc), Hh D (AB 21 a s.heap.size) (wX 21 a (EM a cI cZ) u) s.heap H1 locs1 → W p l e R s m args below meth c H1 locs1 cells slots Q (F0 m (pc + 3) ls (.int rr :: rest))) : W p l e R s m args below meth c H locs cells slots Q (F0 m pc ls (.int p1 :: rest)) :=
  cSi (n := 1) hx hb hml hown hts hK hN (c_X12_isDays hc) (gdS hlk sm_X12_isDays in_X12 co_X12_isDays) (by decide +kernel) rfl hF hLo h hsize hcs rfl hr hdg kk
def f_X12_level (u : St) (p1 : Int32) : Option (Int32) := b1 (f_X12_isDays u p1) (fun (x1 : Int32) => if x1 = 0 then some ((-2)) else b1 (f_X12_levelOn u p1) (fun (x3 : Int32) => some x3))
set_option maxRecDepth 100000 in
set_option maxHeartbeats 4000000 in
theorem c_X12_level {l : Launch} {D : va_G} {cI cZ : ClassId} {a : Nat → Nat} {u : St} {p1 : Int32} {rr : Int32} (hf : f_X12_level u p1 = some rr) : Ci l yX12_level cX12_level 2 (some .int) 2 45 D (tyM cI cZ) 21 a (EM a cI cZ) [.ref (a 0), .int p1] u rr u := by
  refine metI (by decide +kernel) (Nat.le_of_ble_eq_true rfl) ?_
  intro p e s m args below meth c R Q hx hb hml hown hts hF hLo hret hK hN h ls hl
  have hown : s.vm.findClass RX12 = some m.cls := hown
  have hl : lv_has ls 2 [(0, .ref (a 0)), (1, .int p1)] := hl
  unfold f_X12_level at hf
  refine lv_iload_n (pc := 0) hx hb dX12_level_0 rfl (lv_at hl 1 rfl) ?_
  obtain ⟨x1, hc, hf⟩ := b1_e hf
  refine kS_X12_isDays (pc := 1) hx hb hml hown hts hK hN hc ml_X12_177 (Nat.le_trans (by decide) hF) (Nat.le_trans (by decide) hLo) h hl.1 ⟨Nat.zero_le _, Nat.zero_le _⟩ (Nat.le_of_ble_eq_true rfl) dX12_level_1 (fun H locs h => ?_)
  refine lv_if_eq (pc := 4) (tgt := 15) hx hb dX12_level_4 (by decide) (fun c2 => ?_) (fun c2 => ?_)
  · have hf := if_t hf c2
    refine lv_bipush (pc := 15) (v := (-2)) hx hb dX12_level_15 (by decide) ?_
    exact hret (so hf) rfl rfl dX12_level_17 h
  · have hf := if_f hf c2
    refine lv_aload_n (pc := 7) hx hb dX12_level_7 rfl (lv_at hl 0 rfl) ?_
    refine lv_iload_n (pc := 8) hx hb dX12_level_8 rfl (lv_at hl 1 rfl) ?_
    obtain ⟨x3, hc, hf⟩ := b1_e hf
    refine k_X12_levelOn (pc := 9) hx hb hml hown hts hK hN hc ml_X12_158 (Nat.le_trans (by decide) hF) (Nat.le_trans (by decide) hLo) h hl.1 ⟨Nat.zero_le _, Nat.zero_le _⟩ (Nat.le_of_ble_eq_true rfl) dX12_level_9 (fun H locs h => ?_)
    refine lv_goto (pc := 12) (tgt := 17) hx hb dX12_level_12 (by decide) ?_
    exact hret (so hf) rfl rfl dX12_level_17 h
theorem k_X12_level {p : Program} {l : Launch} {e : Env} {R : Room} {s : State} {m : MethodId} {args : Array Value} {below : List Frame} {meth : Method} {c : Code} {H : Heap} {locs : List Loc} {cells slots : Nat} {Q : State → Prop} {pc : Nat} {ls : Array Slot} {rest : List Value} {cc : ByteArray} {D : va_G} {cI cZ : ClassId} {a : Nat → Nat} {u : St} {own : String} {index nL : Nat} {p1 : Int32} {rr : Int32} (hx : p.tables.exec = Jvm.exec) (hb : c.code = cc) (hml : c.maxLocals = nL) (hown : s.vm.findClass own = some m.cls) (hts : ∀ w ∈ Gd, w.before args s = true) (hK : va_K D vwCl (tyM cI cZ) s) (hN : NB s) (hc : f_X12_level u p1 = some rr) (hlk : Cond.methodLink own index yX12_level ∈ Gd) (hF : 3 ≤ R.frames) (hLo : 66 ≤ R.locals) (h : Hh D (AB 21 a s.heap.size) (wX 21 a (EM a cI cZ) u) s.heap H locs) (hsize : ls.size = nL) (hcs : cells ≤ R.cells ∧ slots ≤ R.slots) (hr : (rest.map fun v => v.category).sum ≤ 8) (hdg : decode cc pc = .ok (.invokevirtual index, 3)) (kk : ∀ (H1 : Heap) (locs1 : List Loc), Hh D (AB 21 a s.heap.size) (wX 21 a (EM a cI cZ) u) s.heap H1 locs1 → W p l e R s m args below meth c H1 locs1 cells slots Q (F0 m (pc + 3) ls (.int rr :: rest))) : W p l e R s m args below meth c H locs cells slots Q (F0 m pc ls (.int p1 :: .ref (a 0) :: rest)) :=
  cVi (n := 1) hx hb hml hown hts hK hN (c_X12_level hc) (gdV hlk im_X12_level se_X12_level in_X12 co_X12_level) rfl (by decide +kernel) rfl hF hLo h hsize hcs (by decide) rfl rfl rfl hr hdg kk
def f_X12_breath (u : St) (p1 : Int32) (p2 : Int32) : Option (Int32) := b1 (f_X12_isCellar u p1) (fun (x1 : Int32) => if x1 = 0 then some ((-1)) else b1 (f_X12_isDays u p2) (fun (x3 : Int32) => if x3 = 0 then some ((-2)) else b1 (f_X12_breathOn u p1 p2) (fun (x5 : Int32) => some x5)))
set_option maxRecDepth 100000 in
set_option maxHeartbeats 4000000 in
theorem c_X12_breath {l : Launch} {D : va_G} {cI cZ : ClassId} {a : Nat → Nat} {u : St} {p1 : Int32} {p2 : Int32} {rr : Int32} (hf : f_X12_breath u p1 p2 = some rr) : Ci l yX12_breath cX12_breath 3 (some .int) 2 46 D (tyM cI cZ) 21 a (EM a cI cZ) [.ref (a 0), .int p1, .int p2] u rr u := by
  refine metI (by decide +kernel) (Nat.le_of_ble_eq_true rfl) ?_
  intro p e s m args below meth c R Q hx hb hml hown hts hF hLo hret hK hN h ls hl
  have hown : s.vm.findClass RX12 = some m.cls := hown
  have hl : lv_has ls 3 [(0, .ref (a 0)), (1, .int p1), (2, .int p2)] := hl
  unfold f_X12_breath at hf
  refine lv_aload_n (pc := 0) hx hb dX12_breath_0 rfl (lv_at hl 0 rfl) ?_
  refine lv_iload_n (pc := 1) hx hb dX12_breath_1 rfl (lv_at hl 1 rfl) ?_
  obtain ⟨x1, hc, hf⟩ := b1_e hf
  refine k_X12_isCellar (pc := 2) hx hb hml hown hts hK hN hc ml_X12_112 (Nat.le_trans (by decide) hF) (Nat.le_trans (by decide) hLo) h hl.1 ⟨Nat.zero_le _, Nat.zero_le _⟩ (Nat.le_of_ble_eq_true rfl) dX12_breath_2 (fun H locs h => ?_)
  refine lv_if_ne (pc := 5) (tgt := 10) hx hb dX12_breath_5 (by decide) (fun c2 => ?_) (fun c2 => ?_)
  · have hf := if_f hf c2
    refine lv_iload_n (pc := 10) hx hb dX12_breath_10 rfl (lv_at hl 2 rfl) ?_
    obtain ⟨x3, hc, hf⟩ := b1_e hf
    refine kS_X12_isDays (pc := 11) hx hb hml hown hts hK hN hc ml_X12_177 (Nat.le_trans (by decide) hF) (Nat.le_trans (by decide) hLo) h hl.1 ⟨Nat.zero_le _, Nat.zero_le _⟩ (Nat.le_of_ble_eq_true rfl) dX12_breath_11 (fun H locs h => ?_)
    refine lv_if_eq (pc := 14) (tgt := 26) hx hb dX12_breath_14 (by decide) (fun c4 => ?_) (fun c4 => ?_)
    · have hf := if_t hf c4
      refine lv_bipush (pc := 26) (v := (-2)) hx hb dX12_breath_26 (by decide) ?_
      exact hret (so hf) rfl rfl dX12_breath_28 h
    · have hf := if_f hf c4
      refine lv_aload_n (pc := 17) hx hb dX12_breath_17 rfl (lv_at hl 0 rfl) ?_
      refine lv_iload_n (pc := 18) hx hb dX12_breath_18 rfl (lv_at hl 1 rfl) ?_
      refine lv_iload_n (pc := 19) hx hb dX12_breath_19 rfl (lv_at hl 2 rfl) ?_
      obtain ⟨x5, hc, hf⟩ := b1_e hf
      refine k_X12_breathOn (pc := 20) hx hb hml hown hts hK hN hc ml_X12_161 (Nat.le_trans (by decide) hF) (Nat.le_trans (by decide) hLo) h hl.1 ⟨Nat.zero_le _, Nat.zero_le _⟩ (Nat.le_of_ble_eq_true rfl) dX12_breath_20 (fun H locs h => ?_)
      refine lv_goto (pc := 23) (tgt := 28) hx hb dX12_breath_23 (by decide) ?_
      exact hret (so hf) rfl rfl dX12_breath_28 h
  · have hf := if_t hf c2
    refine lv_iconst (pc := 8) (v := (-1)) hx hb dX12_breath_8 (by decide) ?_
    exact hret (so hf) rfl rfl dX12_breath_9 h
theorem k_X12_breath {p : Program} {l : Launch} {e : Env} {R : Room} {s : State} {m : MethodId} {args : Array Value} {below : List Frame} {meth : Method} {c : Code} {H : Heap} {locs : List Loc} {cells slots : Nat} {Q : State → Prop} {pc : Nat} {ls : Array Slot} {rest : List Value} {cc : ByteArray} {D : va_G} {cI cZ : ClassId} {a : Nat → Nat} {u : St} {own : String} {index nL : Nat} {p1 : Int32} {p2 : Int32} {rr : Int32} (hx : p.tables.exec = Jvm.exec) (hb : c.code = cc) (hml : c.maxLocals = nL) (hown : s.vm.findClass own = some m.cls) (hts : ∀ w ∈ Gd, w.before args s = true) (hK : va_K D vwCl (tyM cI cZ) s) (hN : NB s) (hc : f_X12_breath u p1 p2 = some rr) (hlk : Cond.methodLink own index yX12_breath ∈ Gd) (hF : 3 ≤ R.frames) (hLo : 68 ≤ R.locals) (h : Hh D (AB 21 a s.heap.size) (wX 21 a (EM a cI cZ) u) s.heap H locs) (hsize : ls.size = nL) (hcs : cells ≤ R.cells ∧ slots ≤ R.slots) (hr : (rest.map fun v => v.category).sum ≤ 8) (hdg : decode cc pc = .ok (.invokevirtual index, 3)) (kk : ∀ (H1 : Heap) (locs1 : List Loc), Hh D (AB 21 a s.heap.size) (wX 21 a (EM a cI cZ) u) s.heap H1 locs1 → W p l e R s m args below meth c H1 locs1 cells slots Q (F0 m (pc + 3) ls (.int rr :: rest))) : W p l e R s m args below meth c H locs cells slots Q (F0 m pc ls (.int p2 :: .int p1 :: .ref (a 0) :: rest)) :=
  cVi (n := 2) hx hb hml hown hts hK hN (c_X12_breath hc) (gdV hlk im_X12_breath se_X12_breath in_X12 co_X12_breath) rfl (by decide +kernel) rfl hF hLo h hsize hcs (by decide) rfl rfl rfl hr hdg kk
def f_X12_far (u : St) (p1 : Int32) (p2 : Int32) : Option (Int32) := cki p1 6 (cki p2 6 (bs ((u.1 1 (ix p1)) - (u.1 1 (ix p2))) (fun x1 : Int32 => if 0 ≤ x1 then some x1 else some (-x1))))
set_option maxRecDepth 100000 in
set_option maxHeartbeats 4000000 in
theorem c_X12_far {l : Launch} {D : va_G} {cI cZ : ClassId} {a : Nat → Nat} {u : St} {p1 : Int32} {p2 : Int32} {rr : Int32} (hf : f_X12_far u p1 p2 = some rr) : Ci l yX12_far cX12_far 4 (some .int) 0 0 D (tyM cI cZ) 21 a (EM a cI cZ) [.ref (a 0), .int p1, .int p2] u rr u := by
  refine metI (by decide +kernel) (Nat.le_of_ble_eq_true rfl) ?_
  intro p e s m args below meth c R Q hx hb hml hown hts hF hLo hret hK hN h ls hl
  have hown : s.vm.findClass RX12 = some m.cls := hown
  have hl : lv_has ls 4 [(0, .ref (a 0)), (1, .int p1), (2, .int p2)] := hl
  unfold f_X12_far at hf
  refine lv_aload_n (pc := 0) hx hb dX12_far_0 rfl (lv_at hl 0 rfl) ?_
  refine gM_0_1 (pc := 1) hx hb hts hown hK h fl_X12_7 dX12_far_1 ?_
  refine lv_iload_n (pc := 4) hx hb dX12_far_4 rfl (lv_at hl 1 rfl) ?_
  obtain ⟨hin, hf⟩ := cki_e hf
  refine gM_1 (pc := 5) hx hb hK h hin dX12_far_5 ?_
  refine lv_aload_n (pc := 6) hx hb dX12_far_6 rfl (lv_at hl 0 rfl) ?_
  refine gM_0_1 (pc := 7) hx hb hts hown hK h fl_X12_7 dX12_far_7 ?_
  refine lv_iload_n (pc := 10) hx hb dX12_far_10 rfl (lv_at hl 2 rfl) ?_
  obtain ⟨hin, hf⟩ := cki_e hf
  refine gM_1 (pc := 11) hx hb hK h hin dX12_far_11 ?_
  refine lv_isub (pc := 12) hx hb dX12_far_12 ?_
  obtain ⟨x1, ex1, hf⟩ := bs_e hf
  refine rTop ex1 ?_
  refine lv_istore_n (pc := 13) (lv' := [(3, .int x1), (0, .ref (a 0)), (1, .int p1), (2, .int p2)]) hx hb dX12_far_13 rfl hl (by decide) rfl (fun ls hl => ?_)
  refine lv_iload_n (pc := 14) hx hb dX12_far_14 rfl (lv_at hl 0 rfl) ?_
  refine lv_if_ge (pc := 15) (tgt := 23) hx hb dX12_far_15 (by decide) (fun c2 => ?_) (fun c2 => ?_)
  · have hf := if_t hf c2
    refine lv_iload_n (pc := 23) hx hb dX12_far_23 rfl (lv_at hl 0 rfl) ?_
    exact hret (so hf) rfl rfl dX12_far_24 h
  · have hf := if_f hf c2
    refine lv_iload_n (pc := 18) hx hb dX12_far_18 rfl (lv_at hl 0 rfl) ?_
    refine lv_ineg (pc := 19) hx hb dX12_far_19 ?_
    refine lv_goto (pc := 20) (tgt := 24) hx hb dX12_far_20 (by decide) ?_
    exact hret (so hf) rfl rfl dX12_far_24 h
theorem k_X12_far {p : Program} {l : Launch} {e : Env} {R : Room} {s : State} {m : MethodId} {args : Array Value} {below : List Frame} {meth : Method} {c : Code} {H : Heap} {locs : List Loc} {cells slots : Nat} {Q : State → Prop} {pc : Nat} {ls : Array Slot} {rest : List Value} {cc : ByteArray} {D : va_G} {cI cZ : ClassId} {a : Nat → Nat} {u : St} {own : String} {index nL : Nat} {p1 : Int32} {p2 : Int32} {rr : Int32} (hx : p.tables.exec = Jvm.exec) (hb : c.code = cc) (hml : c.maxLocals = nL) (hown : s.vm.findClass own = some m.cls) (hts : ∀ w ∈ Gd, w.before args s = true) (hK : va_K D vwCl (tyM cI cZ) s) (hN : NB s) (hc : f_X12_far u p1 p2 = some rr) (hlk : Cond.methodLink own index yX12_far ∈ Gd) (hF : 1 ≤ R.frames) (hLo : 23 ≤ R.locals) (h : Hh D (AB 21 a s.heap.size) (wX 21 a (EM a cI cZ) u) s.heap H locs) (hsize : ls.size = nL) (hcs : cells ≤ R.cells ∧ slots ≤ R.slots) (hr : (rest.map fun v => v.category).sum ≤ 8) (hdg : decode cc pc = .ok (.invokevirtual index, 3)) (kk : ∀ (H1 : Heap) (locs1 : List Loc), Hh D (AB 21 a s.heap.size) (wX 21 a (EM a cI cZ) u) s.heap H1 locs1 → W p l e R s m args below meth c H1 locs1 cells slots Q (F0 m (pc + 3) ls (.int rr :: rest))) : W p l e R s m args below meth c H locs cells slots Q (F0 m pc ls (.int p2 :: .int p1 :: .ref (a 0) :: rest)) :=
  cVi (n := 2) hx hb hml hown hts hK hN (c_X12_far hc) (gdV hlk im_X12_far se_X12_far in_X12 co_X12_far) rfl (by decide +kernel) rfl hF hLo h hsize hcs (by decide) rfl rfl rfl hr hdg kk
def f_X12_workOf (u : St) (p1 : Int32) (p2 : Int32) (p3 : Int32) : Option (Int32) := cki p1 8 (b1 (f_X12_far u p2 p3) (fun (x1 : Int32) => some ((u.1 4 (ix p1)) * (x1 + (1 : Int32)))))
set_option maxRecDepth 100000 in
set_option maxHeartbeats 4000000 in
theorem c_X12_workOf {l : Launch} {D : va_G} {cI cZ : ClassId} {a : Nat → Nat} {u : St} {p1 : Int32} {p2 : Int32} {p3 : Int32} {rr : Int32} (hf : f_X12_workOf u p1 p2 p3 = some rr) : Ci l yX12_workOf cX12_workOf 4 (some .int) 1 23 D (tyM cI cZ) 21 a (EM a cI cZ) [.ref (a 0), .int p1, .int p2, .int p3] u rr u := by
  refine metI (by decide +kernel) (Nat.le_of_ble_eq_true rfl) ?_
  intro p e s m args below meth c R Q hx hb hml hown hts hF hLo hret hK hN h ls hl
  have hown : s.vm.findClass RX12 = some m.cls := hown
  have hl : lv_has ls 4 [(0, .ref (a 0)), (1, .int p1), (2, .int p2), (3, .int p3)] := hl
  unfold f_X12_workOf at hf
  refine lv_aload_n (pc := 0) hx hb dX12_workOf_0 rfl (lv_at hl 0 rfl) ?_
  refine gM_0_6 (pc := 1) hx hb hts hown hK h fl_X12_19 dX12_workOf_1 ?_
  refine lv_iload_n (pc := 4) hx hb dX12_workOf_4 rfl (lv_at hl 1 rfl) ?_
  obtain ⟨hin, hf⟩ := cki_e hf
  refine gM_4 (pc := 5) hx hb hK h hin dX12_workOf_5 ?_
  refine lv_aload_n (pc := 6) hx hb dX12_workOf_6 rfl (lv_at hl 0 rfl) ?_
  refine lv_iload_n (pc := 7) hx hb dX12_workOf_7 rfl (lv_at hl 2 rfl) ?_
  refine lv_iload_n (pc := 8) hx hb dX12_workOf_8 rfl (lv_at hl 3 rfl) ?_
  obtain ⟨x1, hc, hf⟩ := b1_e hf
  refine k_X12_far (pc := 9) hx hb hml hown hts hK hN hc ml_X12_180 (Nat.le_trans (by decide) hF) (Nat.le_trans (by decide) hLo) h hl.1 ⟨Nat.zero_le _, Nat.zero_le _⟩ (Nat.le_of_ble_eq_true rfl) dX12_workOf_9 (fun H locs h => ?_)
  refine lv_iconst (pc := 12) (v := 1) hx hb dX12_workOf_12 (by decide) ?_
  refine lv_iadd (pc := 13) hx hb dX12_workOf_13 ?_
  refine lv_imul (pc := 14) hx hb dX12_workOf_14 ?_
  exact hret (so hf) rfl rfl dX12_workOf_15 h
theorem k_X12_workOf {p : Program} {l : Launch} {e : Env} {R : Room} {s : State} {m : MethodId} {args : Array Value} {below : List Frame} {meth : Method} {c : Code} {H : Heap} {locs : List Loc} {cells slots : Nat} {Q : State → Prop} {pc : Nat} {ls : Array Slot} {rest : List Value} {cc : ByteArray} {D : va_G} {cI cZ : ClassId} {a : Nat → Nat} {u : St} {own : String} {index nL : Nat} {p1 : Int32} {p2 : Int32} {p3 : Int32} {rr : Int32} (hx : p.tables.exec = Jvm.exec) (hb : c.code = cc) (hml : c.maxLocals = nL) (hown : s.vm.findClass own = some m.cls) (hts : ∀ w ∈ Gd, w.before args s = true) (hK : va_K D vwCl (tyM cI cZ) s) (hN : NB s) (hc : f_X12_workOf u p1 p2 p3 = some rr) (hlk : Cond.methodLink own index yX12_workOf ∈ Gd) (hF : 2 ≤ R.frames) (hLo : 46 ≤ R.locals) (h : Hh D (AB 21 a s.heap.size) (wX 21 a (EM a cI cZ) u) s.heap H locs) (hsize : ls.size = nL) (hcs : cells ≤ R.cells ∧ slots ≤ R.slots) (hr : (rest.map fun v => v.category).sum ≤ 8) (hdg : decode cc pc = .ok (.invokevirtual index, 3)) (kk : ∀ (H1 : Heap) (locs1 : List Loc), Hh D (AB 21 a s.heap.size) (wX 21 a (EM a cI cZ) u) s.heap H1 locs1 → W p l e R s m args below meth c H1 locs1 cells slots Q (F0 m (pc + 3) ls (.int rr :: rest))) : W p l e R s m args below meth c H locs cells slots Q (F0 m pc ls (.int p3 :: .int p2 :: .int p1 :: .ref (a 0) :: rest)) :=
  cVi (n := 3) hx hb hml hown hts hK hN (c_X12_workOf hc) (gdV hlk im_X12_workOf se_X12_workOf in_X12 co_X12_workOf) rfl (by decide +kernel) rfl hF hLo h hsize hcs (by decide) rfl rfl rfl hr hdg kk
def B_X12_takenIn_4 (p1 : Int32) (u : St) (k3 : Int32 → Option (Int32)) (rec5 : Int32 → Int32 → Option (Int32)) (x1 : Int32) (x2 : Int32) : Option (Int32) := if 8 ≤ x2 then k3 x1 else b1 (f_X12_isBarrel u x2) (fun (x7 : Int32) => if x7 = 0 then rec5 (x1 + (0 : Int32)) (x2 + 1) else cki x2 8 (if (u.1 13 (ix x2)) = p1 then rec5 (x1 + (1 : Int32)) (x2 + 1) else rec5 (x1 + (0 : Int32)) (x2 + 1)))
def f_X12_takenIn (u : St) (p1 : Int32) : Option (Int32) := jq_1 (fun (x4 : Int32) => some x4) (fun (k3 : Int32 → Option (Int32)) => lq_2 (B_X12_takenIn_4 p1 u k3) FU 0 0)
set_option maxRecDepth 100000 in
set_option maxHeartbeats 4000000 in
theorem c_X12_takenIn {l : Launch} {D : va_G} {cI cZ : ClassId} {a : Nat → Nat} {u : St} {p1 : Int32} {rr : Int32} (hf : f_X12_takenIn u p1 = some rr) : Ci l yX12_takenIn cX12_takenIn 4 (some .int) 3 66 D (tyM cI cZ) 21 a (EM a cI cZ) [.ref (a 0), .int p1] u rr u := by
  refine metI (by decide +kernel) (Nat.le_of_ble_eq_true rfl) ?_
  intro p e s m args below meth c R Q hx hb hml hown hts hF hLo hret hK hN h ls hl
  have hown : s.vm.findClass RX12 = some m.cls := hown
  have hl : lv_has ls 4 [(0, .ref (a 0)), (1, .int p1)] := hl
  unfold f_X12_takenIn at hf
  refine lv_iconst (pc := 0) (v := 0) hx hb dX12_takenIn_0 (by decide) ?_
  refine lv_istore_n (pc := 1) (lv' := [(2, .int 0), (0, .ref (a 0)), (1, .int p1)]) hx hb dX12_takenIn_1 rfl hl (by decide) rfl (fun ls hl => ?_)
  refine lv_iconst (pc := 2) (v := 0) hx hb dX12_takenIn_2 (by decide) ?_
  refine lv_istore_n (pc := 3) (lv' := [(3, .int 0), (2, .int 0), (0, .ref (a 0)), (1, .int p1)]) hx hb dX12_takenIn_3 rfl hl (by decide) rfl (fun ls hl => ?_)
  obtain ⟨k3, hk3, hf⟩ := jq_1_e hf
  have jk3 : ∀ (x4 : Int32), k3 x4 = some rr → ∀ (H : Heap) (locs : List Loc) (ls : Array Slot), Hh D (AB 21 a s.heap.size) (wX 21 a (EM a cI cZ) u) s.heap H locs → lv_has ls 4 [(2, .int x4)] → W p l e R s m args below meth c H locs 0 0 Q (F0 m 42 ls []) := by
    intro x4 hf H locs ls h hl
    rw [hk3] at hf
    refine lv_iload_n (pc := 42) hx hb dX12_takenIn_42 rfl (lv_at hl 0 rfl) ?_
    exact hret (so hf) rfl rfl dX12_takenIn_43 h
  refine lq_2_e (P := fun (x1 : Int32) (x2 : Int32) => ∀ (H : Heap) (locs : List Loc) (ls : Array Slot), Hh D (AB 21 a s.heap.size) (wX 21 a (EM a cI cZ) u) s.heap H locs → lv_has ls 4 [(0, .ref (a 0)), (1, .int p1), (2, .int x1), (3, .int x2)] → W p l e R s m args below meth c H locs 0 0 Q (F0 m 4 ls [])) ?_ FU _ _ hf _ _ _ h (lv_sub hl [2, 3, 1, 0] rfl)
  intro rec5 irec5 x1 x2 hf H locs ls h hl
  unfold B_X12_takenIn_4 at hf
  refine lv_iload_n (pc := 4) hx hb dX12_takenIn_4 rfl (lv_at hl 3 rfl) ?_
  refine lv_bipush (pc := 5) (v := 8) hx hb dX12_takenIn_5 (by decide) ?_
  refine lv_icmp_ge (pc := 7) (tgt := 42) hx hb dX12_takenIn_7 (by decide) (fun c6 => ?_) (fun c6 => ?_)
  · have hf := if_t hf c6
    exact jk3 _ hf _ _ _ h (lv_sub hl [2] rfl)
  · have hf := if_f hf c6
    refine lv_iload_n (pc := 10) hx hb dX12_takenIn_10 rfl (lv_at hl 2 rfl) ?_
    refine lv_aload_n (pc := 11) hx hb dX12_takenIn_11 rfl (lv_at hl 0 rfl) ?_
    refine lv_iload_n (pc := 12) hx hb dX12_takenIn_12 rfl (lv_at hl 3 rfl) ?_
    obtain ⟨x7, hc, hf⟩ := b1_e hf
    refine k_X12_isBarrel (pc := 13) hx hb hml hown hts hK hN hc ml_X12_107 (Nat.le_trans (by decide) hF) (Nat.le_trans (by decide) hLo) h hl.1 ⟨Nat.zero_le _, Nat.zero_le _⟩ (Nat.le_of_ble_eq_true rfl) dX12_takenIn_13 (fun H locs h => ?_)
    refine lv_if_eq (pc := 16) (tgt := 33) hx hb dX12_takenIn_16 (by decide) (fun c8 => ?_) (fun c8 => ?_)
    · have hf := if_t hf c8
      refine lv_iconst (pc := 33) (v := 0) hx hb dX12_takenIn_33 (by decide) ?_
      refine lv_iadd (pc := 34) hx hb dX12_takenIn_34 ?_
      refine lv_istore_n (pc := 35) (lv' := [(2, .int (x1 + (0 : Int32))), (0, .ref (a 0)), (1, .int p1), (3, .int x2)]) hx hb dX12_takenIn_35 rfl hl (by decide) rfl (fun ls hl => ?_)
      refine lv_iinc (pc := 36) (v := x2 + 1) (lv' := [(3, .int (x2 + 1)), (2, .int (x1 + (0 : Int32))), (0, .ref (a 0)), (1, .int p1)]) hx hb dX12_takenIn_36 hl (k := 3) rfl rfl (by decide) rfl (fun ls hl => ?_)
      refine lv_goto (pc := 39) (tgt := 4) hx hb dX12_takenIn_39 (by decide) ?_
      exact irec5 _ _ hf _ _ _ h (lv_sub hl [2, 3, 1, 0] rfl)
    · have hf := if_f hf c8
      refine lv_aload_n (pc := 19) hx hb dX12_takenIn_19 rfl (lv_at hl 0 rfl) ?_
      refine gM_0_23 (pc := 20) hx hb hts hown hK h fl_X12_46 dX12_takenIn_20 ?_
      refine lv_iload_n (pc := 23) hx hb dX12_takenIn_23 rfl (lv_at hl 3 rfl) ?_
      obtain ⟨hin, hf⟩ := cki_e hf
      refine gM_13 (pc := 24) hx hb hK h hin dX12_takenIn_24 ?_
      refine lv_iload_n (pc := 25) hx hb dX12_takenIn_25 rfl (lv_at hl 1 rfl) ?_
      refine lv_icmp_ne (pc := 26) (tgt := 33) hx hb dX12_takenIn_26 (by decide) (fun c9 => ?_) (fun c9 => ?_)
      · have hf := if_f hf c9
        refine lv_iconst (pc := 33) (v := 0) hx hb dX12_takenIn_33 (by decide) ?_
        refine lv_iadd (pc := 34) hx hb dX12_takenIn_34 ?_
        refine lv_istore_n (pc := 35) (lv' := [(2, .int (x1 + (0 : Int32))), (0, .ref (a 0)), (1, .int p1), (3, .int x2)]) hx hb dX12_takenIn_35 rfl hl (by decide) rfl (fun ls hl => ?_)
        refine lv_iinc (pc := 36) (v := x2 + 1) (lv' := [(3, .int (x2 + 1)), (2, .int (x1 + (0 : Int32))), (0, .ref (a 0)), (1, .int p1)]) hx hb dX12_takenIn_36 hl (k := 3) rfl rfl (by decide) rfl (fun ls hl => ?_)
        refine lv_goto (pc := 39) (tgt := 4) hx hb dX12_takenIn_39 (by decide) ?_
        exact irec5 _ _ hf _ _ _ h (lv_sub hl [2, 3, 1, 0] rfl)
      · have hf := if_t hf c9
        refine lv_iconst (pc := 29) (v := 1) hx hb dX12_takenIn_29 (by decide) ?_
        refine lv_goto (pc := 30) (tgt := 34) hx hb dX12_takenIn_30 (by decide) ?_
        refine lv_iadd (pc := 34) hx hb dX12_takenIn_34 ?_
        refine lv_istore_n (pc := 35) (lv' := [(2, .int (x1 + (1 : Int32))), (0, .ref (a 0)), (1, .int p1), (3, .int x2)]) hx hb dX12_takenIn_35 rfl hl (by decide) rfl (fun ls hl => ?_)
        refine lv_iinc (pc := 36) (v := x2 + 1) (lv' := [(3, .int (x2 + 1)), (2, .int (x1 + (1 : Int32))), (0, .ref (a 0)), (1, .int p1)]) hx hb dX12_takenIn_36 hl (k := 3) rfl rfl (by decide) rfl (fun ls hl => ?_)
        refine lv_goto (pc := 39) (tgt := 4) hx hb dX12_takenIn_39 (by decide) ?_
        exact irec5 _ _ hf _ _ _ h (lv_sub hl [2, 3, 1, 0] rfl)
theorem k_X12_takenIn {p : Program} {l : Launch} {e : Env} {R : Room} {s : State} {m : MethodId} {args : Array Value} {below : List Frame} {meth : Method} {c : Code} {H : Heap} {locs : List Loc} {cells slots : Nat} {Q : State → Prop} {pc : Nat} {ls : Array Slot} {rest : List Value} {cc : ByteArray} {D : va_G} {cI cZ : ClassId} {a : Nat → Nat} {u : St} {own : String} {index nL : Nat} {p1 : Int32} {rr : Int32} (hx : p.tables.exec = Jvm.exec) (hb : c.code = cc) (hml : c.maxLocals = nL) (hown : s.vm.findClass own = some m.cls) (hts : ∀ w ∈ Gd, w.before args s = true) (hK : va_K D vwCl (tyM cI cZ) s) (hN : NB s) (hc : f_X12_takenIn u p1 = some rr) (hlk : Cond.methodLink own index yX12_takenIn ∈ Gd) (hF : 4 ≤ R.frames) (hLo : 89 ≤ R.locals) (h : Hh D (AB 21 a s.heap.size) (wX 21 a (EM a cI cZ) u) s.heap H locs) (hsize : ls.size = nL) (hcs : cells ≤ R.cells ∧ slots ≤ R.slots) (hr : (rest.map fun v => v.category).sum ≤ 8) (hdg : decode cc pc = .ok (.invokevirtual index, 3)) (kk : ∀ (H1 : Heap) (locs1 : List Loc), Hh D (AB 21 a s.heap.size) (wX 21 a (EM a cI cZ) u) s.heap H1 locs1 → W p l e R s m args below meth c H1 locs1 cells slots Q (F0 m (pc + 3) ls (.int rr :: rest))) : W p l e R s m args below meth c H locs cells slots Q (F0 m pc ls (.int p1 :: .ref (a 0) :: rest)) :=
  cVi (n := 1) hx hb hml hown hts hK hN (c_X12_takenIn hc) (gdV hlk im_X12_takenIn se_X12_takenIn in_X12 co_X12_takenIn) rfl (by decide +kernel) rfl hF hLo h hsize hcs (by decide) rfl rfl rfl hr hdg kk
def B_X12_passDay_2 (k3 : St → Option (St)) (rec7 : St → Int32 → Option (St)) (u1 : St) (x2 : Int32) : Option (St) := if 8 ≤ x2 then k3 u1 else b1 (f_X12_isBarrel u1 x2) (fun (x9 : Int32) => if x9 = 0 then cki x2 8 (bs (sI u1 14 (ix x2) 0) (fun u11 : St => rec7 u11 (x2 + 1))) else cki x2 8 (cki x2 8 (b1 (f_X12_rise u1 x2 (u1.1 13 (ix x2)) (u1.1 0 30)) (fun (x12 : Int32) => b1 (f_X12_upTo u1 ((u1.1 14 (ix x2)) + x12)) (fun (x13 : Int32) => cki x2 8 (bs (sI u1 14 (ix x2) x13) (fun u14 : St => rec7 u14 (x2 + 1))))))))
def f_X12_passDay (u : St) : Option (St) := jq_1 (fun (u4 : St) => bs (sI u4 0 30 ((u4.1 0 30) + (1 : Int32))) (fun u5 : St => bs (sI u5 0 28 0) (fun u6 : St => some u6))) (fun (k3 : St → Option (St)) => lq_2 (B_X12_passDay_2 k3) FU u 0)
set_option maxRecDepth 100000 in
set_option maxHeartbeats 4000000 in
theorem c_X12_passDay {l : Launch} {D : va_G} {cI cZ : ClassId} {a : Nat → Nat} {u : St} {uu : St} (hf : f_X12_passDay u = some uu) : Cv l yX12_passDay cX12_passDay 2 none 3 69 D (tyM cI cZ) 21 a (EM a cI cZ) [.ref (a 0)] u uu := by
  refine metV (by decide +kernel) (Nat.le_of_ble_eq_true rfl) ?_
  intro p e s m args below meth c R Q hx hb hml hown hts hF hLo hret hK hN h ls hl
  have hown : s.vm.findClass RX12 = some m.cls := hown
  have hl : lv_has ls 2 [(0, .ref (a 0))] := hl
  unfold f_X12_passDay at hf
  refine lv_iconst (pc := 0) (v := 0) hx hb dX12_passDay_0 (by decide) ?_
  refine lv_istore_n (pc := 1) (lv' := [(1, .int 0), (0, .ref (a 0))]) hx hb dX12_passDay_1 rfl hl (by decide) rfl (fun ls hl => ?_)
  obtain ⟨k3, hk3, hf⟩ := jq_1_e hf
  have jk3 : ∀ (u4 : St), k3 u4 = some uu → ∀ (H : Heap) (locs : List Loc) (ls : Array Slot), Hh D (AB 21 a s.heap.size) (wX 21 a (EM a cI cZ) u4) s.heap H locs → lv_has ls 2 [(0, .ref (a 0))] → W p l e R s m args below meth c H locs 0 0 Q (F0 m 57 ls []) := by
    intro u4 hf H locs ls h hl
    rw [hk3] at hf
    refine lv_aload_n (pc := 57) hx hb dX12_passDay_57 rfl (lv_at hl 0 rfl) ?_
    refine lv_dup (pc := 58) hx hb dX12_passDay_58 rfl ?_
    refine gM_0_30 (pc := 59) hx hb hts hown hK h fl_X12_183 dX12_passDay_59 ?_
    refine lv_iconst (pc := 62) (v := 1) hx hb dX12_passDay_62 (by decide) ?_
    refine lv_iadd (pc := 63) hx hb dX12_passDay_63 ?_
    refine pM_0_30 (pc := 64) hx hb hts hown hK h fl_X12_183 dX12_passDay_64 (fun H locs h => ?_)
    obtain ⟨u5, eu5, hf⟩ := bs_e hf
    rw [← eu5] at h
    refine lv_aload_n (pc := 67) hx hb dX12_passDay_67 rfl (lv_at hl 0 rfl) ?_
    refine lv_iconst (pc := 68) (v := 0) hx hb dX12_passDay_68 (by decide) ?_
    refine pM_0_28 (pc := 69) hx hb hts hown hK h fl_X12_186 dX12_passDay_69 (fun H locs h => ?_)
    obtain ⟨u6, eu6, hf⟩ := bs_e hf
    rw [← eu6] at h
    exact hret (so hf) dX12_passDay_72 h
  refine lq_2_e (P := fun (u1 : St) (x2 : Int32) => ∀ (H : Heap) (locs : List Loc) (ls : Array Slot), Hh D (AB 21 a s.heap.size) (wX 21 a (EM a cI cZ) u1) s.heap H locs → lv_has ls 2 [(0, .ref (a 0)), (1, .int x2)] → W p l e R s m args below meth c H locs 0 0 Q (F0 m 2 ls [])) ?_ FU _ _ hf _ _ _ h (lv_sub hl [1, 0] rfl)
  intro rec7 irec7 u1 x2 hf H locs ls h hl
  unfold B_X12_passDay_2 at hf
  refine lv_iload_n (pc := 2) hx hb dX12_passDay_2 rfl (lv_at hl 1 rfl) ?_
  refine lv_bipush (pc := 3) (v := 8) hx hb dX12_passDay_3 (by decide) ?_
  refine lv_icmp_ge (pc := 5) (tgt := 57) hx hb dX12_passDay_5 (by decide) (fun c8 => ?_) (fun c8 => ?_)
  · have hf := if_t hf c8
    exact jk3 _ hf _ _ _ h (lv_sub hl [0] rfl)
  · have hf := if_f hf c8
    refine lv_aload_n (pc := 8) hx hb dX12_passDay_8 rfl (lv_at hl 0 rfl) ?_
    refine gM_0_24 (pc := 9) hx hb hts hown hK h fl_X12_49 dX12_passDay_9 ?_
    refine lv_iload_n (pc := 12) hx hb dX12_passDay_12 rfl (lv_at hl 1 rfl) ?_
    refine lv_aload_n (pc := 13) hx hb dX12_passDay_13 rfl (lv_at hl 0 rfl) ?_
    refine lv_iload_n (pc := 14) hx hb dX12_passDay_14 rfl (lv_at hl 1 rfl) ?_
    obtain ⟨x9, hc, hf⟩ := b1_e hf
    refine k_X12_isBarrel (pc := 15) hx hb hml hown hts hK hN hc ml_X12_107 (Nat.le_trans (by decide) hF) (Nat.le_trans (by decide) hLo) h hl.1 ⟨Nat.zero_le _, Nat.zero_le _⟩ (Nat.le_of_ble_eq_true rfl) dX12_passDay_15 (fun H locs h => ?_)
    refine lv_if_eq (pc := 18) (tgt := 49) hx hb dX12_passDay_18 (by decide) (fun c10 => ?_) (fun c10 => ?_)
    · have hf := if_t hf c10
      refine lv_iconst (pc := 49) (v := 0) hx hb dX12_passDay_49 (by decide) ?_
      obtain ⟨hin, hf⟩ := cki_e hf
      refine pM_14 (pc := 50) hx hb hK h hin dX12_passDay_50 (fun H locs h => ?_)
      obtain ⟨u11, eu11, hf⟩ := bs_e hf
      rw [← eu11] at h
      refine lv_iinc (pc := 51) (v := x2 + 1) (lv' := [(1, .int (x2 + 1)), (0, .ref (a 0))]) hx hb dX12_passDay_51 hl (k := 1) rfl rfl (by decide) rfl (fun ls hl => ?_)
      refine lv_goto (pc := 54) (tgt := 2) hx hb dX12_passDay_54 (by decide) ?_
      exact irec7 _ _ hf _ _ _ h (lv_sub hl [1, 0] rfl)
    · have hf := if_f hf c10
      refine lv_aload_n (pc := 21) hx hb dX12_passDay_21 rfl (lv_at hl 0 rfl) ?_
      refine gM_0_24 (pc := 22) hx hb hts hown hK h fl_X12_49 dX12_passDay_22 ?_
      refine lv_iload_n (pc := 25) hx hb dX12_passDay_25 rfl (lv_at hl 1 rfl) ?_
      obtain ⟨hin, hf⟩ := cki_e hf
      refine gM_14 (pc := 26) hx hb hK h hin dX12_passDay_26 ?_
      refine lv_aload_n (pc := 27) hx hb dX12_passDay_27 rfl (lv_at hl 0 rfl) ?_
      refine lv_iload_n (pc := 28) hx hb dX12_passDay_28 rfl (lv_at hl 1 rfl) ?_
      refine lv_aload_n (pc := 29) hx hb dX12_passDay_29 rfl (lv_at hl 0 rfl) ?_
      refine gM_0_23 (pc := 30) hx hb hts hown hK h fl_X12_46 dX12_passDay_30 ?_
      refine lv_iload_n (pc := 33) hx hb dX12_passDay_33 rfl (lv_at hl 1 rfl) ?_
      obtain ⟨hin, hf⟩ := cki_e hf
      refine gM_13 (pc := 34) hx hb hK h hin dX12_passDay_34 ?_
      refine lv_aload_n (pc := 35) hx hb dX12_passDay_35 rfl (lv_at hl 0 rfl) ?_
      refine gM_0_30 (pc := 36) hx hb hts hown hK h fl_X12_183 dX12_passDay_36 ?_
      obtain ⟨x12, hc, hf⟩ := b1_e hf
      refine k_X12_rise (pc := 39) hx hb hml hown hts hK hN hc ml_X12_165 (Nat.le_trans (by decide) hF) (Nat.le_trans (by decide) hLo) h hl.1 ⟨Nat.zero_le _, Nat.zero_le _⟩ (Nat.le_of_ble_eq_true rfl) dX12_passDay_39 (fun H locs h => ?_)
      refine lv_iadd (pc := 42) hx hb dX12_passDay_42 ?_
      obtain ⟨x13, hc, hf⟩ := b1_e hf
      refine kS_X12_upTo (pc := 43) hx hb hml hown hts hK hN hc ml_X12_169 (Nat.le_trans (by decide) hF) (Nat.le_trans (by decide) hLo) h hl.1 ⟨Nat.zero_le _, Nat.zero_le _⟩ (Nat.le_of_ble_eq_true rfl) dX12_passDay_43 (fun H locs h => ?_)
      refine lv_goto (pc := 46) (tgt := 50) hx hb dX12_passDay_46 (by decide) ?_
      obtain ⟨hin, hf⟩ := cki_e hf
      refine pM_14 (pc := 50) hx hb hK h hin dX12_passDay_50 (fun H locs h => ?_)
      obtain ⟨u14, eu14, hf⟩ := bs_e hf
      rw [← eu14] at h
      refine lv_iinc (pc := 51) (v := x2 + 1) (lv' := [(1, .int (x2 + 1)), (0, .ref (a 0))]) hx hb dX12_passDay_51 hl (k := 1) rfl rfl (by decide) rfl (fun ls hl => ?_)
      refine lv_goto (pc := 54) (tgt := 2) hx hb dX12_passDay_54 (by decide) ?_
      exact irec7 _ _ hf _ _ _ h (lv_sub hl [1, 0] rfl)
theorem k_X12_passDay {p : Program} {l : Launch} {e : Env} {R : Room} {s : State} {m : MethodId} {args : Array Value} {below : List Frame} {meth : Method} {c : Code} {H : Heap} {locs : List Loc} {cells slots : Nat} {Q : State → Prop} {pc : Nat} {ls : Array Slot} {rest : List Value} {cc : ByteArray} {D : va_G} {cI cZ : ClassId} {a : Nat → Nat} {u : St} {own : String} {index nL : Nat} {uu : St} (hx : p.tables.exec = Jvm.exec) (hb : c.code = cc) (hml : c.maxLocals = nL) (hown : s.vm.findClass own = some m.cls) (hts : ∀ w ∈ Gd, w.before args s = true) (hK : va_K D vwCl (tyM cI cZ) s) (hN : NB s) (hc : f_X12_passDay u = some uu) (hlk : Cond.methodLink own index yX12_passDay ∈ Gd) (hF : 4 ≤ R.frames) (hLo : 90 ≤ R.locals) (h : Hh D (AB 21 a s.heap.size) (wX 21 a (EM a cI cZ) u) s.heap H locs) (hsize : ls.size = nL) (hcs : cells ≤ R.cells ∧ slots ≤ R.slots) (hr : (rest.map fun v => v.category).sum ≤ 8) (hdg : decode cc pc = .ok (.invokevirtual index, 3)) (kk : ∀ (H1 : Heap) (locs1 : List Loc), Hh D (AB 21 a s.heap.size) (wX 21 a (EM a cI cZ) uu) s.heap H1 locs1 → W p l e R s m args below meth c H1 locs1 cells slots Q (F0 m (pc + 3) ls (rest))) : W p l e R s m args below meth c H locs cells slots Q (F0 m pc ls (.ref (a 0) :: rest)) :=
  cVv (n := 0) hx hb hml hown hts hK hN (c_X12_passDay hc) (gdV hlk im_X12_passDay se_X12_passDay in_X12 co_X12_passDay) rfl (by decide +kernel) rfl hF hLo h hsize hcs (by decide) rfl rfl rfl hr hdg kk
def f_X12_tryMove (u : St) (p1 : Int32) (p2 : Int32) (p3 : Int32) : Option (Int32 × St) := b1 (f_X12_isBarrel u p1) (fun (x1 : Int32) => if x1 = 0 then some (1, u) else cki p1 8 (if (u.1 13 (ix p1)) = p2 then some (2, u) else b1 (f_X12_takenIn u p2) (fun (x4 : Int32) => cki p2 6 (if x4 < (u.1 2 (ix p2)) then cki p1 8 (b1 (f_X12_workOf u p1 (u.1 13 (ix p1)) p2) (fun (x6 : Int32) => if ((u.1 0 28) + x6) ≤ p3 then cki p1 8 (bs (sI u 13 (ix p1) p2) (fun u8 : St => bs (sI u8 0 27 ((u8.1 0 27) + x6)) (fun u9 : St => bs (sI u9 0 28 ((u9.1 0 28) + x6)) (fun u10 : St => if (u10.1 0 28) ≤ (u10.1 0 29) then bs (sI u10 0 29 (u10.1 0 29)) (fun u12 : St => some (0, u12)) else bs (sI u10 0 29 (u10.1 0 28)) (fun u13 : St => some (0, u13)))))) else some (4, u))) else some (3, u)))))
set_option maxRecDepth 100000 in
set_option maxHeartbeats 4000000 in
theorem c_X12_tryMove {l : Launch} {D : va_G} {cI cZ : ClassId} {a : Nat → Nat} {u : St} {p1 : Int32} {p2 : Int32} {p3 : Int32} {rr : Int32} {uu : St} (hf : f_X12_tryMove u p1 p2 p3 = some (rr, uu)) : Ci l yX12_tryMove cX12_tryMove 5 (some .int) 4 89 D (tyM cI cZ) 21 a (EM a cI cZ) [.ref (a 0), .int p1, .int p2, .int p3] u rr uu := by
  refine metI (by decide +kernel) (Nat.le_of_ble_eq_true rfl) ?_
  intro p e s m args below meth c R Q hx hb hml hown hts hF hLo hret hK hN h ls hl
  have hown : s.vm.findClass RX12 = some m.cls := hown
  have hl : lv_has ls 5 [(0, .ref (a 0)), (1, .int p1), (2, .int p2), (3, .int p3)] := hl
  unfold f_X12_tryMove at hf
  refine lv_aload_n (pc := 0) hx hb dX12_tryMove_0 rfl (lv_at hl 0 rfl) ?_
  refine lv_iload_n (pc := 1) hx hb dX12_tryMove_1 rfl (lv_at hl 1 rfl) ?_
  obtain ⟨x1, hc, hf⟩ := b1_e hf
  refine k_X12_isBarrel (pc := 2) hx hb hml hown hts hK hN hc ml_X12_107 (Nat.le_trans (by decide) hF) (Nat.le_trans (by decide) hLo) h hl.1 ⟨Nat.zero_le _, Nat.zero_le _⟩ (Nat.le_of_ble_eq_true rfl) dX12_tryMove_2 (fun H locs h => ?_)
  refine lv_if_ne (pc := 5) (tgt := 10) hx hb dX12_tryMove_5 (by decide) (fun c2 => ?_) (fun c2 => ?_)
  · have hf := if_f hf c2
    refine lv_aload_n (pc := 10) hx hb dX12_tryMove_10 rfl (lv_at hl 0 rfl) ?_
    refine gM_0_23 (pc := 11) hx hb hts hown hK h fl_X12_46 dX12_tryMove_11 ?_
    refine lv_iload_n (pc := 14) hx hb dX12_tryMove_14 rfl (lv_at hl 1 rfl) ?_
    obtain ⟨hin, hf⟩ := cki_e hf
    refine gM_13 (pc := 15) hx hb hK h hin dX12_tryMove_15 ?_
    refine lv_iload_n (pc := 16) hx hb dX12_tryMove_16 rfl (lv_at hl 2 rfl) ?_
    refine lv_icmp_ne (pc := 17) (tgt := 22) hx hb dX12_tryMove_17 (by decide) (fun c3 => ?_) (fun c3 => ?_)
    · have hf := if_f hf c3
      refine lv_aload_n (pc := 22) hx hb dX12_tryMove_22 rfl (lv_at hl 0 rfl) ?_
      refine lv_iload_n (pc := 23) hx hb dX12_tryMove_23 rfl (lv_at hl 2 rfl) ?_
      obtain ⟨x4, hc, hf⟩ := b1_e hf
      refine k_X12_takenIn (pc := 24) hx hb hml hown hts hK hN hc ml_X12_189 (Nat.le_trans (by decide) hF) (Nat.le_trans (by decide) hLo) h hl.1 ⟨Nat.zero_le _, Nat.zero_le _⟩ (Nat.le_of_ble_eq_true rfl) dX12_tryMove_24 (fun H locs h => ?_)
      refine lv_aload_n (pc := 27) hx hb dX12_tryMove_27 rfl (lv_at hl 0 rfl) ?_
      refine gM_0_2 (pc := 28) hx hb hts hown hK h fl_X12_13 dX12_tryMove_28 ?_
      refine lv_iload_n (pc := 31) hx hb dX12_tryMove_31 rfl (lv_at hl 2 rfl) ?_
      obtain ⟨hin, hf⟩ := cki_e hf
      refine gM_2 (pc := 32) hx hb hK h hin dX12_tryMove_32 ?_
      refine lv_icmp_lt (pc := 33) (tgt := 38) hx hb dX12_tryMove_33 (by decide) (fun c5 => ?_) (fun c5 => ?_)
      · have hf := if_t hf c5
        refine lv_aload_n (pc := 38) hx hb dX12_tryMove_38 rfl (lv_at hl 0 rfl) ?_
        refine lv_iload_n (pc := 39) hx hb dX12_tryMove_39 rfl (lv_at hl 1 rfl) ?_
        refine lv_aload_n (pc := 40) hx hb dX12_tryMove_40 rfl (lv_at hl 0 rfl) ?_
        refine gM_0_23 (pc := 41) hx hb hts hown hK h fl_X12_46 dX12_tryMove_41 ?_
        refine lv_iload_n (pc := 44) hx hb dX12_tryMove_44 rfl (lv_at hl 1 rfl) ?_
        obtain ⟨hin, hf⟩ := cki_e hf
        refine gM_13 (pc := 45) hx hb hK h hin dX12_tryMove_45 ?_
        refine lv_iload_n (pc := 46) hx hb dX12_tryMove_46 rfl (lv_at hl 2 rfl) ?_
        obtain ⟨x6, hc, hf⟩ := b1_e hf
        refine k_X12_workOf (pc := 47) hx hb hml hown hts hK hN hc ml_X12_192 (Nat.le_trans (by decide) hF) (Nat.le_trans (by decide) hLo) h hl.1 ⟨Nat.zero_le _, Nat.zero_le _⟩ (Nat.le_of_ble_eq_true rfl) dX12_tryMove_47 (fun H locs h => ?_)
        refine lv_istore (pc := 50) (lv' := [(4, .int x6), (0, .ref (a 0)), (1, .int p1), (2, .int p2), (3, .int p3)]) hx hb dX12_tryMove_50 hl (by decide) rfl (fun ls hl => ?_)
        refine lv_aload_n (pc := 52) hx hb dX12_tryMove_52 rfl (lv_at hl 1 rfl) ?_
        refine gM_0_28 (pc := 53) hx hb hts hown hK h fl_X12_186 dX12_tryMove_53 ?_
        refine lv_iload (pc := 56) hx hb dX12_tryMove_56 (lv_at hl 0 rfl) ?_
        refine lv_iadd (pc := 58) hx hb dX12_tryMove_58 ?_
        refine lv_iload_n (pc := 59) hx hb dX12_tryMove_59 rfl (lv_at hl 4 rfl) ?_
        refine lv_icmp_le (pc := 60) (tgt := 65) hx hb dX12_tryMove_60 (by decide) (fun c7 => ?_) (fun c7 => ?_)
        · have hf := if_t hf c7
          refine lv_aload_n (pc := 65) hx hb dX12_tryMove_65 rfl (lv_at hl 1 rfl) ?_
          refine gM_0_23 (pc := 66) hx hb hts hown hK h fl_X12_46 dX12_tryMove_66 ?_
          refine lv_iload_n (pc := 69) hx hb dX12_tryMove_69 rfl (lv_at hl 2 rfl) ?_
          refine lv_iload_n (pc := 70) hx hb dX12_tryMove_70 rfl (lv_at hl 3 rfl) ?_
          obtain ⟨hin, hf⟩ := cki_e hf
          refine pM_13 (pc := 71) hx hb hK h hin dX12_tryMove_71 (fun H locs h => ?_)
          obtain ⟨u8, eu8, hf⟩ := bs_e hf
          rw [← eu8] at h
          refine lv_aload_n (pc := 72) hx hb dX12_tryMove_72 rfl (lv_at hl 1 rfl) ?_
          refine lv_dup (pc := 73) hx hb dX12_tryMove_73 rfl ?_
          refine gM_0_27 (pc := 74) hx hb hts hown hK h fl_X12_195 dX12_tryMove_74 ?_
          refine lv_iload (pc := 77) hx hb dX12_tryMove_77 (lv_at hl 0 rfl) ?_
          refine lv_iadd (pc := 79) hx hb dX12_tryMove_79 ?_
          refine pM_0_27 (pc := 80) hx hb hts hown hK h fl_X12_195 dX12_tryMove_80 (fun H locs h => ?_)
          obtain ⟨u9, eu9, hf⟩ := bs_e hf
          rw [← eu9] at h
          refine lv_aload_n (pc := 83) hx hb dX12_tryMove_83 rfl (lv_at hl 1 rfl) ?_
          refine lv_dup (pc := 84) hx hb dX12_tryMove_84 rfl ?_
          refine gM_0_28 (pc := 85) hx hb hts hown hK h fl_X12_186 dX12_tryMove_85 ?_
          refine lv_iload (pc := 88) hx hb dX12_tryMove_88 (lv_at hl 0 rfl) ?_
          refine lv_iadd (pc := 90) hx hb dX12_tryMove_90 ?_
          refine pM_0_28 (pc := 91) hx hb hts hown hK h fl_X12_186 dX12_tryMove_91 (fun H locs h => ?_)
          obtain ⟨u10, eu10, hf⟩ := bs_e hf
          rw [← eu10] at h
          refine lv_aload_n (pc := 94) hx hb dX12_tryMove_94 rfl (lv_at hl 1 rfl) ?_
          refine lv_aload_n (pc := 95) hx hb dX12_tryMove_95 rfl (lv_at hl 1 rfl) ?_
          refine gM_0_28 (pc := 96) hx hb hts hown hK h fl_X12_186 dX12_tryMove_96 ?_
          refine lv_aload_n (pc := 99) hx hb dX12_tryMove_99 rfl (lv_at hl 1 rfl) ?_
          refine gM_0_29 (pc := 100) hx hb hts hown hK h fl_X12_198 dX12_tryMove_100 ?_
          refine lv_icmp_le (pc := 103) (tgt := 113) hx hb dX12_tryMove_103 (by decide) (fun c11 => ?_) (fun c11 => ?_)
          · have hf := if_t hf c11
            refine lv_aload_n (pc := 113) hx hb dX12_tryMove_113 rfl (lv_at hl 1 rfl) ?_
            refine gM_0_29 (pc := 114) hx hb hts hown hK h fl_X12_198 dX12_tryMove_114 ?_
            refine pM_0_29 (pc := 117) hx hb hts hown hK h fl_X12_198 dX12_tryMove_117 (fun H locs h => ?_)
            obtain ⟨u12, eu12, hf⟩ := bs_e hf
            rw [← eu12] at h
            refine lv_iconst (pc := 120) (v := 0) hx hb dX12_tryMove_120 (by decide) ?_
            exact hret (so1 hf) rfl (so2 hf) dX12_tryMove_121 h
          · have hf := if_f hf c11
            refine lv_aload_n (pc := 106) hx hb dX12_tryMove_106 rfl (lv_at hl 1 rfl) ?_
            refine gM_0_28 (pc := 107) hx hb hts hown hK h fl_X12_186 dX12_tryMove_107 ?_
            refine lv_goto (pc := 110) (tgt := 117) hx hb dX12_tryMove_110 (by decide) ?_
            refine pM_0_29 (pc := 117) hx hb hts hown hK h fl_X12_198 dX12_tryMove_117 (fun H locs h => ?_)
            obtain ⟨u13, eu13, hf⟩ := bs_e hf
            rw [← eu13] at h
            refine lv_iconst (pc := 120) (v := 0) hx hb dX12_tryMove_120 (by decide) ?_
            exact hret (so1 hf) rfl (so2 hf) dX12_tryMove_121 h
        · have hf := if_f hf c7
          refine lv_iconst (pc := 63) (v := 4) hx hb dX12_tryMove_63 (by decide) ?_
          exact hret (so1 hf) rfl (so2 hf) dX12_tryMove_64 h
      · have hf := if_f hf c5
        refine lv_iconst (pc := 36) (v := 3) hx hb dX12_tryMove_36 (by decide) ?_
        exact hret (so1 hf) rfl (so2 hf) dX12_tryMove_37 h
    · have hf := if_t hf c3
      refine lv_iconst (pc := 20) (v := 2) hx hb dX12_tryMove_20 (by decide) ?_
      exact hret (so1 hf) rfl (so2 hf) dX12_tryMove_21 h
  · have hf := if_t hf c2
    refine lv_iconst (pc := 8) (v := 1) hx hb dX12_tryMove_8 (by decide) ?_
    exact hret (so1 hf) rfl (so2 hf) dX12_tryMove_9 h
theorem k_X12_tryMove {p : Program} {l : Launch} {e : Env} {R : Room} {s : State} {m : MethodId} {args : Array Value} {below : List Frame} {meth : Method} {c : Code} {H : Heap} {locs : List Loc} {cells slots : Nat} {Q : State → Prop} {pc : Nat} {ls : Array Slot} {rest : List Value} {cc : ByteArray} {D : va_G} {cI cZ : ClassId} {a : Nat → Nat} {u : St} {own : String} {index nL : Nat} {p1 : Int32} {p2 : Int32} {p3 : Int32} {rr : Int32} {uu : St} (hx : p.tables.exec = Jvm.exec) (hb : c.code = cc) (hml : c.maxLocals = nL) (hown : s.vm.findClass own = some m.cls) (hts : ∀ w ∈ Gd, w.before args s = true) (hK : va_K D vwCl (tyM cI cZ) s) (hN : NB s) (hc : f_X12_tryMove u p1 p2 p3 = some (rr, uu)) (hlk : Cond.methodLink own index yX12_tryMove ∈ Gd) (hF : 5 ≤ R.frames) (hLo : 113 ≤ R.locals) (h : Hh D (AB 21 a s.heap.size) (wX 21 a (EM a cI cZ) u) s.heap H locs) (hsize : ls.size = nL) (hcs : cells ≤ R.cells ∧ slots ≤ R.slots) (hr : (rest.map fun v => v.category).sum ≤ 8) (hdg : decode cc pc = .ok (.invokevirtual index, 3)) (kk : ∀ (H1 : Heap) (locs1 : List Loc), Hh D (AB 21 a s.heap.size) (wX 21 a (EM a cI cZ) uu) s.heap H1 locs1 → W p l e R s m args below meth c H1 locs1 cells slots Q (F0 m (pc + 3) ls (.int rr :: rest))) : W p l e R s m args below meth c H locs cells slots Q (F0 m pc ls (.int p3 :: .int p2 :: .int p1 :: .ref (a 0) :: rest)) :=
  cVi (n := 3) hx hb hml hown hts hK hN (c_X12_tryMove hc) (gdV hlk im_X12_tryMove se_X12_tryMove in_X12 co_X12_tryMove) rfl (by decide +kernel) rfl hF hLo h hsize hcs (by decide) rfl rfl rfl hr hdg kk
def B_X12_goMoves_69 (p1 : Int32) (k14 : St → Option (St)) (rec16 : St → Int32 → Int32 → Option (St)) (u11 : St) (x12 : Int32) (x13 : Int32) : Option (St) := if (u11.1 0 20) ≤ x13 then k14 u11 else if 0 ≤ (u11.1 0 25) then k14 u11 else cki x13 60 (if (u11.1 12 (ix x13)) = 46 then b1 (f_X12_passDay u11) (fun (u29 : St) => rec16 u29 (x12 + 1) (x13 + 1)) else cki x13 60 (cki (x13 + (1 : Int32)) 60 (b2 (f_X12_tryMove u11 ((u11.1 12 (ix x13)) - (48 : Int32)) ((u11.1 12 (ix (x13 + (1 : Int32)))) - (97 : Int32)) p1) (fun (x20 : Int32) (u21 : St) => jq_1 (fun (x23 : Int32) => bs (sI u21 0 25 x23) (fun u24 : St => if x20 ≤ 0 then bs (sI u24 0 26 ((-6))) (fun u26 : St => rec16 u26 (x12 + 1) (x13 + 1 + 1)) else bs (sI u24 0 26 x20) (fun u27 : St => rec16 u27 (x12 + 1) (x13 + 1 + 1)))) (fun (k22 : Int32 → Option (St)) => if x20 ≤ 0 then k22 ((-6)) else k22 x12)))))
def B_X12_goMoves_2 (k3 : St → Option (St)) (rec30 : St → Int32 → Option (St)) (u1 : St) (x2 : Int32) : Option (St) := if 8 ≤ x2 then k3 u1 else cki x2 8 (cki x2 8 (bs (sI u1 13 (ix x2) (u1.1 3 (ix x2))) (fun u32 : St => cki x2 8 (bs (sI u32 14 (ix x2) 0) (fun u33 : St => rec30 u33 (x2 + 1))))))
def f_X12_goMoves (u : St) (p1 : Int32) : Option (St) := jq_1 (fun (u4 : St) => bs (sI u4 0 25 ((-6))) (fun u5 : St => bs (sI u5 0 26 ((-6))) (fun u6 : St => bs (sI u6 0 27 0) (fun u7 : St => bs (sI u7 0 28 0) (fun u8 : St => bs (sI u8 0 29 0) (fun u9 : St => bs (sI u9 0 30 0) (fun u10 : St => jq_1 (fun (u15 : St) => some u15) (fun (k14 : St → Option (St)) => lq_3 (B_X12_goMoves_69 p1 k14) FU u10 0 0)))))))) (fun (k3 : St → Option (St)) => lq_2 (B_X12_goMoves_2 k3) FU u 0)
set_option maxRecDepth 100000 in
set_option maxHeartbeats 4000000 in
theorem c_X12_goMoves {l : Launch} {D : va_G} {cI cZ : ClassId} {a : Nat → Nat} {u : St} {p1 : Int32} {uu : St} (hf : f_X12_goMoves u p1 = some uu) : Cv l yX12_goMoves cX12_goMoves 5 none 5 113 D (tyM cI cZ) 21 a (EM a cI cZ) [.ref (a 0), .int p1] u uu := by
  refine metV (by decide +kernel) (Nat.le_of_ble_eq_true rfl) ?_
  intro p e s m args below meth c R Q hx hb hml hown hts hF hLo hret hK hN h ls hl
  have hown : s.vm.findClass RX12 = some m.cls := hown
  have hl : lv_has ls 5 [(0, .ref (a 0)), (1, .int p1)] := hl
  unfold f_X12_goMoves at hf
  refine lv_iconst (pc := 0) (v := 0) hx hb dX12_goMoves_0 (by decide) ?_
  refine lv_istore_n (pc := 1) (lv' := [(2, .int 0), (0, .ref (a 0)), (1, .int p1)]) hx hb dX12_goMoves_1 rfl hl (by decide) rfl (fun ls hl => ?_)
  obtain ⟨k3, hk3, hf⟩ := jq_1_e hf
  have jk3 : ∀ (u4 : St), k3 u4 = some uu → ∀ (H : Heap) (locs : List Loc) (ls : Array Slot), Hh D (AB 21 a s.heap.size) (wX 21 a (EM a cI cZ) u4) s.heap H locs → lv_has ls 5 [(0, .ref (a 0)), (1, .int p1)] → W p l e R s m args below meth c H locs 0 0 Q (F0 m 33 ls []) := by
    intro u4 hf H locs ls h hl
    rw [hk3] at hf
    refine lv_aload_n (pc := 33) hx hb dX12_goMoves_33 rfl (lv_at hl 0 rfl) ?_
    refine lv_bipush (pc := 34) (v := (-6)) hx hb dX12_goMoves_34 (by decide) ?_
    refine pM_0_25 (pc := 36) hx hb hts hown hK h fl_X12_201 dX12_goMoves_36 (fun H locs h => ?_)
    obtain ⟨u5, eu5, hf⟩ := bs_e hf
    rw [← eu5] at h
    refine lv_aload_n (pc := 39) hx hb dX12_goMoves_39 rfl (lv_at hl 0 rfl) ?_
    refine lv_bipush (pc := 40) (v := (-6)) hx hb dX12_goMoves_40 (by decide) ?_
    refine pM_0_26 (pc := 42) hx hb hts hown hK h fl_X12_204 dX12_goMoves_42 (fun H locs h => ?_)
    obtain ⟨u6, eu6, hf⟩ := bs_e hf
    rw [← eu6] at h
    refine lv_aload_n (pc := 45) hx hb dX12_goMoves_45 rfl (lv_at hl 0 rfl) ?_
    refine lv_iconst (pc := 46) (v := 0) hx hb dX12_goMoves_46 (by decide) ?_
    refine pM_0_27 (pc := 47) hx hb hts hown hK h fl_X12_195 dX12_goMoves_47 (fun H locs h => ?_)
    obtain ⟨u7, eu7, hf⟩ := bs_e hf
    rw [← eu7] at h
    refine lv_aload_n (pc := 50) hx hb dX12_goMoves_50 rfl (lv_at hl 0 rfl) ?_
    refine lv_iconst (pc := 51) (v := 0) hx hb dX12_goMoves_51 (by decide) ?_
    refine pM_0_28 (pc := 52) hx hb hts hown hK h fl_X12_186 dX12_goMoves_52 (fun H locs h => ?_)
    obtain ⟨u8, eu8, hf⟩ := bs_e hf
    rw [← eu8] at h
    refine lv_aload_n (pc := 55) hx hb dX12_goMoves_55 rfl (lv_at hl 0 rfl) ?_
    refine lv_iconst (pc := 56) (v := 0) hx hb dX12_goMoves_56 (by decide) ?_
    refine pM_0_29 (pc := 57) hx hb hts hown hK h fl_X12_198 dX12_goMoves_57 (fun H locs h => ?_)
    obtain ⟨u9, eu9, hf⟩ := bs_e hf
    rw [← eu9] at h
    refine lv_aload_n (pc := 60) hx hb dX12_goMoves_60 rfl (lv_at hl 0 rfl) ?_
    refine lv_iconst (pc := 61) (v := 0) hx hb dX12_goMoves_61 (by decide) ?_
    refine pM_0_30 (pc := 62) hx hb hts hown hK h fl_X12_183 dX12_goMoves_62 (fun H locs h => ?_)
    obtain ⟨u10, eu10, hf⟩ := bs_e hf
    rw [← eu10] at h
    refine lv_iconst (pc := 65) (v := 0) hx hb dX12_goMoves_65 (by decide) ?_
    refine lv_istore_n (pc := 66) (lv' := [(2, .int 0), (0, .ref (a 0)), (1, .int p1)]) hx hb dX12_goMoves_66 rfl hl (by decide) rfl (fun ls hl => ?_)
    refine lv_iconst (pc := 67) (v := 0) hx hb dX12_goMoves_67 (by decide) ?_
    refine lv_istore_n (pc := 68) (lv' := [(3, .int 0), (2, .int 0), (0, .ref (a 0)), (1, .int p1)]) hx hb dX12_goMoves_68 rfl hl (by decide) rfl (fun ls hl => ?_)
    obtain ⟨k14, hk14, hf⟩ := jq_1_e hf
    have jk14 : ∀ (u15 : St), k14 u15 = some uu → ∀ (H : Heap) (locs : List Loc) (ls : Array Slot), Hh D (AB 21 a s.heap.size) (wX 21 a (EM a cI cZ) u15) s.heap H locs → lv_has ls 5 [] → W p l e R s m args below meth c H locs 0 0 Q (F0 m 172 ls []) := by
      intro u15 hf H locs ls h hl
      rw [hk14] at hf
      exact hret (so hf) dX12_goMoves_172 h
    refine lq_3_e (P := fun (u11 : St) (x12 : Int32) (x13 : Int32) => ∀ (H : Heap) (locs : List Loc) (ls : Array Slot), Hh D (AB 21 a s.heap.size) (wX 21 a (EM a cI cZ) u11) s.heap H locs → lv_has ls 5 [(0, .ref (a 0)), (1, .int p1), (2, .int x12), (3, .int x13)] → W p l e R s m args below meth c H locs 0 0 Q (F0 m 69 ls [])) ?_ FU _ _ _ hf _ _ _ h (lv_sub hl [2, 3, 1, 0] rfl)
    intro rec16 irec16 u11 x12 x13 hf H locs ls h hl
    unfold B_X12_goMoves_69 at hf
    refine lv_iload_n (pc := 69) hx hb dX12_goMoves_69 rfl (lv_at hl 3 rfl) ?_
    refine lv_aload_n (pc := 70) hx hb dX12_goMoves_70 rfl (lv_at hl 0 rfl) ?_
    refine gM_0_20 (pc := 71) hx hb hts hown hK h fl_X12_135 dX12_goMoves_71 ?_
    refine lv_icmp_ge (pc := 74) (tgt := 172) hx hb dX12_goMoves_74 (by decide) (fun c17 => ?_) (fun c17 => ?_)
    · have hf := if_t hf c17
      exact jk14 _ hf _ _ _ h (lv_sub hl [] rfl)
    · have hf := if_f hf c17
      refine lv_aload_n (pc := 77) hx hb dX12_goMoves_77 rfl (lv_at hl 0 rfl) ?_
      refine gM_0_25 (pc := 78) hx hb hts hown hK h fl_X12_201 dX12_goMoves_78 ?_
      refine lv_if_ge (pc := 81) (tgt := 172) hx hb dX12_goMoves_81 (by decide) (fun c18 => ?_) (fun c18 => ?_)
      · have hf := if_t hf c18
        exact jk14 _ hf _ _ _ h (lv_sub hl [] rfl)
      · have hf := if_f hf c18
        refine lv_aload_n (pc := 84) hx hb dX12_goMoves_84 rfl (lv_at hl 0 rfl) ?_
        refine gM_0_19 (pc := 85) hx hb hts hown hK h fl_X12_43 dX12_goMoves_85 ?_
        refine lv_iload_n (pc := 88) hx hb dX12_goMoves_88 rfl (lv_at hl 3 rfl) ?_
        obtain ⟨hin, hf⟩ := cki_e hf
        refine gM_12 (pc := 89) hx hb hK h hin dX12_goMoves_89 ?_
        refine lv_bipush (pc := 90) (v := 46) hx hb dX12_goMoves_90 (by decide) ?_
        refine lv_icmp_ne (pc := 92) (tgt := 102) hx hb dX12_goMoves_92 (by decide) (fun c19 => ?_) (fun c19 => ?_)
        · have hf := if_f hf c19
          refine lv_aload_n (pc := 102) hx hb dX12_goMoves_102 rfl (lv_at hl 0 rfl) ?_
          refine lv_aload_n (pc := 103) hx hb dX12_goMoves_103 rfl (lv_at hl 0 rfl) ?_
          refine gM_0_19 (pc := 104) hx hb hts hown hK h fl_X12_43 dX12_goMoves_104 ?_
          refine lv_iload_n (pc := 107) hx hb dX12_goMoves_107 rfl (lv_at hl 3 rfl) ?_
          obtain ⟨hin, hf⟩ := cki_e hf
          refine gM_12 (pc := 108) hx hb hK h hin dX12_goMoves_108 ?_
          refine lv_bipush (pc := 109) (v := 48) hx hb dX12_goMoves_109 (by decide) ?_
          refine lv_isub (pc := 111) hx hb dX12_goMoves_111 ?_
          refine lv_aload_n (pc := 112) hx hb dX12_goMoves_112 rfl (lv_at hl 0 rfl) ?_
          refine gM_0_19 (pc := 113) hx hb hts hown hK h fl_X12_43 dX12_goMoves_113 ?_
          refine lv_iload_n (pc := 116) hx hb dX12_goMoves_116 rfl (lv_at hl 3 rfl) ?_
          refine lv_iconst (pc := 117) (v := 1) hx hb dX12_goMoves_117 (by decide) ?_
          refine lv_iadd (pc := 118) hx hb dX12_goMoves_118 ?_
          obtain ⟨hin, hf⟩ := cki_e hf
          refine gM_12 (pc := 119) hx hb hK h hin dX12_goMoves_119 ?_
          refine lv_bipush (pc := 120) (v := 97) hx hb dX12_goMoves_120 (by decide) ?_
          refine lv_isub (pc := 122) hx hb dX12_goMoves_122 ?_
          refine lv_iload_n (pc := 123) hx hb dX12_goMoves_123 rfl (lv_at hl 1 rfl) ?_
          obtain ⟨x20, u21, hc, hf⟩ := b2_e hf
          refine k_X12_tryMove (pc := 124) hx hb hml hown hts hK hN hc ml_X12_210 (Nat.le_trans (by decide) hF) (Nat.le_trans (by decide) hLo) h hl.1 ⟨Nat.zero_le _, Nat.zero_le _⟩ (Nat.le_of_ble_eq_true rfl) dX12_goMoves_124 (fun H locs h => ?_)
          refine lv_istore (pc := 127) (lv' := [(4, .int x20), (0, .ref (a 0)), (1, .int p1), (2, .int x12), (3, .int x13)]) hx hb dX12_goMoves_127 hl (by decide) rfl (fun ls hl => ?_)
          refine lv_aload_n (pc := 129) hx hb dX12_goMoves_129 rfl (lv_at hl 1 rfl) ?_
          refine lv_iload (pc := 130) hx hb dX12_goMoves_130 (lv_at hl 0 rfl) ?_
          obtain ⟨k22, hk22, hf⟩ := jq_1_e hf
          have jk22 : ∀ (x23 : Int32), k22 x23 = some uu → ∀ (H : Heap) (locs : List Loc) (ls : Array Slot), Hh D (AB 21 a s.heap.size) (wX 21 a (EM a cI cZ) u21) s.heap H locs → lv_has ls 5 [(0, .ref (a 0)), (1, .int p1), (2, .int x12), (3, .int x13), (4, .int x20)] → W p l e R s m args below meth c H locs 0 0 Q (F0 m 141 ls [.int x23, .ref (a 0)]) := by
            intro x23 hf H locs ls h hl
            rw [hk22] at hf
            refine pM_0_25 (pc := 141) hx hb hts hown hK h fl_X12_201 dX12_goMoves_141 (fun H locs h => ?_)
            obtain ⟨u24, eu24, hf⟩ := bs_e hf
            rw [← eu24] at h
            refine lv_aload_n (pc := 144) hx hb dX12_goMoves_144 rfl (lv_at hl 0 rfl) ?_
            refine lv_iload (pc := 145) hx hb dX12_goMoves_145 (lv_at hl 4 rfl) ?_
            refine lv_if_le (pc := 147) (tgt := 155) hx hb dX12_goMoves_147 (by decide) (fun c25 => ?_) (fun c25 => ?_)
            · have hf := if_t hf c25
              refine lv_bipush (pc := 155) (v := (-6)) hx hb dX12_goMoves_155 (by decide) ?_
              refine pM_0_26 (pc := 157) hx hb hts hown hK h fl_X12_204 dX12_goMoves_157 (fun H locs h => ?_)
              obtain ⟨u26, eu26, hf⟩ := bs_e hf
              rw [← eu26] at h
              refine lv_iinc (pc := 160) (v := x13 + 1) (lv' := [(3, .int (x13 + 1)), (0, .ref (a 0)), (1, .int p1), (2, .int x12), (4, .int x20)]) hx hb dX12_goMoves_160 hl (k := 3) rfl rfl (by decide) rfl (fun ls hl => ?_)
              refine lv_iinc (pc := 163) (v := x12 + 1) (lv' := [(2, .int (x12 + 1)), (3, .int (x13 + 1)), (0, .ref (a 0)), (1, .int p1), (4, .int x20)]) hx hb dX12_goMoves_163 hl (k := 3) rfl rfl (by decide) rfl (fun ls hl => ?_)
              refine lv_iinc (pc := 166) (v := x13 + 1 + 1) (lv' := [(3, .int (x13 + 1 + 1)), (2, .int (x12 + 1)), (0, .ref (a 0)), (1, .int p1), (4, .int x20)]) hx hb dX12_goMoves_166 hl (k := 1) rfl rfl (by decide) rfl (fun ls hl => ?_)
              refine lv_goto (pc := 169) (tgt := 69) hx hb dX12_goMoves_169 (by decide) ?_
              exact irec16 _ _ _ hf _ _ _ h (lv_sub hl [2, 3, 1, 0] rfl)
            · have hf := if_f hf c25
              refine lv_iload (pc := 150) hx hb dX12_goMoves_150 (lv_at hl 4 rfl) ?_
              refine lv_goto (pc := 152) (tgt := 157) hx hb dX12_goMoves_152 (by decide) ?_
              refine pM_0_26 (pc := 157) hx hb hts hown hK h fl_X12_204 dX12_goMoves_157 (fun H locs h => ?_)
              obtain ⟨u27, eu27, hf⟩ := bs_e hf
              rw [← eu27] at h
              refine lv_iinc (pc := 160) (v := x13 + 1) (lv' := [(3, .int (x13 + 1)), (0, .ref (a 0)), (1, .int p1), (2, .int x12), (4, .int x20)]) hx hb dX12_goMoves_160 hl (k := 3) rfl rfl (by decide) rfl (fun ls hl => ?_)
              refine lv_iinc (pc := 163) (v := x12 + 1) (lv' := [(2, .int (x12 + 1)), (3, .int (x13 + 1)), (0, .ref (a 0)), (1, .int p1), (4, .int x20)]) hx hb dX12_goMoves_163 hl (k := 3) rfl rfl (by decide) rfl (fun ls hl => ?_)
              refine lv_iinc (pc := 166) (v := x13 + 1 + 1) (lv' := [(3, .int (x13 + 1 + 1)), (2, .int (x12 + 1)), (0, .ref (a 0)), (1, .int p1), (4, .int x20)]) hx hb dX12_goMoves_166 hl (k := 1) rfl rfl (by decide) rfl (fun ls hl => ?_)
              refine lv_goto (pc := 169) (tgt := 69) hx hb dX12_goMoves_169 (by decide) ?_
              exact irec16 _ _ _ hf _ _ _ h (lv_sub hl [2, 3, 1, 0] rfl)
          refine lv_if_le (pc := 132) (tgt := 139) hx hb dX12_goMoves_132 (by decide) (fun c28 => ?_) (fun c28 => ?_)
          · have hf := if_t hf c28
            refine lv_bipush (pc := 139) (v := (-6)) hx hb dX12_goMoves_139 (by decide) ?_
            exact jk22 _ hf _ _ _ h (lv_sub hl [1, 2, 3, 4, 0] rfl)
          · have hf := if_f hf c28
            refine lv_iload_n (pc := 135) hx hb dX12_goMoves_135 rfl (lv_at hl 3 rfl) ?_
            refine lv_goto (pc := 136) (tgt := 141) hx hb dX12_goMoves_136 (by decide) ?_
            exact jk22 _ hf _ _ _ h (lv_sub hl [1, 2, 3, 4, 0] rfl)
        · have hf := if_t hf c19
          refine lv_aload_n (pc := 95) hx hb dX12_goMoves_95 rfl (lv_at hl 0 rfl) ?_
          obtain ⟨u29, hc, hf⟩ := b1_e hf
          refine k_X12_passDay (pc := 96) hx hb hml hown hts hK hN hc ml_X12_207 (Nat.le_trans (by decide) hF) (Nat.le_trans (by decide) hLo) h hl.1 ⟨Nat.zero_le _, Nat.zero_le _⟩ (Nat.le_of_ble_eq_true rfl) dX12_goMoves_96 (fun H locs h => ?_)
          refine lv_goto (pc := 99) (tgt := 163) hx hb dX12_goMoves_99 (by decide) ?_
          refine lv_iinc (pc := 163) (v := x12 + 1) (lv' := [(2, .int (x12 + 1)), (0, .ref (a 0)), (1, .int p1), (3, .int x13)]) hx hb dX12_goMoves_163 hl (k := 2) rfl rfl (by decide) rfl (fun ls hl => ?_)
          refine lv_iinc (pc := 166) (v := x13 + 1) (lv' := [(3, .int (x13 + 1)), (2, .int (x12 + 1)), (0, .ref (a 0)), (1, .int p1)]) hx hb dX12_goMoves_166 hl (k := 3) rfl rfl (by decide) rfl (fun ls hl => ?_)
          refine lv_goto (pc := 169) (tgt := 69) hx hb dX12_goMoves_169 (by decide) ?_
          exact irec16 _ _ _ hf _ _ _ h (lv_sub hl [2, 3, 1, 0] rfl)
  refine lq_2_e (P := fun (u1 : St) (x2 : Int32) => ∀ (H : Heap) (locs : List Loc) (ls : Array Slot), Hh D (AB 21 a s.heap.size) (wX 21 a (EM a cI cZ) u1) s.heap H locs → lv_has ls 5 [(0, .ref (a 0)), (1, .int p1), (2, .int x2)] → W p l e R s m args below meth c H locs 0 0 Q (F0 m 2 ls [])) ?_ FU _ _ hf _ _ _ h (lv_sub hl [1, 2, 0] rfl)
  intro rec30 irec30 u1 x2 hf H locs ls h hl
  unfold B_X12_goMoves_2 at hf
  refine lv_iload_n (pc := 2) hx hb dX12_goMoves_2 rfl (lv_at hl 2 rfl) ?_
  refine lv_bipush (pc := 3) (v := 8) hx hb dX12_goMoves_3 (by decide) ?_
  refine lv_icmp_ge (pc := 5) (tgt := 33) hx hb dX12_goMoves_5 (by decide) (fun c31 => ?_) (fun c31 => ?_)
  · have hf := if_t hf c31
    exact jk3 _ hf _ _ _ h (lv_sub hl [0, 1] rfl)
  · have hf := if_f hf c31
    refine lv_aload_n (pc := 8) hx hb dX12_goMoves_8 rfl (lv_at hl 0 rfl) ?_
    refine gM_0_23 (pc := 9) hx hb hts hown hK h fl_X12_46 dX12_goMoves_9 ?_
    refine lv_iload_n (pc := 12) hx hb dX12_goMoves_12 rfl (lv_at hl 2 rfl) ?_
    refine lv_aload_n (pc := 13) hx hb dX12_goMoves_13 rfl (lv_at hl 0 rfl) ?_
    refine gM_0_5 (pc := 14) hx hb hts hown hK h fl_X12_16 dX12_goMoves_14 ?_
    refine lv_iload_n (pc := 17) hx hb dX12_goMoves_17 rfl (lv_at hl 2 rfl) ?_
    obtain ⟨hin, hf⟩ := cki_e hf
    refine gM_3 (pc := 18) hx hb hK h hin dX12_goMoves_18 ?_
    obtain ⟨hin, hf⟩ := cki_e hf
    refine pM_13 (pc := 19) hx hb hK h hin dX12_goMoves_19 (fun H locs h => ?_)
    obtain ⟨u32, eu32, hf⟩ := bs_e hf
    rw [← eu32] at h
    refine lv_aload_n (pc := 20) hx hb dX12_goMoves_20 rfl (lv_at hl 0 rfl) ?_
    refine gM_0_24 (pc := 21) hx hb hts hown hK h fl_X12_49 dX12_goMoves_21 ?_
    refine lv_iload_n (pc := 24) hx hb dX12_goMoves_24 rfl (lv_at hl 2 rfl) ?_
    refine lv_iconst (pc := 25) (v := 0) hx hb dX12_goMoves_25 (by decide) ?_
    obtain ⟨hin, hf⟩ := cki_e hf
    refine pM_14 (pc := 26) hx hb hK h hin dX12_goMoves_26 (fun H locs h => ?_)
    obtain ⟨u33, eu33, hf⟩ := bs_e hf
    rw [← eu33] at h
    refine lv_iinc (pc := 27) (v := x2 + 1) (lv' := [(2, .int (x2 + 1)), (0, .ref (a 0)), (1, .int p1)]) hx hb dX12_goMoves_27 hl (k := 2) rfl rfl (by decide) rfl (fun ls hl => ?_)
    refine lv_goto (pc := 30) (tgt := 2) hx hb dX12_goMoves_30 (by decide) ?_
    exact irec30 _ _ hf _ _ _ h (lv_sub hl [1, 2, 0] rfl)
theorem k_X12_goMoves {p : Program} {l : Launch} {e : Env} {R : Room} {s : State} {m : MethodId} {args : Array Value} {below : List Frame} {meth : Method} {c : Code} {H : Heap} {locs : List Loc} {cells slots : Nat} {Q : State → Prop} {pc : Nat} {ls : Array Slot} {rest : List Value} {cc : ByteArray} {D : va_G} {cI cZ : ClassId} {a : Nat → Nat} {u : St} {own : String} {index nL : Nat} {p1 : Int32} {uu : St} (hx : p.tables.exec = Jvm.exec) (hb : c.code = cc) (hml : c.maxLocals = nL) (hown : s.vm.findClass own = some m.cls) (hts : ∀ w ∈ Gd, w.before args s = true) (hK : va_K D vwCl (tyM cI cZ) s) (hN : NB s) (hc : f_X12_goMoves u p1 = some uu) (hlk : Cond.methodLink own index yX12_goMoves ∈ Gd) (hF : 6 ≤ R.frames) (hLo : 137 ≤ R.locals) (h : Hh D (AB 21 a s.heap.size) (wX 21 a (EM a cI cZ) u) s.heap H locs) (hsize : ls.size = nL) (hcs : cells ≤ R.cells ∧ slots ≤ R.slots) (hr : (rest.map fun v => v.category).sum ≤ 8) (hdg : decode cc pc = .ok (.invokevirtual index, 3)) (kk : ∀ (H1 : Heap) (locs1 : List Loc), Hh D (AB 21 a s.heap.size) (wX 21 a (EM a cI cZ) uu) s.heap H1 locs1 → W p l e R s m args below meth c H1 locs1 cells slots Q (F0 m (pc + 3) ls (rest))) : W p l e R s m args below meth c H locs cells slots Q (F0 m pc ls (.int p1 :: .ref (a 0) :: rest)) :=
  cVv (n := 1) hx hb hml hown hts hK hN (c_X12_goMoves hc) (gdV hlk im_X12_goMoves se_X12_goMoves in_X12 co_X12_goMoves) rfl (by decide +kernel) rfl hF hLo h hsize hcs (by decide) rfl rfl rfl hr hdg kk
def f_X12_judge (u : St) (p1 : Int32) : Option (Int32 × St) := b1 (f_X12_in u (Int32.toInt64 p1) 0 3) (fun (x1 : Int32) => if x1 = 0 then some ((-2), u) else b1 (f_X12_faultOfMoves u) (fun (x3 : Int32) => if x3 < 0 then b1 (f_X12_goMoves u (u.1 0 12)) (fun (u5 : St) => jq_0 (if p1 = 0 then some (u5.1 0 25, u5) else if p1 = 1 then some (u5.1 0 26, u5) else if p1 = 2 then some (u5.1 0 27, u5) else some (u5.1 0 30, u5)) (fun (k6 : Option (Int32 × St)) => if p1 ≤ 1 then k6 else if (u5.1 0 25) < 0 then k6 else some ((-3), u5))) else some ((-5), u)))
set_option maxRecDepth 100000 in
set_option maxHeartbeats 4000000 in
theorem c_X12_judge {l : Launch} {D : va_G} {cI cZ : ClassId} {a : Nat → Nat} {u : St} {p1 : Int32} {rr : Int32} {uu : St} (hf : f_X12_judge u p1 = some (rr, uu)) : Ci l yX12_judge cX12_judge 2 (some .int) 6 137 D (tyM cI cZ) 21 a (EM a cI cZ) [.ref (a 0), .int p1] u rr uu := by
  refine metI (by decide +kernel) (Nat.le_of_ble_eq_true rfl) ?_
  intro p e s m args below meth c R Q hx hb hml hown hts hF hLo hret hK hN h ls hl
  have hown : s.vm.findClass RX12 = some m.cls := hown
  have hl : lv_has ls 2 [(0, .ref (a 0)), (1, .int p1)] := hl
  unfold f_X12_judge at hf
  refine lv_iload_n (pc := 0) hx hb dX12_judge_0 rfl (lv_at hl 1 rfl) ?_
  refine lv_i2l (pc := 1) (v := Int32.toInt64 p1) hx hb dX12_judge_1 rfl ?_
  refine lv_lconst (pc := 2) (v := 0) hx hb dX12_judge_2 (by decide) ?_
  refine lv_ldc2 (pc := 3) hx hb hown (hts _ ctl_X12_123) dX12_judge_3 ?_
  obtain ⟨x1, hc, hf⟩ := b1_e hf
  refine kS_X12_in (pc := 6) hx hb hml hown hts hK hN hc ml_X12_97 (Nat.le_trans (by decide) hF) (Nat.le_trans (by decide) hLo) h hl.1 ⟨Nat.zero_le _, Nat.zero_le _⟩ (Nat.le_of_ble_eq_true rfl) dX12_judge_6 (fun H locs h => ?_)
  refine lv_if_ne (pc := 9) (tgt := 15) hx hb dX12_judge_9 (by decide) (fun c2 => ?_) (fun c2 => ?_)
  · have hf := if_f hf c2
    refine lv_aload_n (pc := 15) hx hb dX12_judge_15 rfl (lv_at hl 0 rfl) ?_
    obtain ⟨x3, hc, hf⟩ := b1_e hf
    refine k_X12_faultOfMoves (pc := 16) hx hb hml hown hts hK hN hc ml_X12_148 (Nat.le_trans (by decide) hF) (Nat.le_trans (by decide) hLo) h hl.1 ⟨Nat.zero_le _, Nat.zero_le _⟩ (Nat.le_of_ble_eq_true rfl) dX12_judge_16 (fun H locs h => ?_)
    refine lv_if_lt (pc := 19) (tgt := 25) hx hb dX12_judge_19 (by decide) (fun c4 => ?_) (fun c4 => ?_)
    · have hf := if_t hf c4
      refine lv_aload_n (pc := 25) hx hb dX12_judge_25 rfl (lv_at hl 0 rfl) ?_
      refine lv_aload_n (pc := 26) hx hb dX12_judge_26 rfl (lv_at hl 0 rfl) ?_
      refine gM_0_12 (pc := 27) hx hb hts hown hK h fl_X12_75 dX12_judge_27 ?_
      obtain ⟨u5, hc, hf⟩ := b1_e hf
      refine k_X12_goMoves (pc := 30) hx hb hml hown hts hK hN hc ml_X12_213 (Nat.le_trans (by decide) hF) (Nat.le_trans (by decide) hLo) h hl.1 ⟨Nat.zero_le _, Nat.zero_le _⟩ (Nat.le_of_ble_eq_true rfl) dX12_judge_30 (fun H locs h => ?_)
      refine lv_iload_n (pc := 33) hx hb dX12_judge_33 rfl (lv_at hl 1 rfl) ?_
      refine lv_iconst (pc := 34) (v := 1) hx hb dX12_judge_34 (by decide) ?_
      obtain ⟨k6, hk6, hf⟩ := jq_0_e hf
      have jk6 : k6 = some (rr, uu) → ∀ (H : Heap) (locs : List Loc) (ls : Array Slot), Hh D (AB 21 a s.heap.size) (wX 21 a (EM a cI cZ) u5) s.heap H locs → lv_has ls 2 [(0, .ref (a 0)), (1, .int p1)] → W p l e R s m args below meth c H locs 0 0 Q (F0 m 48 ls []) := by
        intro hf H locs ls h hl
        rw [hk6] at hf
        refine lv_iload_n (pc := 48) hx hb dX12_judge_48 rfl (lv_at hl 1 rfl) ?_
        refine lv_if_ne (pc := 49) (tgt := 59) hx hb dX12_judge_49 (by decide) (fun c7 => ?_) (fun c7 => ?_)
        · have hf := if_f hf c7
          refine lv_iload_n (pc := 59) hx hb dX12_judge_59 rfl (lv_at hl 1 rfl) ?_
          refine lv_iconst (pc := 60) (v := 1) hx hb dX12_judge_60 (by decide) ?_
          refine lv_icmp_ne (pc := 61) (tgt := 71) hx hb dX12_judge_61 (by decide) (fun c8 => ?_) (fun c8 => ?_)
          · have hf := if_f hf c8
            refine lv_iload_n (pc := 71) hx hb dX12_judge_71 rfl (lv_at hl 1 rfl) ?_
            refine lv_iconst (pc := 72) (v := 2) hx hb dX12_judge_72 (by decide) ?_
            refine lv_icmp_ne (pc := 73) (tgt := 83) hx hb dX12_judge_73 (by decide) (fun c9 => ?_) (fun c9 => ?_)
            · have hf := if_f hf c9
              refine lv_aload_n (pc := 83) hx hb dX12_judge_83 rfl (lv_at hl 0 rfl) ?_
              refine gM_0_30 (pc := 84) hx hb hts hown hK h fl_X12_183 dX12_judge_84 ?_
              exact hret (so1 hf) rfl (so2 hf) dX12_judge_87 h
            · have hf := if_t hf c9
              refine lv_aload_n (pc := 76) hx hb dX12_judge_76 rfl (lv_at hl 0 rfl) ?_
              refine gM_0_27 (pc := 77) hx hb hts hown hK h fl_X12_195 dX12_judge_77 ?_
              refine lv_goto (pc := 80) (tgt := 87) hx hb dX12_judge_80 (by decide) ?_
              exact hret (so1 hf) rfl (so2 hf) dX12_judge_87 h
          · have hf := if_t hf c8
            refine lv_aload_n (pc := 64) hx hb dX12_judge_64 rfl (lv_at hl 0 rfl) ?_
            refine gM_0_26 (pc := 65) hx hb hts hown hK h fl_X12_204 dX12_judge_65 ?_
            refine lv_goto (pc := 68) (tgt := 87) hx hb dX12_judge_68 (by decide) ?_
            exact hret (so1 hf) rfl (so2 hf) dX12_judge_87 h
        · have hf := if_t hf c7
          refine lv_aload_n (pc := 52) hx hb dX12_judge_52 rfl (lv_at hl 0 rfl) ?_
          refine gM_0_25 (pc := 53) hx hb hts hown hK h fl_X12_201 dX12_judge_53 ?_
          refine lv_goto (pc := 56) (tgt := 87) hx hb dX12_judge_56 (by decide) ?_
          exact hret (so1 hf) rfl (so2 hf) dX12_judge_87 h
      refine lv_icmp_le (pc := 35) (tgt := 48) hx hb dX12_judge_35 (by decide) (fun c10 => ?_) (fun c10 => ?_)
      · have hf := if_t hf c10
        exact jk6 hf _ _ _ h (lv_sub hl [0, 1] rfl)
      · have hf := if_f hf c10
        refine lv_aload_n (pc := 38) hx hb dX12_judge_38 rfl (lv_at hl 0 rfl) ?_
        refine gM_0_25 (pc := 39) hx hb hts hown hK h fl_X12_201 dX12_judge_39 ?_
        refine lv_if_lt (pc := 42) (tgt := 48) hx hb dX12_judge_42 (by decide) (fun c11 => ?_) (fun c11 => ?_)
        · have hf := if_t hf c11
          exact jk6 hf _ _ _ h (lv_sub hl [0, 1] rfl)
        · have hf := if_f hf c11
          refine lv_bipush (pc := 45) (v := (-3)) hx hb dX12_judge_45 (by decide) ?_
          exact hret (so1 hf) rfl (so2 hf) dX12_judge_47 h
    · have hf := if_f hf c4
      refine lv_bipush (pc := 22) (v := (-5)) hx hb dX12_judge_22 (by decide) ?_
      exact hret (so1 hf) rfl (so2 hf) dX12_judge_24 h
  · have hf := if_t hf c2
    refine lv_bipush (pc := 12) (v := (-2)) hx hb dX12_judge_12 (by decide) ?_
    exact hret (so1 hf) rfl (so2 hf) dX12_judge_14 h
theorem k_X12_judge {p : Program} {l : Launch} {e : Env} {R : Room} {s : State} {m : MethodId} {args : Array Value} {below : List Frame} {meth : Method} {c : Code} {H : Heap} {locs : List Loc} {cells slots : Nat} {Q : State → Prop} {pc : Nat} {ls : Array Slot} {rest : List Value} {cc : ByteArray} {D : va_G} {cI cZ : ClassId} {a : Nat → Nat} {u : St} {own : String} {index nL : Nat} {p1 : Int32} {rr : Int32} {uu : St} (hx : p.tables.exec = Jvm.exec) (hb : c.code = cc) (hml : c.maxLocals = nL) (hown : s.vm.findClass own = some m.cls) (hts : ∀ w ∈ Gd, w.before args s = true) (hK : va_K D vwCl (tyM cI cZ) s) (hN : NB s) (hc : f_X12_judge u p1 = some (rr, uu)) (hlk : Cond.methodLink own index yX12_judge ∈ Gd) (hF : 7 ≤ R.frames) (hLo : 158 ≤ R.locals) (h : Hh D (AB 21 a s.heap.size) (wX 21 a (EM a cI cZ) u) s.heap H locs) (hsize : ls.size = nL) (hcs : cells ≤ R.cells ∧ slots ≤ R.slots) (hr : (rest.map fun v => v.category).sum ≤ 8) (hdg : decode cc pc = .ok (.invokevirtual index, 3)) (kk : ∀ (H1 : Heap) (locs1 : List Loc), Hh D (AB 21 a s.heap.size) (wX 21 a (EM a cI cZ) uu) s.heap H1 locs1 → W p l e R s m args below meth c H1 locs1 cells slots Q (F0 m (pc + 3) ls (.int rr :: rest))) : W p l e R s m args below meth c H locs cells slots Q (F0 m pc ls (.int p1 :: .ref (a 0) :: rest)) :=
  cVi (n := 1) hx hb hml hown hts hK hN (c_X12_judge hc) (gdV hlk im_X12_judge se_X12_judge in_X12 co_X12_judge) rfl (by decide +kernel) rfl hF hLo h hsize hcs (by decide) rfl rfl rfl hr hdg kk
def f_X12_behind (u : St) (p1 : Int32) (p2 : Int32) : Option (Int32 × St) := b1 (f_X12_isBarrel u p1) (fun (x1 : Int32) => if x1 = 0 then some ((-1), u) else b1 (f_X12_in u (Int32.toInt64 p2) 0 1) (fun (x3 : Int32) => if x3 = 0 then some ((-2), u) else b1 (f_X12_faultOfMoves u) (fun (x5 : Int32) => if x5 < 0 then b1 (f_X12_goMoves u (u.1 0 12)) (fun (u7 : St) => if (u7.1 0 25) < 0 then if p2 = 0 then cki p1 8 (some (u7.1 13 (ix p1), u7)) else cki p1 8 (some (u7.1 14 (ix p1), u7)) else some ((-3), u7)) else some ((-5), u))))
set_option maxRecDepth 100000 in
set_option maxHeartbeats 4000000 in
theorem c_X12_behind {l : Launch} {D : va_G} {cI cZ : ClassId} {a : Nat → Nat} {u : St} {p1 : Int32} {p2 : Int32} {rr : Int32} {uu : St} (hf : f_X12_behind u p1 p2 = some (rr, uu)) : Ci l yX12_behind cX12_behind 3 (some .int) 6 137 D (tyM cI cZ) 21 a (EM a cI cZ) [.ref (a 0), .int p1, .int p2] u rr uu := by
  refine metI (by decide +kernel) (Nat.le_of_ble_eq_true rfl) ?_
  intro p e s m args below meth c R Q hx hb hml hown hts hF hLo hret hK hN h ls hl
  have hown : s.vm.findClass RX12 = some m.cls := hown
  have hl : lv_has ls 3 [(0, .ref (a 0)), (1, .int p1), (2, .int p2)] := hl
  unfold f_X12_behind at hf
  refine lv_aload_n (pc := 0) hx hb dX12_behind_0 rfl (lv_at hl 0 rfl) ?_
  refine lv_iload_n (pc := 1) hx hb dX12_behind_1 rfl (lv_at hl 1 rfl) ?_
  obtain ⟨x1, hc, hf⟩ := b1_e hf
  refine k_X12_isBarrel (pc := 2) hx hb hml hown hts hK hN hc ml_X12_107 (Nat.le_trans (by decide) hF) (Nat.le_trans (by decide) hLo) h hl.1 ⟨Nat.zero_le _, Nat.zero_le _⟩ (Nat.le_of_ble_eq_true rfl) dX12_behind_2 (fun H locs h => ?_)
  refine lv_if_ne (pc := 5) (tgt := 10) hx hb dX12_behind_5 (by decide) (fun c2 => ?_) (fun c2 => ?_)
  · have hf := if_f hf c2
    refine lv_iload_n (pc := 10) hx hb dX12_behind_10 rfl (lv_at hl 2 rfl) ?_
    refine lv_i2l (pc := 11) (v := Int32.toInt64 p2) hx hb dX12_behind_11 rfl ?_
    refine lv_lconst (pc := 12) (v := 0) hx hb dX12_behind_12 (by decide) ?_
    refine lv_lconst (pc := 13) (v := 1) hx hb dX12_behind_13 (by decide) ?_
    obtain ⟨x3, hc, hf⟩ := b1_e hf
    refine kS_X12_in (pc := 14) hx hb hml hown hts hK hN hc ml_X12_97 (Nat.le_trans (by decide) hF) (Nat.le_trans (by decide) hLo) h hl.1 ⟨Nat.zero_le _, Nat.zero_le _⟩ (Nat.le_of_ble_eq_true rfl) dX12_behind_14 (fun H locs h => ?_)
    refine lv_if_ne (pc := 17) (tgt := 23) hx hb dX12_behind_17 (by decide) (fun c4 => ?_) (fun c4 => ?_)
    · have hf := if_f hf c4
      refine lv_aload_n (pc := 23) hx hb dX12_behind_23 rfl (lv_at hl 0 rfl) ?_
      obtain ⟨x5, hc, hf⟩ := b1_e hf
      refine k_X12_faultOfMoves (pc := 24) hx hb hml hown hts hK hN hc ml_X12_148 (Nat.le_trans (by decide) hF) (Nat.le_trans (by decide) hLo) h hl.1 ⟨Nat.zero_le _, Nat.zero_le _⟩ (Nat.le_of_ble_eq_true rfl) dX12_behind_24 (fun H locs h => ?_)
      refine lv_if_lt (pc := 27) (tgt := 33) hx hb dX12_behind_27 (by decide) (fun c6 => ?_) (fun c6 => ?_)
      · have hf := if_t hf c6
        refine lv_aload_n (pc := 33) hx hb dX12_behind_33 rfl (lv_at hl 0 rfl) ?_
        refine lv_aload_n (pc := 34) hx hb dX12_behind_34 rfl (lv_at hl 0 rfl) ?_
        refine gM_0_12 (pc := 35) hx hb hts hown hK h fl_X12_75 dX12_behind_35 ?_
        obtain ⟨u7, hc, hf⟩ := b1_e hf
        refine k_X12_goMoves (pc := 38) hx hb hml hown hts hK hN hc ml_X12_213 (Nat.le_trans (by decide) hF) (Nat.le_trans (by decide) hLo) h hl.1 ⟨Nat.zero_le _, Nat.zero_le _⟩ (Nat.le_of_ble_eq_true rfl) dX12_behind_38 (fun H locs h => ?_)
        refine lv_aload_n (pc := 41) hx hb dX12_behind_41 rfl (lv_at hl 0 rfl) ?_
        refine gM_0_25 (pc := 42) hx hb hts hown hK h fl_X12_201 dX12_behind_42 ?_
        refine lv_if_lt (pc := 45) (tgt := 51) hx hb dX12_behind_45 (by decide) (fun c8 => ?_) (fun c8 => ?_)
        · have hf := if_t hf c8
          refine lv_iload_n (pc := 51) hx hb dX12_behind_51 rfl (lv_at hl 2 rfl) ?_
          refine lv_if_ne (pc := 52) (tgt := 64) hx hb dX12_behind_52 (by decide) (fun c9 => ?_) (fun c9 => ?_)
          · have hf := if_f hf c9
            refine lv_aload_n (pc := 64) hx hb dX12_behind_64 rfl (lv_at hl 0 rfl) ?_
            refine gM_0_24 (pc := 65) hx hb hts hown hK h fl_X12_49 dX12_behind_65 ?_
            refine lv_iload_n (pc := 68) hx hb dX12_behind_68 rfl (lv_at hl 1 rfl) ?_
            obtain ⟨hin, hf⟩ := cki_e hf
            refine gM_14 (pc := 69) hx hb hK h hin dX12_behind_69 ?_
            exact hret (so1 hf) rfl (so2 hf) dX12_behind_70 h
          · have hf := if_t hf c9
            refine lv_aload_n (pc := 55) hx hb dX12_behind_55 rfl (lv_at hl 0 rfl) ?_
            refine gM_0_23 (pc := 56) hx hb hts hown hK h fl_X12_46 dX12_behind_56 ?_
            refine lv_iload_n (pc := 59) hx hb dX12_behind_59 rfl (lv_at hl 1 rfl) ?_
            obtain ⟨hin, hf⟩ := cki_e hf
            refine gM_13 (pc := 60) hx hb hK h hin dX12_behind_60 ?_
            refine lv_goto (pc := 61) (tgt := 70) hx hb dX12_behind_61 (by decide) ?_
            exact hret (so1 hf) rfl (so2 hf) dX12_behind_70 h
        · have hf := if_f hf c8
          refine lv_bipush (pc := 48) (v := (-3)) hx hb dX12_behind_48 (by decide) ?_
          exact hret (so1 hf) rfl (so2 hf) dX12_behind_50 h
      · have hf := if_f hf c6
        refine lv_bipush (pc := 30) (v := (-5)) hx hb dX12_behind_30 (by decide) ?_
        exact hret (so1 hf) rfl (so2 hf) dX12_behind_32 h
    · have hf := if_t hf c4
      refine lv_bipush (pc := 20) (v := (-2)) hx hb dX12_behind_20 (by decide) ?_
      exact hret (so1 hf) rfl (so2 hf) dX12_behind_22 h
  · have hf := if_t hf c2
    refine lv_iconst (pc := 8) (v := (-1)) hx hb dX12_behind_8 (by decide) ?_
    exact hret (so1 hf) rfl (so2 hf) dX12_behind_9 h
theorem k_X12_behind {p : Program} {l : Launch} {e : Env} {R : Room} {s : State} {m : MethodId} {args : Array Value} {below : List Frame} {meth : Method} {c : Code} {H : Heap} {locs : List Loc} {cells slots : Nat} {Q : State → Prop} {pc : Nat} {ls : Array Slot} {rest : List Value} {cc : ByteArray} {D : va_G} {cI cZ : ClassId} {a : Nat → Nat} {u : St} {own : String} {index nL : Nat} {p1 : Int32} {p2 : Int32} {rr : Int32} {uu : St} (hx : p.tables.exec = Jvm.exec) (hb : c.code = cc) (hml : c.maxLocals = nL) (hown : s.vm.findClass own = some m.cls) (hts : ∀ w ∈ Gd, w.before args s = true) (hK : va_K D vwCl (tyM cI cZ) s) (hN : NB s) (hc : f_X12_behind u p1 p2 = some (rr, uu)) (hlk : Cond.methodLink own index yX12_behind ∈ Gd) (hF : 7 ≤ R.frames) (hLo : 159 ≤ R.locals) (h : Hh D (AB 21 a s.heap.size) (wX 21 a (EM a cI cZ) u) s.heap H locs) (hsize : ls.size = nL) (hcs : cells ≤ R.cells ∧ slots ≤ R.slots) (hr : (rest.map fun v => v.category).sum ≤ 8) (hdg : decode cc pc = .ok (.invokevirtual index, 3)) (kk : ∀ (H1 : Heap) (locs1 : List Loc), Hh D (AB 21 a s.heap.size) (wX 21 a (EM a cI cZ) uu) s.heap H1 locs1 → W p l e R s m args below meth c H1 locs1 cells slots Q (F0 m (pc + 3) ls (.int rr :: rest))) : W p l e R s m args below meth c H locs cells slots Q (F0 m pc ls (.int p2 :: .int p1 :: .ref (a 0) :: rest)) :=
  cVi (n := 2) hx hb hml hown hts hK hN (c_X12_behind hc) (gdV hlk im_X12_behind se_X12_behind in_X12 co_X12_behind) rfl (by decide +kernel) rfl hF hLo h hsize hcs (by decide) rfl rfl rfl hr hdg kk
