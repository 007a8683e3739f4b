def B_X11_drought_23 (p1 : Int32) (k6 : St → Option (Int32 × St)) (rec8 : St → Int32 → Option (Int32 × St)) (u4 : St) (x5 : Int32) : Option (Int32 × St) := if 9 ≤ x5 then k6 u4 else bs (sI u4 20 4 x5) (fun u10 : St => b1 (f_X11_lostBehind u10 p1) (fun (x11 : Int32) => if x11 = 0 then some (x5, u10) else rec8 u10 (x5 + 1)))
def f_X11_drought (u : St) (p1 : Int32) : Option (Int32 × St) := b1 (f_X11_within u p1 0 999) (fun (x1 : Int32) => if x1 = 0 then some ((-2), u) else b1 (f_X0_asItIs u) (fun (u3 : St) => jq_1 (fun (u7 : St) => some (9, u7)) (fun (k6 : St → Option (Int32 × St)) => lq_2 (B_X11_drought_23 p1 k6) FU u3 0)))
set_option maxRecDepth 100000 in
set_option maxHeartbeats 4000000 in
theorem c_X11_drought {l : Launch} {D : va_G} {cI cJ cR : ClassId} {a : Nat → Nat} {u : St} {N : Nat} (hNN : 38 ≤ N) {p1 : Int32} {rr : Int32} {uu : St} (hf : f_X11_drought u p1 = some (rr, uu)) : Ci l yX11_drought cX11_drought 3 (some .int) 6 138 D (tyB cI cJ cR) N a (EB a cI cJ cR) [.ref (a 0), .int p1] u rr uu := by
  refine metI (by decide +kernel) (Nat.le_of_ble_eq_true rfl) ?_
  intro p e s m args below meth c R Q hx hb hml hown hts hF hLo hret hK hN h ls hl
  have hown : s.vm.findClass RX11 = some m.cls := hown
  have hl : lv_has ls 3 [(0, .ref (a 0)), (1, .int p1)] := hl
  unfold f_X11_drought at hf
  refine lv_iload_n (pc := 0) hx hb dX11_drought_0 rfl (lv_at hl 1 rfl) ?_
  refine lv_iconst (pc := 1) (v := 0) hx hb dX11_drought_1 (by decide) ?_
  refine lv_sipush (pc := 2) (v := 999) hx hb dX11_drought_2 (by decide) ?_
  obtain ⟨x1, hc, hf⟩ := b1_e hf
  refine kS_X11_within (pc := 5) hNN hx hb hml hown hts hK hN hc ml_X11_70 (Nat.le_trans (by decide) hF) (Nat.le_trans (by decide) hLo) h hl.1 ⟨Nat.zero_le _, Nat.zero_le _⟩ (Nat.le_of_ble_eq_true rfl) dX11_drought_5 (fun H locs h => ?_)
  refine lv_if_ne (pc := 8) (tgt := 14) hx hb dX11_drought_8 (by decide) (fun c2 => ?_) (fun c2 => ?_)
  · have hf := if_f hf c2
    refine lv_aload_n (pc := 14) hx hb dX11_drought_14 rfl (lv_at hl 0 rfl) ?_
    refine gB_0_3 (pc := 15) hNN hx hb hts hown hK h fl_X11_32 dX11_drought_15 ?_
    obtain ⟨u3, hc, hf⟩ := b1_e hf
    refine k_X0_asItIs (pc := 18) hNN hx hb hml hown hts hK hN hc ml_X11_171 (Nat.le_trans (by decide) hF) (Nat.le_trans (by decide) hLo) h hl.1 ⟨Nat.zero_le _, Nat.zero_le _⟩ (Nat.le_of_ble_eq_true rfl) dX11_drought_18 (fun H locs h => ?_)
    refine lv_iconst (pc := 21) (v := 0) hx hb dX11_drought_21 (by decide) ?_
    refine lv_istore_n (pc := 22) (lv' := [(2, .int 0), (0, .ref (a 0)), (1, .int p1)]) hx hb dX11_drought_22 rfl hl (by decide) rfl (fun ls hl => ?_)
    obtain ⟨k6, hk6, hf⟩ := jq_1_e hf
    have jk6 : ∀ (u7 : St), k6 u7 = some (rr, uu) → ∀ (H : Heap) (locs : List Loc) (ls : Array Slot), Hh D (AB N a s.heap.size) (wX N a (EB a cI cJ cR) u7) s.heap H locs → lv_has ls 3 [] → W p l e R s m args below meth c H locs 0 0 Q (F0 m 53 ls []) := by
      intro u7 hf H locs ls h hl
      rw [hk6] at hf
      refine lv_bipush (pc := 53) (v := 9) hx hb dX11_drought_53 (by decide) ?_
      exact hret (so1 hf) rfl (so2 hf) dX11_drought_55 h
    refine lq_2_e (P := fun (u4 : St) (x5 : Int32) => ∀ (H : Heap) (locs : List Loc) (ls : Array Slot), Hh D (AB N a s.heap.size) (wX N a (EB a cI cJ cR) u4) s.heap H locs → lv_has ls 3 [(0, .ref (a 0)), (1, .int p1), (2, .int x5)] → W p l e R s m args below meth c H locs 0 0 Q (F0 m 23 ls [])) ?_ FU _ _ hf _ _ _ h (lv_sub hl [1, 2, 0] rfl)
    intro rec8 irec8 u4 x5 hf H locs ls h hl
    unfold B_X11_drought_23 at hf
    refine lv_iload_n (pc := 23) hx hb dX11_drought_23 rfl (lv_at hl 2 rfl) ?_
    refine lv_bipush (pc := 24) (v := 9) hx hb dX11_drought_24 (by decide) ?_
    refine lv_icmp_ge (pc := 26) (tgt := 53) hx hb dX11_drought_26 (by decide) (fun c9 => ?_) (fun c9 => ?_)
    · have hf := if_t hf c9
      exact jk6 _ hf _ _ _ h (lv_sub hl [] rfl)
    · have hf := if_f hf c9
      refine lv_aload_n (pc := 29) hx hb dX11_drought_29 rfl (lv_at hl 0 rfl) ?_
      refine gB_0_3 (pc := 30) hNN hx hb hts hown hK h fl_X11_32 dX11_drought_30 ?_
      refine lv_iload_n (pc := 33) hx hb dX11_drought_33 rfl (lv_at hl 2 rfl) ?_
      refine pB_20_4 (pc := 34) hNN hx hb hts hown hK h fl_X11_327 dX11_drought_34 (fun H locs h => ?_)
      obtain ⟨u10, eu10, hf⟩ := bs_e hf
      rw [← eu10] at h
      refine lv_aload_n (pc := 37) hx hb dX11_drought_37 rfl (lv_at hl 0 rfl) ?_
      refine lv_iload_n (pc := 38) hx hb dX11_drought_38 rfl (lv_at hl 1 rfl) ?_
      obtain ⟨x11, hc, hf⟩ := b1_e hf
      refine k_X11_lostBehind (pc := 39) hNN hx hb hml hown hts hK hN hc ml_X11_223 (Nat.le_trans (by decide) hF) (Nat.le_trans (by decide) hLo) h hl.1 ⟨Nat.zero_le _, Nat.zero_le _⟩ (Nat.le_of_ble_eq_true rfl) dX11_drought_39 (fun H locs h => ?_)
      refine lv_if_ne (pc := 42) (tgt := 47) hx hb dX11_drought_42 (by decide) (fun c12 => ?_) (fun c12 => ?_)
      · have hf := if_f hf c12
        refine lv_iinc (pc := 47) (v := x5 + 1) (lv' := [(2, .int (x5 + 1)), (0, .ref (a 0)), (1, .int p1)]) hx hb dX11_drought_47 hl (k := 2) rfl rfl (by decide) rfl (fun ls hl => ?_)
        refine lv_goto (pc := 50) (tgt := 23) hx hb dX11_drought_50 (by decide) ?_
        exact irec8 _ _ hf _ _ _ h (lv_sub hl [1, 2, 0] rfl)
      · have hf := if_t hf c12
        refine lv_iload_n (pc := 45) hx hb dX11_drought_45 rfl (lv_at hl 2 rfl) ?_
        exact hret (so1 hf) rfl (so2 hf) dX11_drought_46 h
  · have hf := if_t hf c2
    refine lv_bipush (pc := 11) (v := (-2)) hx hb dX11_drought_11 (by decide) ?_
    exact hret (so1 hf) rfl (so2 hf) dX11_drought_13 h
theorem k_X11_drought {p : Program} {l : Launch} {e : Env} {R : Room} {s : State} {m : MethodId} {args : Array Value} {below : List Frame} {meth : Method} {c : Code} {H : Heap} {locs : List Loc} {cells slots : Nat} {Q : State → Prop} {pc : Nat} {ls : Array Slot} {rest : List Value} {cc : ByteArray} {D : va_G} {cI cJ cR : ClassId} {a : Nat → Nat} {u : St} {own : String} {index nL : Nat} {N : Nat} (hNN : 38 ≤ N) {p1 : Int32} {rr : Int32} {uu : St} (hx : p.tables.exec = Jvm.exec) (hb : c.code = cc) (hml : c.maxLocals = nL) (hown : s.vm.findClass own = some m.cls) (hts : ∀ w ∈ Gd, w.before args s = true) (hK : va_K D vwCl (tyB cI cJ cR) s) (hN : NB s) (hc : f_X11_drought u p1 = some (rr, uu)) (hlk : Cond.methodLink own index yX11_drought ∈ Gd) (hF : 7 ≤ R.frames) (hLo : 160 ≤ R.locals) (h : Hh D (AB N a s.heap.size) (wX N a (EB a cI cJ cR) u) s.heap H locs) (hsize : ls.size = nL) (hcs : cells ≤ R.cells ∧ slots ≤ R.slots) (hr : (rest.map fun v => v.category).sum ≤ 8) (hdg : decode cc pc = .ok (.invokevirtual index, 3)) (kk : ∀ (H1 : Heap) (locs1 : List Loc), Hh D (AB N a s.heap.size) (wX N a (EB a cI cJ cR) uu) s.heap H1 locs1 → W p l e R s m args below meth c H1 locs1 cells slots Q (F0 m (pc + 3) ls (.int rr :: rest))) : W p l e R s m args below meth c H locs cells slots Q (F0 m pc ls (.int p1 :: .ref (a 0) :: rest)) :=
  cVi (n := 1) hx hb hml hown hts hK hN (c_X11_drought hNN hc) (gdV hlk im_X11_drought se_X11_drought in_X11 co_X11_drought) rfl (by decide +kernel) rfl hF hLo h hsize hcs (Nat.lt_of_lt_of_le (by decide) hNN) rfl rfl rfl hr hdg kk
def B_X11_quiet_42 (p1 : Int32) (u3 : St) (k7 : Int32 → Option (Int32 × St)) (rec10 : Int32 → Int32 → Int32 → Option (Int32 × St)) (x4 : Int32) (x5 : Int32) (x6 : Int32) : Option (Int32 × St) := if ((2 : Int32) * (u3.1 10 1)) ≤ x6 then k7 x4 else b1 (f_X0_levelOn u3 x6) (fun (x12 : Int32) => b1 (f_X0_breathIn u3 p1 x12) (fun (x13 : Int32) => jq_1 (fun (x15 : Int32) => rec10 (mxI x4 x15) x15 (x6 + 1)) (fun (k14 : Int32 → Option (Int32 × St)) => if x13 = 0 then k14 (x5 + (1 : Int32)) else k14 0)))
def f_X11_quiet (u : St) (p1 : Int32) : Option (Int32 × St) := b1 (f_X10_has u p1) (fun (x1 : Int32) => if x1 = 0 then some ((-1), u) else b1 (f_X0_asItIs u) (fun (u3 : St) => jq_1 (fun (x8 : Int32) => if x8 < (u3.1 10 1) then some (x8, u3) else some ((-6), u3)) (fun (k7 : Int32 → Option (Int32 × St)) => lq_3 (B_X11_quiet_42 p1 u3 k7) FU 0 0 0)))
set_option maxRecDepth 100000 in
set_option maxHeartbeats 4000000 in
theorem c_X11_quiet {l : Launch} {D : va_G} {cI cJ cR : ClassId} {a : Nat → Nat} {u : St} {N : Nat} (hNN : 38 ≤ N) {p1 : Int32} {rr : Int32} {uu : St} (hf : f_X11_quiet u p1 = some (rr, uu)) : Ci l yX11_quiet cX11_quiet 6 (some .int) 2 43 D (tyB cI cJ cR) N a (EB a cI cJ cR) [.ref (a 0), .int p1] u rr uu := by
  refine metI (by decide +kernel) (Nat.le_of_ble_eq_true rfl) ?_
  intro p e s m args below meth c R Q hx hb hml hown hts hF hLo hret hK hN h ls hl
  have hown : s.vm.findClass RX11 = some m.cls := hown
  have hl : lv_has ls 6 [(0, .ref (a 0)), (1, .int p1)] := hl
  unfold f_X11_quiet at hf
  refine lv_aload_n (pc := 0) hx hb dX11_quiet_0 rfl (lv_at hl 0 rfl) ?_
  refine gB_0_0 (pc := 1) hNN hx hb hts hown hK h fl_X11_12 dX11_quiet_1 ?_
  refine gB_1_0 (pc := 4) hNN hx hb hts hown hK h fl_X11_74 dX11_quiet_4 ?_
  refine lv_iload_n (pc := 7) hx hb dX11_quiet_7 rfl (lv_at hl 1 rfl) ?_
  obtain ⟨x1, hc, hf⟩ := b1_e hf
  refine k_X10_has (pc := 8) hNN hx hb hml hown hts hK hN hc ml_X11_104 (Nat.le_trans (by decide) hF) (Nat.le_trans (by decide) hLo) h hl.1 ⟨Nat.zero_le _, Nat.zero_le _⟩ (Nat.le_of_ble_eq_true rfl) dX11_quiet_8 (fun H locs h => ?_)
  refine lv_if_ne (pc := 11) (tgt := 16) hx hb dX11_quiet_11 (by decide) (fun c2 => ?_) (fun c2 => ?_)
  · have hf := if_f hf c2
    refine lv_aload_n (pc := 16) hx hb dX11_quiet_16 rfl (lv_at hl 0 rfl) ?_
    refine gB_0_3 (pc := 17) hNN hx hb hts hown hK h fl_X11_32 dX11_quiet_17 ?_
    obtain ⟨u3, hc, hf⟩ := b1_e hf
    refine k_X0_asItIs (pc := 20) hNN hx hb hml hown hts hK hN hc ml_X11_171 (Nat.le_trans (by decide) hF) (Nat.le_trans (by decide) hLo) h hl.1 ⟨Nat.zero_le _, Nat.zero_le _⟩ (Nat.le_of_ble_eq_true rfl) dX11_quiet_20 (fun H locs h => ?_)
    refine lv_aload_n (pc := 23) hx hb dX11_quiet_23 rfl (lv_at hl 0 rfl) ?_
    refine gB_0_0 (pc := 24) hNN hx hb hts hown hK h fl_X11_12 dX11_quiet_24 ?_
    refine gB_1_2 (pc := 27) hNN hx hb hts hown hK h fl_X11_158 dX11_quiet_27 ?_
    refine gB_10_1 (pc := 30) hNN hx hb hts hown hK h fl_X11_168 dX11_quiet_30 ?_
    refine lv_istore_n (pc := 33) (lv' := [(2, .int (u3.1 10 1)), (0, .ref (a 0)), (1, .int p1)]) hx hb dX11_quiet_33 rfl hl (by decide) rfl (fun ls hl => ?_)
    refine lv_iconst (pc := 34) (v := 0) hx hb dX11_quiet_34 (by decide) ?_
    refine lv_istore_n (pc := 35) (lv' := [(3, .int 0), (2, .int (u3.1 10 1)), (0, .ref (a 0)), (1, .int p1)]) hx hb dX11_quiet_35 rfl hl (by decide) rfl (fun ls hl => ?_)
    refine lv_iconst (pc := 36) (v := 0) hx hb dX11_quiet_36 (by decide) ?_
    refine lv_istore (pc := 37) (lv' := [(4, .int 0), (3, .int 0), (2, .int (u3.1 10 1)), (0, .ref (a 0)), (1, .int p1)]) hx hb dX11_quiet_37 hl (by decide) rfl (fun ls hl => ?_)
    refine lv_iconst (pc := 39) (v := 0) hx hb dX11_quiet_39 (by decide) ?_
    refine lv_istore (pc := 40) (lv' := [(5, .int 0), (4, .int 0), (3, .int 0), (2, .int (u3.1 10 1)), (0, .ref (a 0)), (1, .int p1)]) hx hb dX11_quiet_40 hl (by decide) rfl (fun ls hl => ?_)
    obtain ⟨k7, hk7, hf⟩ := jq_1_e hf
    have jk7 : ∀ (x8 : Int32), k7 x8 = some (rr, uu) → ∀ (H : Heap) (locs : List Loc) (ls : Array Slot), Hh D (AB N a s.heap.size) (wX N a (EB a cI cJ cR) u3) s.heap H locs → lv_has ls 6 [(2, .int (u3.1 10 1)), (3, .int x8)] → W p l e R s m args below meth c H locs 0 0 Q (F0 m 93 ls []) := by
      intro x8 hf H locs ls h hl
      rw [hk7] at hf
      refine lv_iload_n (pc := 93) hx hb dX11_quiet_93 rfl (lv_at hl 1 rfl) ?_
      refine lv_iload_n (pc := 94) hx hb dX11_quiet_94 rfl (lv_at hl 0 rfl) ?_
      refine lv_icmp_lt (pc := 95) (tgt := 103) hx hb dX11_quiet_95 (by decide) (fun c9 => ?_) (fun c9 => ?_)
      · have hf := if_t hf c9
        refine lv_iload_n (pc := 103) hx hb dX11_quiet_103 rfl (lv_at hl 1 rfl) ?_
        exact hret (so1 hf) rfl (so2 hf) dX11_quiet_104 h
      · have hf := if_f hf c9
        refine lv_bipush (pc := 98) (v := (-6)) hx hb dX11_quiet_98 (by decide) ?_
        refine lv_goto (pc := 100) (tgt := 104) hx hb dX11_quiet_100 (by decide) ?_
        exact hret (so1 hf) rfl (so2 hf) dX11_quiet_104 h
    refine lq_3_e (P := fun (x4 : Int32) (x5 : Int32) (x6 : Int32) => ∀ (H : Heap) (locs : List Loc) (ls : Array Slot), Hh D (AB N a s.heap.size) (wX N a (EB a cI cJ cR) u3) s.heap H locs → lv_has ls 6 [(0, .ref (a 0)), (1, .int p1), (2, .int (u3.1 10 1)), (3, .int x4), (4, .int x5), (5, .int x6)] → W p l e R s m args below meth c H locs 0 0 Q (F0 m 42 ls [])) ?_ FU _ _ _ hf _ _ _ h (lv_sub hl [4, 5, 3, 2, 1, 0] rfl)
    intro rec10 irec10 x4 x5 x6 hf H locs ls h hl
    unfold B_X11_quiet_42 at hf
    refine lv_iload (pc := 42) hx hb dX11_quiet_42 (lv_at hl 5 rfl) ?_
    refine lv_iconst (pc := 44) (v := 2) hx hb dX11_quiet_44 (by decide) ?_
    refine lv_iload_n (pc := 45) hx hb dX11_quiet_45 rfl (lv_at hl 2 rfl) ?_
    refine lv_imul (pc := 46) hx hb dX11_quiet_46 ?_
    refine lv_icmp_ge (pc := 47) (tgt := 93) hx hb dX11_quiet_47 (by decide) (fun c11 => ?_) (fun c11 => ?_)
    · have hf := if_t hf c11
      exact jk7 _ hf _ _ _ h (lv_sub hl [2, 3] rfl)
    · have hf := if_f hf c11
      refine lv_aload_n (pc := 50) hx hb dX11_quiet_50 rfl (lv_at hl 0 rfl) ?_
      refine gB_0_3 (pc := 51) hNN hx hb hts hown hK h fl_X11_32 dX11_quiet_51 ?_
      refine lv_iload_n (pc := 54) hx hb dX11_quiet_54 rfl (lv_at hl 1 rfl) ?_
      refine lv_aload_n (pc := 55) hx hb dX11_quiet_55 rfl (lv_at hl 0 rfl) ?_
      refine gB_0_3 (pc := 56) hNN hx hb hts hown hK h fl_X11_32 dX11_quiet_56 ?_
      refine lv_iload (pc := 59) hx hb dX11_quiet_59 (lv_at hl 5 rfl) ?_
      obtain ⟨x12, hc, hf⟩ := b1_e hf
      refine k_X0_levelOn (pc := 61) hNN hx hb hml hown hts hK hN hc ml_X11_174 (Nat.le_trans (by decide) hF) (Nat.le_trans (by decide) hLo) h hl.1 ⟨Nat.zero_le _, Nat.zero_le _⟩ (Nat.le_of_ble_eq_true rfl) dX11_quiet_61 (fun H locs h => ?_)
      obtain ⟨x13, hc, hf⟩ := b1_e hf
      refine k_X0_breathIn (pc := 64) hNN hx hb hml hown hts hK hN hc ml_X11_177 (Nat.le_trans (by decide) hF) (Nat.le_trans (by decide) hLo) h hl.1 ⟨Nat.zero_le _, Nat.zero_le _⟩ (Nat.le_of_ble_eq_true rfl) dX11_quiet_64 (fun H locs h => ?_)
      obtain ⟨k14, hk14, hf⟩ := jq_1_e hf
      have jk14 : ∀ (x15 : Int32), k14 x15 = some (rr, uu) → ∀ (H : Heap) (locs : List Loc) (ls : Array Slot), Hh D (AB N a s.heap.size) (wX N a (EB a cI cJ cR) u3) s.heap H locs → lv_has ls 6 [(0, .ref (a 0)), (1, .int p1), (2, .int (u3.1 10 1)), (3, .int x4), (5, .int x6)] → W p l e R s m args below meth c H locs 0 0 Q (F0 m 78 ls [.int x15]) := by
        intro x15 hf H locs ls h hl
        rw [hk14] at hf
        refine lv_istore (pc := 78) (lv' := [(4, .int x15), (0, .ref (a 0)), (1, .int p1), (2, .int (u3.1 10 1)), (3, .int x4), (5, .int x6)]) hx hb dX11_quiet_78 hl (by decide) rfl (fun ls hl => ?_)
        refine lv_iload_n (pc := 80) hx hb dX11_quiet_80 rfl (lv_at hl 4 rfl) ?_
        refine lv_iload (pc := 81) hx hb dX11_quiet_81 (lv_at hl 0 rfl) ?_
        refine rMmax (pc := 83) hx hb (hml.trans hl.1.symm) hown hts ml_X11_330 (Nat.le_trans (by decide) hF) (Nat.le_trans (by decide) hLo) (Nat.le_of_ble_eq_true rfl) ⟨Nat.zero_le _, Nat.zero_le _⟩ dX11_quiet_83 ?_
        refine lv_istore_n (pc := 86) (lv' := [(3, .int (mxI x4 x15)), (4, .int x15), (0, .ref (a 0)), (1, .int p1), (2, .int (u3.1 10 1)), (5, .int x6)]) hx hb dX11_quiet_86 rfl hl (by decide) rfl (fun ls hl => ?_)
        refine lv_iinc (pc := 87) (v := x6 + 1) (lv' := [(5, .int (x6 + 1)), (3, .int (mxI x4 x15)), (4, .int x15), (0, .ref (a 0)), (1, .int p1), (2, .int (u3.1 10 1))]) hx hb dX11_quiet_87 hl (k := 5) rfl rfl (by decide) rfl (fun ls hl => ?_)
        refine lv_goto (pc := 90) (tgt := 42) hx hb dX11_quiet_90 (by decide) ?_
        exact irec10 _ _ _ hf _ _ _ h (lv_sub hl [3, 4, 5, 1, 2, 0] rfl)
      refine lv_if_ne (pc := 67) (tgt := 77) hx hb dX11_quiet_67 (by decide) (fun c16 => ?_) (fun c16 => ?_)
      · have hf := if_f hf c16
        refine lv_iconst (pc := 77) (v := 0) hx hb dX11_quiet_77 (by decide) ?_
        exact jk14 _ hf _ _ _ h (lv_sub hl [0, 1, 2, 3, 5] rfl)
      · have hf := if_t hf c16
        refine lv_iload (pc := 70) hx hb dX11_quiet_70 (lv_at hl 4 rfl) ?_
        refine lv_iconst (pc := 72) (v := 1) hx hb dX11_quiet_72 (by decide) ?_
        refine lv_iadd (pc := 73) hx hb dX11_quiet_73 ?_
        refine lv_goto (pc := 74) (tgt := 78) hx hb dX11_quiet_74 (by decide) ?_
        exact jk14 _ hf _ _ _ h (lv_sub hl [0, 1, 2, 3, 5] rfl)
  · have hf := if_t hf c2
    refine lv_iconst (pc := 14) (v := (-1)) hx hb dX11_quiet_14 (by decide) ?_
    exact hret (so1 hf) rfl (so2 hf) dX11_quiet_15 h
theorem k_X11_quiet {p : Program} {l : Launch} {e : Env} {R : Room} {s : State} {m : MethodId} {args : Array Value} {below : List Frame} {meth : Method} {c : Code} {H : Heap} {locs : List Loc} {cells slots : Nat} {Q : State → Prop} {pc : Nat} {ls : Array Slot} {rest : List Value} {cc : ByteArray} {D : va_G} {cI cJ cR : ClassId} {a : Nat → Nat} {u : St} {own : String} {index nL : Nat} {N : Nat} (hNN : 38 ≤ N) {p1 : Int32} {rr : Int32} {uu : St} (hx : p.tables.exec = Jvm.exec) (hb : c.code = cc) (hml : c.maxLocals = nL) (hown : s.vm.findClass own = some m.cls) (hts : ∀ w ∈ Gd, w.before args s = true) (hK : va_K D vwCl (tyB cI cJ cR) s) (hN : NB s) (hc : f_X11_quiet u p1 = some (rr, uu)) (hlk : Cond.methodLink own index yX11_quiet ∈ Gd) (hF : 3 ≤ R.frames) (hLo : 68 ≤ R.locals) (h : Hh D (AB N a s.heap.size) (wX N a (EB a cI cJ cR) u) s.heap H locs) (hsize : ls.size = nL) (hcs : cells ≤ R.cells ∧ slots ≤ R.slots) (hr : (rest.map fun v => v.category).sum ≤ 8) (hdg : decode cc pc = .ok (.invokevirtual index, 3)) (kk : ∀ (H1 : Heap) (locs1 : List Loc), Hh D (AB N a s.heap.size) (wX N a (EB a cI cJ cR) uu) s.heap H1 locs1 → W p l e R s m args below meth c H1 locs1 cells slots Q (F0 m (pc + 3) ls (.int rr :: rest))) : W p l e R s m args below meth c H locs cells slots Q (F0 m pc ls (.int p1 :: .ref (a 0) :: rest)) :=
  cVi (n := 1) hx hb hml hown hts hK hN (c_X11_quiet hNN hc) (gdV hlk im_X11_quiet se_X11_quiet in_X11 co_X11_quiet) rfl (by decide +kernel) rfl hF hLo h hsize hcs (Nat.lt_of_lt_of_le (by decide) hNN) rfl rfl rfl hr hdg kk
def B_X11_period_13 (u : St) (k2 : Option (Int32)) (rec3 : Int32 → Option (Int32)) (x1 : Int32) : Option (Int32) := if (u.1 10 1) ≤ x1 then k2 else ck (¬ x1 = 0) (if ((u.1 10 1) - (u.1 10 1) / x1 * x1) = 0 then b1 (f_X8_repeats u x1) (fun (x6 : Int32) => if x6 = 0 then rec3 (x1 + 1) else some x1) else rec3 (x1 + 1))
def f_X11_period (u : St) : Option (Int32) := jq_0 (some (u.1 10 1)) (fun (k2 : Option (Int32)) => lq_1 (B_X11_period_13 u k2) FU 1)
set_option maxRecDepth 100000 in
set_option maxHeartbeats 4000000 in
theorem c_X11_period {l : Launch} {D : va_G} {cI cJ cR : ClassId} {a : Nat → Nat} {u : St} {N : Nat} (hNN : 38 ≤ N) {rr : Int32} (hf : f_X11_period u = some rr) : Ci l yX11_period cX11_period 3 (some .int) 2 43 D (tyB cI cJ cR) N a (EB a cI cJ cR) [.ref (a 0)] u rr u := by
  refine metI (by decide +kernel) (Nat.le_of_ble_eq_true rfl) ?_
  intro p e s m args below meth c R Q hx hb hml hown hts hF hLo hret hK hN h ls hl
  have hown : s.vm.findClass RX11 = some m.cls := hown
  have hl : lv_has ls 3 [(0, .ref (a 0))] := hl
  unfold f_X11_period at hf
  refine lv_aload_n (pc := 0) hx hb dX11_period_0 rfl (lv_at hl 0 rfl) ?_
  refine gB_0_0 (pc := 1) hNN hx hb hts hown hK h fl_X11_12 dX11_period_1 ?_
  refine gB_1_2 (pc := 4) hNN hx hb hts hown hK h fl_X11_158 dX11_period_4 ?_
  refine gB_10_1 (pc := 7) hNN hx hb hts hown hK h fl_X11_168 dX11_period_7 ?_
  refine lv_istore_n (pc := 10) (lv' := [(1, .int (u.1 10 1)), (0, .ref (a 0))]) hx hb dX11_period_10 rfl hl (by decide) rfl (fun ls hl => ?_)
  refine lv_iconst (pc := 11) (v := 1) hx hb dX11_period_11 (by decide) ?_
  refine lv_istore_n (pc := 12) (lv' := [(2, .int 1), (1, .int (u.1 10 1)), (0, .ref (a 0))]) hx hb dX11_period_12 rfl hl (by decide) rfl (fun ls hl => ?_)
  obtain ⟨k2, hk2, hf⟩ := jq_0_e hf
  have jk2 : k2 = some rr → ∀ (H : Heap) (locs : List Loc) (ls : Array Slot), Hh D (AB N a s.heap.size) (wX N a (EB a cI cJ cR) u) s.heap H locs → lv_has ls 3 [(1, .int (u.1 10 1))] → W p l e R s m args below meth c H locs 0 0 Q (F0 m 46 ls []) := by
    intro hf H locs ls h hl
    rw [hk2] at hf
    refine lv_iload_n (pc := 46) hx hb dX11_period_46 rfl (lv_at hl 0 rfl) ?_
    exact hret (so hf) rfl rfl dX11_period_47 h
  refine lq_1_e (P := fun (x1 : Int32) => ∀ (H : Heap) (locs : List Loc) (ls : Array Slot), Hh D (AB N a s.heap.size) (wX N a (EB a cI cJ cR) u) s.heap H locs → lv_has ls 3 [(0, .ref (a 0)), (1, .int (u.1 10 1)), (2, .int x1)] → W p l e R s m args below meth c H locs 0 0 Q (F0 m 13 ls [])) ?_ FU _ hf _ _ _ h (lv_sub hl [2, 1, 0] rfl)
  intro rec3 irec3 x1 hf H locs ls h hl
  unfold B_X11_period_13 at hf
  refine lv_iload_n (pc := 13) hx hb dX11_period_13 rfl (lv_at hl 2 rfl) ?_
  refine lv_iload_n (pc := 14) hx hb dX11_period_14 rfl (lv_at hl 1 rfl) ?_
  refine lv_icmp_ge (pc := 15) (tgt := 46) hx hb dX11_period_15 (by decide) (fun c4 => ?_) (fun c4 => ?_)
  · have hf := if_t hf c4
    exact jk2 hf _ _ _ h (lv_sub hl [1] rfl)
  · have hf := if_f hf c4
    refine lv_iload_n (pc := 18) hx hb dX11_period_18 rfl (lv_at hl 1 rfl) ?_
    refine lv_iload_n (pc := 19) hx hb dX11_period_19 rfl (lv_at hl 2 rfl) ?_
    obtain ⟨hne, hf⟩ := ck_e hf
    refine lv_irem (pc := 20) hx hb dX11_period_20 hne ?_
    refine lv_if_ne (pc := 21) (tgt := 40) hx hb dX11_period_21 (by decide) (fun c5 => ?_) (fun c5 => ?_)
    · have hf := if_f hf c5
      refine lv_iinc (pc := 40) (v := x1 + 1) (lv' := [(2, .int (x1 + 1)), (0, .ref (a 0)), (1, .int (u.1 10 1))]) hx hb dX11_period_40 hl (k := 2) rfl rfl (by decide) rfl (fun ls hl => ?_)
      refine lv_goto (pc := 43) (tgt := 13) hx hb dX11_period_43 (by decide) ?_
      exact irec3 _ hf _ _ _ h (lv_sub hl [1, 2, 0] rfl)
    · have hf := if_t hf c5
      refine lv_aload_n (pc := 24) hx hb dX11_period_24 rfl (lv_at hl 0 rfl) ?_
      refine gB_0_0 (pc := 25) hNN hx hb hts hown hK h fl_X11_12 dX11_period_25 ?_
      refine gB_1_2 (pc := 28) hNN hx hb hts hown hK h fl_X11_158 dX11_period_28 ?_
      refine lv_iload_n (pc := 31) hx hb dX11_period_31 rfl (lv_at hl 2 rfl) ?_
      obtain ⟨x6, hc, hf⟩ := b1_e hf
      refine k_X8_repeats (pc := 32) hNN hx hb hml hown hts hK hN hc ml_X11_333 (Nat.le_trans (by decide) hF) (Nat.le_trans (by decide) hLo) h hl.1 ⟨Nat.zero_le _, Nat.zero_le _⟩ (Nat.le_of_ble_eq_true rfl) dX11_period_32 (fun H locs h => ?_)
      refine lv_if_eq (pc := 35) (tgt := 40) hx hb dX11_period_35 (by decide) (fun c7 => ?_) (fun c7 => ?_)
      · have hf := if_t hf c7
        refine lv_iinc (pc := 40) (v := x1 + 1) (lv' := [(2, .int (x1 + 1)), (0, .ref (a 0)), (1, .int (u.1 10 1))]) hx hb dX11_period_40 hl (k := 2) rfl rfl (by decide) rfl (fun ls hl => ?_)
        refine lv_goto (pc := 43) (tgt := 13) hx hb dX11_period_43 (by decide) ?_
        exact irec3 _ hf _ _ _ h (lv_sub hl [1, 2, 0] rfl)
      · have hf := if_f hf c7
        refine lv_iload_n (pc := 38) hx hb dX11_period_38 rfl (lv_at hl 2 rfl) ?_
        exact hret (so hf) rfl rfl dX11_period_39 h
theorem k_X11_period {p : Program} {l : Launch} {e : Env} {R : Room} {s : State} {m : MethodId} {args : Array Value} {below : List Frame} {meth : Method} {c : Code} {H : Heap} {locs : List Loc} {cells slots : Nat} {Q : State → Prop} {pc : Nat} {ls : Array Slot} {rest : List Value} {cc : ByteArray} {D : va_G} {cI cJ cR : ClassId} {a : Nat → Nat} {u : St} {own : String} {index nL : Nat} {N : Nat} (hNN : 38 ≤ N) {rr : Int32} (hx : p.tables.exec = Jvm.exec) (hb : c.code = cc) (hml : c.maxLocals = nL) (hown : s.vm.findClass own = some m.cls) (hts : ∀ w ∈ Gd, w.before args s = true) (hK : va_K D vwCl (tyB cI cJ cR) s) (hN : NB s) (hc : f_X11_period u = some rr) (hlk : Cond.methodLink own index yX11_period ∈ Gd) (hF : 3 ≤ R.frames) (hLo : 65 ≤ R.locals) (h : Hh D (AB N a s.heap.size) (wX N a (EB a cI cJ cR) u) s.heap H locs) (hsize : ls.size = nL) (hcs : cells ≤ R.cells ∧ slots ≤ R.slots) (hr : (rest.map fun v => v.category).sum ≤ 8) (hdg : decode cc pc = .ok (.invokevirtual index, 3)) (kk : ∀ (H1 : Heap) (locs1 : List Loc), Hh D (AB N a s.heap.size) (wX N a (EB a cI cJ cR) u) s.heap H1 locs1 → W p l e R s m args below meth c H1 locs1 cells slots Q (F0 m (pc + 3) ls (.int rr :: rest))) : W p l e R s m args below meth c H locs cells slots Q (F0 m pc ls (.ref (a 0) :: rest)) :=
  cVi (n := 0) hx hb hml hown hts hK hN (c_X11_period hNN hc) (gdV hlk im_X11_period se_X11_period in_X11 co_X11_period) rfl (by decide +kernel) rfl hF hLo h hsize hcs (Nat.lt_of_lt_of_le (by decide) hNN) rfl rfl rfl hr hdg kk
def B_X11_year_68 (p2 : Int32) (p3 : Int32) (k15 : St → Int32 → Option (Int32 × St)) (rec20 : St → Int32 → Int32 → Int32 → Option (Int32 × St)) (u11 : St) (x12 : Int32) (x13 : Int32) (x14 : Int32) : Option (Int32 × St) := if p2 ≤ x14 then k15 u11 x13 else ck (¬ (65537 : Int32) = 0) (bs ((((75 : Int32) * x12) + (74 : Int32)) - (((75 : Int32) * x12) + (74 : Int32)) / (65537 : Int32) * (65537 : Int32)) (fun x22 : Int32 => ck (¬ p3 = 0) (jq_1 (fun (x24 : Int32) => b1 (f_X1_passDay u11 x24) (fun (u25 : St) => rec20 u25 x22 (x13 + x24) (x14 + 1))) (fun (k23 : Int32 → Option (Int32 × St)) => if (x22 - x22 / p3 * p3) = 0 then k23 1 else k23 0))))
def f_X11_year (u : St) (p1 : Int32) (p2 : Int32) (p3 : Int32) (p4 : Int32) : Option (Int32 × St) := b1 (f_X11_within u p1 0 9999) (fun (x1 : Int32) => if x1 = 0 then some ((-2), u) else b1 (f_X11_within u p2 1 999) (fun (x3 : Int32) => if x3 = 0 then some ((-2), u) else b1 (f_X11_within u p3 1 99) (fun (x5 : Int32) => if x5 = 0 then some ((-2), u) else b1 (f_X11_within u p4 0 1) (fun (x7 : Int32) => if x7 = 0 then some ((-2), u) else b1 (f_X0_asItIs u) (fun (u9 : St) => b1 (f_X1_begin u9) (fun (u10 : St) => jq_2 (fun (u16 : St) (x17 : Int32) => if p4 = 0 then b1 (f_X1_lostNow u16) (fun (x19 : Int32) => some (x19, u16)) else some (x17, u16)) (fun (k15 : St → Int32 → Option (Int32 × St)) => lq_4 (B_X11_year_68 p2 p3 k15) FU u10 p1 0 0)))))))
set_option maxRecDepth 100000 in
set_option maxHeartbeats 4000000 in
theorem c_X11_year {l : Launch} {D : va_G} {cI cJ cR : ClassId} {a : Nat → Nat} {u : St} {N : Nat} (hNN : 38 ≤ N) {p1 : Int32} {p2 : Int32} {p3 : Int32} {p4 : Int32} {rr : Int32} {uu : St} (hf : f_X11_year u p1 p2 p3 p4 = some (rr, uu)) : Ci l yX11_year cX11_year 9 (some .int) 4 90 D (tyB cI cJ cR) N a (EB a cI cJ cR) [.ref (a 0), .int p1, .int p2, .int p3, .int p4] u rr uu := by
  refine metI (by decide +kernel) (Nat.le_of_ble_eq_true rfl) ?_
  intro p e s m args below meth c R Q hx hb hml hown hts hF hLo hret hK hN h ls hl
  have hown : s.vm.findClass RX11 = some m.cls := hown
  have hl : lv_has ls 9 [(0, .ref (a 0)), (1, .int p1), (2, .int p2), (3, .int p3), (4, .int p4)] := hl
  unfold f_X11_year at hf
  refine lv_iload_n (pc := 0) hx hb dX11_year_0 rfl (lv_at hl 1 rfl) ?_
  refine lv_iconst (pc := 1) (v := 0) hx hb dX11_year_1 (by decide) ?_
  refine lv_sipush (pc := 2) (v := 9999) hx hb dX11_year_2 (by decide) ?_
  obtain ⟨x1, hc, hf⟩ := b1_e hf
  refine kS_X11_within (pc := 5) hNN hx hb hml hown hts hK hN hc ml_X11_70 (Nat.le_trans (by decide) hF) (Nat.le_trans (by decide) hLo) h hl.1 ⟨Nat.zero_le _, Nat.zero_le _⟩ (Nat.le_of_ble_eq_true rfl) dX11_year_5 (fun H locs h => ?_)
  refine lv_if_eq (pc := 8) (tgt := 42) hx hb dX11_year_8 (by decide) (fun c2 => ?_) (fun c2 => ?_)
  · have hf := if_t hf c2
    refine lv_bipush (pc := 42) (v := (-2)) hx hb dX11_year_42 (by decide) ?_
    exact hret (so1 hf) rfl (so2 hf) dX11_year_44 h
  · have hf := if_f hf c2
    refine lv_iload_n (pc := 11) hx hb dX11_year_11 rfl (lv_at hl 2 rfl) ?_
    refine lv_iconst (pc := 12) (v := 1) hx hb dX11_year_12 (by decide) ?_
    refine lv_sipush (pc := 13) (v := 999) hx hb dX11_year_13 (by decide) ?_
    obtain ⟨x3, hc, hf⟩ := b1_e hf
    refine kS_X11_within (pc := 16) hNN hx hb hml hown hts hK hN hc ml_X11_70 (Nat.le_trans (by decide) hF) (Nat.le_trans (by decide) hLo) h hl.1 ⟨Nat.zero_le _, Nat.zero_le _⟩ (Nat.le_of_ble_eq_true rfl) dX11_year_16 (fun H locs h => ?_)
    refine lv_if_eq (pc := 19) (tgt := 42) hx hb dX11_year_19 (by decide) (fun c4 => ?_) (fun c4 => ?_)
    · have hf := if_t hf c4
      refine lv_bipush (pc := 42) (v := (-2)) hx hb dX11_year_42 (by decide) ?_
      exact hret (so1 hf) rfl (so2 hf) dX11_year_44 h
    · have hf := if_f hf c4
      refine lv_iload_n (pc := 22) hx hb dX11_year_22 rfl (lv_at hl 3 rfl) ?_
      refine lv_iconst (pc := 23) (v := 1) hx hb dX11_year_23 (by decide) ?_
      refine lv_bipush (pc := 24) (v := 99) hx hb dX11_year_24 (by decide) ?_
      obtain ⟨x5, hc, hf⟩ := b1_e hf
      refine kS_X11_within (pc := 26) hNN hx hb hml hown hts hK hN hc ml_X11_70 (Nat.le_trans (by decide) hF) (Nat.le_trans (by decide) hLo) h hl.1 ⟨Nat.zero_le _, Nat.zero_le _⟩ (Nat.le_of_ble_eq_true rfl) dX11_year_26 (fun H locs h => ?_)
      refine lv_if_eq (pc := 29) (tgt := 42) hx hb dX11_year_29 (by decide) (fun c6 => ?_) (fun c6 => ?_)
      · have hf := if_t hf c6
        refine lv_bipush (pc := 42) (v := (-2)) hx hb dX11_year_42 (by decide) ?_
        exact hret (so1 hf) rfl (so2 hf) dX11_year_44 h
      · have hf := if_f hf c6
        refine lv_iload (pc := 32) hx hb dX11_year_32 (lv_at hl 4 rfl) ?_
        refine lv_iconst (pc := 34) (v := 0) hx hb dX11_year_34 (by decide) ?_
        refine lv_iconst (pc := 35) (v := 1) hx hb dX11_year_35 (by decide) ?_
        obtain ⟨x7, hc, hf⟩ := b1_e hf
        refine kS_X11_within (pc := 36) hNN hx hb hml hown hts hK hN hc ml_X11_70 (Nat.le_trans (by decide) hF) (Nat.le_trans (by decide) hLo) h hl.1 ⟨Nat.zero_le _, Nat.zero_le _⟩ (Nat.le_of_ble_eq_true rfl) dX11_year_36 (fun H locs h => ?_)
        refine lv_if_ne (pc := 39) (tgt := 45) hx hb dX11_year_39 (by decide) (fun c8 => ?_) (fun c8 => ?_)
        · have hf := if_f hf c8
          refine lv_aload_n (pc := 45) hx hb dX11_year_45 rfl (lv_at hl 0 rfl) ?_
          refine gB_0_3 (pc := 46) hNN hx hb hts hown hK h fl_X11_32 dX11_year_46 ?_
          obtain ⟨u9, hc, hf⟩ := b1_e hf
          refine k_X0_asItIs (pc := 49) hNN hx hb hml hown hts hK hN hc ml_X11_171 (Nat.le_trans (by decide) hF) (Nat.le_trans (by decide) hLo) h hl.1 ⟨Nat.zero_le _, Nat.zero_le _⟩ (Nat.le_of_ble_eq_true rfl) dX11_year_49 (fun H locs h => ?_)
          refine lv_aload_n (pc := 52) hx hb dX11_year_52 rfl (lv_at hl 0 rfl) ?_
          refine gB_0_4 (pc := 53) hNN hx hb hts hown hK h fl_X11_41 dX11_year_53 ?_
          obtain ⟨u10, hc, hf⟩ := b1_e hf
          refine k_X1_begin (pc := 56) hNN hx hb hml hown hts hK hN hc ml_X11_252 (Nat.le_trans (by decide) hF) (Nat.le_trans (by decide) hLo) h hl.1 ⟨Nat.zero_le _, Nat.zero_le _⟩ (Nat.le_of_ble_eq_true rfl) dX11_year_56 (fun H locs h => ?_)
          refine lv_iload_n (pc := 59) hx hb dX11_year_59 rfl (lv_at hl 1 rfl) ?_
          refine lv_istore (pc := 60) (lv' := [(5, .int p1), (0, .ref (a 0)), (1, .int p1), (2, .int p2), (3, .int p3), (4, .int p4)]) hx hb dX11_year_60 hl (by decide) rfl (fun ls hl => ?_)
          refine lv_iconst (pc := 62) (v := 0) hx hb dX11_year_62 (by decide) ?_
          refine lv_istore (pc := 63) (lv' := [(6, .int 0), (5, .int p1), (0, .ref (a 0)), (1, .int p1), (2, .int p2), (3, .int p3), (4, .int p4)]) hx hb dX11_year_63 hl (by decide) rfl (fun ls hl => ?_)
          refine lv_iconst (pc := 65) (v := 0) hx hb dX11_year_65 (by decide) ?_
          refine lv_istore (pc := 66) (lv' := [(7, .int 0), (6, .int 0), (5, .int p1), (0, .ref (a 0)), (1, .int p1), (2, .int p2), (3, .int p3), (4, .int p4)]) hx hb dX11_year_66 hl (by decide) rfl (fun ls hl => ?_)
          obtain ⟨k15, hk15, hf⟩ := jq_2_e hf
          have jk15 : ∀ (u16 : St) (x17 : Int32), k15 u16 x17 = some (rr, uu) → ∀ (H : Heap) (locs : List Loc) (ls : Array Slot), Hh D (AB N a s.heap.size) (wX N a (EB a cI cJ cR) u16) s.heap H locs → lv_has ls 9 [(0, .ref (a 0)), (4, .int p4), (6, .int x17)] → W p l e R s m args below meth c H locs 0 0 Q (F0 m 124 ls []) := by
            intro u16 x17 hf H locs ls h hl
            rw [hk15] at hf
            refine lv_iload (pc := 124) hx hb dX11_year_124 (lv_at hl 1 rfl) ?_
            refine lv_if_ne (pc := 126) (tgt := 139) hx hb dX11_year_126 (by decide) (fun c18 => ?_) (fun c18 => ?_)
            · have hf := if_f hf c18
              refine lv_iload (pc := 139) hx hb dX11_year_139 (lv_at hl 2 rfl) ?_
              exact hret (so1 hf) rfl (so2 hf) dX11_year_141 h
            · have hf := if_t hf c18
              refine lv_aload_n (pc := 129) hx hb dX11_year_129 rfl (lv_at hl 0 rfl) ?_
              refine gB_0_4 (pc := 130) hNN hx hb hts hown hK h fl_X11_41 dX11_year_130 ?_
              obtain ⟨x19, hc, hf⟩ := b1_e hf
              refine k_X1_lostNow (pc := 133) hNN hx hb hml hown hts hK hN hc ml_X11_337 (Nat.le_trans (by decide) hF) (Nat.le_trans (by decide) hLo) h hl.1 ⟨Nat.zero_le _, Nat.zero_le _⟩ (Nat.le_of_ble_eq_true rfl) dX11_year_133 (fun H locs h => ?_)
              refine lv_goto (pc := 136) (tgt := 141) hx hb dX11_year_136 (by decide) ?_
              exact hret (so1 hf) rfl (so2 hf) dX11_year_141 h
          refine lq_4_e (P := fun (u11 : St) (x12 : Int32) (x13 : Int32) (x14 : Int32) => ∀ (H : Heap) (locs : List Loc) (ls : Array Slot), Hh D (AB N a s.heap.size) (wX N a (EB a cI cJ cR) u11) s.heap H locs → lv_has ls 9 [(0, .ref (a 0)), (2, .int p2), (3, .int p3), (4, .int p4), (5, .int x12), (6, .int x13), (7, .int x14)] → W p l e R s m args below meth c H locs 0 0 Q (F0 m 68 ls [])) ?_ FU _ _ _ _ hf _ _ _ h (lv_sub hl [3, 5, 6, 7, 2, 1, 0] rfl)
          intro rec20 irec20 u11 x12 x13 x14 hf H locs ls h hl
          unfold B_X11_year_68 at hf
          refine lv_iload (pc := 68) hx hb dX11_year_68 (lv_at hl 6 rfl) ?_
          refine lv_iload_n (pc := 70) hx hb dX11_year_70 rfl (lv_at hl 1 rfl) ?_
          refine lv_icmp_ge (pc := 71) (tgt := 124) hx hb dX11_year_71 (by decide) (fun c21 => ?_) (fun c21 => ?_)
          · have hf := if_t hf c21
            exact jk15 _ _ hf _ _ _ h (lv_sub hl [0, 3, 5] rfl)
          · have hf := if_f hf c21
            refine lv_bipush (pc := 74) (v := 75) hx hb dX11_year_74 (by decide) ?_
            refine lv_iload (pc := 76) hx hb dX11_year_76 (lv_at hl 4 rfl) ?_
            refine lv_imul (pc := 78) hx hb dX11_year_78 ?_
            refine lv_bipush (pc := 79) (v := 74) hx hb dX11_year_79 (by decide) ?_
            refine lv_iadd (pc := 81) hx hb dX11_year_81 ?_
            refine lv_ldcw (pc := 82) hx hb hown (hts _ ct_X11_336) dX11_year_82 ?_
            obtain ⟨hne, hf⟩ := ck_e hf
            refine lv_irem (pc := 85) hx hb dX11_year_85 hne ?_
            obtain ⟨x22, ex22, hf⟩ := bs_e hf
            refine rTop ex22 ?_
            refine lv_istore (pc := 86) (lv' := [(5, .int x22), (0, .ref (a 0)), (2, .int p2), (3, .int p3), (4, .int p4), (6, .int x13), (7, .int x14)]) hx hb dX11_year_86 hl (by decide) rfl (fun ls hl => ?_)
            refine lv_iload (pc := 88) hx hb dX11_year_88 (lv_at hl 0 rfl) ?_
            refine lv_iload_n (pc := 90) hx hb dX11_year_90 rfl (lv_at hl 3 rfl) ?_
            obtain ⟨hne, hf⟩ := ck_e hf
            refine lv_irem (pc := 91) hx hb dX11_year_91 hne ?_
            obtain ⟨k23, hk23, hf⟩ := jq_1_e hf
            have jk23 : ∀ (x24 : Int32), k23 x24 = some (rr, uu) → ∀ (H : Heap) (locs : List Loc) (ls : Array Slot), Hh D (AB N a s.heap.size) (wX N a (EB a cI cJ cR) u11) s.heap H locs → lv_has ls 9 [(0, .ref (a 0)), (2, .int p2), (3, .int p3), (4, .int p4), (5, .int x22), (6, .int x13), (7, .int x14)] → W p l e R s m args below meth c H locs 0 0 Q (F0 m 100 ls [.int x24]) := by
              intro x24 hf H locs ls h hl
              rw [hk23] at hf
              refine lv_istore (pc := 100) (lv' := [(8, .int x24), (0, .ref (a 0)), (2, .int p2), (3, .int p3), (4, .int p4), (5, .int x22), (6, .int x13), (7, .int x14)]) hx hb dX11_year_100 hl (by decide) rfl (fun ls hl => ?_)
              refine lv_iload (pc := 102) hx hb dX11_year_102 (lv_at hl 6 rfl) ?_
              refine lv_iload (pc := 104) hx hb dX11_year_104 (lv_at hl 0 rfl) ?_
              refine lv_iadd (pc := 106) hx hb dX11_year_106 ?_
              refine lv_istore (pc := 107) (lv' := [(6, .int (x13 + x24)), (8, .int x24), (0, .ref (a 0)), (2, .int p2), (3, .int p3), (4, .int p4), (5, .int x22), (7, .int x14)]) hx hb dX11_year_107 hl (by decide) rfl (fun ls hl => ?_)
              refine lv_aload_n (pc := 109) hx hb dX11_year_109 rfl (lv_at hl 2 rfl) ?_
              refine gB_0_4 (pc := 110) hNN hx hb hts hown hK h fl_X11_41 dX11_year_110 ?_
              refine lv_iload (pc := 113) hx hb dX11_year_113 (lv_at hl 1 rfl) ?_
              obtain ⟨u25, hc, hf⟩ := b1_e hf
              refine k_X1_passDay (pc := 115) hNN hx hb hml hown hts hK hN hc ml_X11_258 (Nat.le_trans (by decide) hF) (Nat.le_trans (by decide) hLo) h hl.1 ⟨Nat.zero_le _, Nat.zero_le _⟩ (Nat.le_of_ble_eq_true rfl) dX11_year_115 (fun H locs h => ?_)
              refine lv_iinc (pc := 118) (v := x14 + 1) (lv' := [(7, .int (x14 + 1)), (6, .int (x13 + x24)), (8, .int x24), (0, .ref (a 0)), (2, .int p2), (3, .int p3), (4, .int p4), (5, .int x22)]) hx hb dX11_year_118 hl (k := 7) rfl rfl (by decide) rfl (fun ls hl => ?_)
              refine lv_goto (pc := 121) (tgt := 68) hx hb dX11_year_121 (by decide) ?_
              exact irec20 _ _ _ _ hf _ _ _ h (lv_sub hl [3, 4, 5, 6, 7, 1, 0] rfl)
            refine lv_if_ne (pc := 92) (tgt := 99) hx hb dX11_year_92 (by decide) (fun c26 => ?_) (fun c26 => ?_)
            · have hf := if_f hf c26
              refine lv_iconst (pc := 99) (v := 0) hx hb dX11_year_99 (by decide) ?_
              exact jk23 _ hf _ _ _ h (lv_sub hl [1, 2, 3, 4, 0, 5, 6] rfl)
            · have hf := if_t hf c26
              refine lv_iconst (pc := 95) (v := 1) hx hb dX11_year_95 (by decide) ?_
              refine lv_goto (pc := 96) (tgt := 100) hx hb dX11_year_96 (by decide) ?_
              exact jk23 _ hf _ _ _ h (lv_sub hl [1, 2, 3, 4, 0, 5, 6] rfl)
        · have hf := if_t hf c8
          refine lv_bipush (pc := 42) (v := (-2)) hx hb dX11_year_42 (by decide) ?_
          exact hret (so1 hf) rfl (so2 hf) dX11_year_44 h
theorem k_X11_year {p : Program} {l : Launch} {e : Env} {R : Room} {s : State} {m : MethodId} {args : Array Value} {below : List Frame} {meth : Method} {c : Code} {H : Heap} {locs : List Loc} {cells slots : Nat} {Q : State → Prop} {pc : Nat} {ls : Array Slot} {rest : List Value} {cc : ByteArray} {D : va_G} {cI cJ cR : ClassId} {a : Nat → Nat} {u : St} {own : String} {index nL : Nat} {N : Nat} (hNN : 38 ≤ N) {p1 : Int32} {p2 : Int32} {p3 : Int32} {p4 : Int32} {rr : Int32} {uu : St} (hx : p.tables.exec = Jvm.exec) (hb : c.code = cc) (hml : c.maxLocals = nL) (hown : s.vm.findClass own = some m.cls) (hts : ∀ w ∈ Gd, w.before args s = true) (hK : va_K D vwCl (tyB cI cJ cR) s) (hN : NB s) (hc : f_X11_year u p1 p2 p3 p4 = some (rr, uu)) (hlk : Cond.methodLink own index yX11_year ∈ Gd) (hF : 5 ≤ R.frames) (hLo : 118 ≤ R.locals) (h : Hh D (AB N a s.heap.size) (wX N a (EB a cI cJ cR) u) s.heap H locs) (hsize : ls.size = nL) (hcs : cells ≤ R.cells ∧ slots ≤ R.slots) (hr : (rest.map fun v => v.category).sum ≤ 8) (hdg : decode cc pc = .ok (.invokevirtual index, 3)) (kk : ∀ (H1 : Heap) (locs1 : List Loc), Hh D (AB N a s.heap.size) (wX N a (EB a cI cJ cR) uu) s.heap H1 locs1 → W p l e R s m args below meth c H1 locs1 cells slots Q (F0 m (pc + 3) ls (.int rr :: rest))) : W p l e R s m args below meth c H locs cells slots Q (F0 m pc ls (.int p4 :: .int p3 :: .int p2 :: .int p1 :: .ref (a 0) :: rest)) :=
  cVi (n := 4) hx hb hml hown hts hK hN (c_X11_year hNN hc) (gdV hlk im_X11_year se_X11_year in_X11 co_X11_year) rfl (by decide +kernel) rfl hF hLo h hsize hcs (Nat.lt_of_lt_of_le (by decide) hNN) rfl rfl rfl hr hdg kk
def f_X11_toldOfBarrel (u : St) (p1 : Int32) (p2 : Int32) : Option (Int32) := b1 (f_X7_has u p1) (fun (x1 : Int32) => if x1 = 0 then some ((-2)) else if p2 = 0 then cki p1 8 (some (u.1 6 (ix p1))) else if p2 = 1 then cki p1 8 (some (u.1 7 (ix p1))) else if p2 = 2 then cki p1 8 (some (u.1 8 (ix p1))) else if p2 = 3 then cki p1 8 (some (u.1 9 (ix p1))) else some ((-2)))
set_option maxRecDepth 100000 in
set_option maxHeartbeats 4000000 in
theorem c_X11_toldOfBarrel {l : Launch} {D : va_G} {cI cJ cR : ClassId} {a : Nat → Nat} {u : St} {N : Nat} (hNN : 38 ≤ N) {p1 : Int32} {p2 : Int32} {rr : Int32} (hf : f_X11_toldOfBarrel u p1 p2 = some rr) : Ci l yX11_toldOfBarrel cX11_toldOfBarrel 3 (some .int) 2 42 D (tyB cI cJ cR) N a (EB a cI cJ cR) [.ref (a 0), .int p1, .int p2] u rr u := by
  refine metI (by decide +kernel) (Nat.le_of_ble_eq_true rfl) ?_
  intro p e s m args below meth c R Q hx hb hml hown hts hF hLo hret hK hN h ls hl
  have hown : s.vm.findClass RX11 = some m.cls := hown
  have hl : lv_has ls 3 [(0, .ref (a 0)), (1, .int p1), (2, .int p2)] := hl
  unfold f_X11_toldOfBarrel at hf
  refine lv_aload_n (pc := 0) hx hb dX11_toldOfBarrel_0 rfl (lv_at hl 0 rfl) ?_
  refine gB_0_0 (pc := 1) hNN hx hb hts hown hK h fl_X11_12 dX11_toldOfBarrel_1 ?_
  refine gB_1_1 (pc := 4) hNN hx hb hts hown hK h fl_X11_88 dX11_toldOfBarrel_4 ?_
  refine lv_iload_n (pc := 7) hx hb dX11_toldOfBarrel_7 rfl (lv_at hl 1 rfl) ?_
  obtain ⟨x1, hc, hf⟩ := b1_e hf
  refine k_X7_has (pc := 8) hNN hx hb hml hown hts hK hN hc ml_X11_137 (Nat.le_trans (by decide) hF) (Nat.le_trans (by decide) hLo) h hl.1 ⟨Nat.zero_le _, Nat.zero_le _⟩ (Nat.le_of_ble_eq_true rfl) dX11_toldOfBarrel_8 (fun H locs h => ?_)
  refine lv_if_ne (pc := 11) (tgt := 17) hx hb dX11_toldOfBarrel_11 (by decide) (fun c2 => ?_) (fun c2 => ?_)
  · have hf := if_f hf c2
    refine lv_iload_n (pc := 17) hx hb dX11_toldOfBarrel_17 rfl (lv_at hl 2 rfl) ?_
    by_cases c3 : p2 = 0
    · have hf := if_t hf c3
      refine rSw (pc := 18) hx hb 48 dX11_toldOfBarrel_18 0 c3 (by decide) (by decide) (by rfl) (by decide) ?_
      refine lv_aload_n (pc := 48) hx hb dX11_toldOfBarrel_48 rfl (lv_at hl 0 rfl) ?_
      refine gB_0_0 (pc := 49) hNN hx hb hts hown hK h fl_X11_12 dX11_toldOfBarrel_49 ?_
      refine gB_1_1 (pc := 52) hNN hx hb hts hown hK h fl_X11_88 dX11_toldOfBarrel_52 ?_
      refine gB_5_0 (pc := 55) hNN hx hb hts hown hK h fl_X11_212 dX11_toldOfBarrel_55 ?_
      refine lv_iload_n (pc := 58) hx hb dX11_toldOfBarrel_58 rfl (lv_at hl 1 rfl) ?_
      obtain ⟨hin, hf⟩ := cki_e hf
      refine gB_6 (pc := 59) hNN hx hb hK h hin dX11_toldOfBarrel_59 ?_
      exact hret (so hf) rfl rfl dX11_toldOfBarrel_60 h
    have hf := if_f hf c3
    by_cases c4 : p2 = 1
    · have hf := if_t hf c4
      refine rSw (pc := 18) hx hb 61 dX11_toldOfBarrel_18 1 c4 (by decide) (by decide) (by rfl) (by decide) ?_
      refine lv_aload_n (pc := 61) hx hb dX11_toldOfBarrel_61 rfl (lv_at hl 0 rfl) ?_
      refine gB_0_0 (pc := 62) hNN hx hb hts hown hK h fl_X11_12 dX11_toldOfBarrel_62 ?_
      refine gB_1_1 (pc := 65) hNN hx hb hts hown hK h fl_X11_88 dX11_toldOfBarrel_65 ?_
      refine gB_5_1 (pc := 68) hNN hx hb hts hown hK h fl_X11_226 dX11_toldOfBarrel_68 ?_
      refine lv_iload_n (pc := 71) hx hb dX11_toldOfBarrel_71 rfl (lv_at hl 1 rfl) ?_
      obtain ⟨hin, hf⟩ := cki_e hf
      refine gB_7 (pc := 72) hNN hx hb hK h hin dX11_toldOfBarrel_72 ?_
      exact hret (so hf) rfl rfl dX11_toldOfBarrel_73 h
    have hf := if_f hf c4
    by_cases c5 : p2 = 2
    · have hf := if_t hf c5
      refine rSw (pc := 18) hx hb 74 dX11_toldOfBarrel_18 2 c5 (by decide) (by decide) (by rfl) (by decide) ?_
      refine lv_aload_n (pc := 74) hx hb dX11_toldOfBarrel_74 rfl (lv_at hl 0 rfl) ?_
      refine gB_0_0 (pc := 75) hNN hx hb hts hown hK h fl_X11_12 dX11_toldOfBarrel_75 ?_
      refine gB_1_1 (pc := 78) hNN hx hb hts hown hK h fl_X11_88 dX11_toldOfBarrel_78 ?_
      refine gB_5_2 (pc := 81) hNN hx hb hts hown hK h fl_X11_213 dX11_toldOfBarrel_81 ?_
      refine lv_iload_n (pc := 84) hx hb dX11_toldOfBarrel_84 rfl (lv_at hl 1 rfl) ?_
      obtain ⟨hin, hf⟩ := cki_e hf
      refine gB_8 (pc := 85) hNN hx hb hK h hin dX11_toldOfBarrel_85 ?_
      exact hret (so hf) rfl rfl dX11_toldOfBarrel_86 h
    have hf := if_f hf c5
    by_cases c6 : p2 = 3
    · have hf := if_t hf c6
      refine rSw (pc := 18) hx hb 87 dX11_toldOfBarrel_18 3 c6 (by decide) (by decide) (by rfl) (by decide) ?_
      refine lv_aload_n (pc := 87) hx hb dX11_toldOfBarrel_87 rfl (lv_at hl 0 rfl) ?_
      refine gB_0_0 (pc := 88) hNN hx hb hts hown hK h fl_X11_12 dX11_toldOfBarrel_88 ?_
      refine gB_1_1 (pc := 91) hNN hx hb hts hown hK h fl_X11_88 dX11_toldOfBarrel_91 ?_
      refine gB_5_3 (pc := 94) hNN hx hb hts hown hK h fl_X11_349 dX11_toldOfBarrel_94 ?_
      refine lv_iload_n (pc := 97) hx hb dX11_toldOfBarrel_97 rfl (lv_at hl 1 rfl) ?_
      obtain ⟨hin, hf⟩ := cki_e hf
      refine gB_9 (pc := 98) hNN hx hb hK h hin dX11_toldOfBarrel_98 ?_
      exact hret (so hf) rfl rfl dX11_toldOfBarrel_99 h
    have hf := if_f hf c6
    refine lv_tableOut (pc := 18) (tgt := 100) hx hb dX11_toldOfBarrel_18 (tbOut4 c3 c4 c5 c6) (by decide) ?_
    refine lv_bipush (pc := 100) (v := (-2)) hx hb dX11_toldOfBarrel_100 (by decide) ?_
    exact hret (so hf) rfl rfl dX11_toldOfBarrel_102 h
  · have hf := if_t hf c2
    refine lv_bipush (pc := 14) (v := (-2)) hx hb dX11_toldOfBarrel_14 (by decide) ?_
    exact hret (so hf) rfl rfl dX11_toldOfBarrel_16 h
theorem k_X11_toldOfBarrel {p : Program} {l : Launch} {e : Env} {R : Room} {s : State} {m : MethodId} {args : Array Value} {below : List Frame} {meth : Method} {c : Code} {H : Heap} {locs : List Loc} {cells slots : Nat} {Q : State → Prop} {pc : Nat} {ls : Array Slot} {rest : List Value} {cc : ByteArray} {D : va_G} {cI cJ cR : ClassId} {a : Nat → Nat} {u : St} {own : String} {index nL : Nat} {N : Nat} (hNN : 38 ≤ N) {p1 : Int32} {p2 : Int32} {rr : Int32} (hx : p.tables.exec = Jvm.exec) (hb : c.code = cc) (hml : c.maxLocals = nL) (hown : s.vm.findClass own = some m.cls) (hts : ∀ w ∈ Gd, w.before args s = true) (hK : va_K D vwCl (tyB cI cJ cR) s) (hN : NB s) (hc : f_X11_toldOfBarrel u p1 p2 = some rr) (hlk : Cond.methodLink own index yX11_toldOfBarrel ∈ Gd) (hF : 3 ≤ R.frames) (hLo : 64 ≤ R.locals) (h : Hh D (AB N a s.heap.size) (wX N a (EB a cI cJ cR) u) s.heap H locs) (hsize : ls.size = nL) (hcs : cells ≤ R.cells ∧ slots ≤ R.slots) (hr : (rest.map fun v => v.category).sum ≤ 8) (hdg : decode cc pc = .ok (.invokevirtual index, 3)) (kk : ∀ (H1 : Heap) (locs1 : List Loc), Hh D (AB N a s.heap.size) (wX N a (EB a cI cJ cR) u) s.heap H1 locs1 → W p l e R s m args below meth c H1 locs1 cells slots Q (F0 m (pc + 3) ls (.int rr :: rest))) : W p l e R s m args below meth c H locs cells slots Q (F0 m pc ls (.int p2 :: .int p1 :: .ref (a 0) :: rest)) :=
  cVi (n := 2) hx hb hml hown hts hK hN (c_X11_toldOfBarrel hNN hc) (gdV hlk im_X11_toldOfBarrel se_X11_toldOfBarrel in_X11 co_X11_toldOfBarrel) rfl (by decide +kernel) rfl hF hLo h hsize hcs (Nat.lt_of_lt_of_le (by decide) hNN) rfl rfl rfl hr hdg kk
def f_X11_toldOfCellar (u : St) (p1 : Int32) (p2 : Int32) : Option (Int32) := b1 (f_X10_has u p2) (fun (x1 : Int32) => if x1 = 0 then some ((-2)) else if p1 = 1 then cki p2 6 (some (u.1 3 (ix p2))) else if p1 = 2 then cki p2 6 (some (u.1 4 (ix p2))) else b1 (f_X11_hasBit u (u.1 2 3) p2) (fun (x5 : Int32) => if x5 = 0 then some 0 else some 1))
set_option maxRecDepth 100000 in
set_option maxHeartbeats 4000000 in
theorem c_X11_toldOfCellar {l : Launch} {D : va_G} {cI cJ cR : ClassId} {a : Nat → Nat} {u : St} {N : Nat} (hNN : 38 ≤ N) {p1 : Int32} {p2 : Int32} {rr : Int32} (hf : f_X11_toldOfCellar u p1 p2 = some rr) : Ci l yX11_toldOfCellar cX11_toldOfCellar 3 (some .int) 1 21 D (tyB cI cJ cR) N a (EB a cI cJ cR) [.ref (a 0), .int p1, .int p2] u rr u := by
  refine metI (by decide +kernel) (Nat.le_of_ble_eq_true rfl) ?_
  intro p e s m args below meth c R Q hx hb hml hown hts hF hLo hret hK hN h ls hl
  have hown : s.vm.findClass RX11 = some m.cls := hown
  have hl : lv_has ls 3 [(0, .ref (a 0)), (1, .int p1), (2, .int p2)] := hl
  unfold f_X11_toldOfCellar at hf
  refine lv_aload_n (pc := 0) hx hb dX11_toldOfCellar_0 rfl (lv_at hl 0 rfl) ?_
  refine gB_0_0 (pc := 1) hNN hx hb hts hown hK h fl_X11_12 dX11_toldOfCellar_1 ?_
  refine gB_1_0 (pc := 4) hNN hx hb hts hown hK h fl_X11_74 dX11_toldOfCellar_4 ?_
  refine lv_iload_n (pc := 7) hx hb dX11_toldOfCellar_7 rfl (lv_at hl 2 rfl) ?_
  obtain ⟨x1, hc, hf⟩ := b1_e hf
  refine k_X10_has (pc := 8) hNN hx hb hml hown hts hK hN hc ml_X11_104 (Nat.le_trans (by decide) hF) (Nat.le_trans (by decide) hLo) h hl.1 ⟨Nat.zero_le _, Nat.zero_le _⟩ (Nat.le_of_ble_eq_true rfl) dX11_toldOfCellar_8 (fun H locs h => ?_)
  refine lv_if_ne (pc := 11) (tgt := 17) hx hb dX11_toldOfCellar_11 (by decide) (fun c2 => ?_) (fun c2 => ?_)
  · have hf := if_f hf c2
    refine lv_iload_n (pc := 17) hx hb dX11_toldOfCellar_17 rfl (lv_at hl 1 rfl) ?_
    refine lv_iconst (pc := 18) (v := 1) hx hb dX11_toldOfCellar_18 (by decide) ?_
    refine lv_icmp_ne (pc := 19) (tgt := 35) hx hb dX11_toldOfCellar_19 (by decide) (fun c3 => ?_) (fun c3 => ?_)
    · have hf := if_f hf c3
      refine lv_iload_n (pc := 35) hx hb dX11_toldOfCellar_35 rfl (lv_at hl 1 rfl) ?_
      refine lv_iconst (pc := 36) (v := 2) hx hb dX11_toldOfCellar_36 (by decide) ?_
      refine lv_icmp_ne (pc := 37) (tgt := 53) hx hb dX11_toldOfCellar_37 (by decide) (fun c4 => ?_) (fun c4 => ?_)
      · have hf := if_f hf c4
        refine lv_aload_n (pc := 53) hx hb dX11_toldOfCellar_53 rfl (lv_at hl 0 rfl) ?_
        refine gB_0_0 (pc := 54) hNN hx hb hts hown hK h fl_X11_12 dX11_toldOfCellar_54 ?_
        refine gB_1_0 (pc := 57) hNN hx hb hts hown hK h fl_X11_74 dX11_toldOfCellar_57 ?_
        refine gB_2_3 (pc := 60) hNN hx hb hts hown hK h fl_X11_124 dX11_toldOfCellar_60 ?_
        refine lv_iload_n (pc := 63) hx hb dX11_toldOfCellar_63 rfl (lv_at hl 2 rfl) ?_
        obtain ⟨x5, hc, hf⟩ := b1_e hf
        refine kS_X11_hasBit (pc := 64) hNN hx hb hml hown hts hK hN hc ml_X11_232 (Nat.le_trans (by decide) hF) (Nat.le_trans (by decide) hLo) h hl.1 ⟨Nat.zero_le _, Nat.zero_le _⟩ (Nat.le_of_ble_eq_true rfl) dX11_toldOfCellar_64 (fun H locs h => ?_)
        refine lv_if_eq (pc := 67) (tgt := 74) hx hb dX11_toldOfCellar_67 (by decide) (fun c6 => ?_) (fun c6 => ?_)
        · have hf := if_t hf c6
          refine lv_iconst (pc := 74) (v := 0) hx hb dX11_toldOfCellar_74 (by decide) ?_
          exact hret (so hf) rfl rfl dX11_toldOfCellar_75 h
        · have hf := if_f hf c6
          refine lv_iconst (pc := 70) (v := 1) hx hb dX11_toldOfCellar_70 (by decide) ?_
          refine lv_goto (pc := 71) (tgt := 75) hx hb dX11_toldOfCellar_71 (by decide) ?_
          exact hret (so hf) rfl rfl dX11_toldOfCellar_75 h
      · have hf := if_t hf c4
        refine lv_aload_n (pc := 40) hx hb dX11_toldOfCellar_40 rfl (lv_at hl 0 rfl) ?_
        refine gB_0_0 (pc := 41) hNN hx hb hts hown hK h fl_X11_12 dX11_toldOfCellar_41 ?_
        refine gB_1_0 (pc := 44) hNN hx hb hts hown hK h fl_X11_74 dX11_toldOfCellar_44 ?_
        refine gB_2_1 (pc := 47) hNN hx hb hts hown hK h fl_X11_121 dX11_toldOfCellar_47 ?_
        refine lv_iload_n (pc := 50) hx hb dX11_toldOfCellar_50 rfl (lv_at hl 2 rfl) ?_
        obtain ⟨hin, hf⟩ := cki_e hf
        refine gB_4 (pc := 51) hNN hx hb hK h hin dX11_toldOfCellar_51 ?_
        exact hret (so hf) rfl rfl dX11_toldOfCellar_52 h
    · have hf := if_t hf c3
      refine lv_aload_n (pc := 22) hx hb dX11_toldOfCellar_22 rfl (lv_at hl 0 rfl) ?_
      refine gB_0_0 (pc := 23) hNN hx hb hts hown hK h fl_X11_12 dX11_toldOfCellar_23 ?_
      refine gB_1_0 (pc := 26) hNN hx hb hts hown hK h fl_X11_74 dX11_toldOfCellar_26 ?_
      refine gB_2_0 (pc := 29) hNN hx hb hts hown hK h fl_X11_115 dX11_toldOfCellar_29 ?_
      refine lv_iload_n (pc := 32) hx hb dX11_toldOfCellar_32 rfl (lv_at hl 2 rfl) ?_
      obtain ⟨hin, hf⟩ := cki_e hf
      refine gB_3 (pc := 33) hNN hx hb hK h hin dX11_toldOfCellar_33 ?_
      exact hret (so hf) rfl rfl dX11_toldOfCellar_34 h
  · have hf := if_t hf c2
    refine lv_bipush (pc := 14) (v := (-2)) hx hb dX11_toldOfCellar_14 (by decide) ?_
    exact hret (so hf) rfl rfl dX11_toldOfCellar_16 h
theorem k_X11_toldOfCellar {p : Program} {l : Launch} {e : Env} {R : Room} {s : State} {m : MethodId} {args : Array Value} {below : List Frame} {meth : Method} {c : Code} {H : Heap} {locs : List Loc} {cells slots : Nat} {Q : State → Prop} {pc : Nat} {ls : Array Slot} {rest : List Value} {cc : ByteArray} {D : va_G} {cI cJ cR : ClassId} {a : Nat → Nat} {u : St} {own : String} {index nL : Nat} {N : Nat} (hNN : 38 ≤ N) {p1 : Int32} {p2 : Int32} {rr : Int32} (hx : p.tables.exec = Jvm.exec) (hb : c.code = cc) (hml : c.maxLocals = nL) (hown : s.vm.findClass own = some m.cls) (hts : ∀ w ∈ Gd, w.before args s = true) (hK : va_K D vwCl (tyB cI cJ cR) s) (hN : NB s) (hc : f_X11_toldOfCellar u p1 p2 = some rr) (hlk : Cond.methodLink own index yX11_toldOfCellar ∈ Gd) (hF : 2 ≤ R.frames) (hLo : 43 ≤ R.locals) (h : Hh D (AB N a s.heap.size) (wX N a (EB a cI cJ cR) u) s.heap H locs) (hsize : ls.size = nL) (hcs : cells ≤ R.cells ∧ slots ≤ R.slots) (hr : (rest.map fun v => v.category).sum ≤ 8) (hdg : decode cc pc = .ok (.invokevirtual index, 3)) (kk : ∀ (H1 : Heap) (locs1 : List Loc), Hh D (AB N a s.heap.size) (wX N a (EB a cI cJ cR) u) s.heap H1 locs1 → W p l e R s m args below meth c H1 locs1 cells slots Q (F0 m (pc + 3) ls (.int rr :: rest))) : W p l e R s m args below meth c H locs cells slots Q (F0 m pc ls (.int p2 :: .int p1 :: .ref (a 0) :: rest)) :=
  cVi (n := 2) hx hb hml hown hts hK hN (c_X11_toldOfCellar hNN hc) (gdV hlk im_X11_toldOfCellar se_X11_toldOfCellar in_X11 co_X11_toldOfCellar) rfl (by decide +kernel) rfl hF hLo h hsize hcs (Nat.lt_of_lt_of_le (by decide) hNN) rfl rfl rfl hr hdg kk
def f_X11_told (u : St) (p1 : Int32) : Option (Int32) := if p1 < 100 then b1 (f_X11_within u p1 10 39) (fun (x2 : Int32) => if x2 = 0 then b1 (f_X11_within u p1 40 43) (fun (x4 : Int32) => if x4 = 0 then if p1 = 0 then some (u.1 18 1) else if p1 = 1 then some (u.1 2 2) else if p1 = 2 then some (u.1 5 4) else if p1 = 3 then cki 0 7 (some (u.1 16 (ix 0))) else if p1 = 4 then cki 1 7 (some (u.1 16 (ix 1))) else if p1 = 5 then cki 2 7 (some (u.1 16 (ix 2))) else if p1 = 6 then some (u.1 10 1) else if p1 = 7 then some (u.1 12 3) else some ((-2)) else cki (((3 : Int32) + p1) - (40 : Int32)) 7 (some (u.1 16 (ix (((3 : Int32) + p1) - (40 : Int32)))))) else ck (¬ (10 : Int32) = 0) (ck (¬ (10 : Int32) = 0) (b1 (f_X11_toldOfCellar u (p1 / (10 : Int32)) (p1 - p1 / (10 : Int32) * (10 : Int32))) (fun (x14 : Int32) => some x14)))) else ck (¬ (100 : Int32) = 0) (ck (¬ (100 : Int32) = 0) (b1 (f_X11_toldOfBarrel u ((p1 / (100 : Int32)) - (1 : Int32)) (p1 - p1 / (100 : Int32) * (100 : Int32))) (fun (x15 : Int32) => some x15)))
set_option maxRecDepth 100000 in
set_option maxHeartbeats 4000000 in
theorem c_X11_told {l : Launch} {D : va_G} {cI cJ cR : ClassId} {a : Nat → Nat} {u : St} {N : Nat} (hNN : 38 ≤ N) {p1 : Int32} {rr : Int32} (hf : f_X11_told u p1 = some rr) : Ci l yX11_told cX11_told 2 (some .int) 3 64 D (tyB cI cJ cR) N a (EB a cI cJ cR) [.ref (a 0), .int p1] u rr u := by
  refine metI (by decide +kernel) (Nat.le_of_ble_eq_true rfl) ?_
  intro p e s m args below meth c R Q hx hb hml hown hts hF hLo hret hK hN h ls hl
  have hown : s.vm.findClass RX11 = some m.cls := hown
  have hl : lv_has ls 2 [(0, .ref (a 0)), (1, .int p1)] := hl
  unfold f_X11_told at hf
  refine lv_iload_n (pc := 0) hx hb dX11_told_0 rfl (lv_at hl 1 rfl) ?_
  refine lv_bipush (pc := 1) (v := 100) hx hb dX11_told_1 (by decide) ?_
  refine lv_icmp_lt (pc := 3) (tgt := 21) hx hb dX11_told_3 (by decide) (fun c1 => ?_) (fun c1 => ?_)
  · have hf := if_t hf c1
    refine lv_iload_n (pc := 21) hx hb dX11_told_21 rfl (lv_at hl 1 rfl) ?_
    refine lv_bipush (pc := 22) (v := 10) hx hb dX11_told_22 (by decide) ?_
    refine lv_bipush (pc := 24) (v := 39) hx hb dX11_told_24 (by decide) ?_
    obtain ⟨x2, hc, hf⟩ := b1_e hf
    refine kS_X11_within (pc := 26) hNN hx hb hml hown hts hK hN hc ml_X11_70 (Nat.le_trans (by decide) hF) (Nat.le_trans (by decide) hLo) h hl.1 ⟨Nat.zero_le _, Nat.zero_le _⟩ (Nat.le_of_ble_eq_true rfl) dX11_told_26 (fun H locs h => ?_)
    refine lv_if_eq (pc := 29) (tgt := 45) hx hb dX11_told_29 (by decide) (fun c3 => ?_) (fun c3 => ?_)
    · have hf := if_t hf c3
      refine lv_iload_n (pc := 45) hx hb dX11_told_45 rfl (lv_at hl 1 rfl) ?_
      refine lv_bipush (pc := 46) (v := 40) hx hb dX11_told_46 (by decide) ?_
      refine lv_bipush (pc := 48) (v := 43) hx hb dX11_told_48 (by decide) ?_
      obtain ⟨x4, hc, hf⟩ := b1_e hf
      refine kS_X11_within (pc := 50) hNN hx hb hml hown hts hK hN hc ml_X11_70 (Nat.le_trans (by decide) hF) (Nat.le_trans (by decide) hLo) h hl.1 ⟨Nat.zero_le _, Nat.zero_le _⟩ (Nat.le_of_ble_eq_true rfl) dX11_told_50 (fun H locs h => ?_)
      refine lv_if_eq (pc := 53) (tgt := 71) hx hb dX11_told_53 (by decide) (fun c5 => ?_) (fun c5 => ?_)
      · have hf := if_t hf c5
        refine lv_iload_n (pc := 71) hx hb dX11_told_71 rfl (lv_at hl 1 rfl) ?_
        by_cases c6 : p1 = 0
        · have hf := if_t hf c6
          refine rSw (pc := 72) hx hb 120 dX11_told_72 0 c6 (by decide) (by decide) (by rfl) (by decide) ?_
          refine lv_aload_n (pc := 120) hx hb dX11_told_120 rfl (lv_at hl 0 rfl) ?_
          refine gB_0_2 (pc := 121) hNN hx hb hts hown hK h fl_X11_23 dX11_told_121 ?_
          refine gB_18_1 (pc := 124) hNN hx hb hts hown hK h fl_X11_147 dX11_told_124 ?_
          exact hret (so hf) rfl rfl dX11_told_127 h
        have hf := if_f hf c6
        by_cases c7 : p1 = 1
        · have hf := if_t hf c7
          refine rSw (pc := 72) hx hb 128 dX11_told_72 1 c7 (by decide) (by decide) (by rfl) (by decide) ?_
          refine lv_aload_n (pc := 128) hx hb dX11_told_128 rfl (lv_at hl 0 rfl) ?_
          refine gB_0_0 (pc := 129) hNN hx hb hts hown hK h fl_X11_12 dX11_told_129 ?_
          refine gB_1_0 (pc := 132) hNN hx hb hts hown hK h fl_X11_74 dX11_told_132 ?_
          refine gB_2_2 (pc := 135) hNN hx hb hts hown hK h fl_X11_78 dX11_told_135 ?_
          exact hret (so hf) rfl rfl dX11_told_138 h
        have hf := if_f hf c7
        by_cases c8 : p1 = 2
        · have hf := if_t hf c8
          refine rSw (pc := 72) hx hb 139 dX11_told_72 2 c8 (by decide) (by decide) (by rfl) (by decide) ?_
          refine lv_aload_n (pc := 139) hx hb dX11_told_139 rfl (lv_at hl 0 rfl) ?_
          refine gB_0_0 (pc := 140) hNN hx hb hts hown hK h fl_X11_12 dX11_told_140 ?_
          refine gB_1_1 (pc := 143) hNN hx hb hts hown hK h fl_X11_88 dX11_told_143 ?_
          refine gB_5_4 (pc := 146) hNN hx hb hts hown hK h fl_X11_92 dX11_told_146 ?_
          exact hret (so hf) rfl rfl dX11_told_149 h
        have hf := if_f hf c8
        by_cases c9 : p1 = 3
        · have hf := if_t hf c9
          refine rSw (pc := 72) hx hb 150 dX11_told_72 3 c9 (by decide) (by decide) (by rfl) (by decide) ?_
          refine lv_aload_n (pc := 150) hx hb dX11_told_150 rfl (lv_at hl 0 rfl) ?_
          refine gB_0_0 (pc := 151) hNN hx hb hts hown hK h fl_X11_12 dX11_told_151 ?_
          refine gB_1_4 (pc := 154) hNN hx hb hts hown hK h fl_X11_138 dX11_told_154 ?_
          refine lv_iconst (pc := 157) (v := 0) hx hb dX11_told_157 (by decide) ?_
          obtain ⟨hin, hf⟩ := cki_e hf
          refine gB_16 (pc := 158) hNN hx hb hK h hin dX11_told_158 ?_
          exact hret (so hf) rfl rfl dX11_told_159 h
        have hf := if_f hf c9
        by_cases c10 : p1 = 4
        · have hf := if_t hf c10
          refine rSw (pc := 72) hx hb 160 dX11_told_72 4 c10 (by decide) (by decide) (by rfl) (by decide) ?_
          refine lv_aload_n (pc := 160) hx hb dX11_told_160 rfl (lv_at hl 0 rfl) ?_
          refine gB_0_0 (pc := 161) hNN hx hb hts hown hK h fl_X11_12 dX11_told_161 ?_
          refine gB_1_4 (pc := 164) hNN hx hb hts hown hK h fl_X11_138 dX11_told_164 ?_
          refine lv_iconst (pc := 167) (v := 1) hx hb dX11_told_167 (by decide) ?_
          obtain ⟨hin, hf⟩ := cki_e hf
          refine gB_16 (pc := 168) hNN hx hb hK h hin dX11_told_168 ?_
          exact hret (so hf) rfl rfl dX11_told_169 h
        have hf := if_f hf c10
        by_cases c11 : p1 = 5
        · have hf := if_t hf c11
          refine rSw (pc := 72) hx hb 170 dX11_told_72 5 c11 (by decide) (by decide) (by rfl) (by decide) ?_
          refine lv_aload_n (pc := 170) hx hb dX11_told_170 rfl (lv_at hl 0 rfl) ?_
          refine gB_0_0 (pc := 171) hNN hx hb hts hown hK h fl_X11_12 dX11_told_171 ?_
          refine gB_1_4 (pc := 174) hNN hx hb hts hown hK h fl_X11_138 dX11_told_174 ?_
          refine lv_iconst (pc := 177) (v := 2) hx hb dX11_told_177 (by decide) ?_
          obtain ⟨hin, hf⟩ := cki_e hf
          refine gB_16 (pc := 178) hNN hx hb hK h hin dX11_told_178 ?_
          exact hret (so hf) rfl rfl dX11_told_179 h
        have hf := if_f hf c11
        by_cases c12 : p1 = 6
        · have hf := if_t hf c12
          refine rSw (pc := 72) hx hb 180 dX11_told_72 6 c12 (by decide) (by decide) (by rfl) (by decide) ?_
          refine lv_aload_n (pc := 180) hx hb dX11_told_180 rfl (lv_at hl 0 rfl) ?_
          refine gB_0_0 (pc := 181) hNN hx hb hts hown hK h fl_X11_12 dX11_told_181 ?_
          refine gB_1_2 (pc := 184) hNN hx hb hts hown hK h fl_X11_158 dX11_told_184 ?_
          refine gB_10_1 (pc := 187) hNN hx hb hts hown hK h fl_X11_168 dX11_told_187 ?_
          exact hret (so hf) rfl rfl dX11_told_190 h
        have hf := if_f hf c12
        by_cases c13 : p1 = 7
        · have hf := if_t hf c13
          refine rSw (pc := 72) hx hb 191 dX11_told_72 7 c13 (by decide) (by decide) (by rfl) (by decide) ?_
          refine lv_aload_n (pc := 191) hx hb dX11_told_191 rfl (lv_at hl 0 rfl) ?_
          refine gB_0_0 (pc := 192) hNN hx hb hts hown hK h fl_X11_12 dX11_told_192 ?_
          refine gB_1_3 (pc := 195) hNN hx hb hts hown hK h fl_X11_97 dX11_told_195 ?_
          refine gB_12_3 (pc := 198) hNN hx hb hts hown hK h fl_X11_101 dX11_told_198 ?_
          exact hret (so hf) rfl rfl dX11_told_201 h
        have hf := if_f hf c13
        refine lv_tableOut (pc := 72) (tgt := 202) hx hb dX11_told_72 (tbOut8 c6 c7 c8 c9 c10 c11 c12 c13) (by decide) ?_
        refine lv_bipush (pc := 202) (v := (-2)) hx hb dX11_told_202 (by decide) ?_
        exact hret (so hf) rfl rfl dX11_told_204 h
      · have hf := if_f hf c5
        refine lv_aload_n (pc := 56) hx hb dX11_told_56 rfl (lv_at hl 0 rfl) ?_
        refine gB_0_0 (pc := 57) hNN hx hb hts hown hK h fl_X11_12 dX11_told_57 ?_
        refine gB_1_4 (pc := 60) hNN hx hb hts hown hK h fl_X11_138 dX11_told_60 ?_
        refine lv_iconst (pc := 63) (v := 3) hx hb dX11_told_63 (by decide) ?_
        refine lv_iload_n (pc := 64) hx hb dX11_told_64 rfl (lv_at hl 1 rfl) ?_
        refine lv_iadd (pc := 65) hx hb dX11_told_65 ?_
        refine lv_bipush (pc := 66) (v := 40) hx hb dX11_told_66 (by decide) ?_
        refine lv_isub (pc := 68) hx hb dX11_told_68 ?_
        obtain ⟨hin, hf⟩ := cki_e hf
        refine gB_16 (pc := 69) hNN hx hb hK h hin dX11_told_69 ?_
        exact hret (so hf) rfl rfl dX11_told_70 h
    · have hf := if_f hf c3
      refine lv_aload_n (pc := 32) hx hb dX11_told_32 rfl (lv_at hl 0 rfl) ?_
      refine lv_iload_n (pc := 33) hx hb dX11_told_33 rfl (lv_at hl 1 rfl) ?_
      refine lv_bipush (pc := 34) (v := 10) hx hb dX11_told_34 (by decide) ?_
      obtain ⟨hne, hf⟩ := ck_e hf
      refine lv_idiv (pc := 36) hx hb dX11_told_36 hne ?_
      refine lv_iload_n (pc := 37) hx hb dX11_told_37 rfl (lv_at hl 1 rfl) ?_
      refine lv_bipush (pc := 38) (v := 10) hx hb dX11_told_38 (by decide) ?_
      obtain ⟨hne, hf⟩ := ck_e hf
      refine lv_irem (pc := 40) hx hb dX11_told_40 hne ?_
      obtain ⟨x14, hc, hf⟩ := b1_e hf
      refine k_X11_toldOfCellar (pc := 41) hNN hx hb hml hown hts hK hN hc ml_X11_346 (Nat.le_trans (by decide) hF) (Nat.le_trans (by decide) hLo) h hl.1 ⟨Nat.zero_le _, Nat.zero_le _⟩ (Nat.le_of_ble_eq_true rfl) dX11_told_41 (fun H locs h => ?_)
      exact hret (so hf) rfl rfl dX11_told_44 h
  · have hf := if_f hf c1
    refine lv_aload_n (pc := 6) hx hb dX11_told_6 rfl (lv_at hl 0 rfl) ?_
    refine lv_iload_n (pc := 7) hx hb dX11_told_7 rfl (lv_at hl 1 rfl) ?_
    refine lv_bipush (pc := 8) (v := 100) hx hb dX11_told_8 (by decide) ?_
    obtain ⟨hne, hf⟩ := ck_e hf
    refine lv_idiv (pc := 10) hx hb dX11_told_10 hne ?_
    refine lv_iconst (pc := 11) (v := 1) hx hb dX11_told_11 (by decide) ?_
    refine lv_isub (pc := 12) hx hb dX11_told_12 ?_
    refine lv_iload_n (pc := 13) hx hb dX11_told_13 rfl (lv_at hl 1 rfl) ?_
    refine lv_bipush (pc := 14) (v := 100) hx hb dX11_told_14 (by decide) ?_
    obtain ⟨hne, hf⟩ := ck_e hf
    refine lv_irem (pc := 16) hx hb dX11_told_16 hne ?_
    obtain ⟨x15, hc, hf⟩ := b1_e hf
    refine k_X11_toldOfBarrel (pc := 17) hNN hx hb hml hown hts hK hN hc ml_X11_343 (Nat.le_trans (by decide) hF) (Nat.le_trans (by decide) hLo) h hl.1 ⟨Nat.zero_le _, Nat.zero_le _⟩ (Nat.le_of_ble_eq_true rfl) dX11_told_17 (fun H locs h => ?_)
    exact hret (so hf) rfl rfl dX11_told_20 h
theorem k_X11_told {p : Program} {l : Launch} {e : Env} {R : Room} {s : State} {m : MethodId} {args : Array Value} {below : List Frame} {meth : Method} {c : Code} {H : Heap} {locs : List Loc} {cells slots : Nat} {Q : State → Prop} {pc : Nat} {ls : Array Slot} {rest : List Value} {cc : ByteArray} {D : va_G} {cI cJ cR : ClassId} {a : Nat → Nat} {u : St} {own : String} {index nL : Nat} {N : Nat} (hNN : 38 ≤ N) {p1 : Int32} {rr : Int32} (hx : p.tables.exec = Jvm.exec) (hb : c.code = cc) (hml : c.maxLocals = nL) (hown : s.vm.findClass own = some m.cls) (hts : ∀ w ∈ Gd, w.before args s = true) (hK : va_K D vwCl (tyB cI cJ cR) s) (hN : NB s) (hc : f_X11_told u p1 = some rr) (hlk : Cond.methodLink own index yX11_told ∈ Gd) (hF : 4 ≤ R.frames) (hLo : 85 ≤ R.locals) (h : Hh D (AB N a s.heap.size) (wX N a (EB a cI cJ cR) u) s.heap H locs) (hsize : ls.size = nL) (hcs : cells ≤ R.cells ∧ slots ≤ R.slots) (hr : (rest.map fun v => v.category).sum ≤ 8) (hdg : decode cc pc = .ok (.invokevirtual index, 3)) (kk : ∀ (H1 : Heap) (locs1 : List Loc), Hh D (AB N a s.heap.size) (wX N a (EB a cI cJ cR) u) s.heap H1 locs1 → W p l e R s m args below meth c H1 locs1 cells slots Q (F0 m (pc + 3) ls (.int rr :: rest))) : W p l e R s m args below meth c H locs cells slots Q (F0 m pc ls (.int p1 :: .ref (a 0) :: rest)) :=
  cVi (n := 1) hx hb hml hown hts hK hN (c_X11_told hNN hc) (gdV hlk im_X11_told se_X11_told in_X11 co_X11_told) rfl (by decide +kernel) rfl hF hLo h hsize hcs (Nat.lt_of_lt_of_le (by decide) hNN) rfl rfl rfl hr hdg kk
