def f_X3_isBarrel (u : St) (p1 : Int32) : Option (Int32) := b1 (f_X11_within u p1 48 55) (fun (x1 : Int32) => ck (x1 = 0 ∨ x1 = 1) (some x1))
set_option maxRecDepth 100000 in
set_option maxHeartbeats 4000000 in
theorem c_X3_isBarrel {l : Launch} {D : va_G} {cI cJ cR : ClassId} {a : Nat → Nat} {u : St} {N : Nat} (hNN : 38 ≤ N) {p1 : Int32} {rr : Int32} (hf : f_X3_isBarrel u p1 = some rr) : Ci l yX3_isBarrel cX3_isBarrel 2 (some .boolean) 1 22 D (tyB cI cJ cR) N a (EB a cI cJ cR) [.ref (a 18), .int p1] u rr u := by
  refine metI (by decide +kernel) (Nat.le_of_ble_eq_true rfl) ?_
  intro p e s m args below meth c R Q hx hb hml hown hts hF hLo hret hK hN h ls hl
  have hown : s.vm.findClass RX3 = some m.cls := hown
  have hl : lv_has ls 2 [(0, .ref (a 18)), (1, .int p1)] := hl
  unfold f_X3_isBarrel at hf
  refine lv_iload_n (pc := 0) hx hb dX3_isBarrel_0 rfl (lv_at hl 1 rfl) ?_
  refine lv_bipush (pc := 1) (v := 48) hx hb dX3_isBarrel_1 (by decide) ?_
  refine lv_bipush (pc := 3) (v := 55) hx hb dX3_isBarrel_3 (by decide) ?_
  obtain ⟨x1, hc, hf⟩ := b1_e hf
  refine kN_X11_within (pc := 5) hNN hx hb hml hown hts hK hN hc (nl_X3_19 hN) (Nat.le_trans (by decide) hF) (Nat.le_trans (by decide) hLo) h hl.1 ⟨Nat.zero_le _, Nat.zero_le _⟩ (Nat.le_of_ble_eq_true rfl) dX3_isBarrel_5 (fun H locs h => ?_)
  obtain ⟨hz, hf⟩ := ck_e hf
  exact hret (so hf) (nz hz) rfl dX3_isBarrel_8 h
theorem k_X3_isBarrel {p : Program} {l : Launch} {e : Env} {R : Room} {s : State} {m : MethodId} {args : Array Value} {below : List Frame} {meth : Method} {c : Code} {H : Heap} {locs : List Loc} {cells slots : Nat} {Q : State → Prop} {pc : Nat} {ls : Array Slot} {rest : List Value} {cc : ByteArray} {D : va_G} {cI cJ cR : ClassId} {a : Nat → Nat} {u : St} {own : String} {index nL : Nat} {N : Nat} (hNN : 38 ≤ N) {p1 : Int32} {rr : Int32} (hx : p.tables.exec = Jvm.exec) (hb : c.code = cc) (hml : c.maxLocals = nL) (hown : s.vm.findClass own = some m.cls) (hts : ∀ w ∈ Gd, w.before args s = true) (hK : va_K D vwCl (tyB cI cJ cR) s) (hN : NB s) (hc : f_X3_isBarrel u p1 = some rr) (hlk : Cond.methodLink own index yX3_isBarrel ∈ Gd) (hF : 2 ≤ R.frames) (hLo : 43 ≤ R.locals) (h : Hh D (AB N a s.heap.size) (wX N a (EB a cI cJ cR) u) s.heap H locs) (hsize : ls.size = nL) (hcs : cells ≤ R.cells ∧ slots ≤ R.slots) (hr : (rest.map fun v => v.category).sum ≤ 8) (hdg : decode cc pc = .ok (.invokevirtual index, 3)) (kk : ∀ (H1 : Heap) (locs1 : List Loc), Hh D (AB N a s.heap.size) (wX N a (EB a cI cJ cR) u) s.heap H1 locs1 → W p l e R s m args below meth c H1 locs1 cells slots Q (F0 m (pc + 3) ls (.int rr :: rest))) : W p l e R s m args below meth c H locs cells slots Q (F0 m pc ls (.int p1 :: .ref (a 18) :: rest)) :=
  cVi (n := 1) hx hb hml hown hts hK hN (c_X3_isBarrel hNN hc) (gdV hlk im_X3_isBarrel se_X3_isBarrel in_X3 co_X3_isBarrel) rfl (by decide +kernel) rfl hF hLo h hsize hcs (Nat.lt_of_lt_of_le (by decide) hNN) rfl rfl rfl hr hdg kk
def f_X9_workOf (u : St) (p1 : Int32) (p2 : Int32) (p3 : Int32) : Option (Int32) := cki p2 6 (cki p3 6 (bs (abI ((u.1 3 (ix p2)) - (u.1 3 (ix p3)))) (fun x1 : Int32 => cki p1 8 (some ((u.1 7 (ix p1)) * (x1 + (1 : Int32)))))))
set_option maxRecDepth 100000 in
set_option maxHeartbeats 4000000 in
theorem c_X9_workOf {l : Launch} {D : va_G} {cI cJ cR : ClassId} {a : Nat → Nat} {u : St} {N : Nat} (hNN : 38 ≤ N) {p1 : Int32} {p2 : Int32} {p3 : Int32} {rr : Int32} (hf : f_X9_workOf u p1 p2 p3 = some rr) : Ci l yX9_workOf cX9_workOf 5 (some .int) 1 21 D (tyB cI cJ cR) N a (EB a cI cJ cR) [.ref (a 1), .int p1, .int p2, .int p3] u rr u := by
  refine metI (by decide +kernel) (Nat.le_of_ble_eq_true rfl) ?_
  intro p e s m args below meth c R Q hx hb hml hown hts hF hLo hret hK hN h ls hl
  have hown : s.vm.findClass RX9 = some m.cls := hown
  have hl : lv_has ls 5 [(0, .ref (a 1)), (1, .int p1), (2, .int p2), (3, .int p3)] := hl
  unfold f_X9_workOf at hf
  refine lv_aload_n (pc := 0) hx hb dX9_workOf_0 rfl (lv_at hl 0 rfl) ?_
  refine gB_1_0 (pc := 1) hNN hx hb hts hown hK h fl_X9_12 dX9_workOf_1 ?_
  refine gB_2_0 (pc := 4) hNN hx hb hts hown hK h fl_X9_75 dX9_workOf_4 ?_
  refine lv_iload_n (pc := 7) hx hb dX9_workOf_7 rfl (lv_at hl 2 rfl) ?_
  obtain ⟨hin, hf⟩ := cki_e hf
  refine gB_3 (pc := 8) hNN hx hb hK h hin dX9_workOf_8 ?_
  refine lv_aload_n (pc := 9) hx hb dX9_workOf_9 rfl (lv_at hl 0 rfl) ?_
  refine gB_1_0 (pc := 10) hNN hx hb hts hown hK h fl_X9_12 dX9_workOf_10 ?_
  refine gB_2_0 (pc := 13) hNN hx hb hts hown hK h fl_X9_75 dX9_workOf_13 ?_
  refine lv_iload_n (pc := 16) hx hb dX9_workOf_16 rfl (lv_at hl 3 rfl) ?_
  obtain ⟨hin, hf⟩ := cki_e hf
  refine gB_3 (pc := 17) hNN hx hb hK h hin dX9_workOf_17 ?_
  refine lv_isub (pc := 18) hx hb dX9_workOf_18 ?_
  refine rMabs (pc := 19) hx hb (hml.trans hl.1.symm) hown hts ml_X9_62 (Nat.le_trans (by decide) hF) (Nat.le_trans (by decide) hLo) (Nat.le_of_ble_eq_true rfl) ⟨Nat.zero_le _, Nat.zero_le _⟩ dX9_workOf_19 ?_
  obtain ⟨x1, ex1, hf⟩ := bs_e hf
  refine rTop ex1 ?_
  refine lv_istore (pc := 22) (lv' := [(4, .int x1), (0, .ref (a 1)), (1, .int p1), (2, .int p2), (3, .int p3)]) hx hb dX9_workOf_22 hl (by decide) rfl (fun ls hl => ?_)
  refine lv_aload_n (pc := 24) hx hb dX9_workOf_24 rfl (lv_at hl 1 rfl) ?_
  refine gB_1_1 (pc := 25) hNN hx hb hts hown hK h fl_X9_21 dX9_workOf_25 ?_
  refine gB_5_1 (pc := 28) hNN hx hb hts hown hK h fl_X9_68 dX9_workOf_28 ?_
  refine lv_iload_n (pc := 31) hx hb dX9_workOf_31 rfl (lv_at hl 2 rfl) ?_
  obtain ⟨hin, hf⟩ := cki_e hf
  refine gB_7 (pc := 32) hNN hx hb hK h hin dX9_workOf_32 ?_
  refine lv_iload (pc := 33) hx hb dX9_workOf_33 (lv_at hl 0 rfl) ?_
  refine lv_iconst (pc := 35) (v := 1) hx hb dX9_workOf_35 (by decide) ?_
  refine lv_iadd (pc := 36) hx hb dX9_workOf_36 ?_
  refine lv_imul (pc := 37) hx hb dX9_workOf_37 ?_
  exact hret (so hf) rfl rfl dX9_workOf_38 h
theorem k_X9_workOf {p : Program} {l : Launch} {e : Env} {R : Room} {s : State} {m : MethodId} {args : Array Value} {below : List Frame} {meth : Method} {c : Code} {H : Heap} {locs : List Loc} {cells slots : Nat} {Q : State → Prop} {pc : Nat} {ls : Array Slot} {rest : List Value} {cc : ByteArray} {D : va_G} {cI cJ cR : ClassId} {a : Nat → Nat} {u : St} {own : String} {index nL : Nat} {N : Nat} (hNN : 38 ≤ N) {p1 : Int32} {p2 : Int32} {p3 : Int32} {rr : Int32} (hx : p.tables.exec = Jvm.exec) (hb : c.code = cc) (hml : c.maxLocals = nL) (hown : s.vm.findClass own = some m.cls) (hts : ∀ w ∈ Gd, w.before args s = true) (hK : va_K D vwCl (tyB cI cJ cR) s) (hN : NB s) (hc : f_X9_workOf u p1 p2 p3 = some rr) (hlk : Cond.methodLink own index yX9_workOf ∈ Gd) (hF : 2 ≤ R.frames) (hLo : 45 ≤ R.locals) (h : Hh D (AB N a s.heap.size) (wX N a (EB a cI cJ cR) u) s.heap H locs) (hsize : ls.size = nL) (hcs : cells ≤ R.cells ∧ slots ≤ R.slots) (hr : (rest.map fun v => v.category).sum ≤ 8) (hdg : decode cc pc = .ok (.invokevirtual index, 3)) (kk : ∀ (H1 : Heap) (locs1 : List Loc), Hh D (AB N a s.heap.size) (wX N a (EB a cI cJ cR) u) s.heap H1 locs1 → W p l e R s m args below meth c H1 locs1 cells slots Q (F0 m (pc + 3) ls (.int rr :: rest))) : W p l e R s m args below meth c H locs cells slots Q (F0 m pc ls (.int p3 :: .int p2 :: .int p1 :: .ref (a 1) :: rest)) :=
  cVi (n := 3) hx hb hml hown hts hK hN (c_X9_workOf hNN hc) (gdV hlk im_X9_workOf se_X9_workOf in_X9 co_X9_workOf) rfl (by decide +kernel) rfl hF hLo h hsize hcs (Nat.lt_of_lt_of_le (by decide) hNN) rfl rfl rfl hr hdg kk
def f_X1_whyNot (u : St) (p1 : Int32) (p2 : Int32) (p3 : Int32) : Option (Int32) := b1 (f_X7_has u p1) (fun (x1 : Int32) => if x1 = 0 then some 1 else cki p1 8 (b1 (f_X10_has u (u.1 22 (ix p1))) (fun (x3 : Int32) => if x3 = 0 then some 1 else cki p1 8 (if (u.1 22 (ix p1)) = p2 then some 2 else b1 (f_X10_has u p2) (fun (x6 : Int32) => if x6 = 0 then some 3 else cki p2 6 (cki p2 6 (if (u.1 24 (ix p2)) < (u.1 4 (ix p2)) then cki p1 8 (b1 (f_X9_workOf u p1 (u.1 22 (ix p1)) p2) (fun (x9 : Int32) => if ((u.1 21 9) + x9) ≤ p3 then some 0 else some 4)) else some 3)))))))
set_option maxRecDepth 100000 in
set_option maxHeartbeats 4000000 in
theorem c_X1_whyNot {l : Launch} {D : va_G} {cI cJ cR : ClassId} {a : Nat → Nat} {u : St} {N : Nat} (hNN : 38 ≤ N) {p1 : Int32} {p2 : Int32} {p3 : Int32} {rr : Int32} (hf : f_X1_whyNot u p1 p2 p3 = some rr) : Ci l yX1_whyNot cX1_whyNot 4 (some .int) 2 45 D (tyB cI cJ cR) N a (EB a cI cJ cR) [.ref (a 21), .int p1, .int p2, .int p3] u rr u := by
  refine metI (by decide +kernel) (Nat.le_of_ble_eq_true rfl) ?_
  intro p e s m args below meth c R Q hx hb hml hown hts hF hLo hret hK hN h ls hl
  have hown : s.vm.findClass RX1 = some m.cls := hown
  have hl : lv_has ls 4 [(0, .ref (a 21)), (1, .int p1), (2, .int p2), (3, .int p3)] := hl
  unfold f_X1_whyNot at hf
  refine lv_aload_n (pc := 0) hx hb dX1_whyNot_0 rfl (lv_at hl 0 rfl) ?_
  refine gB_21_0 (pc := 1) hNN hx hb hts hown hK h fl_X1_21 dX1_whyNot_1 ?_
  refine gB_1_1 (pc := 4) hNN hx hb hts hown hK h fl_X1_33 dX1_whyNot_4 ?_
  refine lv_iload_n (pc := 7) hx hb dX1_whyNot_7 rfl (lv_at hl 1 rfl) ?_
  obtain ⟨x1, hc, hf⟩ := b1_e hf
  refine k_X7_has (pc := 8) hNN hx hb hml hown hts hK hN hc ml_X1_48 (Nat.le_trans (by decide) hF) (Nat.le_trans (by decide) hLo) h hl.1 ⟨Nat.zero_le _, Nat.zero_le _⟩ (Nat.le_of_ble_eq_true rfl) dX1_whyNot_8 (fun H locs h => ?_)
  refine lv_if_eq (pc := 11) (tgt := 33) hx hb dX1_whyNot_11 (by decide) (fun c2 => ?_) (fun c2 => ?_)
  · have hf := if_t hf c2
    refine lv_iconst (pc := 33) (v := 1) hx hb dX1_whyNot_33 (by decide) ?_
    exact hret (so hf) rfl rfl dX1_whyNot_34 h
  · have hf := if_f hf c2
    refine lv_aload_n (pc := 14) hx hb dX1_whyNot_14 rfl (lv_at hl 0 rfl) ?_
    refine gB_21_0 (pc := 15) hNN hx hb hts hown hK h fl_X1_21 dX1_whyNot_15 ?_
    refine gB_1_0 (pc := 18) hNN hx hb hts hown hK h fl_X1_130 dX1_whyNot_18 ?_
    refine lv_aload_n (pc := 21) hx hb dX1_whyNot_21 rfl (lv_at hl 0 rfl) ?_
    refine gB_21_2 (pc := 22) hNN hx hb hts hown hK h fl_X1_9 dX1_whyNot_22 ?_
    refine lv_iload_n (pc := 25) hx hb dX1_whyNot_25 rfl (lv_at hl 1 rfl) ?_
    obtain ⟨hin, hf⟩ := cki_e hf
    refine gB_22 (pc := 26) hNN hx hb hK h hin dX1_whyNot_26 ?_
    obtain ⟨x3, hc, hf⟩ := b1_e hf
    refine k_X10_has (pc := 27) hNN hx hb hml hown hts hK hN hc ml_X1_134 (Nat.le_trans (by decide) hF) (Nat.le_trans (by decide) hLo) h hl.1 ⟨Nat.zero_le _, Nat.zero_le _⟩ (Nat.le_of_ble_eq_true rfl) dX1_whyNot_27 (fun H locs h => ?_)
    refine lv_if_ne (pc := 30) (tgt := 35) hx hb dX1_whyNot_30 (by decide) (fun c4 => ?_) (fun c4 => ?_)
    · have hf := if_f hf c4
      refine lv_aload_n (pc := 35) hx hb dX1_whyNot_35 rfl (lv_at hl 0 rfl) ?_
      refine gB_21_2 (pc := 36) hNN hx hb hts hown hK h fl_X1_9 dX1_whyNot_36 ?_
      refine lv_iload_n (pc := 39) hx hb dX1_whyNot_39 rfl (lv_at hl 1 rfl) ?_
      obtain ⟨hin, hf⟩ := cki_e hf
      refine gB_22 (pc := 40) hNN hx hb hK h hin dX1_whyNot_40 ?_
      refine lv_iload_n (pc := 41) hx hb dX1_whyNot_41 rfl (lv_at hl 2 rfl) ?_
      refine lv_icmp_ne (pc := 42) (tgt := 47) hx hb dX1_whyNot_42 (by decide) (fun c5 => ?_) (fun c5 => ?_)
      · have hf := if_f hf c5
        refine lv_aload_n (pc := 47) hx hb dX1_whyNot_47 rfl (lv_at hl 0 rfl) ?_
        refine gB_21_0 (pc := 48) hNN hx hb hts hown hK h fl_X1_21 dX1_whyNot_48 ?_
        refine gB_1_0 (pc := 51) hNN hx hb hts hown hK h fl_X1_130 dX1_whyNot_51 ?_
        refine lv_iload_n (pc := 54) hx hb dX1_whyNot_54 rfl (lv_at hl 2 rfl) ?_
        obtain ⟨x6, hc, hf⟩ := b1_e hf
        refine k_X10_has (pc := 55) hNN hx hb hml hown hts hK hN hc ml_X1_134 (Nat.le_trans (by decide) hF) (Nat.le_trans (by decide) hLo) h hl.1 ⟨Nat.zero_le _, Nat.zero_le _⟩ (Nat.le_of_ble_eq_true rfl) dX1_whyNot_55 (fun H locs h => ?_)
        refine lv_if_eq (pc := 58) (tgt := 82) hx hb dX1_whyNot_58 (by decide) (fun c7 => ?_) (fun c7 => ?_)
        · have hf := if_t hf c7
          refine lv_iconst (pc := 82) (v := 3) hx hb dX1_whyNot_82 (by decide) ?_
          exact hret (so hf) rfl rfl dX1_whyNot_83 h
        · have hf := if_f hf c7
          refine lv_aload_n (pc := 61) hx hb dX1_whyNot_61 rfl (lv_at hl 0 rfl) ?_
          refine gB_21_4 (pc := 62) hNN hx hb hts hown hK h fl_X1_18 dX1_whyNot_62 ?_
          refine lv_iload_n (pc := 65) hx hb dX1_whyNot_65 rfl (lv_at hl 2 rfl) ?_
          obtain ⟨hin, hf⟩ := cki_e hf
          refine gB_24 (pc := 66) hNN hx hb hK h hin dX1_whyNot_66 ?_
          refine lv_aload_n (pc := 67) hx hb dX1_whyNot_67 rfl (lv_at hl 0 rfl) ?_
          refine gB_21_0 (pc := 68) hNN hx hb hts hown hK h fl_X1_21 dX1_whyNot_68 ?_
          refine gB_1_0 (pc := 71) hNN hx hb hts hown hK h fl_X1_130 dX1_whyNot_71 ?_
          refine gB_2_1 (pc := 74) hNN hx hb hts hown hK h fl_X1_137 dX1_whyNot_74 ?_
          refine lv_iload_n (pc := 77) hx hb dX1_whyNot_77 rfl (lv_at hl 2 rfl) ?_
          obtain ⟨hin, hf⟩ := cki_e hf
          refine gB_4 (pc := 78) hNN hx hb hK h hin dX1_whyNot_78 ?_
          refine lv_icmp_lt (pc := 79) (tgt := 84) hx hb dX1_whyNot_79 (by decide) (fun c8 => ?_) (fun c8 => ?_)
          · have hf := if_t hf c8
            refine lv_aload_n (pc := 84) hx hb dX1_whyNot_84 rfl (lv_at hl 0 rfl) ?_
            refine gB_21_9 (pc := 85) hNN hx hb hts hown hK h fl_X1_99 dX1_whyNot_85 ?_
            refine lv_aload_n (pc := 88) hx hb dX1_whyNot_88 rfl (lv_at hl 0 rfl) ?_
            refine gB_21_0 (pc := 89) hNN hx hb hts hown hK h fl_X1_21 dX1_whyNot_89 ?_
            refine lv_iload_n (pc := 92) hx hb dX1_whyNot_92 rfl (lv_at hl 1 rfl) ?_
            refine lv_aload_n (pc := 93) hx hb dX1_whyNot_93 rfl (lv_at hl 0 rfl) ?_
            refine gB_21_2 (pc := 94) hNN hx hb hts hown hK h fl_X1_9 dX1_whyNot_94 ?_
            refine lv_iload_n (pc := 97) hx hb dX1_whyNot_97 rfl (lv_at hl 1 rfl) ?_
            obtain ⟨hin, hf⟩ := cki_e hf
            refine gB_22 (pc := 98) hNN hx hb hK h hin dX1_whyNot_98 ?_
            refine lv_iload_n (pc := 99) hx hb dX1_whyNot_99 rfl (lv_at hl 2 rfl) ?_
            obtain ⟨x9, hc, hf⟩ := b1_e hf
            refine k_X9_workOf (pc := 100) hNN hx hb hml hown hts hK hN hc ml_X1_124 (Nat.le_trans (by decide) hF) (Nat.le_trans (by decide) hLo) h hl.1 ⟨Nat.zero_le _, Nat.zero_le _⟩ (Nat.le_of_ble_eq_true rfl) dX1_whyNot_100 (fun H locs h => ?_)
            refine lv_iadd (pc := 103) hx hb dX1_whyNot_103 ?_
            refine lv_iload_n (pc := 104) hx hb dX1_whyNot_104 rfl (lv_at hl 3 rfl) ?_
            refine lv_icmp_le (pc := 105) (tgt := 112) hx hb dX1_whyNot_105 (by decide) (fun c10 => ?_) (fun c10 => ?_)
            · have hf := if_t hf c10
              refine lv_iconst (pc := 112) (v := 0) hx hb dX1_whyNot_112 (by decide) ?_
              exact hret (so hf) rfl rfl dX1_whyNot_113 h
            · have hf := if_f hf c10
              refine lv_iconst (pc := 108) (v := 4) hx hb dX1_whyNot_108 (by decide) ?_
              refine lv_goto (pc := 109) (tgt := 113) hx hb dX1_whyNot_109 (by decide) ?_
              exact hret (so hf) rfl rfl dX1_whyNot_113 h
          · have hf := if_f hf c8
            refine lv_iconst (pc := 82) (v := 3) hx hb dX1_whyNot_82 (by decide) ?_
            exact hret (so hf) rfl rfl dX1_whyNot_83 h
      · have hf := if_t hf c5
        refine lv_iconst (pc := 45) (v := 2) hx hb dX1_whyNot_45 (by decide) ?_
        exact hret (so hf) rfl rfl dX1_whyNot_46 h
    · have hf := if_t hf c4
      refine lv_iconst (pc := 33) (v := 1) hx hb dX1_whyNot_33 (by decide) ?_
      exact hret (so hf) rfl rfl dX1_whyNot_34 h
theorem k_X1_whyNot {p : Program} {l : Launch} {e : Env} {R : Room} {s : State} {m : MethodId} {args : Array Value} {below : List Frame} {meth : Method} {c : Code} {H : Heap} {locs : List Loc} {cells slots : Nat} {Q : State → Prop} {pc : Nat} {ls : Array Slot} {rest : List Value} {cc : ByteArray} {D : va_G} {cI cJ cR : ClassId} {a : Nat → Nat} {u : St} {own : String} {index nL : Nat} {N : Nat} (hNN : 38 ≤ N) {p1 : Int32} {p2 : Int32} {p3 : Int32} {rr : Int32} (hx : p.tables.exec = Jvm.exec) (hb : c.code = cc) (hml : c.maxLocals = nL) (hown : s.vm.findClass own = some m.cls) (hts : ∀ w ∈ Gd, w.before args s = true) (hK : va_K D vwCl (tyB cI cJ cR) s) (hN : NB s) (hc : f_X1_whyNot u p1 p2 p3 = some rr) (hlk : Cond.methodLink own index yX1_whyNot ∈ Gd) (hF : 3 ≤ R.frames) (hLo : 68 ≤ R.locals) (h : Hh D (AB N a s.heap.size) (wX N a (EB a cI cJ cR) u) s.heap H locs) (hsize : ls.size = nL) (hcs : cells ≤ R.cells ∧ slots ≤ R.slots) (hr : (rest.map fun v => v.category).sum ≤ 8) (hdg : decode cc pc = .ok (.invokevirtual index, 3)) (kk : ∀ (H1 : Heap) (locs1 : List Loc), Hh D (AB N a s.heap.size) (wX N a (EB a cI cJ cR) u) s.heap H1 locs1 → W p l e R s m args below meth c H1 locs1 cells slots Q (F0 m (pc + 3) ls (.int rr :: rest))) : W p l e R s m args below meth c H locs cells slots Q (F0 m pc ls (.int p3 :: .int p2 :: .int p1 :: .ref (a 21) :: rest)) :=
  cVi (n := 3) hx hb hml hown hts hK hN (c_X1_whyNot hNN hc) (gdV hlk im_X1_whyNot se_X1_whyNot in_X1 co_X1_whyNot) rfl (by decide +kernel) rfl hF hLo h hsize hcs (Nat.lt_of_lt_of_le (by decide) hNN) rfl rfl rfl hr hdg kk
def f_X1_move (u : St) (p1 : Int32) (p2 : Int32) (p3 : Int32) : Option (St) := b1 (f_X1_whyNot u p1 p2 p3) (fun (x1 : Int32) => bs (sI u 21 7 x1) (fun u2 : St => if (u2.1 21 7) = 0 then cki p1 8 (b1 (f_X9_workOf u2 p1 (u2.1 22 (ix p1)) p2) (fun (x4 : Int32) => bs (sI u2 21 8 ((u2.1 21 8) + x4)) (fun u5 : St => bs (sI u5 21 9 ((u5.1 21 9) + x4)) (fun u6 : St => bs (sI u6 21 10 (mxI (u6.1 21 10) (u6.1 21 9))) (fun u7 : St => cki p1 8 (cki (u7.1 22 (ix p1)) 6 (cki (u7.1 22 (ix p1)) 6 (bs (sI u7 24 (ix (u7.1 22 (ix p1))) ((u7.1 24 (ix (u7.1 22 (ix p1)))) - (1 : Int32))) (fun u8 : St => cki p2 6 (cki p2 6 (bs (sI u8 24 (ix p2) ((u8.1 24 (ix p2)) + (1 : Int32))) (fun u9 : St => cki p1 8 (bs (sI u9 22 (ix p1) p2) (fun u10 : St => bs (sI u10 21 6 ((u10.1 21 6) + (1 : Int32))) (fun u11 : St => some u11))))))))))))))) else some u2))
set_option maxRecDepth 100000 in
set_option maxHeartbeats 4000000 in
theorem c_X1_move {l : Launch} {D : va_G} {cI cJ cR : ClassId} {a : Nat → Nat} {u : St} {N : Nat} (hNN : 38 ≤ N) {p1 : Int32} {p2 : Int32} {p3 : Int32} {uu : St} (hf : f_X1_move u p1 p2 p3 = some uu) : Cv l yX1_move cX1_move 5 none 3 68 D (tyB cI cJ cR) N a (EB a cI cJ cR) [.ref (a 21), .int p1, .int p2, .int p3] u uu := by
  refine metV (by decide +kernel) (Nat.le_of_ble_eq_true rfl) ?_
  intro p e s m args below meth c R Q hx hb hml hown hts hF hLo hret hK hN h ls hl
  have hown : s.vm.findClass RX1 = some m.cls := hown
  have hl : lv_has ls 5 [(0, .ref (a 21)), (1, .int p1), (2, .int p2), (3, .int p3)] := hl
  unfold f_X1_move at hf
  refine lv_aload_n (pc := 0) hx hb dX1_move_0 rfl (lv_at hl 0 rfl) ?_
  refine lv_aload_n (pc := 1) hx hb dX1_move_1 rfl (lv_at hl 0 rfl) ?_
  refine lv_iload_n (pc := 2) hx hb dX1_move_2 rfl (lv_at hl 1 rfl) ?_
  refine lv_iload_n (pc := 3) hx hb dX1_move_3 rfl (lv_at hl 2 rfl) ?_
  refine lv_iload_n (pc := 4) hx hb dX1_move_4 rfl (lv_at hl 3 rfl) ?_
  obtain ⟨x1, hc, hf⟩ := b1_e hf
  refine k_X1_whyNot (pc := 5) hNN hx hb hml hown hts hK hN hc ml_X1_121 (Nat.le_trans (by decide) hF) (Nat.le_trans (by decide) hLo) h hl.1 ⟨Nat.zero_le _, Nat.zero_le _⟩ (Nat.le_of_ble_eq_true rfl) dX1_move_5 (fun H locs h => ?_)
  refine pB_21_7 (pc := 8) hNN hx hb hts hown hK h fl_X1_89 dX1_move_8 (fun H locs h => ?_)
  obtain ⟨u2, eu2, hf⟩ := bs_e hf
  rw [← eu2] at h
  refine lv_aload_n (pc := 11) hx hb dX1_move_11 rfl (lv_at hl 0 rfl) ?_
  refine gB_21_7 (pc := 12) hNN hx hb hts hown hK h fl_X1_89 dX1_move_12 ?_
  refine lv_if_eq (pc := 15) (tgt := 19) hx hb dX1_move_15 (by decide) (fun c3 => ?_) (fun c3 => ?_)
  · have hf := if_t hf c3
    refine lv_aload_n (pc := 19) hx hb dX1_move_19 rfl (lv_at hl 0 rfl) ?_
    refine gB_21_0 (pc := 20) hNN hx hb hts hown hK h fl_X1_21 dX1_move_20 ?_
    refine lv_iload_n (pc := 23) hx hb dX1_move_23 rfl (lv_at hl 1 rfl) ?_
    refine lv_aload_n (pc := 24) hx hb dX1_move_24 rfl (lv_at hl 0 rfl) ?_
    refine gB_21_2 (pc := 25) hNN hx hb hts hown hK h fl_X1_9 dX1_move_25 ?_
    refine lv_iload_n (pc := 28) hx hb dX1_move_28 rfl (lv_at hl 1 rfl) ?_
    obtain ⟨hin, hf⟩ := cki_e hf
    refine gB_22 (pc := 29) hNN hx hb hK h hin dX1_move_29 ?_
    refine lv_iload_n (pc := 30) hx hb dX1_move_30 rfl (lv_at hl 2 rfl) ?_
    obtain ⟨x4, hc, hf⟩ := b1_e hf
    refine k_X9_workOf (pc := 31) hNN hx hb hml hown hts hK hN hc ml_X1_124 (Nat.le_trans (by decide) hF) (Nat.le_trans (by decide) hLo) h hl.1 ⟨Nat.zero_le _, Nat.zero_le _⟩ (Nat.le_of_ble_eq_true rfl) dX1_move_31 (fun H locs h => ?_)
    refine lv_istore (pc := 34) (lv' := [(4, .int x4), (0, .ref (a 21)), (1, .int p1), (2, .int p2), (3, .int p3)]) hx hb dX1_move_34 hl (by decide) rfl (fun ls hl => ?_)
    refine lv_aload_n (pc := 36) hx hb dX1_move_36 rfl (lv_at hl 1 rfl) ?_
    refine lv_dup (pc := 37) hx hb dX1_move_37 rfl ?_
    refine gB_21_8 (pc := 38) hNN hx hb hts hown hK h fl_X1_112 dX1_move_38 ?_
    refine lv_iload (pc := 41) hx hb dX1_move_41 (lv_at hl 0 rfl) ?_
    refine lv_iadd (pc := 43) hx hb dX1_move_43 ?_
    refine pB_21_8 (pc := 44) hNN hx hb hts hown hK h fl_X1_112 dX1_move_44 (fun H locs h => ?_)
    obtain ⟨u5, eu5, hf⟩ := bs_e hf
    rw [← eu5] at h
    refine lv_aload_n (pc := 47) hx hb dX1_move_47 rfl (lv_at hl 1 rfl) ?_
    refine lv_dup (pc := 48) hx hb dX1_move_48 rfl ?_
    refine gB_21_9 (pc := 49) hNN hx hb hts hown hK h fl_X1_99 dX1_move_49 ?_
    refine lv_iload (pc := 52) hx hb dX1_move_52 (lv_at hl 0 rfl) ?_
    refine lv_iadd (pc := 54) hx hb dX1_move_54 ?_
    refine pB_21_9 (pc := 55) hNN hx hb hts hown hK h fl_X1_99 dX1_move_55 (fun H locs h => ?_)
    obtain ⟨u6, eu6, hf⟩ := bs_e hf
    rw [← eu6] at h
    refine lv_aload_n (pc := 58) hx hb dX1_move_58 rfl (lv_at hl 1 rfl) ?_
    refine lv_aload_n (pc := 59) hx hb dX1_move_59 rfl (lv_at hl 1 rfl) ?_
    refine gB_21_10 (pc := 60) hNN hx hb hts hown hK h fl_X1_115 dX1_move_60 ?_
    refine lv_aload_n (pc := 63) hx hb dX1_move_63 rfl (lv_at hl 1 rfl) ?_
    refine gB_21_9 (pc := 64) hNN hx hb hts hown hK h fl_X1_99 dX1_move_64 ?_
    refine rMmax (pc := 67) hx hb (hml.trans hl.1.symm) hown hts ml_X1_127 (Nat.le_trans (by decide) hF) (Nat.le_trans (by decide) hLo) (Nat.le_of_ble_eq_true rfl) ⟨Nat.zero_le _, Nat.zero_le _⟩ dX1_move_67 ?_
    refine pB_21_10 (pc := 70) hNN hx hb hts hown hK h fl_X1_115 dX1_move_70 (fun H locs h => ?_)
    obtain ⟨u7, eu7, hf⟩ := bs_e hf
    rw [← eu7] at h
    refine lv_aload_n (pc := 73) hx hb dX1_move_73 rfl (lv_at hl 1 rfl) ?_
    refine gB_21_4 (pc := 74) hNN hx hb hts hown hK h fl_X1_18 dX1_move_74 ?_
    refine lv_aload_n (pc := 77) hx hb dX1_move_77 rfl (lv_at hl 1 rfl) ?_
    refine gB_21_2 (pc := 78) hNN hx hb hts hown hK h fl_X1_9 dX1_move_78 ?_
    refine lv_iload_n (pc := 81) hx hb dX1_move_81 rfl (lv_at hl 2 rfl) ?_
    obtain ⟨hin, hf⟩ := cki_e hf
    refine gB_22 (pc := 82) hNN hx hb hK h hin dX1_move_82 ?_
    refine lv_dup2_11 (pc := 83) hx hb dX1_move_83 rfl rfl ?_
    obtain ⟨hin, hf⟩ := cki_e hf
    refine gB_24 (pc := 84) hNN hx hb hK h hin dX1_move_84 ?_
    refine lv_iconst (pc := 85) (v := 1) hx hb dX1_move_85 (by decide) ?_
    refine lv_isub (pc := 86) hx hb dX1_move_86 ?_
    obtain ⟨hin, hf⟩ := cki_e hf
    refine pB_24 (pc := 87) hNN hx hb hK h hin dX1_move_87 (fun H locs h => ?_)
    obtain ⟨u8, eu8, hf⟩ := bs_e hf
    rw [← eu8] at h
    refine lv_aload_n (pc := 88) hx hb dX1_move_88 rfl (lv_at hl 1 rfl) ?_
    refine gB_21_4 (pc := 89) hNN hx hb hts hown hK h fl_X1_18 dX1_move_89 ?_
    refine lv_iload_n (pc := 92) hx hb dX1_move_92 rfl (lv_at hl 3 rfl) ?_
    refine lv_dup2_11 (pc := 93) hx hb dX1_move_93 rfl rfl ?_
    obtain ⟨hin, hf⟩ := cki_e hf
    refine gB_24 (pc := 94) hNN hx hb hK h hin dX1_move_94 ?_
    refine lv_iconst (pc := 95) (v := 1) hx hb dX1_move_95 (by decide) ?_
    refine lv_iadd (pc := 96) hx hb dX1_move_96 ?_
    obtain ⟨hin, hf⟩ := cki_e hf
    refine pB_24 (pc := 97) hNN hx hb hK h hin dX1_move_97 (fun H locs h => ?_)
    obtain ⟨u9, eu9, hf⟩ := bs_e hf
    rw [← eu9] at h
    refine lv_aload_n (pc := 98) hx hb dX1_move_98 rfl (lv_at hl 1 rfl) ?_
    refine gB_21_2 (pc := 99) hNN hx hb hts hown hK h fl_X1_9 dX1_move_99 ?_
    refine lv_iload_n (pc := 102) hx hb dX1_move_102 rfl (lv_at hl 2 rfl) ?_
    refine lv_iload_n (pc := 103) hx hb dX1_move_103 rfl (lv_at hl 3 rfl) ?_
    obtain ⟨hin, hf⟩ := cki_e hf
    refine pB_22 (pc := 104) hNN hx hb hK h hin dX1_move_104 (fun H locs h => ?_)
    obtain ⟨u10, eu10, hf⟩ := bs_e hf
    rw [← eu10] at h
    refine lv_aload_n (pc := 105) hx hb dX1_move_105 rfl (lv_at hl 1 rfl) ?_
    refine lv_dup (pc := 106) hx hb dX1_move_106 rfl ?_
    refine gB_21_6 (pc := 107) hNN hx hb hts hown hK h fl_X1_102 dX1_move_107 ?_
    refine lv_iconst (pc := 110) (v := 1) hx hb dX1_move_110 (by decide) ?_
    refine lv_iadd (pc := 111) hx hb dX1_move_111 ?_
    refine pB_21_6 (pc := 112) hNN hx hb hts hown hK h fl_X1_102 dX1_move_112 (fun H locs h => ?_)
    obtain ⟨u11, eu11, hf⟩ := bs_e hf
    rw [← eu11] at h
    exact hret (so hf) dX1_move_115 h
  · have hf := if_f hf c3
    exact hret (so hf) dX1_move_18 h
theorem k_X1_move {p : Program} {l : Launch} {e : Env} {R : Room} {s : State} {m : MethodId} {args : Array Value} {below : List Frame} {meth : Method} {c : Code} {H : Heap} {locs : List Loc} {cells slots : Nat} {Q : State → Prop} {pc : Nat} {ls : Array Slot} {rest : List Value} {cc : ByteArray} {D : va_G} {cI cJ cR : ClassId} {a : Nat → Nat} {u : St} {own : String} {index nL : Nat} {N : Nat} (hNN : 38 ≤ N) {p1 : Int32} {p2 : Int32} {p3 : Int32} {uu : St} (hx : p.tables.exec = Jvm.exec) (hb : c.code = cc) (hml : c.maxLocals = nL) (hown : s.vm.findClass own = some m.cls) (hts : ∀ w ∈ Gd, w.before args s = true) (hK : va_K D vwCl (tyB cI cJ cR) s) (hN : NB s) (hc : f_X1_move u p1 p2 p3 = some uu) (hlk : Cond.methodLink own index yX1_move ∈ Gd) (hF : 4 ≤ R.frames) (hLo : 92 ≤ R.locals) (h : Hh D (AB N a s.heap.size) (wX N a (EB a cI cJ cR) u) s.heap H locs) (hsize : ls.size = nL) (hcs : cells ≤ R.cells ∧ slots ≤ R.slots) (hr : (rest.map fun v => v.category).sum ≤ 8) (hdg : decode cc pc = .ok (.invokevirtual index, 3)) (kk : ∀ (H1 : Heap) (locs1 : List Loc), Hh D (AB N a s.heap.size) (wX N a (EB a cI cJ cR) uu) s.heap H1 locs1 → W p l e R s m args below meth c H1 locs1 cells slots Q (F0 m (pc + 3) ls (rest))) : W p l e R s m args below meth c H locs cells slots Q (F0 m pc ls (.int p3 :: .int p2 :: .int p1 :: .ref (a 21) :: rest)) :=
  cVv (n := 3) hx hb hml hown hts hK hN (c_X1_move hNN hc) (gdV hlk im_X1_move se_X1_move in_X1 co_X1_move) rfl (by decide +kernel) rfl hF hLo h hsize hcs (Nat.lt_of_lt_of_le (by decide) hNN) rfl rfl rfl hr hdg kk
def B_X1_follow_13 (p2 : Int32) (k6 : St → Option (St)) (rec8 : St → Int32 → Int32 → Option (St)) (u3 : St) (x4 : Int32) (x5 : Int32) : Option (St) := if (u3.1 18 1) ≤ x5 then k6 u3 else if 60 ≤ x5 then k6 u3 else if (u3.1 21 7) = 0 then cki x5 60 (if (u3.1 19 (ix x5)) = 46 then b1 (f_X1_passDay u3 0) (fun (u17 : St) => bs (sI u17 21 9 0) (fun u18 : St => bs (sI u18 21 6 ((u18.1 21 6) + (1 : Int32))) (fun u19 : St => rec8 u19 x4 (x5 + 1)))) else b1 (f_X3_isBarrel u3 (u3.1 19 (ix x5))) (fun (x13 : Int32) => if x13 = 0 then b1 (f_X1_move u3 x4 ((u3.1 19 (ix x5)) - (97 : Int32)) p2) (fun (u15 : St) => rec8 u15 x4 (x5 + 1)) else bs ((u3.1 19 (ix x5)) - (48 : Int32)) (fun x16 : Int32 => rec8 u3 x16 (x5 + 1)))) else k6 u3
def f_X1_follow (u : St) (p2 : Int32) : Option (St) := b1 (f_X1_begin u) (fun (u1 : St) => b1 (f_X1_beginMoves u1) (fun (u2 : St) => jq_1 (fun (u7 : St) => some u7) (fun (k6 : St → Option (St)) => lq_3 (B_X1_follow_13 p2 k6) FU u2 0 0)))
set_option maxRecDepth 100000 in
set_option maxHeartbeats 4000000 in
theorem c_X1_follow {l : Launch} {D : va_G} {cI cJ cR : ClassId} {a : Nat → Nat} {u : St} {N : Nat} (hNN : 38 ≤ N) {p2 : Int32} {uu : St} (hf : f_X1_follow u p2 = some uu) : Cv l yX1_follow cX1_follow 6 none 4 92 D (tyB cI cJ cR) N a (EB a cI cJ cR) [.ref (a 21), .ref (a 18), .int p2] u uu := by
  refine metV (by decide +kernel) (Nat.le_of_ble_eq_true rfl) ?_
  intro p e s m args below meth c R Q hx hb hml hown hts hF hLo hret hK hN h ls hl
  have hown : s.vm.findClass RX1 = some m.cls := hown
  have hl : lv_has ls 6 [(0, .ref (a 21)), (1, .ref (a 18)), (2, .int p2)] := hl
  unfold f_X1_follow at hf
  refine lv_aload_n (pc := 0) hx hb dX1_follow_0 rfl (lv_at hl 0 rfl) ?_
  obtain ⟨u1, hc, hf⟩ := b1_e hf
  refine k_X1_begin (pc := 1) hNN hx hb hml hown hts hK hN hc ml_X1_78 (Nat.le_trans (by decide) hF) (Nat.le_trans (by decide) hLo) h hl.1 ⟨Nat.zero_le _, Nat.zero_le _⟩ (Nat.le_of_ble_eq_true rfl) dX1_follow_1 (fun H locs h => ?_)
  refine lv_aload_n (pc := 4) hx hb dX1_follow_4 rfl (lv_at hl 0 rfl) ?_
  obtain ⟨u2, hc, hf⟩ := b1_e hf
  refine k_X1_beginMoves (pc := 5) hNN hx hb hml hown hts hK hN hc ml_X1_81 (Nat.le_trans (by decide) hF) (Nat.le_trans (by decide) hLo) h hl.1 ⟨Nat.zero_le _, Nat.zero_le _⟩ (Nat.le_of_ble_eq_true rfl) dX1_follow_5 (fun H locs h => ?_)
  refine lv_iconst (pc := 8) (v := 0) hx hb dX1_follow_8 (by decide) ?_
  refine lv_istore_n (pc := 9) (lv' := [(3, .int 0), (0, .ref (a 21)), (1, .ref (a 18)), (2, .int p2)]) hx hb dX1_follow_9 rfl hl (by decide) rfl (fun ls hl => ?_)
  refine lv_iconst (pc := 10) (v := 0) hx hb dX1_follow_10 (by decide) ?_
  refine lv_istore (pc := 11) (lv' := [(4, .int 0), (3, .int 0), (0, .ref (a 21)), (1, .ref (a 18)), (2, .int p2)]) hx hb dX1_follow_11 hl (by decide) rfl (fun ls hl => ?_)
  obtain ⟨k6, hk6, hf⟩ := jq_1_e hf
  have jk6 : ∀ (u7 : St), k6 u7 = some uu → ∀ (H : Heap) (locs : List Loc) (ls : Array Slot), Hh D (AB N a s.heap.size) (wX N a (EB a cI cJ cR) u7) s.heap H locs → lv_has ls 6 [] → W p l e R s m args below meth c H locs 0 0 Q (F0 m 110 ls []) := by
    intro u7 hf H locs ls h hl
    rw [hk6] at hf
    exact hret (so hf) dX1_follow_110 h
  refine lq_3_e (P := fun (u3 : St) (x4 : Int32) (x5 : Int32) => ∀ (H : Heap) (locs : List Loc) (ls : Array Slot), Hh D (AB N a s.heap.size) (wX N a (EB a cI cJ cR) u3) s.heap H locs → lv_has ls 6 [(0, .ref (a 21)), (1, .ref (a 18)), (2, .int p2), (3, .int x4), (4, .int x5)] → W p l e R s m args below meth c H locs 0 0 Q (F0 m 13 ls [])) ?_ FU _ _ _ hf _ _ _ h (lv_sub hl [2, 3, 4, 1, 0] rfl)
  intro rec8 irec8 u3 x4 x5 hf H locs ls h hl
  unfold B_X1_follow_13 at hf
  refine lv_iload (pc := 13) hx hb dX1_follow_13 (lv_at hl 4 rfl) ?_
  refine lv_aload_n (pc := 15) hx hb dX1_follow_15 rfl (lv_at hl 1 rfl) ?_
  refine gB_18_1 (pc := 16) hNN hx hb hts hown hK h fl_X1_84 dX1_follow_16 ?_
  refine lv_icmp_ge (pc := 19) (tgt := 110) hx hb dX1_follow_19 (by decide) (fun c9 => ?_) (fun c9 => ?_)
  · have hf := if_t hf c9
    exact jk6 _ hf _ _ _ h (lv_sub hl [] rfl)
  · have hf := if_f hf c9
    refine lv_iload (pc := 22) hx hb dX1_follow_22 (lv_at hl 4 rfl) ?_
    refine lv_bipush (pc := 24) (v := 60) hx hb dX1_follow_24 (by decide) ?_
    refine lv_icmp_ge (pc := 26) (tgt := 110) hx hb dX1_follow_26 (by decide) (fun c10 => ?_) (fun c10 => ?_)
    · have hf := if_t hf c10
      exact jk6 _ hf _ _ _ h (lv_sub hl [] rfl)
    · have hf := if_f hf c10
      refine lv_aload_n (pc := 29) hx hb dX1_follow_29 rfl (lv_at hl 0 rfl) ?_
      refine gB_21_7 (pc := 30) hNN hx hb hts hown hK h fl_X1_89 dX1_follow_30 ?_
      refine lv_if_ne (pc := 33) (tgt := 110) hx hb dX1_follow_33 (by decide) (fun c11 => ?_) (fun c11 => ?_)
      · have hf := if_f hf c11
        exact jk6 _ hf _ _ _ h (lv_sub hl [] rfl)
      · have hf := if_t hf c11
        refine lv_aload_n (pc := 36) hx hb dX1_follow_36 rfl (lv_at hl 1 rfl) ?_
        refine gB_18_0 (pc := 37) hNN hx hb hts hown hK h fl_X1_92 dX1_follow_37 ?_
        refine lv_iload (pc := 40) hx hb dX1_follow_40 (lv_at hl 4 rfl) ?_
        obtain ⟨hin, hf⟩ := cki_e hf
        refine gB_19 (pc := 42) hNN hx hb hK h hin dX1_follow_42 ?_
        refine lv_istore (pc := 43) (lv' := [(5, .int (u3.1 19 (ix x5))), (0, .ref (a 21)), (1, .ref (a 18)), (2, .int p2), (3, .int x4), (4, .int x5)]) hx hb dX1_follow_43 hl (by decide) rfl (fun ls hl => ?_)
        refine lv_iload (pc := 45) hx hb dX1_follow_45 (lv_at hl 0 rfl) ?_
        refine lv_bipush (pc := 47) (v := 46) hx hb dX1_follow_47 (by decide) ?_
        refine lv_icmp_ne (pc := 49) (tgt := 75) hx hb dX1_follow_49 (by decide) (fun c12 => ?_) (fun c12 => ?_)
        · have hf := if_f hf c12
          refine lv_aload_n (pc := 75) hx hb dX1_follow_75 rfl (lv_at hl 2 rfl) ?_
          refine lv_iload (pc := 76) hx hb dX1_follow_76 (lv_at hl 0 rfl) ?_
          obtain ⟨x13, hc, hf⟩ := b1_e hf
          refine k_X3_isBarrel (pc := 78) hNN hx hb hml hown hts hK hN hc ml_X1_105 (Nat.le_trans (by decide) hF) (Nat.le_trans (by decide) hLo) h hl.1 ⟨Nat.zero_le _, Nat.zero_le _⟩ (Nat.le_of_ble_eq_true rfl) dX1_follow_78 (fun H locs h => ?_)
          refine lv_if_eq (pc := 81) (tgt := 93) hx hb dX1_follow_81 (by decide) (fun c14 => ?_) (fun c14 => ?_)
          · have hf := if_t hf c14
            refine lv_aload_n (pc := 93) hx hb dX1_follow_93 rfl (lv_at hl 1 rfl) ?_
            refine lv_iload_n (pc := 94) hx hb dX1_follow_94 rfl (lv_at hl 4 rfl) ?_
            refine lv_iload (pc := 95) hx hb dX1_follow_95 (lv_at hl 0 rfl) ?_
            refine lv_bipush (pc := 97) (v := 97) hx hb dX1_follow_97 (by decide) ?_
            refine lv_isub (pc := 99) hx hb dX1_follow_99 ?_
            refine lv_iload_n (pc := 100) hx hb dX1_follow_100 rfl (lv_at hl 3 rfl) ?_
            obtain ⟨u15, hc, hf⟩ := b1_e hf
            refine k_X1_move (pc := 101) hNN hx hb hml hown hts hK hN hc ml_X1_108 (Nat.le_trans (by decide) hF) (Nat.le_trans (by decide) hLo) h hl.1 ⟨Nat.zero_le _, Nat.zero_le _⟩ (Nat.le_of_ble_eq_true rfl) dX1_follow_101 (fun H locs h => ?_)
            refine lv_iinc (pc := 104) (v := x5 + 1) (lv' := [(4, .int (x5 + 1)), (5, .int (u3.1 19 (ix x5))), (0, .ref (a 21)), (1, .ref (a 18)), (2, .int p2), (3, .int x4)]) hx hb dX1_follow_104 hl (k := 5) rfl rfl (by decide) rfl (fun ls hl => ?_)
            refine lv_goto (pc := 107) (tgt := 13) hx hb dX1_follow_107 (by decide) ?_
            exact irec8 _ _ _ hf _ _ _ h (lv_sub hl [2, 3, 4, 5, 0] rfl)
          · have hf := if_f hf c14
            refine lv_iload (pc := 84) hx hb dX1_follow_84 (lv_at hl 0 rfl) ?_
            refine lv_bipush (pc := 86) (v := 48) hx hb dX1_follow_86 (by decide) ?_
            refine lv_isub (pc := 88) hx hb dX1_follow_88 ?_
            obtain ⟨x16, ex16, hf⟩ := bs_e hf
            refine rTop ex16 ?_
            refine lv_istore_n (pc := 89) (lv' := [(3, .int x16), (5, .int (u3.1 19 (ix x5))), (0, .ref (a 21)), (1, .ref (a 18)), (2, .int p2), (4, .int x5)]) hx hb dX1_follow_89 rfl hl (by decide) rfl (fun ls hl => ?_)
            refine lv_goto (pc := 90) (tgt := 104) hx hb dX1_follow_90 (by decide) ?_
            refine lv_iinc (pc := 104) (v := x5 + 1) (lv' := [(4, .int (x5 + 1)), (3, .int x16), (5, .int (u3.1 19 (ix x5))), (0, .ref (a 21)), (1, .ref (a 18)), (2, .int p2)]) hx hb dX1_follow_104 hl (k := 5) rfl rfl (by decide) rfl (fun ls hl => ?_)
            refine lv_goto (pc := 107) (tgt := 13) hx hb dX1_follow_107 (by decide) ?_
            exact irec8 _ _ _ hf _ _ _ h (lv_sub hl [3, 4, 5, 1, 0] rfl)
        · have hf := if_t hf c12
          refine lv_aload_n (pc := 52) hx hb dX1_follow_52 rfl (lv_at hl 1 rfl) ?_
          refine lv_iconst (pc := 53) (v := 0) hx hb dX1_follow_53 (by decide) ?_
          obtain ⟨u17, hc, hf⟩ := b1_e hf
          refine k_X1_passDay (pc := 54) hNN hx hb hml hown hts hK hN hc ml_X1_95 (Nat.le_trans (by decide) hF) (Nat.le_trans (by decide) hLo) h hl.1 ⟨Nat.zero_le _, Nat.zero_le _⟩ (Nat.le_of_ble_eq_true rfl) dX1_follow_54 (fun H locs h => ?_)
          refine lv_aload_n (pc := 57) hx hb dX1_follow_57 rfl (lv_at hl 1 rfl) ?_
          refine lv_iconst (pc := 58) (v := 0) hx hb dX1_follow_58 (by decide) ?_
          refine pB_21_9 (pc := 59) hNN hx hb hts hown hK h fl_X1_99 dX1_follow_59 (fun H locs h => ?_)
          obtain ⟨u18, eu18, hf⟩ := bs_e hf
          rw [← eu18] at h
          refine lv_aload_n (pc := 62) hx hb dX1_follow_62 rfl (lv_at hl 1 rfl) ?_
          refine lv_dup (pc := 63) hx hb dX1_follow_63 rfl ?_
          refine gB_21_6 (pc := 64) hNN hx hb hts hown hK h fl_X1_102 dX1_follow_64 ?_
          refine lv_iconst (pc := 67) (v := 1) hx hb dX1_follow_67 (by decide) ?_
          refine lv_iadd (pc := 68) hx hb dX1_follow_68 ?_
          refine pB_21_6 (pc := 69) hNN hx hb hts hown hK h fl_X1_102 dX1_follow_69 (fun H locs h => ?_)
          obtain ⟨u19, eu19, hf⟩ := bs_e hf
          rw [← eu19] at h
          refine lv_goto (pc := 72) (tgt := 104) hx hb dX1_follow_72 (by decide) ?_
          refine lv_iinc (pc := 104) (v := x5 + 1) (lv' := [(4, .int (x5 + 1)), (5, .int (u3.1 19 (ix x5))), (0, .ref (a 21)), (1, .ref (a 18)), (2, .int p2), (3, .int x4)]) hx hb dX1_follow_104 hl (k := 5) rfl rfl (by decide) rfl (fun ls hl => ?_)
          refine lv_goto (pc := 107) (tgt := 13) hx hb dX1_follow_107 (by decide) ?_
          exact irec8 _ _ _ hf _ _ _ h (lv_sub hl [2, 3, 4, 5, 0] rfl)
theorem k_X1_follow {p : Program} {l : Launch} {e : Env} {R : Room} {s : State} {m : MethodId} {args : Array Value} {below : List Frame} {meth : Method} {c : Code} {H : Heap} {locs : List Loc} {cells slots : Nat} {Q : State → Prop} {pc : Nat} {ls : Array Slot} {rest : List Value} {cc : ByteArray} {D : va_G} {cI cJ cR : ClassId} {a : Nat → Nat} {u : St} {own : String} {index nL : Nat} {N : Nat} (hNN : 38 ≤ N) {p2 : Int32} {uu : St} (hx : p.tables.exec = Jvm.exec) (hb : c.code = cc) (hml : c.maxLocals = nL) (hown : s.vm.findClass own = some m.cls) (hts : ∀ w ∈ Gd, w.before args s = true) (hK : va_K D vwCl (tyB cI cJ cR) s) (hN : NB s) (hc : f_X1_follow u p2 = some uu) (hlk : Cond.methodLink own index yX1_follow ∈ Gd) (hF : 5 ≤ R.frames) (hLo : 117 ≤ R.locals) (h : Hh D (AB N a s.heap.size) (wX N a (EB a cI cJ cR) u) s.heap H locs) (hsize : ls.size = nL) (hcs : cells ≤ R.cells ∧ slots ≤ R.slots) (hr : (rest.map fun v => v.category).sum ≤ 8) (hdg : decode cc pc = .ok (.invokevirtual index, 3)) (kk : ∀ (H1 : Heap) (locs1 : List Loc), Hh D (AB N a s.heap.size) (wX N a (EB a cI cJ cR) uu) s.heap H1 locs1 → W p l e R s m args below meth c H1 locs1 cells slots Q (F0 m (pc + 3) ls (rest))) : W p l e R s m args below meth c H locs cells slots Q (F0 m pc ls (.int p2 :: .ref (a 18) :: .ref (a 21) :: rest)) :=
  cVv (n := 2) hx hb hml hown hts hK hN (c_X1_follow hNN hc) (gdV hlk im_X1_follow se_X1_follow in_X1 co_X1_follow) rfl (by decide +kernel) rfl hF hLo h hsize hcs (Nat.lt_of_lt_of_le (by decide) hNN) rfl rfl rfl hr hdg kk
def B_X2_allWays_5 (p1 : Int32) (k3 : Int64 → Option (Int64)) (rec5 : Int64 → Int32 → Option (Int64)) (x1 : Int64) (x2 : Int32) : Option (Int64) := if p1 ≤ x2 then k3 x1 else rec5 (x1 * (10 : Int64)) (x2 + 1)
def f_X2_allWays (u : St) (p1 : Int32) : Option (Int64) := jq_1 (fun (x4 : Int64) => some x4) (fun (k3 : Int64 → Option (Int64)) => lq_2 (B_X2_allWays_5 p1 k3) FU 1 0)
set_option maxRecDepth 100000 in
set_option maxHeartbeats 4000000 in
theorem c_X2_allWays {l : Launch} {D : va_G} {cI cJ cR : ClassId} {a : Nat → Nat} {u : St} {N : Nat} (hNN : 38 ≤ N) {p1 : Int32} {rr : Int64} (hf : f_X2_allWays u p1 = some rr) : Cl l yX2_allWays cX2_allWays 5 (some .long) 0 0 D (tyB cI cJ cR) N a (EB a cI cJ cR) [.ref (a 34), .int p1] u rr u := by
  refine metL (by decide +kernel) (Nat.le_of_ble_eq_true rfl) ?_
  intro p e s m args below meth c R Q hx hb hml hown hts hF hLo hret hK hN h ls hl
  have hown : s.vm.findClass RX2 = some m.cls := hown
  have hl : lv_has ls 5 [(0, .ref (a 34)), (1, .int p1)] := hl
  unfold f_X2_allWays at hf
  refine lv_lconst (pc := 0) (v := 1) hx hb dX2_allWays_0 (by decide) ?_
  refine lv_lstore_n (pc := 1) (lv' := [(2, .long 1), (0, .ref (a 34)), (1, .int p1)]) hx hb dX2_allWays_1 rfl hl (by decide) rfl (fun ls hl => ?_)
  refine lv_iconst (pc := 2) (v := 0) hx hb dX2_allWays_2 (by decide) ?_
  refine lv_istore (pc := 3) (lv' := [(4, .int 0), (2, .long 1), (0, .ref (a 34)), (1, .int p1)]) hx hb dX2_allWays_3 hl (by decide) rfl (fun ls hl => ?_)
  obtain ⟨k3, hk3, hf⟩ := jq_1_e hf
  have jk3 : ∀ (x4 : Int64), k3 x4 = some rr → ∀ (H : Heap) (locs : List Loc) (ls : Array Slot), Hh D (AB N a s.heap.size) (wX N a (EB a cI cJ cR) u) s.heap H locs → lv_has ls 5 [(2, .long x4)] → W p l e R s m args below meth c H locs 0 0 Q (F0 m 23 ls []) := by
    intro x4 hf H locs ls h hl
    rw [hk3] at hf
    refine lv_lload_n (pc := 23) hx hb dX2_allWays_23 rfl (lv_at hl 0 rfl) ?_
    exact hret (so hf) rfl dX2_allWays_24 h
  refine lq_2_e (P := fun (x1 : Int64) (x2 : Int32) => ∀ (H : Heap) (locs : List Loc) (ls : Array Slot), Hh D (AB N a s.heap.size) (wX N a (EB a cI cJ cR) u) s.heap H locs → lv_has ls 5 [(1, .int p1), (2, .long x1), (4, .int x2)] → W p l e R s m args below meth c H locs 0 0 Q (F0 m 5 ls [])) ?_ FU _ _ hf _ _ _ h (lv_sub hl [3, 1, 0] rfl)
  intro rec5 irec5 x1 x2 hf H locs ls h hl
  unfold B_X2_allWays_5 at hf
  refine lv_iload (pc := 5) hx hb dX2_allWays_5 (lv_at hl 2 rfl) ?_
  refine lv_iload_n (pc := 7) hx hb dX2_allWays_7 rfl (lv_at hl 0 rfl) ?_
  refine lv_icmp_ge (pc := 8) (tgt := 23) hx hb dX2_allWays_8 (by decide) (fun c6 => ?_) (fun c6 => ?_)
  · have hf := if_t hf c6
    exact jk3 _ hf _ _ _ h (lv_sub hl [1] rfl)
  · have hf := if_f hf c6
    refine lv_lload_n (pc := 11) hx hb dX2_allWays_11 rfl (lv_at hl 1 rfl) ?_
    refine lv_ldc2 (pc := 12) hx hb hown (hts _ ctl_X2_26) dX2_allWays_12 ?_
    refine lv_lmul (pc := 15) hx hb dX2_allWays_15 ?_
    refine lv_lstore_n (pc := 16) (lv' := [(2, .long (x1 * (10 : Int64))), (1, .int p1), (4, .int x2)]) hx hb dX2_allWays_16 rfl hl (by decide) rfl (fun ls hl => ?_)
    refine lv_iinc (pc := 17) (v := x2 + 1) (lv' := [(4, .int (x2 + 1)), (2, .long (x1 * (10 : Int64))), (1, .int p1)]) hx hb dX2_allWays_17 hl (k := 2) rfl rfl (by decide) rfl (fun ls hl => ?_)
    refine lv_goto (pc := 20) (tgt := 5) hx hb dX2_allWays_20 (by decide) ?_
    exact irec5 _ _ hf _ _ _ h (lv_sub hl [2, 1, 0] rfl)
theorem k_X2_allWays {p : Program} {l : Launch} {e : Env} {R : Room} {s : State} {m : MethodId} {args : Array Value} {below : List Frame} {meth : Method} {c : Code} {H : Heap} {locs : List Loc} {cells slots : Nat} {Q : State → Prop} {pc : Nat} {ls : Array Slot} {rest : List Value} {cc : ByteArray} {D : va_G} {cI cJ cR : ClassId} {a : Nat → Nat} {u : St} {own : String} {index nL : Nat} {N : Nat} (hNN : 38 ≤ N) {p1 : Int32} {rr : Int64} (hx : p.tables.exec = Jvm.exec) (hb : c.code = cc) (hml : c.maxLocals = nL) (hown : s.vm.findClass own = some m.cls) (hts : ∀ w ∈ Gd, w.before args s = true) (hK : va_K D vwCl (tyB cI cJ cR) s) (hN : NB s) (hc : f_X2_allWays u p1 = some rr) (hlk : Cond.methodLink own index yX2_allWays ∈ Gd) (hF : 1 ≤ R.frames) (hLo : 24 ≤ R.locals) (h : Hh D (AB N a s.heap.size) (wX N a (EB a cI cJ cR) u) s.heap H locs) (hsize : ls.size = nL) (hcs : cells ≤ R.cells ∧ slots ≤ R.slots) (hr : (rest.map fun v => v.category).sum ≤ 8) (hdg : decode cc pc = .ok (.invokevirtual index, 3)) (kk : ∀ (H1 : Heap) (locs1 : List Loc), Hh D (AB N a s.heap.size) (wX N a (EB a cI cJ cR) u) s.heap H1 locs1 → W p l e R s m args below meth c H1 locs1 cells slots Q (F0 m (pc + 3) ls (.long rr :: rest))) : W p l e R s m args below meth c H locs cells slots Q (F0 m pc ls (.int p1 :: .ref (a 34) :: rest)) :=
  cVl (n := 1) hx hb hml hown hts hK hN (c_X2_allWays hNN hc) (gdV hlk im_X2_allWays se_X2_allWays in_X2 co_X2_allWays) rfl (by decide +kernel) rfl hF hLo h hsize hcs (Nat.lt_of_lt_of_le (by decide) hNN) rfl rfl rfl hr hdg kk
def B_X2_passDay_27 (p1 : Int32) (p2 : Int32) (p3 : Int32) (k7 : St → Option (St)) (rec10 : St → Int32 → Option (St)) (u5 : St) (x6 : Int32) : Option (St) := if 99 < x6 then k7 u5 else cki x6 100 (if (lg_cmp (u5.2 35 (ix x6)) 0) = 0 then rec10 u5 (x6 + 1) else cki (mnI 99 (x6 + p1)) 100 (cki x6 100 (cki (mnI 99 (x6 + p1)) 100 (bs (sL u5 36 (ix (mnI 99 (x6 + p1))) ((u5.2 36 (ix (mnI 99 (x6 + p1)))) + ((u5.2 35 (ix x6)) * (Int32.toInt64 ((10 : Int32) - p3))))) (fun u13 : St => cki (mnI 99 (x6 + p2)) 100 (cki x6 100 (cki (mnI 99 (x6 + p2)) 100 (bs (sL u13 36 (ix (mnI 99 (x6 + p2))) ((u13.2 36 (ix (mnI 99 (x6 + p2)))) + ((u13.2 35 (ix x6)) * (Int32.toInt64 p3)))) (fun u14 : St => rec10 u14 (x6 + 1))))))))))
def B_X2_passDay_3 (k3 : St → Option (St)) (rec15 : St → Int32 → Option (St)) (u1 : St) (x2 : Int32) : Option (St) := if 99 < x2 then k3 u1 else cki x2 100 (bs (sL u1 36 (ix x2) 0) (fun u17 : St => rec15 u17 (x2 + 1)))
def f_X2_passDay (u : St) (p1 : Int32) (p2 : Int32) (p3 : Int32) : Option (St) := jq_1 (fun (u4 : St) => jq_1 (fun (u8 : St) => bs (sB u8 35 (va_cpy (u8.2 36) (u8.2 35) 0 0 (Int32.toNatClampNeg 100))) (fun u9 : St => some u9)) (fun (k7 : St → Option (St)) => lq_2 (B_X2_passDay_27 p1 p2 p3 k7) FU u4 0)) (fun (k3 : St → Option (St)) => lq_2 (B_X2_passDay_3 k3) FU u 0)
set_option maxRecDepth 100000 in
set_option maxHeartbeats 4000000 in
theorem c_X2_passDay {l : Launch} {D : va_G} {cI cJ cR : ClassId} {a : Nat → Nat} {u : St} {N : Nat} (hNN : 38 ≤ N) {p1 : Int32} {p2 : Int32} {p3 : Int32} {uu : St} (hf : f_X2_passDay u p1 p2 p3 = some uu) : Cv l yX2_passDay cX2_passDay 5 none 1 40 D (tyB cI cJ cR) N a (EB a cI cJ cR) [.ref (a 34), .int p1, .int p2, .int p3] u uu := by
  refine metV (by decide +kernel) (Nat.le_of_ble_eq_true rfl) ?_
  intro p e s m args below meth c R Q hx hb hml hown hts hF hLo hret hK hN h ls hl
  have hown : s.vm.findClass RX2 = some m.cls := hown
  have hl : lv_has ls 5 [(0, .ref (a 34)), (1, .int p1), (2, .int p2), (3, .int p3)] := hl
  unfold f_X2_passDay at hf
  refine lv_iconst (pc := 0) (v := 0) hx hb dX2_passDay_0 (by decide) ?_
  refine lv_istore (pc := 1) (lv' := [(4, .int 0), (0, .ref (a 34)), (1, .int p1), (2, .int p2), (3, .int p3)]) hx hb dX2_passDay_1 hl (by decide) rfl (fun ls hl => ?_)
  obtain ⟨k3, hk3, hf⟩ := jq_1_e hf
  have jk3 : ∀ (u4 : St), k3 u4 = some uu → ∀ (H : Heap) (locs : List Loc) (ls : Array Slot), Hh D (AB N a s.heap.size) (wX N a (EB a cI cJ cR) u4) s.heap H locs → lv_has ls 5 [(0, .ref (a 34)), (1, .int p1), (2, .int p2), (3, .int p3)] → W p l e R s m args below meth c H locs 0 0 Q (F0 m 24 ls []) := by
    intro u4 hf H locs ls h hl
    rw [hk3] at hf
    refine lv_iconst (pc := 24) (v := 0) hx hb dX2_passDay_24 (by decide) ?_
    refine lv_istore (pc := 25) (lv' := [(4, .int 0), (0, .ref (a 34)), (1, .int p1), (2, .int p2), (3, .int p3)]) hx hb dX2_passDay_25 hl (by decide) rfl (fun ls hl => ?_)
    obtain ⟨k7, hk7, hf⟩ := jq_1_e hf
    have jk7 : ∀ (u8 : St), k7 u8 = some uu → ∀ (H : Heap) (locs : List Loc) (ls : Array Slot), Hh D (AB N a s.heap.size) (wX N a (EB a cI cJ cR) u8) s.heap H locs → lv_has ls 5 [(0, .ref (a 34))] → W p l e R s m args below meth c H locs 0 0 Q (F0 m 109 ls []) := by
      intro u8 hf H locs ls h hl
      rw [hk7] at hf
      refine lv_aload_n (pc := 109) hx hb dX2_passDay_109 rfl (lv_at hl 0 rfl) ?_
      refine gB_34_3 (pc := 110) hNN hx hb hts hown hK h fl_X2_15 dX2_passDay_110 ?_
      refine lv_iconst (pc := 113) (v := 0) hx hb dX2_passDay_113 (by decide) ?_
      refine lv_aload_n (pc := 114) hx hb dX2_passDay_114 rfl (lv_at hl 0 rfl) ?_
      refine gB_34_2 (pc := 115) hNN hx hb hts hown hK h fl_X2_9 dX2_passDay_115 ?_
      refine lv_iconst (pc := 118) (v := 0) hx hb dX2_passDay_118 (by decide) ?_
      refine lv_bipush (pc := 119) (v := 100) hx hb dX2_passDay_119 (by decide) ?_
      refine rCpyJ (pc := 121)  hx hb (hml.trans hl.1.symm) hown hts ml_X2_70 hK h 36 35 (Nat.lt_of_lt_of_le (by decide) hNN) (Nat.lt_of_lt_of_le (by decide) hNN) 1 (fun _ => rfl) (fun _ => rfl) rfl (by decide) (by decide) (by decide) (Nat.le_trans (by decide) hF) (Nat.le_trans (by decide) hLo) (Nat.le_of_ble_eq_true rfl) dX2_passDay_121 (fun H locs h => ?_)
      obtain ⟨u9, eu9, hf⟩ := bs_e hf
      rw [← eu9] at h
      exact hret (so hf) dX2_passDay_124 h
    refine lq_2_e (P := fun (u5 : St) (x6 : Int32) => ∀ (H : Heap) (locs : List Loc) (ls : Array Slot), Hh D (AB N a s.heap.size) (wX N a (EB a cI cJ cR) u5) s.heap H locs → lv_has ls 5 [(0, .ref (a 34)), (1, .int p1), (2, .int p2), (3, .int p3), (4, .int x6)] → W p l e R s m args below meth c H locs 0 0 Q (F0 m 27 ls [])) ?_ FU _ _ hf _ _ _ h (lv_sub hl [1, 2, 3, 4, 0] rfl)
    intro rec10 irec10 u5 x6 hf H locs ls h hl
    unfold B_X2_passDay_27 at hf
    refine lv_iload (pc := 27) hx hb dX2_passDay_27 (lv_at hl 4 rfl) ?_
    refine lv_bipush (pc := 29) (v := 99) hx hb dX2_passDay_29 (by decide) ?_
    refine lv_icmp_gt (pc := 31) (tgt := 109) hx hb dX2_passDay_31 (by decide) (fun c11 => ?_) (fun c11 => ?_)
    · have hf := if_t hf c11
      exact jk7 _ hf _ _ _ h (lv_sub hl [0] rfl)
    · have hf := if_f hf c11
      refine lv_aload_n (pc := 34) hx hb dX2_passDay_34 rfl (lv_at hl 0 rfl) ?_
      refine gB_34_2 (pc := 35) hNN hx hb hts hown hK h fl_X2_9 dX2_passDay_35 ?_
      refine lv_iload (pc := 38) hx hb dX2_passDay_38 (lv_at hl 4 rfl) ?_
      obtain ⟨hin, hf⟩ := cki_e hf
      refine gB_35 (pc := 40) hNN hx hb hK h hin dX2_passDay_40 ?_
      refine lv_lconst (pc := 41) (v := 0) hx hb dX2_passDay_41 (by decide) ?_
      refine W.lcmp (pc := 42) hx hb dX2_passDay_42 ?_
      refine lv_if_eq (pc := 43) (tgt := 103) hx hb dX2_passDay_43 (by decide) (fun c12 => ?_) (fun c12 => ?_)
      · have hf := if_t hf c12
        refine lv_iinc (pc := 103) (v := x6 + 1) (lv' := [(4, .int (x6 + 1)), (0, .ref (a 34)), (1, .int p1), (2, .int p2), (3, .int p3)]) hx hb dX2_passDay_103 hl (k := 4) rfl rfl (by decide) rfl (fun ls hl => ?_)
        refine lv_goto (pc := 106) (tgt := 27) hx hb dX2_passDay_106 (by decide) ?_
        exact irec10 _ _ hf _ _ _ h (lv_sub hl [1, 2, 3, 4, 0] rfl)
      · have hf := if_f hf c12
        refine lv_aload_n (pc := 46) hx hb dX2_passDay_46 rfl (lv_at hl 0 rfl) ?_
        refine gB_34_3 (pc := 47) hNN hx hb hts hown hK h fl_X2_15 dX2_passDay_47 ?_
        refine lv_bipush (pc := 50) (v := 99) hx hb dX2_passDay_50 (by decide) ?_
        refine lv_iload (pc := 52) hx hb dX2_passDay_52 (lv_at hl 4 rfl) ?_
        refine lv_iload_n (pc := 54) hx hb dX2_passDay_54 rfl (lv_at hl 1 rfl) ?_
        refine lv_iadd (pc := 55) hx hb dX2_passDay_55 ?_
        refine rMmin (pc := 56) hx hb (hml.trans hl.1.symm) hown hts ml_X2_64 (Nat.le_trans (by decide) hF) (Nat.le_trans (by decide) hLo) (Nat.le_of_ble_eq_true rfl) ⟨Nat.zero_le _, Nat.zero_le _⟩ dX2_passDay_56 ?_
        refine lv_dup2_11 (pc := 59) hx hb dX2_passDay_59 rfl rfl ?_
        obtain ⟨hin, hf⟩ := cki_e hf
        refine gB_36 (pc := 60) hNN hx hb hK h hin dX2_passDay_60 ?_
        refine lv_aload_n (pc := 61) hx hb dX2_passDay_61 rfl (lv_at hl 0 rfl) ?_
        refine gB_34_2 (pc := 62) hNN hx hb hts hown hK h fl_X2_9 dX2_passDay_62 ?_
        refine lv_iload (pc := 65) hx hb dX2_passDay_65 (lv_at hl 4 rfl) ?_
        obtain ⟨hin, hf⟩ := cki_e hf
        refine gB_35 (pc := 67) hNN hx hb hK h hin dX2_passDay_67 ?_
        refine lv_bipush (pc := 68) (v := 10) hx hb dX2_passDay_68 (by decide) ?_
        refine lv_iload_n (pc := 70) hx hb dX2_passDay_70 rfl (lv_at hl 3 rfl) ?_
        refine lv_isub (pc := 71) hx hb dX2_passDay_71 ?_
        refine lv_i2l (pc := 72) (v := Int32.toInt64 ((10 : Int32) - p3)) hx hb dX2_passDay_72 rfl ?_
        refine lv_lmul (pc := 73) hx hb dX2_passDay_73 ?_
        refine lv_ladd (pc := 74) hx hb dX2_passDay_74 ?_
        obtain ⟨hin, hf⟩ := cki_e hf
        refine pB_36 (pc := 75) hNN hx hb hK h hin dX2_passDay_75 (fun H locs h => ?_)
        obtain ⟨u13, eu13, hf⟩ := bs_e hf
        rw [← eu13] at h
        refine lv_aload_n (pc := 76) hx hb dX2_passDay_76 rfl (lv_at hl 0 rfl) ?_
        refine gB_34_3 (pc := 77) hNN hx hb hts hown hK h fl_X2_15 dX2_passDay_77 ?_
        refine lv_bipush (pc := 80) (v := 99) hx hb dX2_passDay_80 (by decide) ?_
        refine lv_iload (pc := 82) hx hb dX2_passDay_82 (lv_at hl 4 rfl) ?_
        refine lv_iload_n (pc := 84) hx hb dX2_passDay_84 rfl (lv_at hl 2 rfl) ?_
        refine lv_iadd (pc := 85) hx hb dX2_passDay_85 ?_
        refine rMmin (pc := 86) hx hb (hml.trans hl.1.symm) hown hts ml_X2_64 (Nat.le_trans (by decide) hF) (Nat.le_trans (by decide) hLo) (Nat.le_of_ble_eq_true rfl) ⟨Nat.zero_le _, Nat.zero_le _⟩ dX2_passDay_86 ?_
        refine lv_dup2_11 (pc := 89) hx hb dX2_passDay_89 rfl rfl ?_
        obtain ⟨hin, hf⟩ := cki_e hf
        refine gB_36 (pc := 90) hNN hx hb hK h hin dX2_passDay_90 ?_
        refine lv_aload_n (pc := 91) hx hb dX2_passDay_91 rfl (lv_at hl 0 rfl) ?_
        refine gB_34_2 (pc := 92) hNN hx hb hts hown hK h fl_X2_9 dX2_passDay_92 ?_
        refine lv_iload (pc := 95) hx hb dX2_passDay_95 (lv_at hl 4 rfl) ?_
        obtain ⟨hin, hf⟩ := cki_e hf
        refine gB_35 (pc := 97) hNN hx hb hK h hin dX2_passDay_97 ?_
        refine lv_iload_n (pc := 98) hx hb dX2_passDay_98 rfl (lv_at hl 3 rfl) ?_
        refine lv_i2l (pc := 99) (v := Int32.toInt64 p3) hx hb dX2_passDay_99 rfl ?_
        refine lv_lmul (pc := 100) hx hb dX2_passDay_100 ?_
        refine lv_ladd (pc := 101) hx hb dX2_passDay_101 ?_
        obtain ⟨hin, hf⟩ := cki_e hf
        refine pB_36 (pc := 102) hNN hx hb hK h hin dX2_passDay_102 (fun H locs h => ?_)
        obtain ⟨u14, eu14, hf⟩ := bs_e hf
        rw [← eu14] at h
        refine lv_iinc (pc := 103) (v := x6 + 1) (lv' := [(4, .int (x6 + 1)), (0, .ref (a 34)), (1, .int p1), (2, .int p2), (3, .int p3)]) hx hb dX2_passDay_103 hl (k := 4) rfl rfl (by decide) rfl (fun ls hl => ?_)
        refine lv_goto (pc := 106) (tgt := 27) hx hb dX2_passDay_106 (by decide) ?_
        exact irec10 _ _ hf _ _ _ h (lv_sub hl [1, 2, 3, 4, 0] rfl)
  refine lq_2_e (P := fun (u1 : St) (x2 : Int32) => ∀ (H : Heap) (locs : List Loc) (ls : Array Slot), Hh D (AB N a s.heap.size) (wX N a (EB a cI cJ cR) u1) s.heap H locs → lv_has ls 5 [(0, .ref (a 34)), (1, .int p1), (2, .int p2), (3, .int p3), (4, .int x2)] → W p l e R s m args below meth c H locs 0 0 Q (F0 m 3 ls [])) ?_ FU _ _ hf _ _ _ h (lv_sub hl [1, 2, 3, 4, 0] rfl)
  intro rec15 irec15 u1 x2 hf H locs ls h hl
  unfold B_X2_passDay_3 at hf
  refine lv_iload (pc := 3) hx hb dX2_passDay_3 (lv_at hl 4 rfl) ?_
  refine lv_bipush (pc := 5) (v := 99) hx hb dX2_passDay_5 (by decide) ?_
  refine lv_icmp_gt (pc := 7) (tgt := 24) hx hb dX2_passDay_7 (by decide) (fun c16 => ?_) (fun c16 => ?_)
  · have hf := if_t hf c16
    exact jk3 _ hf _ _ _ h (lv_sub hl [0, 1, 2, 3] rfl)
  · have hf := if_f hf c16
    refine lv_aload_n (pc := 10) hx hb dX2_passDay_10 rfl (lv_at hl 0 rfl) ?_
    refine gB_34_3 (pc := 11) hNN hx hb hts hown hK h fl_X2_15 dX2_passDay_11 ?_
    refine lv_iload (pc := 14) hx hb dX2_passDay_14 (lv_at hl 4 rfl) ?_
    refine lv_lconst (pc := 16) (v := 0) hx hb dX2_passDay_16 (by decide) ?_
    obtain ⟨hin, hf⟩ := cki_e hf
    refine pB_36 (pc := 17) hNN hx hb hK h hin dX2_passDay_17 (fun H locs h => ?_)
    obtain ⟨u17, eu17, hf⟩ := bs_e hf
    rw [← eu17] at h
    refine lv_iinc (pc := 18) (v := x2 + 1) (lv' := [(4, .int (x2 + 1)), (0, .ref (a 34)), (1, .int p1), (2, .int p2), (3, .int p3)]) hx hb dX2_passDay_18 hl (k := 4) rfl rfl (by decide) rfl (fun ls hl => ?_)
    refine lv_goto (pc := 21) (tgt := 3) hx hb dX2_passDay_21 (by decide) ?_
    exact irec15 _ _ hf _ _ _ h (lv_sub hl [1, 2, 3, 4, 0] rfl)
theorem k_X2_passDay {p : Program} {l : Launch} {e : Env} {R : Room} {s : State} {m : MethodId} {args : Array Value} {below : List Frame} {meth : Method} {c : Code} {H : Heap} {locs : List Loc} {cells slots : Nat} {Q : State → Prop} {pc : Nat} {ls : Array Slot} {rest : List Value} {cc : ByteArray} {D : va_G} {cI cJ cR : ClassId} {a : Nat → Nat} {u : St} {own : String} {index nL : Nat} {N : Nat} (hNN : 38 ≤ N) {p1 : Int32} {p2 : Int32} {p3 : Int32} {uu : St} (hx : p.tables.exec = Jvm.exec) (hb : c.code = cc) (hml : c.maxLocals = nL) (hown : s.vm.findClass own = some m.cls) (hts : ∀ w ∈ Gd, w.before args s = true) (hK : va_K D vwCl (tyB cI cJ cR) s) (hN : NB s) (hc : f_X2_passDay u p1 p2 p3 = some uu) (hlk : Cond.methodLink own index yX2_passDay ∈ Gd) (hF : 2 ≤ R.frames) (hLo : 64 ≤ R.locals) (h : Hh D (AB N a s.heap.size) (wX N a (EB a cI cJ cR) u) s.heap H locs) (hsize : ls.size = nL) (hcs : cells ≤ R.cells ∧ slots ≤ R.slots) (hr : (rest.map fun v => v.category).sum ≤ 8) (hdg : decode cc pc = .ok (.invokevirtual index, 3)) (kk : ∀ (H1 : Heap) (locs1 : List Loc), Hh D (AB N a s.heap.size) (wX N a (EB a cI cJ cR) uu) s.heap H1 locs1 → W p l e R s m args below meth c H1 locs1 cells slots Q (F0 m (pc + 3) ls (rest))) : W p l e R s m args below meth c H locs cells slots Q (F0 m pc ls (.int p3 :: .int p2 :: .int p1 :: .ref (a 34) :: rest)) :=
  cVv (n := 3) hx hb hml hown hts hK hN (c_X2_passDay hNN hc) (gdV hlk im_X2_passDay se_X2_passDay in_X2 co_X2_passDay) rfl (by decide +kernel) rfl hF hLo h hsize hcs (Nat.lt_of_lt_of_le (by decide) hNN) rfl rfl rfl hr hdg kk
def B_X2_sourWays_142 (u10 : St) (k13 : Int64 → Option (Int64 × St)) (rec15 : Int64 → Int32 → Option (Int64 × St)) (x11 : Int64) (x12 : Int32) : Option (Int64 × St) := if 99 < x12 then k13 x11 else b1 (f_X9_isVinegar u10 x12) (fun (x17 : Int32) => if x17 = 0 then rec15 (x11 + (0 : Int64)) (x12 + 1) else cki x12 100 (rec15 (x11 + (u10.2 35 (ix x12))) (x12 + 1)))
def B_X2_sourWays_80 (p1 : Int32) (p2 : Int32) (p3 : Int32) (u6 : St) (k9 : St → Option (Int64 × St)) (rec19 : St → Int32 → Option (Int64 × St)) (u7 : St) (x8 : Int32) : Option (Int64 × St) := if p2 ≤ x8 then k9 u7 else b1 (f_X0_levelOn u7 x8) (fun (x21 : Int32) => b1 (f_X0_riseAt u7 x21 (u6.1 6 (ix p1)) (u6.1 8 (ix p1))) (fun (x22 : Int32) => b1 (f_X0_riseAt u7 (x21 + (1 : Int32)) (u6.1 6 (ix p1)) (u6.1 8 (ix p1))) (fun (x23 : Int32) => b1 (f_X2_passDay u7 x22 x23 p3) (fun (u24 : St) => rec19 u24 (x8 + 1)))))
def B_X2_sourWays_19 (k5 : St → Option (Int64 × St)) (rec25 : St → Int32 → Option (Int64 × St)) (u3 : St) (x4 : Int32) : Option (Int64 × St) := if 99 < x4 then k5 u3 else if x4 = 0 then cki x4 100 (bs (sL u3 35 (ix x4) 1) (fun u29 : St => rec25 u29 (x4 + 1))) else cki x4 100 (bs (sL u3 35 (ix x4) 0) (fun u28 : St => rec25 u28 (x4 + 1)))
def f_X2_sourWays (u : St) (p1 : Int32) (p2 : Int32) (p3 : Int32) : Option (Int64 × St) := b1 (f_X7_has u p1) (fun (x1 : Int32) => if x1 = 0 then some (0, u) else jq_1 (fun (u6 : St) => cki p1 8 (cki p1 8 (jq_1 (fun (u10 : St) => jq_1 (fun (x14 : Int64) => some (x14, u10)) (fun (k13 : Int64 → Option (Int64 × St)) => lq_2 (B_X2_sourWays_142 u10 k13) FU 0 0)) (fun (k9 : St → Option (Int64 × St)) => lq_2 (B_X2_sourWays_80 p1 p2 p3 u6 k9) FU u6 0)))) (fun (k5 : St → Option (Int64 × St)) => lq_2 (B_X2_sourWays_19 k5) FU u 0))
set_option maxRecDepth 100000 in
set_option maxHeartbeats 4000000 in
theorem c_X2_sourWays {l : Launch} {D : va_G} {cI cJ cR : ClassId} {a : Nat → Nat} {u : St} {N : Nat} (hNN : 38 ≤ N) {p1 : Int32} {p2 : Int32} {p3 : Int32} {rr : Int64} {uu : St} (hf : f_X2_sourWays u p1 p2 p3 = some (rr, uu)) : Cl l yX2_sourWays cX2_sourWays 9 (some .long) 3 66 D (tyB cI cJ cR) N a (EB a cI cJ cR) [.ref (a 34), .int p1, .int p2, .int p3] u rr uu := by
  refine metL (by decide +kernel) (Nat.le_of_ble_eq_true rfl) ?_
  intro p e s m args below meth c R Q hx hb hml hown hts hF hLo hret hK hN h ls hl
  have hown : s.vm.findClass RX2 = some m.cls := hown
  have hl : lv_has ls 9 [(0, .ref (a 34)), (1, .int p1), (2, .int p2), (3, .int p3)] := hl
  unfold f_X2_sourWays at hf
  refine lv_aload_n (pc := 0) hx hb dX2_sourWays_0 rfl (lv_at hl 0 rfl) ?_
  refine gB_34_0 (pc := 1) hNN hx hb hts hown hK h fl_X2_18 dX2_sourWays_1 ?_
  refine gB_1_1 (pc := 4) hNN hx hb hts hown hK h fl_X2_28 dX2_sourWays_4 ?_
  refine lv_iload_n (pc := 7) hx hb dX2_sourWays_7 rfl (lv_at hl 1 rfl) ?_
  obtain ⟨x1, hc, hf⟩ := b1_e hf
  refine k_X7_has (pc := 8) hNN hx hb hml hown hts hK hN hc ml_X2_34 (Nat.le_trans (by decide) hF) (Nat.le_trans (by decide) hLo) h hl.1 ⟨Nat.zero_le _, Nat.zero_le _⟩ (Nat.le_of_ble_eq_true rfl) dX2_sourWays_8 (fun H locs h => ?_)
  refine lv_if_ne (pc := 11) (tgt := 16) hx hb dX2_sourWays_11 (by decide) (fun c2 => ?_) (fun c2 => ?_)
  · have hf := if_f hf c2
    refine lv_iconst (pc := 16) (v := 0) hx hb dX2_sourWays_16 (by decide) ?_
    refine lv_istore (pc := 17) (lv' := [(4, .int 0), (0, .ref (a 34)), (1, .int p1), (2, .int p2), (3, .int p3)]) hx hb dX2_sourWays_17 hl (by decide) rfl (fun ls hl => ?_)
    obtain ⟨k5, hk5, hf⟩ := jq_1_e hf
    have jk5 : ∀ (u6 : St), k5 u6 = some (rr, uu) → ∀ (H : Heap) (locs : List Loc) (ls : Array Slot), Hh D (AB N a s.heap.size) (wX N a (EB a cI cJ cR) u6) s.heap H locs → lv_has ls 9 [(0, .ref (a 34)), (1, .int p1), (2, .int p2), (3, .int p3)] → W p l e R s m args below meth c H locs 0 0 Q (F0 m 49 ls []) := by
      intro u6 hf H locs ls h hl
      rw [hk5] at hf
      refine lv_aload_n (pc := 49) hx hb dX2_sourWays_49 rfl (lv_at hl 0 rfl) ?_
      refine gB_34_0 (pc := 50) hNN hx hb hts hown hK h fl_X2_18 dX2_sourWays_50 ?_
      refine gB_1_1 (pc := 53) hNN hx hb hts hown hK h fl_X2_28 dX2_sourWays_53 ?_
      refine gB_5_0 (pc := 56) hNN hx hb hts hown hK h fl_X2_40 dX2_sourWays_56 ?_
      refine lv_iload_n (pc := 59) hx hb dX2_sourWays_59 rfl (lv_at hl 1 rfl) ?_
      obtain ⟨hin, hf⟩ := cki_e hf
      refine gB_6 (pc := 60) hNN hx hb hK h hin dX2_sourWays_60 ?_
      refine lv_istore (pc := 61) (lv' := [(4, .int (u6.1 6 (ix p1))), (0, .ref (a 34)), (1, .int p1), (2, .int p2), (3, .int p3)]) hx hb dX2_sourWays_61 hl (by decide) rfl (fun ls hl => ?_)
      refine lv_aload_n (pc := 63) hx hb dX2_sourWays_63 rfl (lv_at hl 1 rfl) ?_
      refine gB_34_0 (pc := 64) hNN hx hb hts hown hK h fl_X2_18 dX2_sourWays_64 ?_
      refine gB_1_1 (pc := 67) hNN hx hb hts hown hK h fl_X2_28 dX2_sourWays_67 ?_
      refine gB_5_2 (pc := 70) hNN hx hb hts hown hK h fl_X2_44 dX2_sourWays_70 ?_
      refine lv_iload_n (pc := 73) hx hb dX2_sourWays_73 rfl (lv_at hl 2 rfl) ?_
      obtain ⟨hin, hf⟩ := cki_e hf
      refine gB_8 (pc := 74) hNN hx hb hK h hin dX2_sourWays_74 ?_
      refine lv_istore (pc := 75) (lv' := [(5, .int (u6.1 8 (ix p1))), (4, .int (u6.1 6 (ix p1))), (0, .ref (a 34)), (1, .int p1), (2, .int p2), (3, .int p3)]) hx hb dX2_sourWays_75 hl (by decide) rfl (fun ls hl => ?_)
      refine lv_iconst (pc := 77) (v := 0) hx hb dX2_sourWays_77 (by decide) ?_
      refine lv_istore (pc := 78) (lv' := [(6, .int 0), (5, .int (u6.1 8 (ix p1))), (4, .int (u6.1 6 (ix p1))), (0, .ref (a 34)), (1, .int p1), (2, .int p2), (3, .int p3)]) hx hb dX2_sourWays_78 hl (by decide) rfl (fun ls hl => ?_)
      obtain ⟨k9, hk9, hf⟩ := jq_1_e hf
      have jk9 : ∀ (u10 : St), k9 u10 = some (rr, uu) → ∀ (H : Heap) (locs : List Loc) (ls : Array Slot), Hh D (AB N a s.heap.size) (wX N a (EB a cI cJ cR) u10) s.heap H locs → lv_has ls 9 [(0, .ref (a 34))] → W p l e R s m args below meth c H locs 0 0 Q (F0 m 136 ls []) := by
        intro u10 hf H locs ls h hl
        rw [hk9] at hf
        refine lv_lconst (pc := 136) (v := 0) hx hb dX2_sourWays_136 (by decide) ?_
        refine lv_lstore (pc := 137) (lv' := [(6, .long 0), (0, .ref (a 34))]) hx hb dX2_sourWays_137 hl (by decide) rfl (fun ls hl => ?_)
        refine lv_iconst (pc := 139) (v := 0) hx hb dX2_sourWays_139 (by decide) ?_
        refine lv_istore (pc := 140) (lv' := [(8, .int 0), (6, .long 0), (0, .ref (a 34))]) hx hb dX2_sourWays_140 hl (by decide) rfl (fun ls hl => ?_)
        obtain ⟨k13, hk13, hf⟩ := jq_1_e hf
        have jk13 : ∀ (x14 : Int64), k13 x14 = some (rr, uu) → ∀ (H : Heap) (locs : List Loc) (ls : Array Slot), Hh D (AB N a s.heap.size) (wX N a (EB a cI cJ cR) u10) s.heap H locs → lv_has ls 9 [(6, .long x14)] → W p l e R s m args below meth c H locs 0 0 Q (F0 m 183 ls []) := by
          intro x14 hf H locs ls h hl
          rw [hk13] at hf
          refine lv_lload (pc := 183) hx hb dX2_sourWays_183 (lv_at hl 0 rfl) ?_
          exact hret (so1 hf) (so2 hf) dX2_sourWays_185 h
        refine lq_2_e (P := fun (x11 : Int64) (x12 : Int32) => ∀ (H : Heap) (locs : List Loc) (ls : Array Slot), Hh D (AB N a s.heap.size) (wX N a (EB a cI cJ cR) u10) s.heap H locs → lv_has ls 9 [(0, .ref (a 34)), (6, .long x11), (8, .int x12)] → W p l e R s m args below meth c H locs 0 0 Q (F0 m 142 ls [])) ?_ FU _ _ hf _ _ _ h (lv_sub hl [2, 1, 0] rfl)
        intro rec15 irec15 x11 x12 hf H locs ls h hl
        unfold B_X2_sourWays_142 at hf
        refine lv_iload (pc := 142) hx hb dX2_sourWays_142 (lv_at hl 2 rfl) ?_
        refine lv_bipush (pc := 144) (v := 99) hx hb dX2_sourWays_144 (by decide) ?_
        refine lv_icmp_gt (pc := 146) (tgt := 183) hx hb dX2_sourWays_146 (by decide) (fun c16 => ?_) (fun c16 => ?_)
        · have hf := if_t hf c16
          exact jk13 _ hf _ _ _ h (lv_sub hl [1] rfl)
        · have hf := if_f hf c16
          refine lv_lload (pc := 149) hx hb dX2_sourWays_149 (lv_at hl 1 rfl) ?_
          refine lv_aload_n (pc := 151) hx hb dX2_sourWays_151 rfl (lv_at hl 0 rfl) ?_
          refine gB_34_0 (pc := 152) hNN hx hb hts hown hK h fl_X2_18 dX2_sourWays_152 ?_
          refine lv_iload (pc := 155) hx hb dX2_sourWays_155 (lv_at hl 2 rfl) ?_
          obtain ⟨x17, hc, hf⟩ := b1_e hf
          refine k_X9_isVinegar (pc := 157) hNN hx hb hml hown hts hK hN hc ml_X2_61 (Nat.le_trans (by decide) hF) (Nat.le_trans (by decide) hLo) h hl.1 ⟨Nat.zero_le _, Nat.zero_le _⟩ (Nat.le_of_ble_eq_true rfl) dX2_sourWays_157 (fun H locs h => ?_)
          refine lv_if_eq (pc := 160) (tgt := 173) hx hb dX2_sourWays_160 (by decide) (fun c18 => ?_) (fun c18 => ?_)
          · have hf := if_t hf c18
            refine lv_lconst (pc := 173) (v := 0) hx hb dX2_sourWays_173 (by decide) ?_
            refine lv_ladd (pc := 174) hx hb dX2_sourWays_174 ?_
            refine lv_lstore (pc := 175) (lv' := [(6, .long (x11 + (0 : Int64))), (0, .ref (a 34)), (8, .int x12)]) hx hb dX2_sourWays_175 hl (by decide) rfl (fun ls hl => ?_)
            refine lv_iinc (pc := 177) (v := x12 + 1) (lv' := [(8, .int (x12 + 1)), (6, .long (x11 + (0 : Int64))), (0, .ref (a 34))]) hx hb dX2_sourWays_177 hl (k := 2) rfl rfl (by decide) rfl (fun ls hl => ?_)
            refine lv_goto (pc := 180) (tgt := 142) hx hb dX2_sourWays_180 (by decide) ?_
            exact irec15 _ _ hf _ _ _ h (lv_sub hl [2, 1, 0] rfl)
          · have hf := if_f hf c18
            refine lv_aload_n (pc := 163) hx hb dX2_sourWays_163 rfl (lv_at hl 0 rfl) ?_
            refine gB_34_2 (pc := 164) hNN hx hb hts hown hK h fl_X2_9 dX2_sourWays_164 ?_
            refine lv_iload (pc := 167) hx hb dX2_sourWays_167 (lv_at hl 2 rfl) ?_
            obtain ⟨hin, hf⟩ := cki_e hf
            refine gB_35 (pc := 169) hNN hx hb hK h hin dX2_sourWays_169 ?_
            refine lv_goto (pc := 170) (tgt := 174) hx hb dX2_sourWays_170 (by decide) ?_
            refine lv_ladd (pc := 174) hx hb dX2_sourWays_174 ?_
            refine lv_lstore (pc := 175) (lv' := [(6, .long (x11 + (u10.2 35 (ix x12)))), (0, .ref (a 34)), (8, .int x12)]) hx hb dX2_sourWays_175 hl (by decide) rfl (fun ls hl => ?_)
            refine lv_iinc (pc := 177) (v := x12 + 1) (lv' := [(8, .int (x12 + 1)), (6, .long (x11 + (u10.2 35 (ix x12)))), (0, .ref (a 34))]) hx hb dX2_sourWays_177 hl (k := 2) rfl rfl (by decide) rfl (fun ls hl => ?_)
            refine lv_goto (pc := 180) (tgt := 142) hx hb dX2_sourWays_180 (by decide) ?_
            exact irec15 _ _ hf _ _ _ h (lv_sub hl [2, 1, 0] rfl)
      refine lq_2_e (P := fun (u7 : St) (x8 : Int32) => ∀ (H : Heap) (locs : List Loc) (ls : Array Slot), Hh D (AB N a s.heap.size) (wX N a (EB a cI cJ cR) u7) s.heap H locs → lv_has ls 9 [(0, .ref (a 34)), (2, .int p2), (3, .int p3), (4, .int (u6.1 6 (ix p1))), (5, .int (u6.1 8 (ix p1))), (6, .int x8)] → W p l e R s m args below meth c H locs 0 0 Q (F0 m 80 ls [])) ?_ FU _ _ hf _ _ _ h (lv_sub hl [3, 5, 6, 2, 1, 0] rfl)
      intro rec19 irec19 u7 x8 hf H locs ls h hl
      unfold B_X2_sourWays_80 at hf
      refine lv_iload (pc := 80) hx hb dX2_sourWays_80 (lv_at hl 5 rfl) ?_
      refine lv_iload_n (pc := 82) hx hb dX2_sourWays_82 rfl (lv_at hl 1 rfl) ?_
      refine lv_icmp_ge (pc := 83) (tgt := 136) hx hb dX2_sourWays_83 (by decide) (fun c20 => ?_) (fun c20 => ?_)
      · have hf := if_t hf c20
        exact jk9 _ hf _ _ _ h (lv_sub hl [0] rfl)
      · have hf := if_f hf c20
        refine lv_aload_n (pc := 86) hx hb dX2_sourWays_86 rfl (lv_at hl 0 rfl) ?_
        refine gB_34_1 (pc := 87) hNN hx hb hts hown hK h fl_X2_22 dX2_sourWays_87 ?_
        refine lv_iload (pc := 90) hx hb dX2_sourWays_90 (lv_at hl 5 rfl) ?_
        obtain ⟨x21, hc, hf⟩ := b1_e hf
        refine k_X0_levelOn (pc := 92) hNN hx hb hml hown hts hK hN hc ml_X2_47 (Nat.le_trans (by decide) hF) (Nat.le_trans (by decide) hLo) h hl.1 ⟨Nat.zero_le _, Nat.zero_le _⟩ (Nat.le_of_ble_eq_true rfl) dX2_sourWays_92 (fun H locs h => ?_)
        refine lv_istore (pc := 95) (lv' := [(7, .int x21), (0, .ref (a 34)), (2, .int p2), (3, .int p3), (4, .int (u6.1 6 (ix p1))), (5, .int (u6.1 8 (ix p1))), (6, .int x8)]) hx hb dX2_sourWays_95 hl (by decide) rfl (fun ls hl => ?_)
        refine lv_aload_n (pc := 97) hx hb dX2_sourWays_97 rfl (lv_at hl 1 rfl) ?_
        refine lv_aload_n (pc := 98) hx hb dX2_sourWays_98 rfl (lv_at hl 1 rfl) ?_
        refine gB_34_1 (pc := 99) hNN hx hb hts hown hK h fl_X2_22 dX2_sourWays_99 ?_
        refine lv_iload (pc := 102) hx hb dX2_sourWays_102 (lv_at hl 0 rfl) ?_
        refine lv_iload (pc := 104) hx hb dX2_sourWays_104 (lv_at hl 4 rfl) ?_
        refine lv_iload (pc := 106) hx hb dX2_sourWays_106 (lv_at hl 5 rfl) ?_
        obtain ⟨x22, hc, hf⟩ := b1_e hf
        refine k_X0_riseAt (pc := 108) hNN hx hb hml hown hts hK hN hc ml_X2_53 (Nat.le_trans (by decide) hF) (Nat.le_trans (by decide) hLo) h hl.1 ⟨Nat.zero_le _, Nat.zero_le _⟩ (Nat.le_of_ble_eq_true rfl) dX2_sourWays_108 (fun H locs h => ?_)
        refine lv_aload_n (pc := 111) hx hb dX2_sourWays_111 rfl (lv_at hl 1 rfl) ?_
        refine gB_34_1 (pc := 112) hNN hx hb hts hown hK h fl_X2_22 dX2_sourWays_112 ?_
        refine lv_iload (pc := 115) hx hb dX2_sourWays_115 (lv_at hl 0 rfl) ?_
        refine lv_iconst (pc := 117) (v := 1) hx hb dX2_sourWays_117 (by decide) ?_
        refine lv_iadd (pc := 118) hx hb dX2_sourWays_118 ?_
        refine lv_iload (pc := 119) hx hb dX2_sourWays_119 (lv_at hl 4 rfl) ?_
        refine lv_iload (pc := 121) hx hb dX2_sourWays_121 (lv_at hl 5 rfl) ?_
        obtain ⟨x23, hc, hf⟩ := b1_e hf
        refine k_X0_riseAt (pc := 123) hNN hx hb hml hown hts hK hN hc ml_X2_53 (Nat.le_trans (by decide) hF) (Nat.le_trans (by decide) hLo) h hl.1 ⟨Nat.zero_le _, Nat.zero_le _⟩ (Nat.le_of_ble_eq_true rfl) dX2_sourWays_123 (fun H locs h => ?_)
        refine lv_iload_n (pc := 126) hx hb dX2_sourWays_126 rfl (lv_at hl 3 rfl) ?_
        obtain ⟨u24, hc, hf⟩ := b1_e hf
        refine k_X2_passDay (pc := 127) hNN hx hb hml hown hts hK hN hc ml_X2_57 (Nat.le_trans (by decide) hF) (Nat.le_trans (by decide) hLo) h hl.1 ⟨Nat.zero_le _, Nat.zero_le _⟩ (Nat.le_of_ble_eq_true rfl) dX2_sourWays_127 (fun H locs h => ?_)
        refine lv_iinc (pc := 130) (v := x8 + 1) (lv' := [(6, .int (x8 + 1)), (7, .int x21), (0, .ref (a 34)), (2, .int p2), (3, .int p3), (4, .int (u6.1 6 (ix p1))), (5, .int (u6.1 8 (ix p1)))]) hx hb dX2_sourWays_130 hl (k := 6) rfl rfl (by decide) rfl (fun ls hl => ?_)
        refine lv_goto (pc := 133) (tgt := 80) hx hb dX2_sourWays_133 (by decide) ?_
        exact irec19 _ _ hf _ _ _ h (lv_sub hl [2, 3, 4, 5, 6, 0] rfl)
    refine lq_2_e (P := fun (u3 : St) (x4 : Int32) => ∀ (H : Heap) (locs : List Loc) (ls : Array Slot), Hh D (AB N a s.heap.size) (wX N a (EB a cI cJ cR) u3) s.heap H locs → lv_has ls 9 [(0, .ref (a 34)), (1, .int p1), (2, .int p2), (3, .int p3), (4, .int x4)] → W p l e R s m args below meth c H locs 0 0 Q (F0 m 19 ls [])) ?_ FU _ _ hf _ _ _ h (lv_sub hl [1, 2, 3, 4, 0] rfl)
    intro rec25 irec25 u3 x4 hf H locs ls h hl
    unfold B_X2_sourWays_19 at hf
    refine lv_iload (pc := 19) hx hb dX2_sourWays_19 (lv_at hl 4 rfl) ?_
    refine lv_bipush (pc := 21) (v := 99) hx hb dX2_sourWays_21 (by decide) ?_
    refine lv_icmp_gt (pc := 23) (tgt := 49) hx hb dX2_sourWays_23 (by decide) (fun c26 => ?_) (fun c26 => ?_)
    · have hf := if_t hf c26
      exact jk5 _ hf _ _ _ h (lv_sub hl [0, 1, 2, 3] rfl)
    · have hf := if_f hf c26
      refine lv_aload_n (pc := 26) hx hb dX2_sourWays_26 rfl (lv_at hl 0 rfl) ?_
      refine gB_34_2 (pc := 27) hNN hx hb hts hown hK h fl_X2_9 dX2_sourWays_27 ?_
      refine lv_iload (pc := 30) hx hb dX2_sourWays_30 (lv_at hl 4 rfl) ?_
      refine lv_iload (pc := 32) hx hb dX2_sourWays_32 (lv_at hl 4 rfl) ?_
      refine lv_if_ne (pc := 34) (tgt := 41) hx hb dX2_sourWays_34 (by decide) (fun c27 => ?_) (fun c27 => ?_)
      · have hf := if_f hf c27
        refine lv_lconst (pc := 41) (v := 0) hx hb dX2_sourWays_41 (by decide) ?_
        obtain ⟨hin, hf⟩ := cki_e hf
        refine pB_35 (pc := 42) hNN hx hb hK h hin dX2_sourWays_42 (fun H locs h => ?_)
        obtain ⟨u28, eu28, hf⟩ := bs_e hf
        rw [← eu28] at h
        refine lv_iinc (pc := 43) (v := x4 + 1) (lv' := [(4, .int (x4 + 1)), (0, .ref (a 34)), (1, .int p1), (2, .int p2), (3, .int p3)]) hx hb dX2_sourWays_43 hl (k := 4) rfl rfl (by decide) rfl (fun ls hl => ?_)
        refine lv_goto (pc := 46) (tgt := 19) hx hb dX2_sourWays_46 (by decide) ?_
        exact irec25 _ _ hf _ _ _ h (lv_sub hl [1, 2, 3, 4, 0] rfl)
      · have hf := if_t hf c27
        refine lv_lconst (pc := 37) (v := 1) hx hb dX2_sourWays_37 (by decide) ?_
        refine lv_goto (pc := 38) (tgt := 42) hx hb dX2_sourWays_38 (by decide) ?_
        obtain ⟨hin, hf⟩ := cki_e hf
        refine pB_35 (pc := 42) hNN hx hb hK h hin dX2_sourWays_42 (fun H locs h => ?_)
        obtain ⟨u29, eu29, hf⟩ := bs_e hf
        rw [← eu29] at h
        refine lv_iinc (pc := 43) (v := x4 + 1) (lv' := [(4, .int (x4 + 1)), (0, .ref (a 34)), (1, .int p1), (2, .int p2), (3, .int p3)]) hx hb dX2_sourWays_43 hl (k := 4) rfl rfl (by decide) rfl (fun ls hl => ?_)
        refine lv_goto (pc := 46) (tgt := 19) hx hb dX2_sourWays_46 (by decide) ?_
        exact irec25 _ _ hf _ _ _ h (lv_sub hl [1, 2, 3, 4, 0] rfl)
  · have hf := if_t hf c2
    refine lv_lconst (pc := 14) (v := 0) hx hb dX2_sourWays_14 (by decide) ?_
    exact hret (so1 hf) (so2 hf) dX2_sourWays_15 h
theorem k_X2_sourWays {p : Program} {l : Launch} {e : Env} {R : Room} {s : State} {m : MethodId} {args : Array Value} {below : List Frame} {meth : Method} {c : Code} {H : Heap} {locs : List Loc} {cells slots : Nat} {Q : State → Prop} {pc : Nat} {ls : Array Slot} {rest : List Value} {cc : ByteArray} {D : va_G} {cI cJ cR : ClassId} {a : Nat → Nat} {u : St} {own : String} {index nL : Nat} {N : Nat} (hNN : 38 ≤ N) {p1 : Int32} {p2 : Int32} {p3 : Int32} {rr : Int64} {uu : St} (hx : p.tables.exec = Jvm.exec) (hb : c.code = cc) (hml : c.maxLocals = nL) (hown : s.vm.findClass own = some m.cls) (hts : ∀ w ∈ Gd, w.before args s = true) (hK : va_K D vwCl (tyB cI cJ cR) s) (hN : NB s) (hc : f_X2_sourWays u p1 p2 p3 = some (rr, uu)) (hlk : Cond.methodLink own index yX2_sourWays ∈ Gd) (hF : 4 ≤ R.frames) (hLo : 94 ≤ R.locals) (h : Hh D (AB N a s.heap.size) (wX N a (EB a cI cJ cR) u) s.heap H locs) (hsize : ls.size = nL) (hcs : cells ≤ R.cells ∧ slots ≤ R.slots) (hr : (rest.map fun v => v.category).sum ≤ 8) (hdg : decode cc pc = .ok (.invokevirtual index, 3)) (kk : ∀ (H1 : Heap) (locs1 : List Loc), Hh D (AB N a s.heap.size) (wX N a (EB a cI cJ cR) uu) s.heap H1 locs1 → W p l e R s m args below meth c H1 locs1 cells slots Q (F0 m (pc + 3) ls (.long rr :: rest))) : W p l e R s m args below meth c H locs cells slots Q (F0 m pc ls (.int p3 :: .int p2 :: .int p1 :: .ref (a 34) :: rest)) :=
  cVl (n := 3) hx hb hml hown hts hK hN (c_X2_sourWays hNN hc) (gdV hlk im_X2_sourWays se_X2_sourWays in_X2 co_X2_sourWays) rfl (by decide +kernel) rfl hF hLo h hsize hcs (Nat.lt_of_lt_of_le (by decide) hNN) rfl rfl rfl hr hdg kk
def B_X3_faultAsTable_2 (u : St) (k2 : Option (Int32)) (rec4 : Int32 → Option (Int32)) (x1 : Int32) : Option (Int32) := if (u.1 18 1) ≤ x1 then k2 else if 60 ≤ x1 then k2 else if 30 ≤ x1 then some x1 else cki x1 60 (b1 (f_X11_within u (u.1 19 (ix x1)) 48 57) (fun (x8 : Int32) => if x8 = 0 then some x1 else rec4 (x1 + 1)))
def f_X3_faultAsTable (u : St) : Option (Int32) := jq_0 (if (u.1 18 1) = 0 then some 0 else some ((-6))) (fun (k2 : Option (Int32)) => lq_1 (B_X3_faultAsTable_2 u k2) FU 0)
set_option maxRecDepth 100000 in
set_option maxHeartbeats 4000000 in
theorem c_X3_faultAsTable {l : Launch} {D : va_G} {cI cJ cR : ClassId} {a : Nat → Nat} {u : St} {N : Nat} (hNN : 38 ≤ N) {rr : Int32} (hf : f_X3_faultAsTable u = some rr) : Ci l yX3_faultAsTable cX3_faultAsTable 2 (some .int) 1 22 D (tyB cI cJ cR) N a (EB a cI cJ cR) [.ref (a 18)] u rr u := by
  refine metI (by decide +kernel) (Nat.le_of_ble_eq_true rfl) ?_
  intro p e s m args below meth c R Q hx hb hml hown hts hF hLo hret hK hN h ls hl
  have hown : s.vm.findClass RX3 = some m.cls := hown
  have hl : lv_has ls 2 [(0, .ref (a 18))] := hl
  unfold f_X3_faultAsTable at hf
  refine lv_iconst (pc := 0) (v := 0) hx hb dX3_faultAsTable_0 (by decide) ?_
  refine lv_istore_n (pc := 1) (lv' := [(1, .int 0), (0, .ref (a 18))]) hx hb dX3_faultAsTable_1 rfl hl (by decide) rfl (fun ls hl => ?_)
  obtain ⟨k2, hk2, hf⟩ := jq_0_e hf
  have jk2 : k2 = some rr → ∀ (H : Heap) (locs : List Loc) (ls : Array Slot), Hh D (AB N a s.heap.size) (wX N a (EB a cI cJ cR) u) s.heap H locs → lv_has ls 2 [(0, .ref (a 18))] → W p l e R s m args below meth c H locs 0 0 Q (F0 m 46 ls []) := by
    intro hf H locs ls h hl
    rw [hk2] at hf
    refine lv_aload_n (pc := 46) hx hb dX3_faultAsTable_46 rfl (lv_at hl 0 rfl) ?_
    refine gB_18_1 (pc := 47) hNN hx hb hts hown hK h fl_X3_15 dX3_faultAsTable_47 ?_
    refine lv_if_ne (pc := 50) (tgt := 57) hx hb dX3_faultAsTable_50 (by decide) (fun c3 => ?_) (fun c3 => ?_)
    · have hf := if_f hf c3
      refine lv_bipush (pc := 57) (v := (-6)) hx hb dX3_faultAsTable_57 (by decide) ?_
      exact hret (so hf) rfl rfl dX3_faultAsTable_59 h
    · have hf := if_t hf c3
      refine lv_iconst (pc := 53) (v := 0) hx hb dX3_faultAsTable_53 (by decide) ?_
      refine lv_goto (pc := 54) (tgt := 59) hx hb dX3_faultAsTable_54 (by decide) ?_
      exact hret (so hf) rfl rfl dX3_faultAsTable_59 h
  refine lq_1_e (P := fun (x1 : Int32) => ∀ (H : Heap) (locs : List Loc) (ls : Array Slot), Hh D (AB N a s.heap.size) (wX N a (EB a cI cJ cR) u) s.heap H locs → lv_has ls 2 [(0, .ref (a 18)), (1, .int x1)] → W p l e R s m args below meth c H locs 0 0 Q (F0 m 2 ls [])) ?_ FU _ hf _ _ _ h (lv_sub hl [1, 0] rfl)
  intro rec4 irec4 x1 hf H locs ls h hl
  unfold B_X3_faultAsTable_2 at hf
  refine lv_iload_n (pc := 2) hx hb dX3_faultAsTable_2 rfl (lv_at hl 1 rfl) ?_
  refine lv_aload_n (pc := 3) hx hb dX3_faultAsTable_3 rfl (lv_at hl 0 rfl) ?_
  refine gB_18_1 (pc := 4) hNN hx hb hts hown hK h fl_X3_15 dX3_faultAsTable_4 ?_
  refine lv_icmp_ge (pc := 7) (tgt := 46) hx hb dX3_faultAsTable_7 (by decide) (fun c5 => ?_) (fun c5 => ?_)
  · have hf := if_t hf c5
    exact jk2 hf _ _ _ h (lv_sub hl [0] rfl)
  · have hf := if_f hf c5
    refine lv_iload_n (pc := 10) hx hb dX3_faultAsTable_10 rfl (lv_at hl 1 rfl) ?_
    refine lv_bipush (pc := 11) (v := 60) hx hb dX3_faultAsTable_11 (by decide) ?_
    refine lv_icmp_ge (pc := 13) (tgt := 46) hx hb dX3_faultAsTable_13 (by decide) (fun c6 => ?_) (fun c6 => ?_)
    · have hf := if_t hf c6
      exact jk2 hf _ _ _ h (lv_sub hl [0] rfl)
    · have hf := if_f hf c6
      refine lv_iload_n (pc := 16) hx hb dX3_faultAsTable_16 rfl (lv_at hl 1 rfl) ?_
      refine lv_bipush (pc := 17) (v := 30) hx hb dX3_faultAsTable_17 (by decide) ?_
      refine lv_icmp_ge (pc := 19) (tgt := 38) hx hb dX3_faultAsTable_19 (by decide) (fun c7 => ?_) (fun c7 => ?_)
      · have hf := if_t hf c7
        refine lv_iload_n (pc := 38) hx hb dX3_faultAsTable_38 rfl (lv_at hl 1 rfl) ?_
        exact hret (so hf) rfl rfl dX3_faultAsTable_39 h
      · have hf := if_f hf c7
        refine lv_aload_n (pc := 22) hx hb dX3_faultAsTable_22 rfl (lv_at hl 0 rfl) ?_
        refine gB_18_0 (pc := 23) hNN hx hb hts hown hK h fl_X3_9 dX3_faultAsTable_23 ?_
        refine lv_iload_n (pc := 26) hx hb dX3_faultAsTable_26 rfl (lv_at hl 1 rfl) ?_
        obtain ⟨hin, hf⟩ := cki_e hf
        refine gB_19 (pc := 27) hNN hx hb hK h hin dX3_faultAsTable_27 ?_
        refine lv_bipush (pc := 28) (v := 48) hx hb dX3_faultAsTable_28 (by decide) ?_
        refine lv_bipush (pc := 30) (v := 57) hx hb dX3_faultAsTable_30 (by decide) ?_
        obtain ⟨x8, hc, hf⟩ := b1_e hf
        refine kN_X11_within (pc := 32) hNN hx hb hml hown hts hK hN hc (nl_X3_19 hN) (Nat.le_trans (by decide) hF) (Nat.le_trans (by decide) hLo) h hl.1 ⟨Nat.zero_le _, Nat.zero_le _⟩ (Nat.le_of_ble_eq_true rfl) dX3_faultAsTable_32 (fun H locs h => ?_)
        refine lv_if_ne (pc := 35) (tgt := 40) hx hb dX3_faultAsTable_35 (by decide) (fun c9 => ?_) (fun c9 => ?_)
        · have hf := if_f hf c9
          refine lv_iinc (pc := 40) (v := x1 + 1) (lv' := [(1, .int (x1 + 1)), (0, .ref (a 18))]) hx hb dX3_faultAsTable_40 hl (k := 1) rfl rfl (by decide) rfl (fun ls hl => ?_)
          refine lv_goto (pc := 43) (tgt := 2) hx hb dX3_faultAsTable_43 (by decide) ?_
          exact irec4 _ hf _ _ _ h (lv_sub hl [1, 0] rfl)
        · have hf := if_t hf c9
          refine lv_iload_n (pc := 38) hx hb dX3_faultAsTable_38 rfl (lv_at hl 1 rfl) ?_
          exact hret (so hf) rfl rfl dX3_faultAsTable_39 h
theorem k_X3_faultAsTable {p : Program} {l : Launch} {e : Env} {R : Room} {s : State} {m : MethodId} {args : Array Value} {below : List Frame} {meth : Method} {c : Code} {H : Heap} {locs : List Loc} {cells slots : Nat} {Q : State → Prop} {pc : Nat} {ls : Array Slot} {rest : List Value} {cc : ByteArray} {D : va_G} {cI cJ cR : ClassId} {a : Nat → Nat} {u : St} {own : String} {index nL : Nat} {N : Nat} (hNN : 38 ≤ N) {rr : Int32} (hx : p.tables.exec = Jvm.exec) (hb : c.code = cc) (hml : c.maxLocals = nL) (hown : s.vm.findClass own = some m.cls) (hts : ∀ w ∈ Gd, w.before args s = true) (hK : va_K D vwCl (tyB cI cJ cR) s) (hN : NB s) (hc : f_X3_faultAsTable u = some rr) (hlk : Cond.methodLink own index yX3_faultAsTable ∈ Gd) (hF : 2 ≤ R.frames) (hLo : 43 ≤ R.locals) (h : Hh D (AB N a s.heap.size) (wX N a (EB a cI cJ cR) u) s.heap H locs) (hsize : ls.size = nL) (hcs : cells ≤ R.cells ∧ slots ≤ R.slots) (hr : (rest.map fun v => v.category).sum ≤ 8) (hdg : decode cc pc = .ok (.invokevirtual index, 3)) (kk : ∀ (H1 : Heap) (locs1 : List Loc), Hh D (AB N a s.heap.size) (wX N a (EB a cI cJ cR) u) s.heap H1 locs1 → W p l e R s m args below meth c H1 locs1 cells slots Q (F0 m (pc + 3) ls (.int rr :: rest))) : W p l e R s m args below meth c H locs cells slots Q (F0 m pc ls (.ref (a 18) :: rest)) :=
  cVi (n := 0) hx hb hml hown hts hK hN (c_X3_faultAsTable hNN hc) (gdV hlk im_X3_faultAsTable se_X3_faultAsTable in_X3 co_X3_faultAsTable) rfl (by decide +kernel) rfl hF hLo h hsize hcs (Nat.lt_of_lt_of_le (by decide) hNN) rfl rfl rfl hr hdg kk
def B_X3_faultAsMoves_4 (p1 : Int32) (u : St) (k3 : Int32 → Option (Int32)) (rec6 : Int32 → Int32 → Option (Int32)) (x1 : Int32) (x2 : Int32) : Option (Int32) := if (u.1 18 1) ≤ x2 then k3 x1 else if 60 ≤ x2 then k3 x1 else cki x2 60 (if x1 = 0 then b1 (f_X3_isBarrel u (u.1 19 (ix x2))) (fun (x10 : Int32) => if x10 = 0 then if (u.1 19 (ix x2)) = 46 then rec6 x1 (x2 + 1) else some x2 else rec6 1 (x2 + 1)) else b1 (f_X11_within u (u.1 19 (ix x2)) 97 (((97 : Int32) + p1) - (1 : Int32))) (fun (x13 : Int32) => if x13 = 0 then some x2 else rec6 0 (x2 + 1)))
def f_X3_faultAsMoves (u : St) (p1 : Int32) : Option (Int32) := jq_1 (fun (x4 : Int32) => if x4 = 0 then some ((-6)) else some (u.1 18 1)) (fun (k3 : Int32 → Option (Int32)) => lq_2 (B_X3_faultAsMoves_4 p1 u k3) FU 0 0)
set_option maxRecDepth 100000 in
set_option maxHeartbeats 4000000 in
theorem c_X3_faultAsMoves {l : Launch} {D : va_G} {cI cJ cR : ClassId} {a : Nat → Nat} {u : St} {N : Nat} (hNN : 38 ≤ N) {p1 : Int32} {rr : Int32} (hf : f_X3_faultAsMoves u p1 = some rr) : Ci l yX3_faultAsMoves cX3_faultAsMoves 5 (some .int) 2 43 D (tyB cI cJ cR) N a (EB a cI cJ cR) [.ref (a 18), .int p1] u rr u := by
  refine metI (by decide +kernel) (Nat.le_of_ble_eq_true rfl) ?_
  intro p e s m args below meth c R Q hx hb hml hown hts hF hLo hret hK hN h ls hl
  have hown : s.vm.findClass RX3 = some m.cls := hown
  have hl : lv_has ls 5 [(0, .ref (a 18)), (1, .int p1)] := hl
  unfold f_X3_faultAsMoves at hf
  refine lv_iconst (pc := 0) (v := 0) hx hb dX3_faultAsMoves_0 (by decide) ?_
  refine lv_istore_n (pc := 1) (lv' := [(2, .int 0), (0, .ref (a 18)), (1, .int p1)]) hx hb dX3_faultAsMoves_1 rfl hl (by decide) rfl (fun ls hl => ?_)
  refine lv_iconst (pc := 2) (v := 0) hx hb dX3_faultAsMoves_2 (by decide) ?_
  refine lv_istore_n (pc := 3) (lv' := [(3, .int 0), (2, .int 0), (0, .ref (a 18)), (1, .int p1)]) hx hb dX3_faultAsMoves_3 rfl hl (by decide) rfl (fun ls hl => ?_)
  obtain ⟨k3, hk3, hf⟩ := jq_1_e hf
  have jk3 : ∀ (x4 : Int32), k3 x4 = some rr → ∀ (H : Heap) (locs : List Loc) (ls : Array Slot), Hh D (AB N a s.heap.size) (wX N a (EB a cI cJ cR) u) s.heap H locs → lv_has ls 5 [(0, .ref (a 18)), (2, .int x4)] → W p l e R s m args below meth c H locs 0 0 Q (F0 m 82 ls []) := by
    intro x4 hf H locs ls h hl
    rw [hk3] at hf
    refine lv_iload_n (pc := 82) hx hb dX3_faultAsMoves_82 rfl (lv_at hl 1 rfl) ?_
    refine lv_if_eq (pc := 83) (tgt := 93) hx hb dX3_faultAsMoves_83 (by decide) (fun c5 => ?_) (fun c5 => ?_)
    · have hf := if_t hf c5
      refine lv_bipush (pc := 93) (v := (-6)) hx hb dX3_faultAsMoves_93 (by decide) ?_
      exact hret (so hf) rfl rfl dX3_faultAsMoves_95 h
    · have hf := if_f hf c5
      refine lv_aload_n (pc := 86) hx hb dX3_faultAsMoves_86 rfl (lv_at hl 0 rfl) ?_
      refine gB_18_1 (pc := 87) hNN hx hb hts hown hK h fl_X3_15 dX3_faultAsMoves_87 ?_
      refine lv_goto (pc := 90) (tgt := 95) hx hb dX3_faultAsMoves_90 (by decide) ?_
      exact hret (so hf) rfl rfl dX3_faultAsMoves_95 h
  refine lq_2_e (P := fun (x1 : Int32) (x2 : Int32) => ∀ (H : Heap) (locs : List Loc) (ls : Array Slot), Hh D (AB N a s.heap.size) (wX N a (EB a cI cJ cR) u) s.heap H locs → lv_has ls 5 [(0, .ref (a 18)), (1, .int p1), (2, .int x1), (3, .int x2)] → W p l e R s m args below meth c H locs 0 0 Q (F0 m 4 ls [])) ?_ FU _ _ hf _ _ _ h (lv_sub hl [2, 3, 1, 0] rfl)
  intro rec6 irec6 x1 x2 hf H locs ls h hl
  unfold B_X3_faultAsMoves_4 at hf
  refine lv_iload_n (pc := 4) hx hb dX3_faultAsMoves_4 rfl (lv_at hl 3 rfl) ?_
  refine lv_aload_n (pc := 5) hx hb dX3_faultAsMoves_5 rfl (lv_at hl 0 rfl) ?_
  refine gB_18_1 (pc := 6) hNN hx hb hts hown hK h fl_X3_15 dX3_faultAsMoves_6 ?_
  refine lv_icmp_ge (pc := 9) (tgt := 82) hx hb dX3_faultAsMoves_9 (by decide) (fun c7 => ?_) (fun c7 => ?_)
  · have hf := if_t hf c7
    exact jk3 _ hf _ _ _ h (lv_sub hl [0, 2] rfl)
  · have hf := if_f hf c7
    refine lv_iload_n (pc := 12) hx hb dX3_faultAsMoves_12 rfl (lv_at hl 3 rfl) ?_
    refine lv_bipush (pc := 13) (v := 60) hx hb dX3_faultAsMoves_13 (by decide) ?_
    refine lv_icmp_ge (pc := 15) (tgt := 82) hx hb dX3_faultAsMoves_15 (by decide) (fun c8 => ?_) (fun c8 => ?_)
    · have hf := if_t hf c8
      exact jk3 _ hf _ _ _ h (lv_sub hl [0, 2] rfl)
    · have hf := if_f hf c8
      refine lv_aload_n (pc := 18) hx hb dX3_faultAsMoves_18 rfl (lv_at hl 0 rfl) ?_
      refine gB_18_0 (pc := 19) hNN hx hb hts hown hK h fl_X3_9 dX3_faultAsMoves_19 ?_
      refine lv_iload_n (pc := 22) hx hb dX3_faultAsMoves_22 rfl (lv_at hl 3 rfl) ?_
      obtain ⟨hin, hf⟩ := cki_e hf
      refine gB_19 (pc := 23) hNN hx hb hK h hin dX3_faultAsMoves_23 ?_
      refine lv_istore (pc := 24) (lv' := [(4, .int (u.1 19 (ix x2))), (0, .ref (a 18)), (1, .int p1), (2, .int x1), (3, .int x2)]) hx hb dX3_faultAsMoves_24 hl (by decide) rfl (fun ls hl => ?_)
      refine lv_iload_n (pc := 26) hx hb dX3_faultAsMoves_26 rfl (lv_at hl 3 rfl) ?_
      refine lv_if_eq (pc := 27) (tgt := 53) hx hb dX3_faultAsMoves_27 (by decide) (fun c9 => ?_) (fun c9 => ?_)
      · have hf := if_t hf c9
        refine lv_aload_n (pc := 53) hx hb dX3_faultAsMoves_53 rfl (lv_at hl 1 rfl) ?_
        refine lv_iload (pc := 54) hx hb dX3_faultAsMoves_54 (lv_at hl 0 rfl) ?_
        obtain ⟨x10, hc, hf⟩ := b1_e hf
        refine k_X3_isBarrel (pc := 56) hNN hx hb hml hown hts hK hN hc ml_X3_23 (Nat.le_trans (by decide) hF) (Nat.le_trans (by decide) hLo) h hl.1 ⟨Nat.zero_le _, Nat.zero_le _⟩ (Nat.le_of_ble_eq_true rfl) dX3_faultAsMoves_56 (fun H locs h => ?_)
        refine lv_if_eq (pc := 59) (tgt := 67) hx hb dX3_faultAsMoves_59 (by decide) (fun c11 => ?_) (fun c11 => ?_)
        · have hf := if_t hf c11
          refine lv_iload (pc := 67) hx hb dX3_faultAsMoves_67 (lv_at hl 0 rfl) ?_
          refine lv_bipush (pc := 69) (v := 46) hx hb dX3_faultAsMoves_69 (by decide) ?_
          refine lv_icmp_eq (pc := 71) (tgt := 76) hx hb dX3_faultAsMoves_71 (by decide) (fun c12 => ?_) (fun c12 => ?_)
          · have hf := if_t hf c12
            refine lv_iinc (pc := 76) (v := x2 + 1) (lv' := [(3, .int (x2 + 1)), (4, .int (u.1 19 (ix x2))), (0, .ref (a 18)), (1, .int p1), (2, .int x1)]) hx hb dX3_faultAsMoves_76 hl (k := 4) rfl rfl (by decide) rfl (fun ls hl => ?_)
            refine lv_goto (pc := 79) (tgt := 4) hx hb dX3_faultAsMoves_79 (by decide) ?_
            exact irec6 _ _ hf _ _ _ h (lv_sub hl [2, 3, 4, 0] rfl)
          · have hf := if_f hf c12
            refine lv_iload_n (pc := 74) hx hb dX3_faultAsMoves_74 rfl (lv_at hl 4 rfl) ?_
            exact hret (so hf) rfl rfl dX3_faultAsMoves_75 h
        · have hf := if_f hf c11
          refine lv_iconst (pc := 62) (v := 1) hx hb dX3_faultAsMoves_62 (by decide) ?_
          refine lv_istore_n (pc := 63) (lv' := [(2, .int 1), (4, .int (u.1 19 (ix x2))), (0, .ref (a 18)), (1, .int p1), (3, .int x2)]) hx hb dX3_faultAsMoves_63 rfl hl (by decide) rfl (fun ls hl => ?_)
          refine lv_goto (pc := 64) (tgt := 76) hx hb dX3_faultAsMoves_64 (by decide) ?_
          refine lv_iinc (pc := 76) (v := x2 + 1) (lv' := [(3, .int (x2 + 1)), (2, .int 1), (4, .int (u.1 19 (ix x2))), (0, .ref (a 18)), (1, .int p1)]) hx hb dX3_faultAsMoves_76 hl (k := 4) rfl rfl (by decide) rfl (fun ls hl => ?_)
          refine lv_goto (pc := 79) (tgt := 4) hx hb dX3_faultAsMoves_79 (by decide) ?_
          exact irec6 _ _ hf _ _ _ h (lv_sub hl [3, 4, 1, 0] rfl)
      · have hf := if_f hf c9
        refine lv_iload (pc := 30) hx hb dX3_faultAsMoves_30 (lv_at hl 0 rfl) ?_
        refine lv_bipush (pc := 32) (v := 97) hx hb dX3_faultAsMoves_32 (by decide) ?_
        refine lv_bipush (pc := 34) (v := 97) hx hb dX3_faultAsMoves_34 (by decide) ?_
        refine lv_iload_n (pc := 36) hx hb dX3_faultAsMoves_36 rfl (lv_at hl 2 rfl) ?_
        refine lv_iadd (pc := 37) hx hb dX3_faultAsMoves_37 ?_
        refine lv_iconst (pc := 38) (v := 1) hx hb dX3_faultAsMoves_38 (by decide) ?_
        refine lv_isub (pc := 39) hx hb dX3_faultAsMoves_39 ?_
        obtain ⟨x13, hc, hf⟩ := b1_e hf
        refine kN_X11_within (pc := 40) hNN hx hb hml hown hts hK hN hc (nl_X3_19 hN) (Nat.le_trans (by decide) hF) (Nat.le_trans (by decide) hLo) h hl.1 ⟨Nat.zero_le _, Nat.zero_le _⟩ (Nat.le_of_ble_eq_true rfl) dX3_faultAsMoves_40 (fun H locs h => ?_)
        refine lv_if_ne (pc := 43) (tgt := 48) hx hb dX3_faultAsMoves_43 (by decide) (fun c14 => ?_) (fun c14 => ?_)
        · have hf := if_f hf c14
          refine lv_iconst (pc := 48) (v := 0) hx hb dX3_faultAsMoves_48 (by decide) ?_
          refine lv_istore_n (pc := 49) (lv' := [(2, .int 0), (4, .int (u.1 19 (ix x2))), (0, .ref (a 18)), (1, .int p1), (3, .int x2)]) hx hb dX3_faultAsMoves_49 rfl hl (by decide) rfl (fun ls hl => ?_)
          refine lv_goto (pc := 50) (tgt := 76) hx hb dX3_faultAsMoves_50 (by decide) ?_
          refine lv_iinc (pc := 76) (v := x2 + 1) (lv' := [(3, .int (x2 + 1)), (2, .int 0), (4, .int (u.1 19 (ix x2))), (0, .ref (a 18)), (1, .int p1)]) hx hb dX3_faultAsMoves_76 hl (k := 4) rfl rfl (by decide) rfl (fun ls hl => ?_)
          refine lv_goto (pc := 79) (tgt := 4) hx hb dX3_faultAsMoves_79 (by decide) ?_
          exact irec6 _ _ hf _ _ _ h (lv_sub hl [3, 4, 1, 0] rfl)
        · have hf := if_t hf c14
          refine lv_iload_n (pc := 46) hx hb dX3_faultAsMoves_46 rfl (lv_at hl 4 rfl) ?_
          exact hret (so hf) rfl rfl dX3_faultAsMoves_47 h
theorem k_X3_faultAsMoves {p : Program} {l : Launch} {e : Env} {R : Room} {s : State} {m : MethodId} {args : Array Value} {below : List Frame} {meth : Method} {c : Code} {H : Heap} {locs : List Loc} {cells slots : Nat} {Q : State → Prop} {pc : Nat} {ls : Array Slot} {rest : List Value} {cc : ByteArray} {D : va_G} {cI cJ cR : ClassId} {a : Nat → Nat} {u : St} {own : String} {index nL : Nat} {N : Nat} (hNN : 38 ≤ N) {p1 : Int32} {rr : Int32} (hx : p.tables.exec = Jvm.exec) (hb : c.code = cc) (hml : c.maxLocals = nL) (hown : s.vm.findClass own = some m.cls) (hts : ∀ w ∈ Gd, w.before args s = true) (hK : va_K D vwCl (tyB cI cJ cR) s) (hN : NB s) (hc : f_X3_faultAsMoves u p1 = some rr) (hlk : Cond.methodLink own index yX3_faultAsMoves ∈ Gd) (hF : 3 ≤ R.frames) (hLo : 67 ≤ R.locals) (h : Hh D (AB N a s.heap.size) (wX N a (EB a cI cJ cR) u) s.heap H locs) (hsize : ls.size = nL) (hcs : cells ≤ R.cells ∧ slots ≤ R.slots) (hr : (rest.map fun v => v.category).sum ≤ 8) (hdg : decode cc pc = .ok (.invokevirtual index, 3)) (kk : ∀ (H1 : Heap) (locs1 : List Loc), Hh D (AB N a s.heap.size) (wX N a (EB a cI cJ cR) u) s.heap H1 locs1 → W p l e R s m args below meth c H1 locs1 cells slots Q (F0 m (pc + 3) ls (.int rr :: rest))) : W p l e R s m args below meth c H locs cells slots Q (F0 m pc ls (.int p1 :: .ref (a 18) :: rest)) :=
  cVi (n := 1) hx hb hml hown hts hK hN (c_X3_faultAsMoves hNN hc) (gdV hlk im_X3_faultAsMoves se_X3_faultAsMoves in_X3 co_X3_faultAsMoves) rfl (by decide +kernel) rfl hF hLo h hsize hcs (Nat.lt_of_lt_of_le (by decide) hNN) rfl rfl rfl hr hdg kk
def B_X4_safeCellars_5 (p1 : Int32) (p2 : Int32) (u : St) (k3 : Int32 → Option (Int32)) (rec5 : Int32 → Int32 → Option (Int32)) (x1 : Int32) (x2 : Int32) : Option (Int32) := if (u.1 2 2) ≤ x2 then k3 x1 else cki p1 8 (b1 (f_X0_acidBehind u p2 x2 (u.1 8 (ix p1))) (fun (x7 : Int32) => b1 (f_X9_isVinegar u x7) (fun (x8 : Int32) => if x8 = 0 then rec5 (x1 ||| ((1 : Int32) <<< (x2 &&& 31))) (x2 + 1) else rec5 (x1 ||| (0 : Int32)) (x2 + 1))))
def f_X4_safeCellars (u : St) (p1 : Int32) (p2 : Int32) : Option (Int32) := jq_1 (fun (x4 : Int32) => some x4) (fun (k3 : Int32 → Option (Int32)) => lq_2 (B_X4_safeCellars_5 p1 p2 u k3) FU 0 0)
set_option maxRecDepth 100000 in
set_option maxHeartbeats 4000000 in
theorem c_X4_safeCellars {l : Launch} {D : va_G} {cI cJ cR : ClassId} {a : Nat → Nat} {u : St} {N : Nat} (hNN : 38 ≤ N) {p1 : Int32} {p2 : Int32} {rr : Int32} (hf : f_X4_safeCellars u p1 p2 = some rr) : Ci l yX4_safeCellars cX4_safeCellars 6 (some .int) 4 93 D (tyB cI cJ cR) N a (EB a cI cJ cR) [.ref (a 25), .int p1, .int p2] u rr u := by
  refine metI (by decide +kernel) (Nat.le_of_ble_eq_true rfl) ?_
  intro p e s m args below meth c R Q hx hb hml hown hts hF hLo hret hK hN h ls hl
  have hown : s.vm.findClass RX4 = some m.cls := hown
  have hl : lv_has ls 6 [(0, .ref (a 25)), (1, .int p1), (2, .int p2)] := hl
  unfold f_X4_safeCellars at hf
  refine lv_iconst (pc := 0) (v := 0) hx hb dX4_safeCellars_0 (by decide) ?_
  refine lv_istore_n (pc := 1) (lv' := [(3, .int 0), (0, .ref (a 25)), (1, .int p1), (2, .int p2)]) hx hb dX4_safeCellars_1 rfl hl (by decide) rfl (fun ls hl => ?_)
  refine lv_iconst (pc := 2) (v := 0) hx hb dX4_safeCellars_2 (by decide) ?_
  refine lv_istore (pc := 3) (lv' := [(4, .int 0), (3, .int 0), (0, .ref (a 25)), (1, .int p1), (2, .int p2)]) hx hb dX4_safeCellars_3 hl (by decide) rfl (fun ls hl => ?_)
  obtain ⟨k3, hk3, hf⟩ := jq_1_e hf
  have jk3 : ∀ (x4 : Int32), k3 x4 = some rr → ∀ (H : Heap) (locs : List Loc) (ls : Array Slot), Hh D (AB N a s.heap.size) (wX N a (EB a cI cJ cR) u) s.heap H locs → lv_has ls 6 [(3, .int x4)] → W p l e R s m args below meth c H locs 0 0 Q (F0 m 73 ls []) := by
    intro x4 hf H locs ls h hl
    rw [hk3] at hf
    refine lv_iload_n (pc := 73) hx hb dX4_safeCellars_73 rfl (lv_at hl 0 rfl) ?_
    exact hret (so hf) rfl rfl dX4_safeCellars_74 h
  refine lq_2_e (P := fun (x1 : Int32) (x2 : Int32) => ∀ (H : Heap) (locs : List Loc) (ls : Array Slot), Hh D (AB N a s.heap.size) (wX N a (EB a cI cJ cR) u) s.heap H locs → lv_has ls 6 [(0, .ref (a 25)), (1, .int p1), (2, .int p2), (3, .int x1), (4, .int x2)] → W p l e R s m args below meth c H locs 0 0 Q (F0 m 5 ls [])) ?_ FU _ _ hf _ _ _ h (lv_sub hl [2, 3, 4, 1, 0] rfl)
  intro rec5 irec5 x1 x2 hf H locs ls h hl
  unfold B_X4_safeCellars_5 at hf
  refine lv_iload (pc := 5) hx hb dX4_safeCellars_5 (lv_at hl 4 rfl) ?_
  refine lv_aload_n (pc := 7) hx hb dX4_safeCellars_7 rfl (lv_at hl 0 rfl) ?_
  refine gB_25_0 (pc := 8) hNN hx hb hts hown hK h fl_X4_27 dX4_safeCellars_8 ?_
  refine gB_1_0 (pc := 11) hNN hx hb hts hown hK h fl_X4_59 dX4_safeCellars_11 ?_
  refine gB_2_2 (pc := 14) hNN hx hb hts hown hK h fl_X4_71 dX4_safeCellars_14 ?_
  refine lv_icmp_ge (pc := 17) (tgt := 73) hx hb dX4_safeCellars_17 (by decide) (fun c6 => ?_) (fun c6 => ?_)
  · have hf := if_t hf c6
    exact jk3 _ hf _ _ _ h (lv_sub hl [3] rfl)
  · have hf := if_f hf c6
    refine lv_aload_n (pc := 20) hx hb dX4_safeCellars_20 rfl (lv_at hl 0 rfl) ?_
    refine gB_25_0 (pc := 21) hNN hx hb hts hown hK h fl_X4_27 dX4_safeCellars_21 ?_
    refine lv_aload_n (pc := 24) hx hb dX4_safeCellars_24 rfl (lv_at hl 0 rfl) ?_
    refine gB_25_1 (pc := 25) hNN hx hb hts hown hK h fl_X4_31 dX4_safeCellars_25 ?_
    refine lv_iload_n (pc := 28) hx hb dX4_safeCellars_28 rfl (lv_at hl 2 rfl) ?_
    refine lv_iload (pc := 29) hx hb dX4_safeCellars_29 (lv_at hl 4 rfl) ?_
    refine lv_aload_n (pc := 31) hx hb dX4_safeCellars_31 rfl (lv_at hl 0 rfl) ?_
    refine gB_25_0 (pc := 32) hNN hx hb hts hown hK h fl_X4_27 dX4_safeCellars_32 ?_
    refine gB_1_1 (pc := 35) hNN hx hb hts hown hK h fl_X4_39 dX4_safeCellars_35 ?_
    refine gB_5_2 (pc := 38) hNN hx hb hts hown hK h fl_X4_90 dX4_safeCellars_38 ?_
    refine lv_iload_n (pc := 41) hx hb dX4_safeCellars_41 rfl (lv_at hl 1 rfl) ?_
    obtain ⟨hin, hf⟩ := cki_e hf
    refine gB_8 (pc := 42) hNN hx hb hK h hin dX4_safeCellars_42 ?_
    obtain ⟨x7, hc, hf⟩ := b1_e hf
    refine k_X0_acidBehind (pc := 43) hNN hx hb hml hown hts hK hN hc ml_X4_93 (Nat.le_trans (by decide) hF) (Nat.le_trans (by decide) hLo) h hl.1 ⟨Nat.zero_le _, Nat.zero_le _⟩ (Nat.le_of_ble_eq_true rfl) dX4_safeCellars_43 (fun H locs h => ?_)
    obtain ⟨x8, hc, hf⟩ := b1_e hf
    refine k_X9_isVinegar (pc := 46) hNN hx hb hml hown hts hK hN hc ml_X4_99 (Nat.le_trans (by decide) hF) (Nat.le_trans (by decide) hLo) h hl.1 ⟨Nat.zero_le _, Nat.zero_le _⟩ (Nat.le_of_ble_eq_true rfl) dX4_safeCellars_46 (fun H locs h => ?_)
    refine lv_istore (pc := 49) (lv' := [(5, .int x8), (0, .ref (a 25)), (1, .int p1), (2, .int p2), (3, .int x1), (4, .int x2)]) hx hb dX4_safeCellars_49 hl (by decide) rfl (fun ls hl => ?_)
    refine lv_iload_n (pc := 51) hx hb dX4_safeCellars_51 rfl (lv_at hl 4 rfl) ?_
    refine lv_iload (pc := 52) hx hb dX4_safeCellars_52 (lv_at hl 0 rfl) ?_
    refine lv_if_eq (pc := 54) (tgt := 61) hx hb dX4_safeCellars_54 (by decide) (fun c9 => ?_) (fun c9 => ?_)
    · have hf := if_t hf c9
      refine lv_iconst (pc := 61) (v := 1) hx hb dX4_safeCellars_61 (by decide) ?_
      refine lv_iload (pc := 62) hx hb dX4_safeCellars_62 (lv_at hl 5 rfl) ?_
      refine lv_ishl (pc := 64) hx hb dX4_safeCellars_64 ?_
      refine lv_ior (pc := 65) hx hb dX4_safeCellars_65 ?_
      refine lv_istore_n (pc := 66) (lv' := [(3, .int (x1 ||| ((1 : Int32) <<< (x2 &&& 31)))), (5, .int x8), (0, .ref (a 25)), (1, .int p1), (2, .int p2), (4, .int x2)]) hx hb dX4_safeCellars_66 rfl hl (by decide) rfl (fun ls hl => ?_)
      refine lv_iinc (pc := 67) (v := x2 + 1) (lv' := [(4, .int (x2 + 1)), (3, .int (x1 ||| ((1 : Int32) <<< (x2 &&& 31)))), (5, .int x8), (0, .ref (a 25)), (1, .int p1), (2, .int p2)]) hx hb dX4_safeCellars_67 hl (k := 5) rfl rfl (by decide) rfl (fun ls hl => ?_)
      refine lv_goto (pc := 70) (tgt := 5) hx hb dX4_safeCellars_70 (by decide) ?_
      exact irec5 _ _ hf _ _ _ h (lv_sub hl [3, 4, 5, 1, 0] rfl)
    · have hf := if_f hf c9
      refine lv_iconst (pc := 57) (v := 0) hx hb dX4_safeCellars_57 (by decide) ?_
      refine lv_goto (pc := 58) (tgt := 65) hx hb dX4_safeCellars_58 (by decide) ?_
      refine lv_ior (pc := 65) hx hb dX4_safeCellars_65 ?_
      refine lv_istore_n (pc := 66) (lv' := [(3, .int (x1 ||| (0 : Int32))), (5, .int x8), (0, .ref (a 25)), (1, .int p1), (2, .int p2), (4, .int x2)]) hx hb dX4_safeCellars_66 rfl hl (by decide) rfl (fun ls hl => ?_)
      refine lv_iinc (pc := 67) (v := x2 + 1) (lv' := [(4, .int (x2 + 1)), (3, .int (x1 ||| (0 : Int32))), (5, .int x8), (0, .ref (a 25)), (1, .int p1), (2, .int p2)]) hx hb dX4_safeCellars_67 hl (k := 5) rfl rfl (by decide) rfl (fun ls hl => ?_)
      refine lv_goto (pc := 70) (tgt := 5) hx hb dX4_safeCellars_70 (by decide) ?_
      exact irec5 _ _ hf _ _ _ h (lv_sub hl [3, 4, 5, 1, 0] rfl)
theorem k_X4_safeCellars {p : Program} {l : Launch} {e : Env} {R : Room} {s : State} {m : MethodId} {args : Array Value} {below : List Frame} {meth : Method} {c : Code} {H : Heap} {locs : List Loc} {cells slots : Nat} {Q : State → Prop} {pc : Nat} {ls : Array Slot} {rest : List Value} {cc : ByteArray} {D : va_G} {cI cJ cR : ClassId} {a : Nat → Nat} {u : St} {own : String} {index nL : Nat} {N : Nat} (hNN : 38 ≤ N) {p1 : Int32} {p2 : Int32} {rr : Int32} (hx : p.tables.exec = Jvm.exec) (hb : c.code = cc) (hml : c.maxLocals = nL) (hown : s.vm.findClass own = some m.cls) (hts : ∀ w ∈ Gd, w.before args s = true) (hK : va_K D vwCl (tyB cI cJ cR) s) (hN : NB s) (hc : f_X4_safeCellars u p1 p2 = some rr) (hlk : Cond.methodLink own index yX4_safeCellars ∈ Gd) (hF : 5 ≤ R.frames) (hLo : 118 ≤ R.locals) (h : Hh D (AB N a s.heap.size) (wX N a (EB a cI cJ cR) u) s.heap H locs) (hsize : ls.size = nL) (hcs : cells ≤ R.cells ∧ slots ≤ R.slots) (hr : (rest.map fun v => v.category).sum ≤ 8) (hdg : decode cc pc = .ok (.invokevirtual index, 3)) (kk : ∀ (H1 : Heap) (locs1 : List Loc), Hh D (AB N a s.heap.size) (wX N a (EB a cI cJ cR) u) s.heap H1 locs1 → W p l e R s m args below meth c H1 locs1 cells slots Q (F0 m (pc + 3) ls (.int rr :: rest))) : W p l e R s m args below meth c H locs cells slots Q (F0 m pc ls (.int p2 :: .int p1 :: .ref (a 25) :: rest)) :=
  cVi (n := 2) hx hb hml hown hts hK hN (c_X4_safeCellars hNN hc) (gdV hlk im_X4_safeCellars se_X4_safeCellars in_X4 co_X4_safeCellars) rfl (by decide +kernel) rfl hF hLo h hsize hcs (Nat.lt_of_lt_of_le (by decide) hNN) rfl rfl rfl hr hdg kk
def B_X4_choose_86 (p1 : Int32) (k8 : St → Option (St)) (rec10 : St → Int32 → Option (St)) (u6 : St) (x7 : Int32) : Option (St) := if 6 ≤ x7 then k8 u6 else cki x7 6 (b1 (f_X7_countIn u6 x7 p1) (fun (x12 : Int32) => cki x7 6 (bs (sI u6 30 (ix x7) ((u6.1 4 (ix x7)) - x12)) (fun u13 : St => rec10 u13 (x7 + 1)))))
def B_X4_choose_7 (p1 : Int32) (p2 : Int32) (k4 : St → Option (St)) (rec14 : St → Int32 → Option (St)) (u2 : St) (x3 : Int32) : Option (St) := if 8 ≤ x3 then k4 u2 else if 4 ≤ (u2.1 25 7) then k4 u2 else b1 (f_X7_has u2 x3) (fun (x17 : Int32) => if x17 = 0 then rec14 u2 (x3 + 1) else b1 (f_X11_hasBit u2 p1 x3) (fun (x19 : Int32) => if x19 = 0 then rec14 u2 (x3 + 1) else cki (u2.1 25 7) 4 (bs (sI u2 26 (ix (u2.1 25 7)) x3) (fun u21 : St => b1 (f_X4_safeCellars u21 x3 p2) (fun (x22 : Int32) => cki (u21.1 25 7) 4 (bs (sI u21 27 (ix (u21.1 25 7)) x22) (fun u23 : St => bs (sI u23 25 7 ((u23.1 25 7) + (1 : Int32))) (fun u24 : St => rec14 u24 (x3 + 1)))))))))
def f_X4_choose (u : St) (p1 : Int32) (p2 : Int32) : Option (St) := bs (sI u 25 7 0) (fun u1 : St => jq_1 (fun (u5 : St) => jq_1 (fun (u9 : St) => some u9) (fun (k8 : St → Option (St)) => lq_2 (B_X4_choose_86 p1 k8) FU u5 0)) (fun (k4 : St → Option (St)) => lq_2 (B_X4_choose_7 p1 p2 k4) FU u1 0))
set_option maxRecDepth 100000 in
set_option maxHeartbeats 4000000 in
theorem c_X4_choose {l : Launch} {D : va_G} {cI cJ cR : ClassId} {a : Nat → Nat} {u : St} {N : Nat} (hNN : 38 ≤ N) {p1 : Int32} {p2 : Int32} {uu : St} (hf : f_X4_choose u p1 p2 = some uu) : Cv l yX4_choose cX4_choose 4 none 5 118 D (tyB cI cJ cR) N a (EB a cI cJ cR) [.ref (a 25), .int p1, .int p2] u uu := by
  refine metV (by decide +kernel) (Nat.le_of_ble_eq_true rfl) ?_
  intro p e s m args below meth c R Q hx hb hml hown hts hF hLo hret hK hN h ls hl
  have hown : s.vm.findClass RX4 = some m.cls := hown
  have hl : lv_has ls 4 [(0, .ref (a 25)), (1, .int p1), (2, .int p2)] := hl
  unfold f_X4_choose at hf
  refine lv_aload_n (pc := 0) hx hb dX4_choose_0 rfl (lv_at hl 0 rfl) ?_
  refine lv_iconst (pc := 1) (v := 0) hx hb dX4_choose_1 (by decide) ?_
  refine pB_25_7 (pc := 2) hNN hx hb hts hown hK h fl_X4_35 dX4_choose_2 (fun H locs h => ?_)
  obtain ⟨u1, eu1, hf⟩ := bs_e hf
  rw [← eu1] at h
  refine lv_iconst (pc := 5) (v := 0) hx hb dX4_choose_5 (by decide) ?_
  refine lv_istore_n (pc := 6) (lv' := [(3, .int 0), (0, .ref (a 25)), (1, .int p1), (2, .int p2)]) hx hb dX4_choose_6 rfl hl (by decide) rfl (fun ls hl => ?_)
  obtain ⟨k4, hk4, hf⟩ := jq_1_e hf
  have jk4 : ∀ (u5 : St), k4 u5 = some uu → ∀ (H : Heap) (locs : List Loc) (ls : Array Slot), Hh D (AB N a s.heap.size) (wX N a (EB a cI cJ cR) u5) s.heap H locs → lv_has ls 4 [(0, .ref (a 25)), (1, .int p1)] → W p l e R s m args below meth c H locs 0 0 Q (F0 m 84 ls []) := by
    intro u5 hf H locs ls h hl
    rw [hk4] at hf
    refine lv_iconst (pc := 84) (v := 0) hx hb dX4_choose_84 (by decide) ?_
    refine lv_istore_n (pc := 85) (lv' := [(3, .int 0), (0, .ref (a 25)), (1, .int p1)]) hx hb dX4_choose_85 rfl hl (by decide) rfl (fun ls hl => ?_)
    obtain ⟨k8, hk8, hf⟩ := jq_1_e hf
    have jk8 : ∀ (u9 : St), k8 u9 = some uu → ∀ (H : Heap) (locs : List Loc) (ls : Array Slot), Hh D (AB N a s.heap.size) (wX N a (EB a cI cJ cR) u9) s.heap H locs → lv_has ls 4 [] → W p l e R s m args below meth c H locs 0 0 Q (F0 m 129 ls []) := by
      intro u9 hf H locs ls h hl
      rw [hk8] at hf
      exact hret (so hf) dX4_choose_129 h
    refine lq_2_e (P := fun (u6 : St) (x7 : Int32) => ∀ (H : Heap) (locs : List Loc) (ls : Array Slot), Hh D (AB N a s.heap.size) (wX N a (EB a cI cJ cR) u6) s.heap H locs → lv_has ls 4 [(0, .ref (a 25)), (1, .int p1), (3, .int x7)] → W p l e R s m args below meth c H locs 0 0 Q (F0 m 86 ls [])) ?_ FU _ _ hf _ _ _ h (lv_sub hl [1, 2, 0] rfl)
    intro rec10 irec10 u6 x7 hf H locs ls h hl
    unfold B_X4_choose_86 at hf
    refine lv_iload_n (pc := 86) hx hb dX4_choose_86 rfl (lv_at hl 2 rfl) ?_
    refine lv_bipush (pc := 87) (v := 6) hx hb dX4_choose_87 (by decide) ?_
    refine lv_icmp_ge (pc := 89) (tgt := 129) hx hb dX4_choose_89 (by decide) (fun c11 => ?_) (fun c11 => ?_)
    · have hf := if_t hf c11
      exact jk8 _ hf _ _ _ h (lv_sub hl [] rfl)
    · have hf := if_f hf c11
      refine lv_aload_n (pc := 92) hx hb dX4_choose_92 rfl (lv_at hl 0 rfl) ?_
      refine gB_25_6 (pc := 93) hNN hx hb hts hown hK h fl_X4_24 dX4_choose_93 ?_
      refine lv_iload_n (pc := 96) hx hb dX4_choose_96 rfl (lv_at hl 2 rfl) ?_
      refine lv_aload_n (pc := 97) hx hb dX4_choose_97 rfl (lv_at hl 0 rfl) ?_
      refine gB_25_0 (pc := 98) hNN hx hb hts hown hK h fl_X4_27 dX4_choose_98 ?_
      refine gB_1_0 (pc := 101) hNN hx hb hts hown hK h fl_X4_59 dX4_choose_101 ?_
      refine gB_2_1 (pc := 104) hNN hx hb hts hown hK h fl_X4_63 dX4_choose_104 ?_
      refine lv_iload_n (pc := 107) hx hb dX4_choose_107 rfl (lv_at hl 2 rfl) ?_
      obtain ⟨hin, hf⟩ := cki_e hf
      refine gB_4 (pc := 108) hNN hx hb hK h hin dX4_choose_108 ?_
      refine lv_aload_n (pc := 109) hx hb dX4_choose_109 rfl (lv_at hl 0 rfl) ?_
      refine gB_25_0 (pc := 110) hNN hx hb hts hown hK h fl_X4_27 dX4_choose_110 ?_
      refine gB_1_1 (pc := 113) hNN hx hb hts hown hK h fl_X4_39 dX4_choose_113 ?_
      refine lv_iload_n (pc := 116) hx hb dX4_choose_116 rfl (lv_at hl 2 rfl) ?_
      refine lv_iload_n (pc := 117) hx hb dX4_choose_117 rfl (lv_at hl 1 rfl) ?_
      obtain ⟨x12, hc, hf⟩ := b1_e hf
      refine k_X7_countIn (pc := 118) hNN hx hb hml hown hts hK hN hc ml_X4_68 (Nat.le_trans (by decide) hF) (Nat.le_trans (by decide) hLo) h hl.1 ⟨Nat.zero_le _, Nat.zero_le _⟩ (Nat.le_of_ble_eq_true rfl) dX4_choose_118 (fun H locs h => ?_)
      refine lv_isub (pc := 121) hx hb dX4_choose_121 ?_
      obtain ⟨hin, hf⟩ := cki_e hf
      refine pB_30 (pc := 122) hNN hx hb hK h hin dX4_choose_122 (fun H locs h => ?_)
      obtain ⟨u13, eu13, hf⟩ := bs_e hf
      rw [← eu13] at h
      refine lv_iinc (pc := 123) (v := x7 + 1) (lv' := [(3, .int (x7 + 1)), (0, .ref (a 25)), (1, .int p1)]) hx hb dX4_choose_123 hl (k := 2) rfl rfl (by decide) rfl (fun ls hl => ?_)
      refine lv_goto (pc := 126) (tgt := 86) hx hb dX4_choose_126 (by decide) ?_
      exact irec10 _ _ hf _ _ _ h (lv_sub hl [1, 2, 0] rfl)
  refine lq_2_e (P := fun (u2 : St) (x3 : Int32) => ∀ (H : Heap) (locs : List Loc) (ls : Array Slot), Hh D (AB N a s.heap.size) (wX N a (EB a cI cJ cR) u2) s.heap H locs → lv_has ls 4 [(0, .ref (a 25)), (1, .int p1), (2, .int p2), (3, .int x3)] → W p l e R s m args below meth c H locs 0 0 Q (F0 m 7 ls [])) ?_ FU _ _ hf _ _ _ h (lv_sub hl [1, 2, 3, 0] rfl)
  intro rec14 irec14 u2 x3 hf H locs ls h hl
  unfold B_X4_choose_7 at hf
  refine lv_iload_n (pc := 7) hx hb dX4_choose_7 rfl (lv_at hl 3 rfl) ?_
  refine lv_bipush (pc := 8) (v := 8) hx hb dX4_choose_8 (by decide) ?_
  refine lv_icmp_ge (pc := 10) (tgt := 84) hx hb dX4_choose_10 (by decide) (fun c15 => ?_) (fun c15 => ?_)
  · have hf := if_t hf c15
    exact jk4 _ hf _ _ _ h (lv_sub hl [0, 1] rfl)
  · have hf := if_f hf c15
    refine lv_aload_n (pc := 13) hx hb dX4_choose_13 rfl (lv_at hl 0 rfl) ?_
    refine gB_25_7 (pc := 14) hNN hx hb hts hown hK h fl_X4_35 dX4_choose_14 ?_
    refine lv_iconst (pc := 17) (v := 4) hx hb dX4_choose_17 (by decide) ?_
    refine lv_icmp_ge (pc := 18) (tgt := 84) hx hb dX4_choose_18 (by decide) (fun c16 => ?_) (fun c16 => ?_)
    · have hf := if_t hf c16
      exact jk4 _ hf _ _ _ h (lv_sub hl [0, 1] rfl)
    · have hf := if_f hf c16
      refine lv_aload_n (pc := 21) hx hb dX4_choose_21 rfl (lv_at hl 0 rfl) ?_
      refine gB_25_0 (pc := 22) hNN hx hb hts hown hK h fl_X4_27 dX4_choose_22 ?_
      refine gB_1_1 (pc := 25) hNN hx hb hts hown hK h fl_X4_39 dX4_choose_25 ?_
      refine lv_iload_n (pc := 28) hx hb dX4_choose_28 rfl (lv_at hl 3 rfl) ?_
      obtain ⟨x17, hc, hf⟩ := b1_e hf
      refine k_X7_has (pc := 29) hNN hx hb hml hown hts hK hN hc ml_X4_45 (Nat.le_trans (by decide) hF) (Nat.le_trans (by decide) hLo) h hl.1 ⟨Nat.zero_le _, Nat.zero_le _⟩ (Nat.le_of_ble_eq_true rfl) dX4_choose_29 (fun H locs h => ?_)
      refine lv_if_eq (pc := 32) (tgt := 78) hx hb dX4_choose_32 (by decide) (fun c18 => ?_) (fun c18 => ?_)
      · have hf := if_t hf c18
        refine lv_iinc (pc := 78) (v := x3 + 1) (lv' := [(3, .int (x3 + 1)), (0, .ref (a 25)), (1, .int p1), (2, .int p2)]) hx hb dX4_choose_78 hl (k := 3) rfl rfl (by decide) rfl (fun ls hl => ?_)
        refine lv_goto (pc := 81) (tgt := 7) hx hb dX4_choose_81 (by decide) ?_
        exact irec14 _ _ hf _ _ _ h (lv_sub hl [1, 2, 3, 0] rfl)
      · have hf := if_f hf c18
        refine lv_iload_n (pc := 35) hx hb dX4_choose_35 rfl (lv_at hl 1 rfl) ?_
        refine lv_iload_n (pc := 36) hx hb dX4_choose_36 rfl (lv_at hl 3 rfl) ?_
        obtain ⟨x19, hc, hf⟩ := b1_e hf
        refine kN_X11_hasBit (pc := 37) hNN hx hb hml hown hts hK hN hc (nl_X4_51 hN) (Nat.le_trans (by decide) hF) (Nat.le_trans (by decide) hLo) h hl.1 ⟨Nat.zero_le _, Nat.zero_le _⟩ (Nat.le_of_ble_eq_true rfl) dX4_choose_37 (fun H locs h => ?_)
        refine lv_if_eq (pc := 40) (tgt := 78) hx hb dX4_choose_40 (by decide) (fun c20 => ?_) (fun c20 => ?_)
        · have hf := if_t hf c20
          refine lv_iinc (pc := 78) (v := x3 + 1) (lv' := [(3, .int (x3 + 1)), (0, .ref (a 25)), (1, .int p1), (2, .int p2)]) hx hb dX4_choose_78 hl (k := 3) rfl rfl (by decide) rfl (fun ls hl => ?_)
          refine lv_goto (pc := 81) (tgt := 7) hx hb dX4_choose_81 (by decide) ?_
          exact irec14 _ _ hf _ _ _ h (lv_sub hl [1, 2, 3, 0] rfl)
        · have hf := if_f hf c20
          refine lv_aload_n (pc := 43) hx hb dX4_choose_43 rfl (lv_at hl 0 rfl) ?_
          refine gB_25_2 (pc := 44) hNN hx hb hts hown hK h fl_X4_9 dX4_choose_44 ?_
          refine lv_aload_n (pc := 47) hx hb dX4_choose_47 rfl (lv_at hl 0 rfl) ?_
          refine gB_25_7 (pc := 48) hNN hx hb hts hown hK h fl_X4_35 dX4_choose_48 ?_
          refine lv_iload_n (pc := 51) hx hb dX4_choose_51 rfl (lv_at hl 3 rfl) ?_
          obtain ⟨hin, hf⟩ := cki_e hf
          refine pB_26 (pc := 52) hNN hx hb hK h hin dX4_choose_52 (fun H locs h => ?_)
          obtain ⟨u21, eu21, hf⟩ := bs_e hf
          rw [← eu21] at h
          refine lv_aload_n (pc := 53) hx hb dX4_choose_53 rfl (lv_at hl 0 rfl) ?_
          refine gB_25_3 (pc := 54) hNN hx hb hts hown hK h fl_X4_15 dX4_choose_54 ?_
          refine lv_aload_n (pc := 57) hx hb dX4_choose_57 rfl (lv_at hl 0 rfl) ?_
          refine gB_25_7 (pc := 58) hNN hx hb hts hown hK h fl_X4_35 dX4_choose_58 ?_
          refine lv_aload_n (pc := 61) hx hb dX4_choose_61 rfl (lv_at hl 0 rfl) ?_
          refine lv_iload_n (pc := 62) hx hb dX4_choose_62 rfl (lv_at hl 3 rfl) ?_
          refine lv_iload_n (pc := 63) hx hb dX4_choose_63 rfl (lv_at hl 2 rfl) ?_
          obtain ⟨x22, hc, hf⟩ := b1_e hf
          refine k_X4_safeCellars (pc := 64) hNN hx hb hml hown hts hK hN hc ml_X4_55 (Nat.le_trans (by decide) hF) (Nat.le_trans (by decide) hLo) h hl.1 ⟨Nat.zero_le _, Nat.zero_le _⟩ (Nat.le_of_ble_eq_true rfl) dX4_choose_64 (fun H locs h => ?_)
          obtain ⟨hin, hf⟩ := cki_e hf
          refine pB_27 (pc := 67) hNN hx hb hK h hin dX4_choose_67 (fun H locs h => ?_)
          obtain ⟨u23, eu23, hf⟩ := bs_e hf
          rw [← eu23] at h
          refine lv_aload_n (pc := 68) hx hb dX4_choose_68 rfl (lv_at hl 0 rfl) ?_
          refine lv_dup (pc := 69) hx hb dX4_choose_69 rfl ?_
          refine gB_25_7 (pc := 70) hNN hx hb hts hown hK h fl_X4_35 dX4_choose_70 ?_
          refine lv_iconst (pc := 73) (v := 1) hx hb dX4_choose_73 (by decide) ?_
          refine lv_iadd (pc := 74) hx hb dX4_choose_74 ?_
          refine pB_25_7 (pc := 75) hNN hx hb hts hown hK h fl_X4_35 dX4_choose_75 (fun H locs h => ?_)
          obtain ⟨u24, eu24, hf⟩ := bs_e hf
          rw [← eu24] at h
          refine lv_iinc (pc := 78) (v := x3 + 1) (lv' := [(3, .int (x3 + 1)), (0, .ref (a 25)), (1, .int p1), (2, .int p2)]) hx hb dX4_choose_78 hl (k := 3) rfl rfl (by decide) rfl (fun ls hl => ?_)
          refine lv_goto (pc := 81) (tgt := 7) hx hb dX4_choose_81 (by decide) ?_
          exact irec14 _ _ hf _ _ _ h (lv_sub hl [1, 2, 3, 0] rfl)
theorem k_X4_choose {p : Program} {l : Launch} {e : Env} {R : Room} {s : State} {m : MethodId} {args : Array Value} {below : List Frame} {meth : Method} {c : Code} {H : Heap} {locs : List Loc} {cells slots : Nat} {Q : State → Prop} {pc : Nat} {ls : Array Slot} {rest : List Value} {cc : ByteArray} {D : va_G} {cI cJ cR : ClassId} {a : Nat → Nat} {u : St} {own : String} {index nL : Nat} {N : Nat} (hNN : 38 ≤ N) {p1 : Int32} {p2 : Int32} {uu : St} (hx : p.tables.exec = Jvm.exec) (hb : c.code = cc) (hml : c.maxLocals = nL) (hown : s.vm.findClass own = some m.cls) (hts : ∀ w ∈ Gd, w.before args s = true) (hK : va_K D vwCl (tyB cI cJ cR) s) (hN : NB s) (hc : f_X4_choose u p1 p2 = some uu) (hlk : Cond.methodLink own index yX4_choose ∈ Gd) (hF : 6 ≤ R.frames) (hLo : 141 ≤ R.locals) (h : Hh D (AB N a s.heap.size) (wX N a (EB a cI cJ cR) u) s.heap H locs) (hsize : ls.size = nL) (hcs : cells ≤ R.cells ∧ slots ≤ R.slots) (hr : (rest.map fun v => v.category).sum ≤ 8) (hdg : decode cc pc = .ok (.invokevirtual index, 3)) (kk : ∀ (H1 : Heap) (locs1 : List Loc), Hh D (AB N a s.heap.size) (wX N a (EB a cI cJ cR) uu) s.heap H1 locs1 → W p l e R s m args below meth c H1 locs1 cells slots Q (F0 m (pc + 3) ls (rest))) : W p l e R s m args below meth c H locs cells slots Q (F0 m pc ls (.int p2 :: .int p1 :: .ref (a 25) :: rest)) :=
  cVv (n := 2) hx hb hml hown hts hK hN (c_X4_choose hNN hc) (gdV hlk im_X4_choose se_X4_choose in_X4 co_X4_choose) rfl (by decide +kernel) rfl hF hLo h hsize hcs (Nat.lt_of_lt_of_le (by decide) hNN) rfl rfl rfl hr hdg kk
