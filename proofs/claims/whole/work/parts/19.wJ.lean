def f_X12_hands (u : St) : Option (Int32 × St) := b1 (f_X12_faultOfMoves u) (fun (x1 : Int32) => if x1 < 0 then b1 (f_X12_goMoves u 1000000) (fun (u3 : St) => if (u3.1 0 25) < 0 then some (u3.1 0 29, u3) else some ((-6), u3)) else some ((-5), u))
set_option maxRecDepth 100000 in
set_option maxHeartbeats 4000000 in
theorem c_X12_hands {l : Launch} {D : va_G} {cI cZ : ClassId} {a : Nat → Nat} {u : St} {rr : Int32} {uu : St} (hf : f_X12_hands u = some (rr, uu)) : Ci l yX12_hands cX12_hands 1 (some .int) 6 137 D (tyM cI cZ) 21 a (EM a cI cZ) [.ref (a 0)] u rr uu := by
  refine metI (by decide +kernel) (Nat.le_of_ble_eq_true rfl) ?_
  intro p e s m args below meth c R Q hx hb hml hown hts hF hLo hret hK hN h ls hl
  have hown : s.vm.findClass RX12 = some m.cls := hown
  have hl : lv_has ls 1 [(0, .ref (a 0))] := hl
  unfold f_X12_hands at hf
  refine lv_aload_n (pc := 0) hx hb dX12_hands_0 rfl (lv_at hl 0 rfl) ?_
  obtain ⟨x1, hc, hf⟩ := b1_e hf
  refine k_X12_faultOfMoves (pc := 1) hx hb hml hown hts hK hN hc ml_X12_148 (Nat.le_trans (by decide) hF) (Nat.le_trans (by decide) hLo) h hl.1 ⟨Nat.zero_le _, Nat.zero_le _⟩ (Nat.le_of_ble_eq_true rfl) dX12_hands_1 (fun H locs h => ?_)
  refine lv_if_lt (pc := 4) (tgt := 10) hx hb dX12_hands_4 (by decide) (fun c2 => ?_) (fun c2 => ?_)
  · have hf := if_t hf c2
    refine lv_aload_n (pc := 10) hx hb dX12_hands_10 rfl (lv_at hl 0 rfl) ?_
    refine lv_ldc (pc := 11) hx hb hown (hts _ ct_X12_216) dX12_hands_11 ?_
    obtain ⟨u3, hc, hf⟩ := b1_e hf
    refine k_X12_goMoves (pc := 13) hx hb hml hown hts hK hN hc ml_X12_213 (Nat.le_trans (by decide) hF) (Nat.le_trans (by decide) hLo) h hl.1 ⟨Nat.zero_le _, Nat.zero_le _⟩ (Nat.le_of_ble_eq_true rfl) dX12_hands_13 (fun H locs h => ?_)
    refine lv_aload_n (pc := 16) hx hb dX12_hands_16 rfl (lv_at hl 0 rfl) ?_
    refine gM_0_25 (pc := 17) hx hb hts hown hK h fl_X12_201 dX12_hands_17 ?_
    refine lv_if_lt (pc := 20) (tgt := 28) hx hb dX12_hands_20 (by decide) (fun c4 => ?_) (fun c4 => ?_)
    · have hf := if_t hf c4
      refine lv_aload_n (pc := 28) hx hb dX12_hands_28 rfl (lv_at hl 0 rfl) ?_
      refine gM_0_29 (pc := 29) hx hb hts hown hK h fl_X12_198 dX12_hands_29 ?_
      exact hret (so1 hf) rfl (so2 hf) dX12_hands_32 h
    · have hf := if_f hf c4
      refine lv_bipush (pc := 23) (v := (-6)) hx hb dX12_hands_23 (by decide) ?_
      refine lv_goto (pc := 25) (tgt := 32) hx hb dX12_hands_25 (by decide) ?_
      exact hret (so1 hf) rfl (so2 hf) dX12_hands_32 h
  · have hf := if_f hf c2
    refine lv_bipush (pc := 7) (v := (-5)) hx hb dX12_hands_7 (by decide) ?_
    exact hret (so1 hf) rfl (so2 hf) dX12_hands_9 h
theorem k_X12_hands {p : Program} {l : Launch} {e : Env} {R : Room} {s : State} {m : MethodId} {args : Array Value} {below : List Frame} {meth : Method} {c : Code} {H : Heap} {locs : List Loc} {cells slots : Nat} {Q : State → Prop} {pc : Nat} {ls : Array Slot} {rest : List Value} {cc : ByteArray} {D : va_G} {cI cZ : ClassId} {a : Nat → Nat} {u : St} {own : String} {index nL : Nat} {rr : Int32} {uu : St} (hx : p.tables.exec = Jvm.exec) (hb : c.code = cc) (hml : c.maxLocals = nL) (hown : s.vm.findClass own = some m.cls) (hts : ∀ w ∈ Gd, w.before args s = true) (hK : va_K D vwCl (tyM cI cZ) s) (hN : NB s) (hc : f_X12_hands u = some (rr, uu)) (hlk : Cond.methodLink own index yX12_hands ∈ Gd) (hF : 7 ≤ R.frames) (hLo : 157 ≤ R.locals) (h : Hh D (AB 21 a s.heap.size) (wX 21 a (EM a cI cZ) u) s.heap H locs) (hsize : ls.size = nL) (hcs : cells ≤ R.cells ∧ slots ≤ R.slots) (hr : (rest.map fun v => v.category).sum ≤ 8) (hdg : decode cc pc = .ok (.invokevirtual index, 3)) (kk : ∀ (H1 : Heap) (locs1 : List Loc), Hh D (AB 21 a s.heap.size) (wX 21 a (EM a cI cZ) uu) s.heap H1 locs1 → W p l e R s m args below meth c H1 locs1 cells slots Q (F0 m (pc + 3) ls (.int rr :: rest))) : W p l e R s m args below meth c H locs cells slots Q (F0 m pc ls (.ref (a 0) :: rest)) :=
  cVi (n := 0) hx hb hml hown hts hK hN (c_X12_hands hc) (gdV hlk im_X12_hands se_X12_hands in_X12 co_X12_hands) rfl (by decide +kernel) rfl hF hLo h hsize hcs (by decide) rfl rfl rfl hr hdg kk
def f_X12_acid (u : St) (p1 : Int32) (p2 : Int32) : Option (Int32) := b1 (f_X12_isBarrel u p1) (fun (x1 : Int32) => if x1 = 0 then some ((-1)) else b1 (f_X12_isDays u p2) (fun (x3 : Int32) => if x3 = 0 then some ((-2)) else b1 (f_X12_acidBehind u p1 p2) (fun (x5 : Int32) => some x5)))
set_option maxRecDepth 100000 in
set_option maxHeartbeats 4000000 in
theorem c_X12_acid {l : Launch} {D : va_G} {cI cZ : ClassId} {a : Nat → Nat} {u : St} {p1 : Int32} {p2 : Int32} {rr : Int32} (hf : f_X12_acid u p1 p2 = some rr) : Ci l yX12_acid cX12_acid 3 (some .int) 5 116 D (tyM cI cZ) 21 a (EM a cI cZ) [.ref (a 0), .int p1, .int p2] u rr u := by
  refine metI (by decide +kernel) (Nat.le_of_ble_eq_true rfl) ?_
  intro p e s m args below meth c R Q hx hb hml hown hts hF hLo hret hK hN h ls hl
  have hown : s.vm.findClass RX12 = some m.cls := hown
  have hl : lv_has ls 3 [(0, .ref (a 0)), (1, .int p1), (2, .int p2)] := hl
  unfold f_X12_acid at hf
  refine lv_aload_n (pc := 0) hx hb dX12_acid_0 rfl (lv_at hl 0 rfl) ?_
  refine lv_iload_n (pc := 1) hx hb dX12_acid_1 rfl (lv_at hl 1 rfl) ?_
  obtain ⟨x1, hc, hf⟩ := b1_e hf
  refine k_X12_isBarrel (pc := 2) hx hb hml hown hts hK hN hc ml_X12_107 (Nat.le_trans (by decide) hF) (Nat.le_trans (by decide) hLo) h hl.1 ⟨Nat.zero_le _, Nat.zero_le _⟩ (Nat.le_of_ble_eq_true rfl) dX12_acid_2 (fun H locs h => ?_)
  refine lv_if_ne (pc := 5) (tgt := 10) hx hb dX12_acid_5 (by decide) (fun c2 => ?_) (fun c2 => ?_)
  · have hf := if_f hf c2
    refine lv_iload_n (pc := 10) hx hb dX12_acid_10 rfl (lv_at hl 2 rfl) ?_
    obtain ⟨x3, hc, hf⟩ := b1_e hf
    refine kS_X12_isDays (pc := 11) hx hb hml hown hts hK hN hc ml_X12_177 (Nat.le_trans (by decide) hF) (Nat.le_trans (by decide) hLo) h hl.1 ⟨Nat.zero_le _, Nat.zero_le _⟩ (Nat.le_of_ble_eq_true rfl) dX12_acid_11 (fun H locs h => ?_)
    refine lv_if_eq (pc := 14) (tgt := 26) hx hb dX12_acid_14 (by decide) (fun c4 => ?_) (fun c4 => ?_)
    · have hf := if_t hf c4
      refine lv_bipush (pc := 26) (v := (-2)) hx hb dX12_acid_26 (by decide) ?_
      exact hret (so hf) rfl rfl dX12_acid_28 h
    · have hf := if_f hf c4
      refine lv_aload_n (pc := 17) hx hb dX12_acid_17 rfl (lv_at hl 0 rfl) ?_
      refine lv_iload_n (pc := 18) hx hb dX12_acid_18 rfl (lv_at hl 1 rfl) ?_
      refine lv_iload_n (pc := 19) hx hb dX12_acid_19 rfl (lv_at hl 2 rfl) ?_
      obtain ⟨x5, hc, hf⟩ := b1_e hf
      refine k_X12_acidBehind (pc := 20) hx hb hml hown hts hK hN hc ml_X12_217 (Nat.le_trans (by decide) hF) (Nat.le_trans (by decide) hLo) h hl.1 ⟨Nat.zero_le _, Nat.zero_le _⟩ (Nat.le_of_ble_eq_true rfl) dX12_acid_20 (fun H locs h => ?_)
      refine lv_goto (pc := 23) (tgt := 28) hx hb dX12_acid_23 (by decide) ?_
      exact hret (so hf) rfl rfl dX12_acid_28 h
  · have hf := if_t hf c2
    refine lv_iconst (pc := 8) (v := (-1)) hx hb dX12_acid_8 (by decide) ?_
    exact hret (so hf) rfl rfl dX12_acid_9 h
theorem k_X12_acid {p : Program} {l : Launch} {e : Env} {R : Room} {s : State} {m : MethodId} {args : Array Value} {below : List Frame} {meth : Method} {c : Code} {H : Heap} {locs : List Loc} {cells slots : Nat} {Q : State → Prop} {pc : Nat} {ls : Array Slot} {rest : List Value} {cc : ByteArray} {D : va_G} {cI cZ : ClassId} {a : Nat → Nat} {u : St} {own : String} {index nL : Nat} {p1 : Int32} {p2 : Int32} {rr : Int32} (hx : p.tables.exec = Jvm.exec) (hb : c.code = cc) (hml : c.maxLocals = nL) (hown : s.vm.findClass own = some m.cls) (hts : ∀ w ∈ Gd, w.before args s = true) (hK : va_K D vwCl (tyM cI cZ) s) (hN : NB s) (hc : f_X12_acid u p1 p2 = some rr) (hlk : Cond.methodLink own index yX12_acid ∈ Gd) (hF : 6 ≤ R.frames) (hLo : 138 ≤ R.locals) (h : Hh D (AB 21 a s.heap.size) (wX 21 a (EM a cI cZ) u) s.heap H locs) (hsize : ls.size = nL) (hcs : cells ≤ R.cells ∧ slots ≤ R.slots) (hr : (rest.map fun v => v.category).sum ≤ 8) (hdg : decode cc pc = .ok (.invokevirtual index, 3)) (kk : ∀ (H1 : Heap) (locs1 : List Loc), Hh D (AB 21 a s.heap.size) (wX 21 a (EM a cI cZ) u) s.heap H1 locs1 → W p l e R s m args below meth c H1 locs1 cells slots Q (F0 m (pc + 3) ls (.int rr :: rest))) : W p l e R s m args below meth c H locs cells slots Q (F0 m pc ls (.int p2 :: .int p1 :: .ref (a 0) :: rest)) :=
  cVi (n := 2) hx hb hml hown hts hK hN (c_X12_acid hc) (gdV hlk im_X12_acid se_X12_acid in_X12 co_X12_acid) rfl (by decide +kernel) rfl hF hLo h hsize hcs (by decide) rfl rfl rfl hr hdg kk
def B_X12_sours_14 (p1 : Int32) (u : St) (k5 : Option (Int32)) (rec6 : Int32 → Int32 → Option (Int32)) (x3 : Int32) (x4 : Int32) : Option (Int32) := if 999 ≤ x4 then k5 else cki p1 8 (b1 (f_X12_rise u p1 (u.1 3 (ix p1)) x4) (fun (x8 : Int32) => b1 (f_X12_upTo u (x3 + x8)) (fun (x9 : Int32) => if x9 < (u.1 0 11) then rec6 x9 (x4 + 1) else some (x4 + (1 : Int32)))))
def f_X12_sours (u : St) (p1 : Int32) : Option (Int32) := b1 (f_X12_isBarrel u p1) (fun (x1 : Int32) => if x1 = 0 then some ((-1)) else jq_0 (some ((-6))) (fun (k5 : Option (Int32)) => lq_2 (B_X12_sours_14 p1 u k5) FU 0 0))
set_option maxRecDepth 100000 in
set_option maxHeartbeats 4000000 in
theorem c_X12_sours {l : Launch} {D : va_G} {cI cZ : ClassId} {a : Nat → Nat} {u : St} {p1 : Int32} {rr : Int32} (hf : f_X12_sours u p1 = some rr) : Ci l yX12_sours cX12_sours 4 (some .int) 3 69 D (tyM cI cZ) 21 a (EM a cI cZ) [.ref (a 0), .int p1] u rr u := by
  refine metI (by decide +kernel) (Nat.le_of_ble_eq_true rfl) ?_
  intro p e s m args below meth c R Q hx hb hml hown hts hF hLo hret hK hN h ls hl
  have hown : s.vm.findClass RX12 = some m.cls := hown
  have hl : lv_has ls 4 [(0, .ref (a 0)), (1, .int p1)] := hl
  unfold f_X12_sours at hf
  refine lv_aload_n (pc := 0) hx hb dX12_sours_0 rfl (lv_at hl 0 rfl) ?_
  refine lv_iload_n (pc := 1) hx hb dX12_sours_1 rfl (lv_at hl 1 rfl) ?_
  obtain ⟨x1, hc, hf⟩ := b1_e hf
  refine k_X12_isBarrel (pc := 2) hx hb hml hown hts hK hN hc ml_X12_107 (Nat.le_trans (by decide) hF) (Nat.le_trans (by decide) hLo) h hl.1 ⟨Nat.zero_le _, Nat.zero_le _⟩ (Nat.le_of_ble_eq_true rfl) dX12_sours_2 (fun H locs h => ?_)
  refine lv_if_ne (pc := 5) (tgt := 10) hx hb dX12_sours_5 (by decide) (fun c2 => ?_) (fun c2 => ?_)
  · have hf := if_f hf c2
    refine lv_iconst (pc := 10) (v := 0) hx hb dX12_sours_10 (by decide) ?_
    refine lv_istore_n (pc := 11) (lv' := [(2, .int 0), (0, .ref (a 0)), (1, .int p1)]) hx hb dX12_sours_11 rfl hl (by decide) rfl (fun ls hl => ?_)
    refine lv_iconst (pc := 12) (v := 0) hx hb dX12_sours_12 (by decide) ?_
    refine lv_istore_n (pc := 13) (lv' := [(3, .int 0), (2, .int 0), (0, .ref (a 0)), (1, .int p1)]) hx hb dX12_sours_13 rfl hl (by decide) rfl (fun ls hl => ?_)
    obtain ⟨k5, hk5, hf⟩ := jq_0_e hf
    have jk5 : k5 = some rr → ∀ (H : Heap) (locs : List Loc) (ls : Array Slot), Hh D (AB 21 a s.heap.size) (wX 21 a (EM a cI cZ) u) s.heap H locs → lv_has ls 4 [] → W p l e R s m args below meth c H locs 0 0 Q (F0 m 57 ls []) := by
      intro hf H locs ls h hl
      rw [hk5] at hf
      refine lv_bipush (pc := 57) (v := (-6)) hx hb dX12_sours_57 (by decide) ?_
      exact hret (so hf) rfl rfl dX12_sours_59 h
    refine lq_2_e (P := fun (x3 : Int32) (x4 : Int32) => ∀ (H : Heap) (locs : List Loc) (ls : Array Slot), Hh D (AB 21 a s.heap.size) (wX 21 a (EM a cI cZ) u) s.heap H locs → lv_has ls 4 [(0, .ref (a 0)), (1, .int p1), (2, .int x3), (3, .int x4)] → W p l e R s m args below meth c H locs 0 0 Q (F0 m 14 ls [])) ?_ FU _ _ hf _ _ _ h (lv_sub hl [2, 3, 1, 0] rfl)
    intro rec6 irec6 x3 x4 hf H locs ls h hl
    unfold B_X12_sours_14 at hf
    refine lv_iload_n (pc := 14) hx hb dX12_sours_14 rfl (lv_at hl 3 rfl) ?_
    refine lv_sipush (pc := 15) (v := 999) hx hb dX12_sours_15 (by decide) ?_
    refine lv_icmp_ge (pc := 18) (tgt := 57) hx hb dX12_sours_18 (by decide) (fun c7 => ?_) (fun c7 => ?_)
    · have hf := if_t hf c7
      exact jk5 hf _ _ _ h (lv_sub hl [] rfl)
    · have hf := if_f hf c7
      refine lv_iload_n (pc := 21) hx hb dX12_sours_21 rfl (lv_at hl 2 rfl) ?_
      refine lv_aload_n (pc := 22) hx hb dX12_sours_22 rfl (lv_at hl 0 rfl) ?_
      refine lv_iload_n (pc := 23) hx hb dX12_sours_23 rfl (lv_at hl 1 rfl) ?_
      refine lv_aload_n (pc := 24) hx hb dX12_sours_24 rfl (lv_at hl 0 rfl) ?_
      refine gM_0_5 (pc := 25) hx hb hts hown hK h fl_X12_16 dX12_sours_25 ?_
      refine lv_iload_n (pc := 28) hx hb dX12_sours_28 rfl (lv_at hl 1 rfl) ?_
      obtain ⟨hin, hf⟩ := cki_e hf
      refine gM_3 (pc := 29) hx hb hK h hin dX12_sours_29 ?_
      refine lv_iload_n (pc := 30) hx hb dX12_sours_30 rfl (lv_at hl 3 rfl) ?_
      obtain ⟨x8, hc, hf⟩ := b1_e hf
      refine k_X12_rise (pc := 31) hx hb hml hown hts hK hN hc ml_X12_165 (Nat.le_trans (by decide) hF) (Nat.le_trans (by decide) hLo) h hl.1 ⟨Nat.zero_le _, Nat.zero_le _⟩ (Nat.le_of_ble_eq_true rfl) dX12_sours_31 (fun H locs h => ?_)
      refine lv_iadd (pc := 34) hx hb dX12_sours_34 ?_
      obtain ⟨x9, hc, hf⟩ := b1_e hf
      refine kS_X12_upTo (pc := 35) hx hb hml hown hts hK hN hc ml_X12_169 (Nat.le_trans (by decide) hF) (Nat.le_trans (by decide) hLo) h hl.1 ⟨Nat.zero_le _, Nat.zero_le _⟩ (Nat.le_of_ble_eq_true rfl) dX12_sours_35 (fun H locs h => ?_)
      refine lv_istore_n (pc := 38) (lv' := [(2, .int x9), (0, .ref (a 0)), (1, .int p1), (3, .int x4)]) hx hb dX12_sours_38 rfl hl (by decide) rfl (fun ls hl => ?_)
      refine lv_iload_n (pc := 39) hx hb dX12_sours_39 rfl (lv_at hl 0 rfl) ?_
      refine lv_aload_n (pc := 40) hx hb dX12_sours_40 rfl (lv_at hl 1 rfl) ?_
      refine gM_0_11 (pc := 41) hx hb hts hown hK h fl_X12_71 dX12_sours_41 ?_
      refine lv_icmp_lt (pc := 44) (tgt := 51) hx hb dX12_sours_44 (by decide) (fun c10 => ?_) (fun c10 => ?_)
      · have hf := if_t hf c10
        refine lv_iinc (pc := 51) (v := x4 + 1) (lv' := [(3, .int (x4 + 1)), (2, .int x9), (0, .ref (a 0)), (1, .int p1)]) hx hb dX12_sours_51 hl (k := 3) rfl rfl (by decide) rfl (fun ls hl => ?_)
        refine lv_goto (pc := 54) (tgt := 14) hx hb dX12_sours_54 (by decide) ?_
        exact irec6 _ _ hf _ _ _ h (lv_sub hl [2, 3, 1, 0] rfl)
      · have hf := if_f hf c10
        refine lv_iload_n (pc := 47) hx hb dX12_sours_47 rfl (lv_at hl 3 rfl) ?_
        refine lv_iconst (pc := 48) (v := 1) hx hb dX12_sours_48 (by decide) ?_
        refine lv_iadd (pc := 49) hx hb dX12_sours_49 ?_
        exact hret (so hf) rfl rfl dX12_sours_50 h
  · have hf := if_t hf c2
    refine lv_iconst (pc := 8) (v := (-1)) hx hb dX12_sours_8 (by decide) ?_
    exact hret (so hf) rfl rfl dX12_sours_9 h
theorem k_X12_sours {p : Program} {l : Launch} {e : Env} {R : Room} {s : State} {m : MethodId} {args : Array Value} {below : List Frame} {meth : Method} {c : Code} {H : Heap} {locs : List Loc} {cells slots : Nat} {Q : State → Prop} {pc : Nat} {ls : Array Slot} {rest : List Value} {cc : ByteArray} {D : va_G} {cI cZ : ClassId} {a : Nat → Nat} {u : St} {own : String} {index nL : Nat} {p1 : Int32} {rr : Int32} (hx : p.tables.exec = Jvm.exec) (hb : c.code = cc) (hml : c.maxLocals = nL) (hown : s.vm.findClass own = some m.cls) (hts : ∀ w ∈ Gd, w.before args s = true) (hK : va_K D vwCl (tyM cI cZ) s) (hN : NB s) (hc : f_X12_sours u p1 = some rr) (hlk : Cond.methodLink own index yX12_sours ∈ Gd) (hF : 4 ≤ R.frames) (hLo : 92 ≤ R.locals) (h : Hh D (AB 21 a s.heap.size) (wX 21 a (EM a cI cZ) u) s.heap H locs) (hsize : ls.size = nL) (hcs : cells ≤ R.cells ∧ slots ≤ R.slots) (hr : (rest.map fun v => v.category).sum ≤ 8) (hdg : decode cc pc = .ok (.invokevirtual index, 3)) (kk : ∀ (H1 : Heap) (locs1 : List Loc), Hh D (AB 21 a s.heap.size) (wX 21 a (EM a cI cZ) u) s.heap H1 locs1 → W p l e R s m args below meth c H1 locs1 cells slots Q (F0 m (pc + 3) ls (.int rr :: rest))) : W p l e R s m args below meth c H locs cells slots Q (F0 m pc ls (.int p1 :: .ref (a 0) :: rest)) :=
  cVi (n := 1) hx hb hml hown hts hK hN (c_X12_sours hc) (gdV hlk im_X12_sours se_X12_sours in_X12 co_X12_sours) rfl (by decide +kernel) rfl hF hLo h hsize hcs (by decide) rfl rfl rfl hr hdg kk
def B_X12_lostBehind_4 (p1 : Int32) (u : St) (k3 : Int32 → Option (Int32)) (rec5 : Int32 → Int32 → Option (Int32)) (x1 : Int32) (x2 : Int32) : Option (Int32) := if 8 ≤ x2 then k3 x1 else b1 (f_X12_isBarrel u x2) (fun (x7 : Int32) => if x7 = 0 then rec5 (x1 + (0 : Int32)) (x2 + 1) else b1 (f_X12_acidBehind u x2 p1) (fun (x9 : Int32) => if x9 < (u.1 0 11) then rec5 (x1 + (0 : Int32)) (x2 + 1) else cki x2 8 (rec5 (x1 + (u.1 4 (ix x2))) (x2 + 1))))
def f_X12_lostBehind (u : St) (p1 : Int32) : Option (Int32) := jq_1 (fun (x4 : Int32) => some x4) (fun (k3 : Int32 → Option (Int32)) => lq_2 (B_X12_lostBehind_4 p1 u k3) FU 0 0)
set_option maxRecDepth 100000 in
set_option maxHeartbeats 4000000 in
theorem c_X12_lostBehind {l : Launch} {D : va_G} {cI cZ : ClassId} {a : Nat → Nat} {u : St} {p1 : Int32} {rr : Int32} (hf : f_X12_lostBehind u p1 = some rr) : Ci l yX12_lostBehind cX12_lostBehind 4 (some .int) 5 116 D (tyM cI cZ) 21 a (EM a cI cZ) [.ref (a 0), .int p1] u rr u := by
  refine metI (by decide +kernel) (Nat.le_of_ble_eq_true rfl) ?_
  intro p e s m args below meth c R Q hx hb hml hown hts hF hLo hret hK hN h ls hl
  have hown : s.vm.findClass RX12 = some m.cls := hown
  have hl : lv_has ls 4 [(0, .ref (a 0)), (1, .int p1)] := hl
  unfold f_X12_lostBehind at hf
  refine lv_iconst (pc := 0) (v := 0) hx hb dX12_lostBehind_0 (by decide) ?_
  refine lv_istore_n (pc := 1) (lv' := [(2, .int 0), (0, .ref (a 0)), (1, .int p1)]) hx hb dX12_lostBehind_1 rfl hl (by decide) rfl (fun ls hl => ?_)
  refine lv_iconst (pc := 2) (v := 0) hx hb dX12_lostBehind_2 (by decide) ?_
  refine lv_istore_n (pc := 3) (lv' := [(3, .int 0), (2, .int 0), (0, .ref (a 0)), (1, .int p1)]) hx hb dX12_lostBehind_3 rfl hl (by decide) rfl (fun ls hl => ?_)
  obtain ⟨k3, hk3, hf⟩ := jq_1_e hf
  have jk3 : ∀ (x4 : Int32), k3 x4 = some rr → ∀ (H : Heap) (locs : List Loc) (ls : Array Slot), Hh D (AB 21 a s.heap.size) (wX 21 a (EM a cI cZ) u) s.heap H locs → lv_has ls 4 [(2, .int x4)] → W p l e R s m args below meth c H locs 0 0 Q (F0 m 50 ls []) := by
    intro x4 hf H locs ls h hl
    rw [hk3] at hf
    refine lv_iload_n (pc := 50) hx hb dX12_lostBehind_50 rfl (lv_at hl 0 rfl) ?_
    exact hret (so hf) rfl rfl dX12_lostBehind_51 h
  refine lq_2_e (P := fun (x1 : Int32) (x2 : Int32) => ∀ (H : Heap) (locs : List Loc) (ls : Array Slot), Hh D (AB 21 a s.heap.size) (wX 21 a (EM a cI cZ) u) s.heap H locs → lv_has ls 4 [(0, .ref (a 0)), (1, .int p1), (2, .int x1), (3, .int x2)] → W p l e R s m args below meth c H locs 0 0 Q (F0 m 4 ls [])) ?_ FU _ _ hf _ _ _ h (lv_sub hl [2, 3, 1, 0] rfl)
  intro rec5 irec5 x1 x2 hf H locs ls h hl
  unfold B_X12_lostBehind_4 at hf
  refine lv_iload_n (pc := 4) hx hb dX12_lostBehind_4 rfl (lv_at hl 3 rfl) ?_
  refine lv_bipush (pc := 5) (v := 8) hx hb dX12_lostBehind_5 (by decide) ?_
  refine lv_icmp_ge (pc := 7) (tgt := 50) hx hb dX12_lostBehind_7 (by decide) (fun c6 => ?_) (fun c6 => ?_)
  · have hf := if_t hf c6
    exact jk3 _ hf _ _ _ h (lv_sub hl [2] rfl)
  · have hf := if_f hf c6
    refine lv_iload_n (pc := 10) hx hb dX12_lostBehind_10 rfl (lv_at hl 2 rfl) ?_
    refine lv_aload_n (pc := 11) hx hb dX12_lostBehind_11 rfl (lv_at hl 0 rfl) ?_
    refine lv_iload_n (pc := 12) hx hb dX12_lostBehind_12 rfl (lv_at hl 3 rfl) ?_
    obtain ⟨x7, hc, hf⟩ := b1_e hf
    refine k_X12_isBarrel (pc := 13) hx hb hml hown hts hK hN hc ml_X12_107 (Nat.le_trans (by decide) hF) (Nat.le_trans (by decide) hLo) h hl.1 ⟨Nat.zero_le _, Nat.zero_le _⟩ (Nat.le_of_ble_eq_true rfl) dX12_lostBehind_13 (fun H locs h => ?_)
    refine lv_if_eq (pc := 16) (tgt := 41) hx hb dX12_lostBehind_16 (by decide) (fun c8 => ?_) (fun c8 => ?_)
    · have hf := if_t hf c8
      refine lv_iconst (pc := 41) (v := 0) hx hb dX12_lostBehind_41 (by decide) ?_
      refine lv_iadd (pc := 42) hx hb dX12_lostBehind_42 ?_
      refine lv_istore_n (pc := 43) (lv' := [(2, .int (x1 + (0 : Int32))), (0, .ref (a 0)), (1, .int p1), (3, .int x2)]) hx hb dX12_lostBehind_43 rfl hl (by decide) rfl (fun ls hl => ?_)
      refine lv_iinc (pc := 44) (v := x2 + 1) (lv' := [(3, .int (x2 + 1)), (2, .int (x1 + (0 : Int32))), (0, .ref (a 0)), (1, .int p1)]) hx hb dX12_lostBehind_44 hl (k := 3) rfl rfl (by decide) rfl (fun ls hl => ?_)
      refine lv_goto (pc := 47) (tgt := 4) hx hb dX12_lostBehind_47 (by decide) ?_
      exact irec5 _ _ hf _ _ _ h (lv_sub hl [2, 3, 1, 0] rfl)
    · have hf := if_f hf c8
      refine lv_aload_n (pc := 19) hx hb dX12_lostBehind_19 rfl (lv_at hl 0 rfl) ?_
      refine lv_iload_n (pc := 20) hx hb dX12_lostBehind_20 rfl (lv_at hl 3 rfl) ?_
      refine lv_iload_n (pc := 21) hx hb dX12_lostBehind_21 rfl (lv_at hl 1 rfl) ?_
      obtain ⟨x9, hc, hf⟩ := b1_e hf
      refine k_X12_acidBehind (pc := 22) hx hb hml hown hts hK hN hc ml_X12_217 (Nat.le_trans (by decide) hF) (Nat.le_trans (by decide) hLo) h hl.1 ⟨Nat.zero_le _, Nat.zero_le _⟩ (Nat.le_of_ble_eq_true rfl) dX12_lostBehind_22 (fun H locs h => ?_)
      refine lv_aload_n (pc := 25) hx hb dX12_lostBehind_25 rfl (lv_at hl 0 rfl) ?_
      refine gM_0_11 (pc := 26) hx hb hts hown hK h fl_X12_71 dX12_lostBehind_26 ?_
      refine lv_icmp_lt (pc := 29) (tgt := 41) hx hb dX12_lostBehind_29 (by decide) (fun c10 => ?_) (fun c10 => ?_)
      · have hf := if_t hf c10
        refine lv_iconst (pc := 41) (v := 0) hx hb dX12_lostBehind_41 (by decide) ?_
        refine lv_iadd (pc := 42) hx hb dX12_lostBehind_42 ?_
        refine lv_istore_n (pc := 43) (lv' := [(2, .int (x1 + (0 : Int32))), (0, .ref (a 0)), (1, .int p1), (3, .int x2)]) hx hb dX12_lostBehind_43 rfl hl (by decide) rfl (fun ls hl => ?_)
        refine lv_iinc (pc := 44) (v := x2 + 1) (lv' := [(3, .int (x2 + 1)), (2, .int (x1 + (0 : Int32))), (0, .ref (a 0)), (1, .int p1)]) hx hb dX12_lostBehind_44 hl (k := 3) rfl rfl (by decide) rfl (fun ls hl => ?_)
        refine lv_goto (pc := 47) (tgt := 4) hx hb dX12_lostBehind_47 (by decide) ?_
        exact irec5 _ _ hf _ _ _ h (lv_sub hl [2, 3, 1, 0] rfl)
      · have hf := if_f hf c10
        refine lv_aload_n (pc := 32) hx hb dX12_lostBehind_32 rfl (lv_at hl 0 rfl) ?_
        refine gM_0_6 (pc := 33) hx hb hts hown hK h fl_X12_19 dX12_lostBehind_33 ?_
        refine lv_iload_n (pc := 36) hx hb dX12_lostBehind_36 rfl (lv_at hl 3 rfl) ?_
        obtain ⟨hin, hf⟩ := cki_e hf
        refine gM_4 (pc := 37) hx hb hK h hin dX12_lostBehind_37 ?_
        refine lv_goto (pc := 38) (tgt := 42) hx hb dX12_lostBehind_38 (by decide) ?_
        refine lv_iadd (pc := 42) hx hb dX12_lostBehind_42 ?_
        refine lv_istore_n (pc := 43) (lv' := [(2, .int (x1 + (u.1 4 (ix x2)))), (0, .ref (a 0)), (1, .int p1), (3, .int x2)]) hx hb dX12_lostBehind_43 rfl hl (by decide) rfl (fun ls hl => ?_)
        refine lv_iinc (pc := 44) (v := x2 + 1) (lv' := [(3, .int (x2 + 1)), (2, .int (x1 + (u.1 4 (ix x2)))), (0, .ref (a 0)), (1, .int p1)]) hx hb dX12_lostBehind_44 hl (k := 3) rfl rfl (by decide) rfl (fun ls hl => ?_)
        refine lv_goto (pc := 47) (tgt := 4) hx hb dX12_lostBehind_47 (by decide) ?_
        exact irec5 _ _ hf _ _ _ h (lv_sub hl [2, 3, 1, 0] rfl)
theorem k_X12_lostBehind {p : Program} {l : Launch} {e : Env} {R : Room} {s : State} {m : MethodId} {args : Array Value} {below : List Frame} {meth : Method} {c : Code} {H : Heap} {locs : List Loc} {cells slots : Nat} {Q : State → Prop} {pc : Nat} {ls : Array Slot} {rest : List Value} {cc : ByteArray} {D : va_G} {cI cZ : ClassId} {a : Nat → Nat} {u : St} {own : String} {index nL : Nat} {p1 : Int32} {rr : Int32} (hx : p.tables.exec = Jvm.exec) (hb : c.code = cc) (hml : c.maxLocals = nL) (hown : s.vm.findClass own = some m.cls) (hts : ∀ w ∈ Gd, w.before args s = true) (hK : va_K D vwCl (tyM cI cZ) s) (hN : NB s) (hc : f_X12_lostBehind u p1 = some rr) (hlk : Cond.methodLink own index yX12_lostBehind ∈ Gd) (hF : 6 ≤ R.frames) (hLo : 139 ≤ R.locals) (h : Hh D (AB 21 a s.heap.size) (wX 21 a (EM a cI cZ) u) s.heap H locs) (hsize : ls.size = nL) (hcs : cells ≤ R.cells ∧ slots ≤ R.slots) (hr : (rest.map fun v => v.category).sum ≤ 8) (hdg : decode cc pc = .ok (.invokevirtual index, 3)) (kk : ∀ (H1 : Heap) (locs1 : List Loc), Hh D (AB 21 a s.heap.size) (wX 21 a (EM a cI cZ) u) s.heap H1 locs1 → W p l e R s m args below meth c H1 locs1 cells slots Q (F0 m (pc + 3) ls (.int rr :: rest))) : W p l e R s m args below meth c H locs cells slots Q (F0 m pc ls (.int p1 :: .ref (a 0) :: rest)) :=
  cVi (n := 1) hx hb hml hown hts hK hN (c_X12_lostBehind hc) (gdV hlk im_X12_lostBehind se_X12_lostBehind in_X12 co_X12_lostBehind) rfl (by decide +kernel) rfl hF hLo h hsize hcs (by decide) rfl rfl rfl hr hdg kk
def f_X12_lost (u : St) (p1 : Int32) : Option (Int32) := b1 (f_X12_isDays u p1) (fun (x1 : Int32) => if x1 = 0 then some ((-2)) else b1 (f_X12_lostBehind u p1) (fun (x3 : Int32) => some x3))
set_option maxRecDepth 100000 in
set_option maxHeartbeats 4000000 in
theorem c_X12_lost {l : Launch} {D : va_G} {cI cZ : ClassId} {a : Nat → Nat} {u : St} {p1 : Int32} {rr : Int32} (hf : f_X12_lost u p1 = some rr) : Ci l yX12_lost cX12_lost 2 (some .int) 6 139 D (tyM cI cZ) 21 a (EM a cI cZ) [.ref (a 0), .int p1] u rr u := by
  refine metI (by decide +kernel) (Nat.le_of_ble_eq_true rfl) ?_
  intro p e s m args below meth c R Q hx hb hml hown hts hF hLo hret hK hN h ls hl
  have hown : s.vm.findClass RX12 = some m.cls := hown
  have hl : lv_has ls 2 [(0, .ref (a 0)), (1, .int p1)] := hl
  unfold f_X12_lost at hf
  refine lv_iload_n (pc := 0) hx hb dX12_lost_0 rfl (lv_at hl 1 rfl) ?_
  obtain ⟨x1, hc, hf⟩ := b1_e hf
  refine kS_X12_isDays (pc := 1) hx hb hml hown hts hK hN hc ml_X12_177 (Nat.le_trans (by decide) hF) (Nat.le_trans (by decide) hLo) h hl.1 ⟨Nat.zero_le _, Nat.zero_le _⟩ (Nat.le_of_ble_eq_true rfl) dX12_lost_1 (fun H locs h => ?_)
  refine lv_if_eq (pc := 4) (tgt := 15) hx hb dX12_lost_4 (by decide) (fun c2 => ?_) (fun c2 => ?_)
  · have hf := if_t hf c2
    refine lv_bipush (pc := 15) (v := (-2)) hx hb dX12_lost_15 (by decide) ?_
    exact hret (so hf) rfl rfl dX12_lost_17 h
  · have hf := if_f hf c2
    refine lv_aload_n (pc := 7) hx hb dX12_lost_7 rfl (lv_at hl 0 rfl) ?_
    refine lv_iload_n (pc := 8) hx hb dX12_lost_8 rfl (lv_at hl 1 rfl) ?_
    obtain ⟨x3, hc, hf⟩ := b1_e hf
    refine k_X12_lostBehind (pc := 9) hx hb hml hown hts hK hN hc ml_X12_220 (Nat.le_trans (by decide) hF) (Nat.le_trans (by decide) hLo) h hl.1 ⟨Nat.zero_le _, Nat.zero_le _⟩ (Nat.le_of_ble_eq_true rfl) dX12_lost_9 (fun H locs h => ?_)
    refine lv_goto (pc := 12) (tgt := 17) hx hb dX12_lost_12 (by decide) ?_
    exact hret (so hf) rfl rfl dX12_lost_17 h
theorem k_X12_lost {p : Program} {l : Launch} {e : Env} {R : Room} {s : State} {m : MethodId} {args : Array Value} {below : List Frame} {meth : Method} {c : Code} {H : Heap} {locs : List Loc} {cells slots : Nat} {Q : State → Prop} {pc : Nat} {ls : Array Slot} {rest : List Value} {cc : ByteArray} {D : va_G} {cI cZ : ClassId} {a : Nat → Nat} {u : St} {own : String} {index nL : Nat} {p1 : Int32} {rr : Int32} (hx : p.tables.exec = Jvm.exec) (hb : c.code = cc) (hml : c.maxLocals = nL) (hown : s.vm.findClass own = some m.cls) (hts : ∀ w ∈ Gd, w.before args s = true) (hK : va_K D vwCl (tyM cI cZ) s) (hN : NB s) (hc : f_X12_lost u p1 = some rr) (hlk : Cond.methodLink own index yX12_lost ∈ Gd) (hF : 7 ≤ R.frames) (hLo : 160 ≤ R.locals) (h : Hh D (AB 21 a s.heap.size) (wX 21 a (EM a cI cZ) u) s.heap H locs) (hsize : ls.size = nL) (hcs : cells ≤ R.cells ∧ slots ≤ R.slots) (hr : (rest.map fun v => v.category).sum ≤ 8) (hdg : decode cc pc = .ok (.invokevirtual index, 3)) (kk : ∀ (H1 : Heap) (locs1 : List Loc), Hh D (AB 21 a s.heap.size) (wX 21 a (EM a cI cZ) u) s.heap H1 locs1 → W p l e R s m args below meth c H1 locs1 cells slots Q (F0 m (pc + 3) ls (.int rr :: rest))) : W p l e R s m args below meth c H locs cells slots Q (F0 m pc ls (.int p1 :: .ref (a 0) :: rest)) :=
  cVi (n := 1) hx hb hml hown hts hK hN (c_X12_lost hc) (gdV hlk im_X12_lost se_X12_lost in_X12 co_X12_lost) rfl (by decide +kernel) rfl hF hLo h hsize hcs (by decide) rfl rfl rfl hr hdg kk
def B_X12_layMembers_7 (p1 : Int32) (k4 : St → Option (St)) (rec6 : St → Int32 → Option (St)) (u2 : St) (x3 : Int32) : Option (St) := if 8 ≤ x3 then k4 u2 else if ((p1 >>> (x3 &&& 31)) &&& (1 : Int32)) = 1 then cki (u2.1 0 32) 8 (bs (sI u2 15 (ix (u2.1 0 32)) x3) (fun u10 : St => bs (sI u10 0 32 ((u10.1 0 32) + (1 : Int32))) (fun u11 : St => cki x3 8 (cki x3 8 (bs (sI u11 13 (ix x3) (u11.1 3 (ix x3))) (fun u12 : St => rec6 u12 (x3 + 1))))))) else cki x3 8 (cki x3 8 (bs (sI u2 13 (ix x3) (u2.1 3 (ix x3))) (fun u9 : St => rec6 u9 (x3 + 1))))
def f_X12_layMembers (u : St) (p1 : Int32) : Option (St) := bs (sI u 0 32 0) (fun u1 : St => jq_1 (fun (u5 : St) => some u5) (fun (k4 : St → Option (St)) => lq_2 (B_X12_layMembers_7 p1 k4) FU u1 0))
set_option maxRecDepth 100000 in
set_option maxHeartbeats 4000000 in
theorem c_X12_layMembers {l : Launch} {D : va_G} {cI cZ : ClassId} {a : Nat → Nat} {u : St} {p1 : Int32} {uu : St} (hf : f_X12_layMembers u p1 = some uu) : Cv l yX12_layMembers cX12_layMembers 3 none 0 0 D (tyM cI cZ) 21 a (EM a cI cZ) [.ref (a 0), .int p1] u uu := by
  refine metV (by decide +kernel) (Nat.le_of_ble_eq_true rfl) ?_
  intro p e s m args below meth c R Q hx hb hml hown hts hF hLo hret hK hN h ls hl
  have hown : s.vm.findClass RX12 = some m.cls := hown
  have hl : lv_has ls 3 [(0, .ref (a 0)), (1, .int p1)] := hl
  unfold f_X12_layMembers at hf
  refine lv_aload_n (pc := 0) hx hb dX12_layMembers_0 rfl (lv_at hl 0 rfl) ?_
  refine lv_iconst (pc := 1) (v := 0) hx hb dX12_layMembers_1 (by decide) ?_
  refine pM_0_32 (pc := 2) hx hb hts hown hK h fl_X12_223 dX12_layMembers_2 (fun H locs h => ?_)
  obtain ⟨u1, eu1, hf⟩ := bs_e hf
  rw [← eu1] at h
  refine lv_iconst (pc := 5) (v := 0) hx hb dX12_layMembers_5 (by decide) ?_
  refine lv_istore_n (pc := 6) (lv' := [(2, .int 0), (0, .ref (a 0)), (1, .int p1)]) hx hb dX12_layMembers_6 rfl hl (by decide) rfl (fun ls hl => ?_)
  obtain ⟨k4, hk4, hf⟩ := jq_1_e hf
  have jk4 : ∀ (u5 : St), k4 u5 = some uu → ∀ (H : Heap) (locs : List Loc) (ls : Array Slot), Hh D (AB 21 a s.heap.size) (wX 21 a (EM a cI cZ) u5) s.heap H locs → lv_has ls 3 [] → W p l e R s m args below meth c H locs 0 0 Q (F0 m 60 ls []) := by
    intro u5 hf H locs ls h hl
    rw [hk4] at hf
    exact hret (so hf) dX12_layMembers_60 h
  refine lq_2_e (P := fun (u2 : St) (x3 : Int32) => ∀ (H : Heap) (locs : List Loc) (ls : Array Slot), Hh D (AB 21 a s.heap.size) (wX 21 a (EM a cI cZ) u2) s.heap H locs → lv_has ls 3 [(0, .ref (a 0)), (1, .int p1), (2, .int x3)] → W p l e R s m args below meth c H locs 0 0 Q (F0 m 7 ls [])) ?_ FU _ _ hf _ _ _ h (lv_sub hl [1, 2, 0] rfl)
  intro rec6 irec6 u2 x3 hf H locs ls h hl
  unfold B_X12_layMembers_7 at hf
  refine lv_iload_n (pc := 7) hx hb dX12_layMembers_7 rfl (lv_at hl 2 rfl) ?_
  refine lv_bipush (pc := 8) (v := 8) hx hb dX12_layMembers_8 (by decide) ?_
  refine lv_icmp_ge (pc := 10) (tgt := 60) hx hb dX12_layMembers_10 (by decide) (fun c7 => ?_) (fun c7 => ?_)
  · have hf := if_t hf c7
    exact jk4 _ hf _ _ _ h (lv_sub hl [] rfl)
  · have hf := if_f hf c7
    refine lv_iload_n (pc := 13) hx hb dX12_layMembers_13 rfl (lv_at hl 1 rfl) ?_
    refine lv_iload_n (pc := 14) hx hb dX12_layMembers_14 rfl (lv_at hl 2 rfl) ?_
    refine lv_ishr (pc := 15) hx hb dX12_layMembers_15 ?_
    refine lv_iconst (pc := 16) (v := 1) hx hb dX12_layMembers_16 (by decide) ?_
    refine lv_iand (pc := 17) hx hb dX12_layMembers_17 ?_
    refine lv_iconst (pc := 18) (v := 1) hx hb dX12_layMembers_18 (by decide) ?_
    refine lv_icmp_ne (pc := 19) (tgt := 42) hx hb dX12_layMembers_19 (by decide) (fun c8 => ?_) (fun c8 => ?_)
    · have hf := if_f hf c8
      refine lv_aload_n (pc := 42) hx hb dX12_layMembers_42 rfl (lv_at hl 0 rfl) ?_
      refine gM_0_23 (pc := 43) hx hb hts hown hK h fl_X12_46 dX12_layMembers_43 ?_
      refine lv_iload_n (pc := 46) hx hb dX12_layMembers_46 rfl (lv_at hl 2 rfl) ?_
      refine lv_aload_n (pc := 47) hx hb dX12_layMembers_47 rfl (lv_at hl 0 rfl) ?_
      refine gM_0_5 (pc := 48) hx hb hts hown hK h fl_X12_16 dX12_layMembers_48 ?_
      refine lv_iload_n (pc := 51) hx hb dX12_layMembers_51 rfl (lv_at hl 2 rfl) ?_
      obtain ⟨hin, hf⟩ := cki_e hf
      refine gM_3 (pc := 52) hx hb hK h hin dX12_layMembers_52 ?_
      obtain ⟨hin, hf⟩ := cki_e hf
      refine pM_13 (pc := 53) hx hb hK h hin dX12_layMembers_53 (fun H locs h => ?_)
      obtain ⟨u9, eu9, hf⟩ := bs_e hf
      rw [← eu9] at h
      refine lv_iinc (pc := 54) (v := x3 + 1) (lv' := [(2, .int (x3 + 1)), (0, .ref (a 0)), (1, .int p1)]) hx hb dX12_layMembers_54 hl (k := 2) rfl rfl (by decide) rfl (fun ls hl => ?_)
      refine lv_goto (pc := 57) (tgt := 7) hx hb dX12_layMembers_57 (by decide) ?_
      exact irec6 _ _ hf _ _ _ h (lv_sub hl [1, 2, 0] rfl)
    · have hf := if_t hf c8
      refine lv_aload_n (pc := 22) hx hb dX12_layMembers_22 rfl (lv_at hl 0 rfl) ?_
      refine gM_0_31 (pc := 23) hx hb hts hown hK h fl_X12_52 dX12_layMembers_23 ?_
      refine lv_aload_n (pc := 26) hx hb dX12_layMembers_26 rfl (lv_at hl 0 rfl) ?_
      refine gM_0_32 (pc := 27) hx hb hts hown hK h fl_X12_223 dX12_layMembers_27 ?_
      refine lv_iload_n (pc := 30) hx hb dX12_layMembers_30 rfl (lv_at hl 2 rfl) ?_
      obtain ⟨hin, hf⟩ := cki_e hf
      refine pM_15 (pc := 31) hx hb hK h hin dX12_layMembers_31 (fun H locs h => ?_)
      obtain ⟨u10, eu10, hf⟩ := bs_e hf
      rw [← eu10] at h
      refine lv_aload_n (pc := 32) hx hb dX12_layMembers_32 rfl (lv_at hl 0 rfl) ?_
      refine lv_dup (pc := 33) hx hb dX12_layMembers_33 rfl ?_
      refine gM_0_32 (pc := 34) hx hb hts hown hK h fl_X12_223 dX12_layMembers_34 ?_
      refine lv_iconst (pc := 37) (v := 1) hx hb dX12_layMembers_37 (by decide) ?_
      refine lv_iadd (pc := 38) hx hb dX12_layMembers_38 ?_
      refine pM_0_32 (pc := 39) hx hb hts hown hK h fl_X12_223 dX12_layMembers_39 (fun H locs h => ?_)
      obtain ⟨u11, eu11, hf⟩ := bs_e hf
      rw [← eu11] at h
      refine lv_aload_n (pc := 42) hx hb dX12_layMembers_42 rfl (lv_at hl 0 rfl) ?_
      refine gM_0_23 (pc := 43) hx hb hts hown hK h fl_X12_46 dX12_layMembers_43 ?_
      refine lv_iload_n (pc := 46) hx hb dX12_layMembers_46 rfl (lv_at hl 2 rfl) ?_
      refine lv_aload_n (pc := 47) hx hb dX12_layMembers_47 rfl (lv_at hl 0 rfl) ?_
      refine gM_0_5 (pc := 48) hx hb hts hown hK h fl_X12_16 dX12_layMembers_48 ?_
      refine lv_iload_n (pc := 51) hx hb dX12_layMembers_51 rfl (lv_at hl 2 rfl) ?_
      obtain ⟨hin, hf⟩ := cki_e hf
      refine gM_3 (pc := 52) hx hb hK h hin dX12_layMembers_52 ?_
      obtain ⟨hin, hf⟩ := cki_e hf
      refine pM_13 (pc := 53) hx hb hK h hin dX12_layMembers_53 (fun H locs h => ?_)
      obtain ⟨u12, eu12, hf⟩ := bs_e hf
      rw [← eu12] at h
      refine lv_iinc (pc := 54) (v := x3 + 1) (lv' := [(2, .int (x3 + 1)), (0, .ref (a 0)), (1, .int p1)]) hx hb dX12_layMembers_54 hl (k := 2) rfl rfl (by decide) rfl (fun ls hl => ?_)
      refine lv_goto (pc := 57) (tgt := 7) hx hb dX12_layMembers_57 (by decide) ?_
      exact irec6 _ _ hf _ _ _ h (lv_sub hl [1, 2, 0] rfl)
theorem k_X12_layMembers {p : Program} {l : Launch} {e : Env} {R : Room} {s : State} {m : MethodId} {args : Array Value} {below : List Frame} {meth : Method} {c : Code} {H : Heap} {locs : List Loc} {cells slots : Nat} {Q : State → Prop} {pc : Nat} {ls : Array Slot} {rest : List Value} {cc : ByteArray} {D : va_G} {cI cZ : ClassId} {a : Nat → Nat} {u : St} {own : String} {index nL : Nat} {p1 : Int32} {uu : St} (hx : p.tables.exec = Jvm.exec) (hb : c.code = cc) (hml : c.maxLocals = nL) (hown : s.vm.findClass own = some m.cls) (hts : ∀ w ∈ Gd, w.before args s = true) (hK : va_K D vwCl (tyM cI cZ) s) (hN : NB s) (hc : f_X12_layMembers u p1 = some uu) (hlk : Cond.methodLink own index yX12_layMembers ∈ Gd) (hF : 1 ≤ R.frames) (hLo : 22 ≤ R.locals) (h : Hh D (AB 21 a s.heap.size) (wX 21 a (EM a cI cZ) u) s.heap H locs) (hsize : ls.size = nL) (hcs : cells ≤ R.cells ∧ slots ≤ R.slots) (hr : (rest.map fun v => v.category).sum ≤ 8) (hdg : decode cc pc = .ok (.invokevirtual index, 3)) (kk : ∀ (H1 : Heap) (locs1 : List Loc), Hh D (AB 21 a s.heap.size) (wX 21 a (EM a cI cZ) uu) s.heap H1 locs1 → W p l e R s m args below meth c H1 locs1 cells slots Q (F0 m (pc + 3) ls (rest))) : W p l e R s m args below meth c H locs cells slots Q (F0 m pc ls (.int p1 :: .ref (a 0) :: rest)) :=
  cVv (n := 1) hx hb hml hown hts hK hN (c_X12_layMembers hc) (gdV hlk im_X12_layMembers se_X12_layMembers in_X12 co_X12_layMembers) rfl (by decide +kernel) rfl hF hLo h hsize hcs (by decide) rfl rfl rfl hr hdg kk
def B_X12_isRoomy_4 (u : St) (k3 : Int32 → Option (Int32)) (rec5 : Int32 → Int32 → Option (Int32)) (x1 : Int32) (x2 : Int32) : Option (Int32) := if (u.1 0 0) ≤ x2 then k3 x1 else if x1 = 0 then rec5 0 (x2 + 1) else b1 (f_X12_takenIn u x2) (fun (x8 : Int32) => cki x2 6 (if (u.1 2 (ix x2)) < x8 then rec5 0 (x2 + 1) else rec5 1 (x2 + 1)))
def f_X12_isRoomy (u : St) : Option (Int32) := jq_1 (fun (x4 : Int32) => ck (x4 = 0 ∨ x4 = 1) (some x4)) (fun (k3 : Int32 → Option (Int32)) => lq_2 (B_X12_isRoomy_4 u k3) FU 1 0)
set_option maxRecDepth 100000 in
set_option maxHeartbeats 4000000 in
theorem c_X12_isRoomy {l : Launch} {D : va_G} {cI cZ : ClassId} {a : Nat → Nat} {u : St} {rr : Int32} (hf : f_X12_isRoomy u = some rr) : Ci l yX12_isRoomy cX12_isRoomy 3 (some .boolean) 4 89 D (tyM cI cZ) 21 a (EM a cI cZ) [.ref (a 0)] u rr u := by
  refine metI (by decide +kernel) (Nat.le_of_ble_eq_true rfl) ?_
  intro p e s m args below meth c R Q hx hb hml hown hts hF hLo hret hK hN h ls hl
  have hown : s.vm.findClass RX12 = some m.cls := hown
  have hl : lv_has ls 3 [(0, .ref (a 0))] := hl
  unfold f_X12_isRoomy at hf
  refine lv_iconst (pc := 0) (v := 1) hx hb dX12_isRoomy_0 (by decide) ?_
  refine lv_istore_n (pc := 1) (lv' := [(1, .int 1), (0, .ref (a 0))]) hx hb dX12_isRoomy_1 rfl hl (by decide) rfl (fun ls hl => ?_)
  refine lv_iconst (pc := 2) (v := 0) hx hb dX12_isRoomy_2 (by decide) ?_
  refine lv_istore_n (pc := 3) (lv' := [(2, .int 0), (1, .int 1), (0, .ref (a 0))]) hx hb dX12_isRoomy_3 rfl hl (by decide) rfl (fun ls hl => ?_)
  obtain ⟨k3, hk3, hf⟩ := jq_1_e hf
  have jk3 : ∀ (x4 : Int32), k3 x4 = some rr → ∀ (H : Heap) (locs : List Loc) (ls : Array Slot), Hh D (AB 21 a s.heap.size) (wX 21 a (EM a cI cZ) u) s.heap H locs → lv_has ls 3 [(1, .int x4)] → W p l e R s m args below meth c H locs 0 0 Q (F0 m 42 ls []) := by
    intro x4 hf H locs ls h hl
    rw [hk3] at hf
    refine lv_iload_n (pc := 42) hx hb dX12_isRoomy_42 rfl (lv_at hl 0 rfl) ?_
    obtain ⟨hz, hf⟩ := ck_e hf
    exact hret (so hf) (nz hz) rfl dX12_isRoomy_43 h
  refine lq_2_e (P := fun (x1 : Int32) (x2 : Int32) => ∀ (H : Heap) (locs : List Loc) (ls : Array Slot), Hh D (AB 21 a s.heap.size) (wX 21 a (EM a cI cZ) u) s.heap H locs → lv_has ls 3 [(0, .ref (a 0)), (1, .int x1), (2, .int x2)] → W p l e R s m args below meth c H locs 0 0 Q (F0 m 4 ls [])) ?_ FU _ _ hf _ _ _ h (lv_sub hl [2, 1, 0] rfl)
  intro rec5 irec5 x1 x2 hf H locs ls h hl
  unfold B_X12_isRoomy_4 at hf
  refine lv_iload_n (pc := 4) hx hb dX12_isRoomy_4 rfl (lv_at hl 2 rfl) ?_
  refine lv_aload_n (pc := 5) hx hb dX12_isRoomy_5 rfl (lv_at hl 0 rfl) ?_
  refine gM_0_0 (pc := 6) hx hb hts hown hK h fl_X12_85 dX12_isRoomy_6 ?_
  refine lv_icmp_ge (pc := 9) (tgt := 42) hx hb dX12_isRoomy_9 (by decide) (fun c6 => ?_) (fun c6 => ?_)
  · have hf := if_t hf c6
    exact jk3 _ hf _ _ _ h (lv_sub hl [1] rfl)
  · have hf := if_f hf c6
    refine lv_iload_n (pc := 12) hx hb dX12_isRoomy_12 rfl (lv_at hl 1 rfl) ?_
    refine lv_if_eq (pc := 13) (tgt := 34) hx hb dX12_isRoomy_13 (by decide) (fun c7 => ?_) (fun c7 => ?_)
    · have hf := if_t hf c7
      refine lv_iconst (pc := 34) (v := 0) hx hb dX12_isRoomy_34 (by decide) ?_
      refine lv_istore_n (pc := 35) (lv' := [(1, .int 0), (0, .ref (a 0)), (2, .int x2)]) hx hb dX12_isRoomy_35 rfl hl (by decide) rfl (fun ls hl => ?_)
      refine lv_iinc (pc := 36) (v := x2 + 1) (lv' := [(2, .int (x2 + 1)), (1, .int 0), (0, .ref (a 0))]) hx hb dX12_isRoomy_36 hl (k := 2) rfl rfl (by decide) rfl (fun ls hl => ?_)
      refine lv_goto (pc := 39) (tgt := 4) hx hb dX12_isRoomy_39 (by decide) ?_
      exact irec5 _ _ hf _ _ _ h (lv_sub hl [2, 1, 0] rfl)
    · have hf := if_f hf c7
      refine lv_aload_n (pc := 16) hx hb dX12_isRoomy_16 rfl (lv_at hl 0 rfl) ?_
      refine lv_iload_n (pc := 17) hx hb dX12_isRoomy_17 rfl (lv_at hl 2 rfl) ?_
      obtain ⟨x8, hc, hf⟩ := b1_e hf
      refine k_X12_takenIn (pc := 18) hx hb hml hown hts hK hN hc ml_X12_189 (Nat.le_trans (by decide) hF) (Nat.le_trans (by decide) hLo) h hl.1 ⟨Nat.zero_le _, Nat.zero_le _⟩ (Nat.le_of_ble_eq_true rfl) dX12_isRoomy_18 (fun H locs h => ?_)
      refine lv_aload_n (pc := 21) hx hb dX12_isRoomy_21 rfl (lv_at hl 0 rfl) ?_
      refine gM_0_2 (pc := 22) hx hb hts hown hK h fl_X12_13 dX12_isRoomy_22 ?_
      refine lv_iload_n (pc := 25) hx hb dX12_isRoomy_25 rfl (lv_at hl 2 rfl) ?_
      obtain ⟨hin, hf⟩ := cki_e hf
      refine gM_2 (pc := 26) hx hb hK h hin dX12_isRoomy_26 ?_
      refine lv_icmp_gt (pc := 27) (tgt := 34) hx hb dX12_isRoomy_27 (by decide) (fun c9 => ?_) (fun c9 => ?_)
      · have hf := if_t hf c9
        refine lv_iconst (pc := 34) (v := 0) hx hb dX12_isRoomy_34 (by decide) ?_
        refine lv_istore_n (pc := 35) (lv' := [(1, .int 0), (0, .ref (a 0)), (2, .int x2)]) hx hb dX12_isRoomy_35 rfl hl (by decide) rfl (fun ls hl => ?_)
        refine lv_iinc (pc := 36) (v := x2 + 1) (lv' := [(2, .int (x2 + 1)), (1, .int 0), (0, .ref (a 0))]) hx hb dX12_isRoomy_36 hl (k := 2) rfl rfl (by decide) rfl (fun ls hl => ?_)
        refine lv_goto (pc := 39) (tgt := 4) hx hb dX12_isRoomy_39 (by decide) ?_
        exact irec5 _ _ hf _ _ _ h (lv_sub hl [2, 1, 0] rfl)
      · have hf := if_f hf c9
        refine lv_iconst (pc := 30) (v := 1) hx hb dX12_isRoomy_30 (by decide) ?_
        refine lv_goto (pc := 31) (tgt := 35) hx hb dX12_isRoomy_31 (by decide) ?_
        refine lv_istore_n (pc := 35) (lv' := [(1, .int 1), (0, .ref (a 0)), (2, .int x2)]) hx hb dX12_isRoomy_35 rfl hl (by decide) rfl (fun ls hl => ?_)
        refine lv_iinc (pc := 36) (v := x2 + 1) (lv' := [(2, .int (x2 + 1)), (1, .int 1), (0, .ref (a 0))]) hx hb dX12_isRoomy_36 hl (k := 2) rfl rfl (by decide) rfl (fun ls hl => ?_)
        refine lv_goto (pc := 39) (tgt := 4) hx hb dX12_isRoomy_39 (by decide) ?_
        exact irec5 _ _ hf _ _ _ h (lv_sub hl [2, 1, 0] rfl)
theorem k_X12_isRoomy {p : Program} {l : Launch} {e : Env} {R : Room} {s : State} {m : MethodId} {args : Array Value} {below : List Frame} {meth : Method} {c : Code} {H : Heap} {locs : List Loc} {cells slots : Nat} {Q : State → Prop} {pc : Nat} {ls : Array Slot} {rest : List Value} {cc : ByteArray} {D : va_G} {cI cZ : ClassId} {a : Nat → Nat} {u : St} {own : String} {index nL : Nat} {rr : Int32} (hx : p.tables.exec = Jvm.exec) (hb : c.code = cc) (hml : c.maxLocals = nL) (hown : s.vm.findClass own = some m.cls) (hts : ∀ w ∈ Gd, w.before args s = true) (hK : va_K D vwCl (tyM cI cZ) s) (hN : NB s) (hc : f_X12_isRoomy u = some rr) (hlk : Cond.methodLink own index yX12_isRoomy ∈ Gd) (hF : 5 ≤ R.frames) (hLo : 111 ≤ R.locals) (h : Hh D (AB 21 a s.heap.size) (wX 21 a (EM a cI cZ) u) s.heap H locs) (hsize : ls.size = nL) (hcs : cells ≤ R.cells ∧ slots ≤ R.slots) (hr : (rest.map fun v => v.category).sum ≤ 8) (hdg : decode cc pc = .ok (.invokevirtual index, 3)) (kk : ∀ (H1 : Heap) (locs1 : List Loc), Hh D (AB 21 a s.heap.size) (wX 21 a (EM a cI cZ) u) s.heap H1 locs1 → W p l e R s m args below meth c H1 locs1 cells slots Q (F0 m (pc + 3) ls (.int rr :: rest))) : W p l e R s m args below meth c H locs cells slots Q (F0 m pc ls (.ref (a 0) :: rest)) :=
  cVi (n := 0) hx hb hml hown hts hK hN (c_X12_isRoomy hc) (gdV hlk im_X12_isRoomy se_X12_isRoomy in_X12 co_X12_isRoomy) rfl (by decide +kernel) rfl hF hLo h hsize hcs (by decide) rfl rfl rfl hr hdg kk
def B_X12_workOfPlan_4 (p1 : Int32) (u : St) (k3 : Int32 → Option (Int32)) (rec7 : Int32 → Int32 → Option (Int32)) (x1 : Int32) (x2 : Int32) : Option (Int32) := if (u.1 0 32) ≤ x2 then k3 x1 else cki x2 8 (cki (u.1 15 (ix x2)) 8 (b1 (f_X12_acidIn u (u.1 15 (ix x2)) (u.1 13 (ix (u.1 15 (ix x2)))) p1) (fun (x9 : Int32) => if x9 < (u.1 0 11) then cki (u.1 15 (ix x2)) 8 (cki (u.1 15 (ix x2)) 8 (if (u.1 13 (ix (u.1 15 (ix x2)))) = (u.1 3 (ix (u.1 15 (ix x2)))) then rec7 (x1 + (0 : Int32)) (x2 + 1) else cki (u.1 15 (ix x2)) 8 (cki (u.1 15 (ix x2)) 8 (b1 (f_X12_workOf u (u.1 15 (ix x2)) (u.1 3 (ix (u.1 15 (ix x2)))) (u.1 13 (ix (u.1 15 (ix x2))))) (fun (x12 : Int32) => rec7 (x1 + x12) (x2 + 1)))))) else some ((-6)))))
def f_X12_workOfPlan (u : St) (p1 : Int32) : Option (Int32) := jq_1 (fun (x4 : Int32) => b1 (f_X12_isRoomy u) (fun (x5 : Int32) => if x5 = 0 then some ((-6)) else some x4)) (fun (k3 : Int32 → Option (Int32)) => lq_2 (B_X12_workOfPlan_4 p1 u k3) FU 0 0)
set_option maxRecDepth 100000 in
set_option maxHeartbeats 4000000 in
theorem c_X12_workOfPlan {l : Launch} {D : va_G} {cI cZ : ClassId} {a : Nat → Nat} {u : St} {p1 : Int32} {rr : Int32} (hf : f_X12_workOfPlan u p1 = some rr) : Ci l yX12_workOfPlan cX12_workOfPlan 5 (some .int) 5 111 D (tyM cI cZ) 21 a (EM a cI cZ) [.ref (a 0), .int p1] u rr u := by
  refine metI (by decide +kernel) (Nat.le_of_ble_eq_true rfl) ?_
  intro p e s m args below meth c R Q hx hb hml hown hts hF hLo hret hK hN h ls hl
  have hown : s.vm.findClass RX12 = some m.cls := hown
  have hl : lv_has ls 5 [(0, .ref (a 0)), (1, .int p1)] := hl
  unfold f_X12_workOfPlan at hf
  refine lv_iconst (pc := 0) (v := 0) hx hb dX12_workOfPlan_0 (by decide) ?_
  refine lv_istore_n (pc := 1) (lv' := [(2, .int 0), (0, .ref (a 0)), (1, .int p1)]) hx hb dX12_workOfPlan_1 rfl hl (by decide) rfl (fun ls hl => ?_)
  refine lv_iconst (pc := 2) (v := 0) hx hb dX12_workOfPlan_2 (by decide) ?_
  refine lv_istore_n (pc := 3) (lv' := [(3, .int 0), (2, .int 0), (0, .ref (a 0)), (1, .int p1)]) hx hb dX12_workOfPlan_3 rfl hl (by decide) rfl (fun ls hl => ?_)
  obtain ⟨k3, hk3, hf⟩ := jq_1_e hf
  have jk3 : ∀ (x4 : Int32), k3 x4 = some rr → ∀ (H : Heap) (locs : List Loc) (ls : Array Slot), Hh D (AB 21 a s.heap.size) (wX 21 a (EM a cI cZ) u) s.heap H locs → lv_has ls 5 [(0, .ref (a 0)), (2, .int x4)] → W p l e R s m args below meth c H locs 0 0 Q (F0 m 94 ls []) := by
    intro x4 hf H locs ls h hl
    rw [hk3] at hf
    refine lv_aload_n (pc := 94) hx hb dX12_workOfPlan_94 rfl (lv_at hl 0 rfl) ?_
    obtain ⟨x5, hc, hf⟩ := b1_e hf
    refine k_X12_isRoomy (pc := 95) hx hb hml hown hts hK hN hc ml_X12_226 (Nat.le_trans (by decide) hF) (Nat.le_trans (by decide) hLo) h hl.1 ⟨Nat.zero_le _, Nat.zero_le _⟩ (Nat.le_of_ble_eq_true rfl) dX12_workOfPlan_95 (fun H locs h => ?_)
    refine lv_if_eq (pc := 98) (tgt := 105) hx hb dX12_workOfPlan_98 (by decide) (fun c6 => ?_) (fun c6 => ?_)
    · have hf := if_t hf c6
      refine lv_bipush (pc := 105) (v := (-6)) hx hb dX12_workOfPlan_105 (by decide) ?_
      exact hret (so hf) rfl rfl dX12_workOfPlan_107 h
    · have hf := if_f hf c6
      refine lv_iload_n (pc := 101) hx hb dX12_workOfPlan_101 rfl (lv_at hl 1 rfl) ?_
      refine lv_goto (pc := 102) (tgt := 107) hx hb dX12_workOfPlan_102 (by decide) ?_
      exact hret (so hf) rfl rfl dX12_workOfPlan_107 h
  refine lq_2_e (P := fun (x1 : Int32) (x2 : Int32) => ∀ (H : Heap) (locs : List Loc) (ls : Array Slot), Hh D (AB 21 a s.heap.size) (wX 21 a (EM a cI cZ) u) s.heap H locs → lv_has ls 5 [(0, .ref (a 0)), (1, .int p1), (2, .int x1), (3, .int x2)] → W p l e R s m args below meth c H locs 0 0 Q (F0 m 4 ls [])) ?_ FU _ _ hf _ _ _ h (lv_sub hl [2, 3, 1, 0] rfl)
  intro rec7 irec7 x1 x2 hf H locs ls h hl
  unfold B_X12_workOfPlan_4 at hf
  refine lv_iload_n (pc := 4) hx hb dX12_workOfPlan_4 rfl (lv_at hl 3 rfl) ?_
  refine lv_aload_n (pc := 5) hx hb dX12_workOfPlan_5 rfl (lv_at hl 0 rfl) ?_
  refine gM_0_32 (pc := 6) hx hb hts hown hK h fl_X12_223 dX12_workOfPlan_6 ?_
  refine lv_icmp_ge (pc := 9) (tgt := 94) hx hb dX12_workOfPlan_9 (by decide) (fun c8 => ?_) (fun c8 => ?_)
  · have hf := if_t hf c8
    exact jk3 _ hf _ _ _ h (lv_sub hl [0, 2] rfl)
  · have hf := if_f hf c8
    refine lv_aload_n (pc := 12) hx hb dX12_workOfPlan_12 rfl (lv_at hl 0 rfl) ?_
    refine gM_0_31 (pc := 13) hx hb hts hown hK h fl_X12_52 dX12_workOfPlan_13 ?_
    refine lv_iload_n (pc := 16) hx hb dX12_workOfPlan_16 rfl (lv_at hl 3 rfl) ?_
    obtain ⟨hin, hf⟩ := cki_e hf
    refine gM_15 (pc := 17) hx hb hK h hin dX12_workOfPlan_17 ?_
    refine lv_istore (pc := 18) (lv' := [(4, .int (u.1 15 (ix x2))), (0, .ref (a 0)), (1, .int p1), (2, .int x1), (3, .int x2)]) hx hb dX12_workOfPlan_18 hl (by decide) rfl (fun ls hl => ?_)
    refine lv_aload_n (pc := 20) hx hb dX12_workOfPlan_20 rfl (lv_at hl 1 rfl) ?_
    refine lv_iload (pc := 21) hx hb dX12_workOfPlan_21 (lv_at hl 0 rfl) ?_
    refine lv_aload_n (pc := 23) hx hb dX12_workOfPlan_23 rfl (lv_at hl 1 rfl) ?_
    refine gM_0_23 (pc := 24) hx hb hts hown hK h fl_X12_46 dX12_workOfPlan_24 ?_
    refine lv_iload (pc := 27) hx hb dX12_workOfPlan_27 (lv_at hl 0 rfl) ?_
    obtain ⟨hin, hf⟩ := cki_e hf
    refine gM_13 (pc := 29) hx hb hK h hin dX12_workOfPlan_29 ?_
    refine lv_iload_n (pc := 30) hx hb dX12_workOfPlan_30 rfl (lv_at hl 2 rfl) ?_
    obtain ⟨x9, hc, hf⟩ := b1_e hf
    refine k_X12_acidIn (pc := 31) hx hb hml hown hts hK hN hc ml_X12_172 (Nat.le_trans (by decide) hF) (Nat.le_trans (by decide) hLo) h hl.1 ⟨Nat.zero_le _, Nat.zero_le _⟩ (Nat.le_of_ble_eq_true rfl) dX12_workOfPlan_31 (fun H locs h => ?_)
    refine lv_aload_n (pc := 34) hx hb dX12_workOfPlan_34 rfl (lv_at hl 1 rfl) ?_
    refine gM_0_11 (pc := 35) hx hb hts hown hK h fl_X12_71 dX12_workOfPlan_35 ?_
    refine lv_icmp_lt (pc := 38) (tgt := 44) hx hb dX12_workOfPlan_38 (by decide) (fun c10 => ?_) (fun c10 => ?_)
    · have hf := if_t hf c10
      refine lv_iload_n (pc := 44) hx hb dX12_workOfPlan_44 rfl (lv_at hl 3 rfl) ?_
      refine lv_aload_n (pc := 45) hx hb dX12_workOfPlan_45 rfl (lv_at hl 1 rfl) ?_
      refine gM_0_23 (pc := 46) hx hb hts hown hK h fl_X12_46 dX12_workOfPlan_46 ?_
      refine lv_iload (pc := 49) hx hb dX12_workOfPlan_49 (lv_at hl 0 rfl) ?_
      obtain ⟨hin, hf⟩ := cki_e hf
      refine gM_13 (pc := 51) hx hb hK h hin dX12_workOfPlan_51 ?_
      refine lv_aload_n (pc := 52) hx hb dX12_workOfPlan_52 rfl (lv_at hl 1 rfl) ?_
      refine gM_0_5 (pc := 53) hx hb hts hown hK h fl_X12_16 dX12_workOfPlan_53 ?_
      refine lv_iload (pc := 56) hx hb dX12_workOfPlan_56 (lv_at hl 0 rfl) ?_
      obtain ⟨hin, hf⟩ := cki_e hf
      refine gM_3 (pc := 58) hx hb hK h hin dX12_workOfPlan_58 ?_
      refine lv_icmp_ne (pc := 59) (tgt := 66) hx hb dX12_workOfPlan_59 (by decide) (fun c11 => ?_) (fun c11 => ?_)
      · have hf := if_f hf c11
        refine lv_aload_n (pc := 66) hx hb dX12_workOfPlan_66 rfl (lv_at hl 1 rfl) ?_
        refine lv_iload (pc := 67) hx hb dX12_workOfPlan_67 (lv_at hl 0 rfl) ?_
        refine lv_aload_n (pc := 69) hx hb dX12_workOfPlan_69 rfl (lv_at hl 1 rfl) ?_
        refine gM_0_5 (pc := 70) hx hb hts hown hK h fl_X12_16 dX12_workOfPlan_70 ?_
        refine lv_iload (pc := 73) hx hb dX12_workOfPlan_73 (lv_at hl 0 rfl) ?_
        obtain ⟨hin, hf⟩ := cki_e hf
        refine gM_3 (pc := 75) hx hb hK h hin dX12_workOfPlan_75 ?_
        refine lv_aload_n (pc := 76) hx hb dX12_workOfPlan_76 rfl (lv_at hl 1 rfl) ?_
        refine gM_0_23 (pc := 77) hx hb hts hown hK h fl_X12_46 dX12_workOfPlan_77 ?_
        refine lv_iload (pc := 80) hx hb dX12_workOfPlan_80 (lv_at hl 0 rfl) ?_
        obtain ⟨hin, hf⟩ := cki_e hf
        refine gM_13 (pc := 82) hx hb hK h hin dX12_workOfPlan_82 ?_
        obtain ⟨x12, hc, hf⟩ := b1_e hf
        refine k_X12_workOf (pc := 83) hx hb hml hown hts hK hN hc ml_X12_192 (Nat.le_trans (by decide) hF) (Nat.le_trans (by decide) hLo) h hl.1 ⟨Nat.zero_le _, Nat.zero_le _⟩ (Nat.le_of_ble_eq_true rfl) dX12_workOfPlan_83 (fun H locs h => ?_)
        refine lv_iadd (pc := 86) hx hb dX12_workOfPlan_86 ?_
        refine lv_istore_n (pc := 87) (lv' := [(2, .int (x1 + x12)), (4, .int (u.1 15 (ix x2))), (0, .ref (a 0)), (1, .int p1), (3, .int x2)]) hx hb dX12_workOfPlan_87 rfl hl (by decide) rfl (fun ls hl => ?_)
        refine lv_iinc (pc := 88) (v := x2 + 1) (lv' := [(3, .int (x2 + 1)), (2, .int (x1 + x12)), (4, .int (u.1 15 (ix x2))), (0, .ref (a 0)), (1, .int p1)]) hx hb dX12_workOfPlan_88 hl (k := 4) rfl rfl (by decide) rfl (fun ls hl => ?_)
        refine lv_goto (pc := 91) (tgt := 4) hx hb dX12_workOfPlan_91 (by decide) ?_
        exact irec7 _ _ hf _ _ _ h (lv_sub hl [3, 4, 1, 0] rfl)
      · have hf := if_t hf c11
        refine lv_iconst (pc := 62) (v := 0) hx hb dX12_workOfPlan_62 (by decide) ?_
        refine lv_goto (pc := 63) (tgt := 86) hx hb dX12_workOfPlan_63 (by decide) ?_
        refine lv_iadd (pc := 86) hx hb dX12_workOfPlan_86 ?_
        refine lv_istore_n (pc := 87) (lv' := [(2, .int (x1 + (0 : Int32))), (4, .int (u.1 15 (ix x2))), (0, .ref (a 0)), (1, .int p1), (3, .int x2)]) hx hb dX12_workOfPlan_87 rfl hl (by decide) rfl (fun ls hl => ?_)
        refine lv_iinc (pc := 88) (v := x2 + 1) (lv' := [(3, .int (x2 + 1)), (2, .int (x1 + (0 : Int32))), (4, .int (u.1 15 (ix x2))), (0, .ref (a 0)), (1, .int p1)]) hx hb dX12_workOfPlan_88 hl (k := 4) rfl rfl (by decide) rfl (fun ls hl => ?_)
        refine lv_goto (pc := 91) (tgt := 4) hx hb dX12_workOfPlan_91 (by decide) ?_
        exact irec7 _ _ hf _ _ _ h (lv_sub hl [3, 4, 1, 0] rfl)
    · have hf := if_f hf c10
      refine lv_bipush (pc := 41) (v := (-6)) hx hb dX12_workOfPlan_41 (by decide) ?_
      exact hret (so hf) rfl rfl dX12_workOfPlan_43 h
theorem k_X12_workOfPlan {p : Program} {l : Launch} {e : Env} {R : Room} {s : State} {m : MethodId} {args : Array Value} {below : List Frame} {meth : Method} {c : Code} {H : Heap} {locs : List Loc} {cells slots : Nat} {Q : State → Prop} {pc : Nat} {ls : Array Slot} {rest : List Value} {cc : ByteArray} {D : va_G} {cI cZ : ClassId} {a : Nat → Nat} {u : St} {own : String} {index nL : Nat} {p1 : Int32} {rr : Int32} (hx : p.tables.exec = Jvm.exec) (hb : c.code = cc) (hml : c.maxLocals = nL) (hown : s.vm.findClass own = some m.cls) (hts : ∀ w ∈ Gd, w.before args s = true) (hK : va_K D vwCl (tyM cI cZ) s) (hN : NB s) (hc : f_X12_workOfPlan u p1 = some rr) (hlk : Cond.methodLink own index yX12_workOfPlan ∈ Gd) (hF : 6 ≤ R.frames) (hLo : 135 ≤ R.locals) (h : Hh D (AB 21 a s.heap.size) (wX 21 a (EM a cI cZ) u) s.heap H locs) (hsize : ls.size = nL) (hcs : cells ≤ R.cells ∧ slots ≤ R.slots) (hr : (rest.map fun v => v.category).sum ≤ 8) (hdg : decode cc pc = .ok (.invokevirtual index, 3)) (kk : ∀ (H1 : Heap) (locs1 : List Loc), Hh D (AB 21 a s.heap.size) (wX 21 a (EM a cI cZ) u) s.heap H1 locs1 → W p l e R s m args below meth c H1 locs1 cells slots Q (F0 m (pc + 3) ls (.int rr :: rest))) : W p l e R s m args below meth c H locs cells slots Q (F0 m pc ls (.int p1 :: .ref (a 0) :: rest)) :=
  cVi (n := 1) hx hb hml hown hts hK hN (c_X12_workOfPlan hc) (gdV hlk im_X12_workOfPlan se_X12_workOfPlan in_X12 co_X12_workOfPlan) rfl (by decide +kernel) rfl hF hLo h hsize hcs (by decide) rfl rfl rfl hr hdg kk
def B_X12_plan_192 (k34 : St → Option (Int32 × St)) (rec36 : St → Int32 → Option (Int32 × St)) (u32 : St) (x33 : Int32) : Option (Int32 × St) := if 8 ≤ x33 then k34 u32 else cki x33 8 (cki x33 8 (bs (sI u32 16 (ix x33) (u32.1 13 (ix x33))) (fun u38 : St => rec36 u38 (x33 + 1))))
def B_X12_plan_127 (k27 : St → Option (Int32 × St)) (rec39 : St → Int32 → Int32 → Option (Int32 × St)) (u24 : St) (x25 : Int32) (x26 : Int32) : Option (Int32 × St) := if x26 < 0 then k27 u24 else cki x26 8 (ck (¬ (u24.1 0 0) = 0) (cki (u24.1 15 (ix x26)) 8 (bs (sI u24 13 (ix (u24.1 15 (ix x26))) (x25 - x25 / (u24.1 0 0) * (u24.1 0 0))) (fun u41 : St => ck (¬ (u41.1 0 0) = 0) (rec39 u41 (x25 / (u41.1 0 0)) (x26 + (-1)))))))
def B_X12_plan_108 (p2 : Int32) (x13 : Int32) (k17 : St → Int32 → Option (Int32 × St)) (rec22 : St → Int32 → Int32 → Option (Int32 × St)) (u14 : St) (x15 : Int32) (x16 : Int32) : Option (Int32 × St) := if x13 ≤ x16 then k17 u14 x15 else jq_1 (fun (u28 : St) => b1 (f_X12_workOfPlan u28 p2) (fun (x29 : Int32) => if x29 < 0 then rec22 u28 x15 (x16 + 1) else if x15 ≤ x29 then rec22 u28 x15 (x16 + 1) else jq_1 (fun (u35 : St) => rec22 u35 x29 (x16 + 1)) (fun (k34 : St → Option (Int32 × St)) => lq_2 (B_X12_plan_192 k34) FU u28 0))) (fun (k27 : St → Option (Int32 × St)) => lq_3 (B_X12_plan_127 k27) FU u14 x16 ((u14.1 0 32) - (1 : Int32)))
def B_X12_plan_77 (u9 : St) (k12 : Int32 → Option (Int32 × St)) (rec42 : Int32 → Int32 → Option (Int32 × St)) (x10 : Int32) (x11 : Int32) : Option (Int32 × St) := if (u9.1 0 32) ≤ x11 then k12 x10 else rec42 (x10 * (u9.1 0 0)) (x11 + 1)
def f_X12_plan (u : St) (p1 : Int32) (p2 : Int32) (p3 : Int32) : Option (Int32 × St) := b1 (f_X12_in u (Int32.toInt64 p1) 0 255) (fun (x1 : Int32) => if x1 = 0 then some ((-2), u) else if (p1 &&& ((u.1 0 4) ^^^ (-1 : Int32))) = 0 then b1 (f_X12_isDays u p2) (fun (x4 : Int32) => if x4 = 0 then some ((-2), u) else jq_0 (b1 (f_X12_ones u p1) (fun (x7 : Int32) => if x7 ≤ 4 then b1 (f_X12_layMembers u p1) (fun (u9 : St) => jq_1 (fun (x13 : Int32) => jq_2 (fun (u18 : St) (x19 : Int32) => if x19 = 1000000 then some ((-6), u18) else if p3 = ((-1)) then some (x19, u18) else cki p3 8 (some (u18.1 16 (ix p3), u18))) (fun (k17 : St → Int32 → Option (Int32 × St)) => lq_3 (B_X12_plan_108 p2 x13 k17) FU u9 1000000 0)) (fun (k12 : Int32 → Option (Int32 × St)) => lq_2 (B_X12_plan_77 u9 k12) FU 1 0)) else some ((-4), u))) (fun (k6 : Option (Int32 × St)) => if p3 = ((-1)) then k6 else b1 (f_X12_isNumber u p3) (fun (x45 : Int32) => if x45 = 0 then some ((-1), u) else if ((p1 >>> (p3 &&& 31)) &&& (1 : Int32)) = 0 then some ((-1), u) else k6))) else some ((-2), u))
set_option maxRecDepth 100000 in
set_option maxHeartbeats 4000000 in
theorem c_X12_plan {l : Launch} {D : va_G} {cI cZ : ClassId} {a : Nat → Nat} {u : St} {p1 : Int32} {p2 : Int32} {p3 : Int32} {rr : Int32} {uu : St} (hf : f_X12_plan u p1 p2 p3 = some (rr, uu)) : Ci l yX12_plan cX12_plan 10 (some .int) 6 135 D (tyM cI cZ) 21 a (EM a cI cZ) [.ref (a 0), .int p1, .int p2, .int p3] u rr uu := by
  refine metI (by decide +kernel) (Nat.le_of_ble_eq_true rfl) ?_
  intro p e s m args below meth c R Q hx hb hml hown hts hF hLo hret hK hN h ls hl
  have hown : s.vm.findClass RX12 = some m.cls := hown
  have hl : lv_has ls 10 [(0, .ref (a 0)), (1, .int p1), (2, .int p2), (3, .int p3)] := hl
  unfold f_X12_plan at hf
  refine lv_iload_n (pc := 0) hx hb dX12_plan_0 rfl (lv_at hl 1 rfl) ?_
  refine lv_i2l (pc := 1) (v := Int32.toInt64 p1) hx hb dX12_plan_1 rfl ?_
  refine lv_lconst (pc := 2) (v := 0) hx hb dX12_plan_2 (by decide) ?_
  refine lv_ldc2 (pc := 3) hx hb hown (hts _ ctl_X12_230) dX12_plan_3 ?_
  obtain ⟨x1, hc, hf⟩ := b1_e hf
  refine kS_X12_in (pc := 6) hx hb hml hown hts hK hN hc ml_X12_97 (Nat.le_trans (by decide) hF) (Nat.le_trans (by decide) hLo) h hl.1 ⟨Nat.zero_le _, Nat.zero_le _⟩ (Nat.le_of_ble_eq_true rfl) dX12_plan_6 (fun H locs h => ?_)
  refine lv_if_eq (pc := 9) (tgt := 30) hx hb dX12_plan_9 (by decide) (fun c2 => ?_) (fun c2 => ?_)
  · have hf := if_t hf c2
    refine lv_bipush (pc := 30) (v := (-2)) hx hb dX12_plan_30 (by decide) ?_
    exact hret (so1 hf) rfl (so2 hf) dX12_plan_32 h
  · have hf := if_f hf c2
    refine lv_iload_n (pc := 12) hx hb dX12_plan_12 rfl (lv_at hl 1 rfl) ?_
    refine lv_aload_n (pc := 13) hx hb dX12_plan_13 rfl (lv_at hl 0 rfl) ?_
    refine gM_0_4 (pc := 14) hx hb hts hown hK h fl_X12_91 dX12_plan_14 ?_
    refine lv_iconst (pc := 17) (v := (-1)) hx hb dX12_plan_17 (by decide) ?_
    refine lv_ixor (pc := 18) hx hb dX12_plan_18 ?_
    refine lv_iand (pc := 19) hx hb dX12_plan_19 ?_
    refine lv_if_ne (pc := 20) (tgt := 30) hx hb dX12_plan_20 (by decide) (fun c3 => ?_) (fun c3 => ?_)
    · have hf := if_f hf c3
      refine lv_bipush (pc := 30) (v := (-2)) hx hb dX12_plan_30 (by decide) ?_
      exact hret (so1 hf) rfl (so2 hf) dX12_plan_32 h
    · have hf := if_t hf c3
      refine lv_iload_n (pc := 23) hx hb dX12_plan_23 rfl (lv_at hl 2 rfl) ?_
      obtain ⟨x4, hc, hf⟩ := b1_e hf
      refine kS_X12_isDays (pc := 24) hx hb hml hown hts hK hN hc ml_X12_177 (Nat.le_trans (by decide) hF) (Nat.le_trans (by decide) hLo) h hl.1 ⟨Nat.zero_le _, Nat.zero_le _⟩ (Nat.le_of_ble_eq_true rfl) dX12_plan_24 (fun H locs h => ?_)
      refine lv_if_ne (pc := 27) (tgt := 33) hx hb dX12_plan_27 (by decide) (fun c5 => ?_) (fun c5 => ?_)
      · have hf := if_f hf c5
        refine lv_iload_n (pc := 33) hx hb dX12_plan_33 rfl (lv_at hl 3 rfl) ?_
        refine lv_iconst (pc := 34) (v := (-1)) hx hb dX12_plan_34 (by decide) ?_
        obtain ⟨k6, hk6, hf⟩ := jq_0_e hf
        have jk6 : k6 = some (rr, uu) → ∀ (H : Heap) (locs : List Loc) (ls : Array Slot), Hh D (AB 21 a s.heap.size) (wX 21 a (EM a cI cZ) u) s.heap H locs → lv_has ls 10 [(0, .ref (a 0)), (1, .int p1), (2, .int p2), (3, .int p3)] → W p l e R s m args below meth c H locs 0 0 Q (F0 m 55 ls []) := by
          intro hf H locs ls h hl
          rw [hk6] at hf
          refine lv_iload_n (pc := 55) hx hb dX12_plan_55 rfl (lv_at hl 1 rfl) ?_
          obtain ⟨x7, hc, hf⟩ := b1_e hf
          refine kS_X12_ones (pc := 56) hx hb hml hown hts hK hN hc ml_X12_125 (Nat.le_trans (by decide) hF) (Nat.le_trans (by decide) hLo) h hl.1 ⟨Nat.zero_le _, Nat.zero_le _⟩ (Nat.le_of_ble_eq_true rfl) dX12_plan_56 (fun H locs h => ?_)
          refine lv_iconst (pc := 59) (v := 4) hx hb dX12_plan_59 (by decide) ?_
          refine lv_icmp_le (pc := 60) (tgt := 66) hx hb dX12_plan_60 (by decide) (fun c8 => ?_) (fun c8 => ?_)
          · have hf := if_t hf c8
            refine lv_aload_n (pc := 66) hx hb dX12_plan_66 rfl (lv_at hl 0 rfl) ?_
            refine lv_iload_n (pc := 67) hx hb dX12_plan_67 rfl (lv_at hl 1 rfl) ?_
            obtain ⟨u9, hc, hf⟩ := b1_e hf
            refine k_X12_layMembers (pc := 68) hx hb hml hown hts hK hN hc ml_X12_232 (Nat.le_trans (by decide) hF) (Nat.le_trans (by decide) hLo) h hl.1 ⟨Nat.zero_le _, Nat.zero_le _⟩ (Nat.le_of_ble_eq_true rfl) dX12_plan_68 (fun H locs h => ?_)
            refine lv_iconst (pc := 71) (v := 1) hx hb dX12_plan_71 (by decide) ?_
            refine lv_istore (pc := 72) (lv' := [(4, .int 1), (0, .ref (a 0)), (1, .int p1), (2, .int p2), (3, .int p3)]) hx hb dX12_plan_72 hl (by decide) rfl (fun ls hl => ?_)
            refine lv_iconst (pc := 74) (v := 0) hx hb dX12_plan_74 (by decide) ?_
            refine lv_istore (pc := 75) (lv' := [(5, .int 0), (4, .int 1), (0, .ref (a 0)), (1, .int p1), (2, .int p2), (3, .int p3)]) hx hb dX12_plan_75 hl (by decide) rfl (fun ls hl => ?_)
            obtain ⟨k12, hk12, hf⟩ := jq_1_e hf
            have jk12 : ∀ (x13 : Int32), k12 x13 = some (rr, uu) → ∀ (H : Heap) (locs : List Loc) (ls : Array Slot), Hh D (AB 21 a s.heap.size) (wX 21 a (EM a cI cZ) u9) s.heap H locs → lv_has ls 10 [(0, .ref (a 0)), (2, .int p2), (3, .int p3), (4, .int x13)] → W p l e R s m args below meth c H locs 0 0 Q (F0 m 101 ls []) := by
              intro x13 hf H locs ls h hl
              rw [hk12] at hf
              refine lv_ldc (pc := 101) hx hb hown (hts _ ct_X12_216) dX12_plan_101 ?_
              refine lv_istore (pc := 103) (lv' := [(5, .int 1000000), (0, .ref (a 0)), (2, .int p2), (3, .int p3), (4, .int x13)]) hx hb dX12_plan_103 hl (by decide) rfl (fun ls hl => ?_)
              refine lv_iconst (pc := 105) (v := 0) hx hb dX12_plan_105 (by decide) ?_
              refine lv_istore (pc := 106) (lv' := [(6, .int 0), (5, .int 1000000), (0, .ref (a 0)), (2, .int p2), (3, .int p3), (4, .int x13)]) hx hb dX12_plan_106 hl (by decide) rfl (fun ls hl => ?_)
              obtain ⟨k17, hk17, hf⟩ := jq_2_e hf
              have jk17 : ∀ (u18 : St) (x19 : Int32), k17 u18 x19 = some (rr, uu) → ∀ (H : Heap) (locs : List Loc) (ls : Array Slot), Hh D (AB 21 a s.heap.size) (wX 21 a (EM a cI cZ) u18) s.heap H locs → lv_has ls 10 [(0, .ref (a 0)), (3, .int p3), (5, .int x19)] → W p l e R s m args below meth c H locs 0 0 Q (F0 m 225 ls []) := by
                intro u18 x19 hf H locs ls h hl
                rw [hk17] at hf
                refine lv_iload (pc := 225) hx hb dX12_plan_225 (lv_at hl 2 rfl) ?_
                refine lv_ldc (pc := 227) hx hb hown (hts _ ct_X12_216) dX12_plan_227 ?_
                refine lv_icmp_ne (pc := 229) (tgt := 237) hx hb dX12_plan_229 (by decide) (fun c20 => ?_) (fun c20 => ?_)
                · have hf := if_f hf c20
                  refine lv_iload_n (pc := 237) hx hb dX12_plan_237 rfl (lv_at hl 1 rfl) ?_
                  refine lv_iconst (pc := 238) (v := (-1)) hx hb dX12_plan_238 (by decide) ?_
                  refine lv_icmp_ne (pc := 239) (tgt := 247) hx hb dX12_plan_239 (by decide) (fun c21 => ?_) (fun c21 => ?_)
                  · have hf := if_f hf c21
                    refine lv_aload_n (pc := 247) hx hb dX12_plan_247 rfl (lv_at hl 0 rfl) ?_
                    refine gM_0_33 (pc := 248) hx hb hts hown hK h fl_X12_55 dX12_plan_248 ?_
                    refine lv_iload_n (pc := 251) hx hb dX12_plan_251 rfl (lv_at hl 1 rfl) ?_
                    obtain ⟨hin, hf⟩ := cki_e hf
                    refine gM_16 (pc := 252) hx hb hK h hin dX12_plan_252 ?_
                    exact hret (so1 hf) rfl (so2 hf) dX12_plan_253 h
                  · have hf := if_t hf c21
                    refine lv_iload (pc := 242) hx hb dX12_plan_242 (lv_at hl 2 rfl) ?_
                    refine lv_goto (pc := 244) (tgt := 253) hx hb dX12_plan_244 (by decide) ?_
                    exact hret (so1 hf) rfl (so2 hf) dX12_plan_253 h
                · have hf := if_t hf c20
                  refine lv_bipush (pc := 232) (v := (-6)) hx hb dX12_plan_232 (by decide) ?_
                  refine lv_goto (pc := 234) (tgt := 253) hx hb dX12_plan_234 (by decide) ?_
                  exact hret (so1 hf) rfl (so2 hf) dX12_plan_253 h
              refine lq_3_e (P := fun (u14 : St) (x15 : Int32) (x16 : Int32) => ∀ (H : Heap) (locs : List Loc) (ls : Array Slot), Hh D (AB 21 a s.heap.size) (wX 21 a (EM a cI cZ) u14) s.heap H locs → lv_has ls 10 [(0, .ref (a 0)), (2, .int p2), (3, .int p3), (4, .int x13), (5, .int x15), (6, .int x16)] → W p l e R s m args below meth c H locs 0 0 Q (F0 m 108 ls [])) ?_ FU _ _ _ hf _ _ _ h (lv_sub hl [2, 3, 4, 5, 1, 0] rfl)
              intro rec22 irec22 u14 x15 x16 hf H locs ls h hl
              unfold B_X12_plan_108 at hf
              refine lv_iload (pc := 108) hx hb dX12_plan_108 (lv_at hl 5 rfl) ?_
              refine lv_iload (pc := 110) hx hb dX12_plan_110 (lv_at hl 3 rfl) ?_
              refine lv_icmp_ge (pc := 112) (tgt := 225) hx hb dX12_plan_112 (by decide) (fun c23 => ?_) (fun c23 => ?_)
              · have hf := if_t hf c23
                exact jk17 _ _ hf _ _ _ h (lv_sub hl [0, 2, 4] rfl)
              · have hf := if_f hf c23
                refine lv_iload (pc := 115) hx hb dX12_plan_115 (lv_at hl 5 rfl) ?_
                refine lv_istore (pc := 117) (lv' := [(7, .int x16), (0, .ref (a 0)), (2, .int p2), (3, .int p3), (4, .int x13), (5, .int x15), (6, .int x16)]) hx hb dX12_plan_117 hl (by decide) rfl (fun ls hl => ?_)
                refine lv_aload_n (pc := 119) hx hb dX12_plan_119 rfl (lv_at hl 1 rfl) ?_
                refine gM_0_32 (pc := 120) hx hb hts hown hK h fl_X12_223 dX12_plan_120 ?_
                refine lv_iconst (pc := 123) (v := 1) hx hb dX12_plan_123 (by decide) ?_
                refine lv_isub (pc := 124) hx hb dX12_plan_124 ?_
                refine lv_istore (pc := 125) (lv' := [(8, .int ((u14.1 0 32) - (1 : Int32))), (7, .int x16), (0, .ref (a 0)), (2, .int p2), (3, .int p3), (4, .int x13), (5, .int x15), (6, .int x16)]) hx hb dX12_plan_125 hl (by decide) rfl (fun ls hl => ?_)
                obtain ⟨k27, hk27, hf⟩ := jq_1_e hf
                have jk27 : ∀ (u28 : St), k27 u28 = some (rr, uu) → ∀ (H : Heap) (locs : List Loc) (ls : Array Slot), Hh D (AB 21 a s.heap.size) (wX 21 a (EM a cI cZ) u28) s.heap H locs → lv_has ls 10 [(0, .ref (a 0)), (2, .int p2), (3, .int p3), (4, .int x13), (5, .int x15), (6, .int x16)] → W p l e R s m args below meth c H locs 0 0 Q (F0 m 166 ls []) := by
                  intro u28 hf H locs ls h hl
                  rw [hk27] at hf
                  refine lv_aload_n (pc := 166) hx hb dX12_plan_166 rfl (lv_at hl 0 rfl) ?_
                  refine lv_iload_n (pc := 167) hx hb dX12_plan_167 rfl (lv_at hl 1 rfl) ?_
                  obtain ⟨x29, hc, hf⟩ := b1_e hf
                  refine k_X12_workOfPlan (pc := 168) hx hb hml hown hts hK hN hc ml_X12_235 (Nat.le_trans (by decide) hF) (Nat.le_trans (by decide) hLo) h hl.1 ⟨Nat.zero_le _, Nat.zero_le _⟩ (Nat.le_of_ble_eq_true rfl) dX12_plan_168 (fun H locs h => ?_)
                  refine lv_istore (pc := 171) (lv' := [(8, .int x29), (0, .ref (a 0)), (2, .int p2), (3, .int p3), (4, .int x13), (5, .int x15), (6, .int x16)]) hx hb dX12_plan_171 hl (by decide) rfl (fun ls hl => ?_)
                  refine lv_iload (pc := 173) hx hb dX12_plan_173 (lv_at hl 0 rfl) ?_
                  refine lv_if_lt (pc := 175) (tgt := 219) hx hb dX12_plan_175 (by decide) (fun c30 => ?_) (fun c30 => ?_)
                  · have hf := if_t hf c30
                    refine lv_iinc (pc := 219) (v := x16 + 1) (lv' := [(6, .int (x16 + 1)), (8, .int x29), (0, .ref (a 0)), (2, .int p2), (3, .int p3), (4, .int x13), (5, .int x15)]) hx hb dX12_plan_219 hl (k := 6) rfl rfl (by decide) rfl (fun ls hl => ?_)
                    refine lv_goto (pc := 222) (tgt := 108) hx hb dX12_plan_222 (by decide) ?_
                    exact irec22 _ _ _ hf _ _ _ h (lv_sub hl [2, 3, 4, 5, 6, 0] rfl)
                  · have hf := if_f hf c30
                    refine lv_iload (pc := 178) hx hb dX12_plan_178 (lv_at hl 0 rfl) ?_
                    refine lv_iload (pc := 180) hx hb dX12_plan_180 (lv_at hl 5 rfl) ?_
                    refine lv_icmp_ge (pc := 182) (tgt := 219) hx hb dX12_plan_182 (by decide) (fun c31 => ?_) (fun c31 => ?_)
                    · have hf := if_t hf c31
                      refine lv_iinc (pc := 219) (v := x16 + 1) (lv' := [(6, .int (x16 + 1)), (8, .int x29), (0, .ref (a 0)), (2, .int p2), (3, .int p3), (4, .int x13), (5, .int x15)]) hx hb dX12_plan_219 hl (k := 6) rfl rfl (by decide) rfl (fun ls hl => ?_)
                      refine lv_goto (pc := 222) (tgt := 108) hx hb dX12_plan_222 (by decide) ?_
                      exact irec22 _ _ _ hf _ _ _ h (lv_sub hl [2, 3, 4, 5, 6, 0] rfl)
                    · have hf := if_f hf c31
                      refine lv_iload (pc := 185) hx hb dX12_plan_185 (lv_at hl 0 rfl) ?_
                      refine lv_istore (pc := 187) (lv' := [(5, .int x29), (8, .int x29), (0, .ref (a 0)), (2, .int p2), (3, .int p3), (4, .int x13), (6, .int x16)]) hx hb dX12_plan_187 hl (by decide) rfl (fun ls hl => ?_)
                      refine lv_iconst (pc := 189) (v := 0) hx hb dX12_plan_189 (by decide) ?_
                      refine lv_istore (pc := 190) (lv' := [(9, .int 0), (5, .int x29), (8, .int x29), (0, .ref (a 0)), (2, .int p2), (3, .int p3), (4, .int x13), (6, .int x16)]) hx hb dX12_plan_190 hl (by decide) rfl (fun ls hl => ?_)
                      obtain ⟨k34, hk34, hf⟩ := jq_1_e hf
                      have jk34 : ∀ (u35 : St), k34 u35 = some (rr, uu) → ∀ (H : Heap) (locs : List Loc) (ls : Array Slot), Hh D (AB 21 a s.heap.size) (wX 21 a (EM a cI cZ) u35) s.heap H locs → lv_has ls 10 [(0, .ref (a 0)), (2, .int p2), (3, .int p3), (4, .int x13), (5, .int x29), (6, .int x16)] → W p l e R s m args below meth c H locs 0 0 Q (F0 m 219 ls []) := by
                        intro u35 hf H locs ls h hl
                        rw [hk34] at hf
                        refine lv_iinc (pc := 219) (v := x16 + 1) (lv' := [(6, .int (x16 + 1)), (0, .ref (a 0)), (2, .int p2), (3, .int p3), (4, .int x13), (5, .int x29)]) hx hb dX12_plan_219 hl (k := 5) rfl rfl (by decide) rfl (fun ls hl => ?_)
                        refine lv_goto (pc := 222) (tgt := 108) hx hb dX12_plan_222 (by decide) ?_
                        exact irec22 _ _ _ hf _ _ _ h (lv_sub hl [1, 2, 3, 4, 5, 0] rfl)
                      refine lq_2_e (P := fun (u32 : St) (x33 : Int32) => ∀ (H : Heap) (locs : List Loc) (ls : Array Slot), Hh D (AB 21 a s.heap.size) (wX 21 a (EM a cI cZ) u32) s.heap H locs → lv_has ls 10 [(0, .ref (a 0)), (2, .int p2), (3, .int p3), (4, .int x13), (5, .int x29), (6, .int x16), (9, .int x33)] → W p l e R s m args below meth c H locs 0 0 Q (F0 m 192 ls [])) ?_ FU _ _ hf _ _ _ h (lv_sub hl [3, 4, 5, 6, 1, 7, 0] rfl)
                      intro rec36 irec36 u32 x33 hf H locs ls h hl
                      unfold B_X12_plan_192 at hf
                      refine lv_iload (pc := 192) hx hb dX12_plan_192 (lv_at hl 6 rfl) ?_
                      refine lv_bipush (pc := 194) (v := 8) hx hb dX12_plan_194 (by decide) ?_
                      refine lv_icmp_ge (pc := 196) (tgt := 219) hx hb dX12_plan_196 (by decide) (fun c37 => ?_) (fun c37 => ?_)
                      · have hf := if_t hf c37
                        exact jk34 _ hf _ _ _ h (lv_sub hl [0, 1, 2, 3, 4, 5] rfl)
                      · have hf := if_f hf c37
                        refine lv_aload_n (pc := 199) hx hb dX12_plan_199 rfl (lv_at hl 0 rfl) ?_
                        refine gM_0_33 (pc := 200) hx hb hts hown hK h fl_X12_55 dX12_plan_200 ?_
                        refine lv_iload (pc := 203) hx hb dX12_plan_203 (lv_at hl 6 rfl) ?_
                        refine lv_aload_n (pc := 205) hx hb dX12_plan_205 rfl (lv_at hl 0 rfl) ?_
                        refine gM_0_23 (pc := 206) hx hb hts hown hK h fl_X12_46 dX12_plan_206 ?_
                        refine lv_iload (pc := 209) hx hb dX12_plan_209 (lv_at hl 6 rfl) ?_
                        obtain ⟨hin, hf⟩ := cki_e hf
                        refine gM_13 (pc := 211) hx hb hK h hin dX12_plan_211 ?_
                        obtain ⟨hin, hf⟩ := cki_e hf
                        refine pM_16 (pc := 212) hx hb hK h hin dX12_plan_212 (fun H locs h => ?_)
                        obtain ⟨u38, eu38, hf⟩ := bs_e hf
                        rw [← eu38] at h
                        refine lv_iinc (pc := 213) (v := x33 + 1) (lv' := [(9, .int (x33 + 1)), (0, .ref (a 0)), (2, .int p2), (3, .int p3), (4, .int x13), (5, .int x29), (6, .int x16)]) hx hb dX12_plan_213 hl (k := 6) rfl rfl (by decide) rfl (fun ls hl => ?_)
                        refine lv_goto (pc := 216) (tgt := 192) hx hb dX12_plan_216 (by decide) ?_
                        exact irec36 _ _ hf _ _ _ h (lv_sub hl [1, 2, 3, 4, 5, 6, 0] rfl)
                refine lq_3_e (P := fun (u24 : St) (x25 : Int32) (x26 : Int32) => ∀ (H : Heap) (locs : List Loc) (ls : Array Slot), Hh D (AB 21 a s.heap.size) (wX 21 a (EM a cI cZ) u24) s.heap H locs → lv_has ls 10 [(0, .ref (a 0)), (2, .int p2), (3, .int p3), (4, .int x13), (5, .int x15), (6, .int x16), (7, .int x25), (8, .int x26)] → W p l e R s m args below meth c H locs 0 0 Q (F0 m 127 ls [])) ?_ FU _ _ _ hf _ _ _ h (lv_sub hl [2, 3, 4, 5, 6, 7, 1, 0] rfl)
                intro rec39 irec39 u24 x25 x26 hf H locs ls h hl
                unfold B_X12_plan_127 at hf
                refine lv_iload (pc := 127) hx hb dX12_plan_127 (lv_at hl 7 rfl) ?_
                refine lv_if_lt (pc := 129) (tgt := 166) hx hb dX12_plan_129 (by decide) (fun c40 => ?_) (fun c40 => ?_)
                · have hf := if_t hf c40
                  exact jk27 _ hf _ _ _ h (lv_sub hl [0, 1, 2, 3, 4, 5] rfl)
                · have hf := if_f hf c40
                  refine lv_aload_n (pc := 132) hx hb dX12_plan_132 rfl (lv_at hl 0 rfl) ?_
                  refine gM_0_23 (pc := 133) hx hb hts hown hK h fl_X12_46 dX12_plan_133 ?_
                  refine lv_aload_n (pc := 136) hx hb dX12_plan_136 rfl (lv_at hl 0 rfl) ?_
                  refine gM_0_31 (pc := 137) hx hb hts hown hK h fl_X12_52 dX12_plan_137 ?_
                  refine lv_iload (pc := 140) hx hb dX12_plan_140 (lv_at hl 7 rfl) ?_
                  obtain ⟨hin, hf⟩ := cki_e hf
                  refine gM_15 (pc := 142) hx hb hK h hin dX12_plan_142 ?_
                  refine lv_iload (pc := 143) hx hb dX12_plan_143 (lv_at hl 6 rfl) ?_
                  refine lv_aload_n (pc := 145) hx hb dX12_plan_145 rfl (lv_at hl 0 rfl) ?_
                  refine gM_0_0 (pc := 146) hx hb hts hown hK h fl_X12_85 dX12_plan_146 ?_
                  obtain ⟨hne, hf⟩ := ck_e hf
                  refine lv_irem (pc := 149) hx hb dX12_plan_149 hne ?_
                  obtain ⟨hin, hf⟩ := cki_e hf
                  refine pM_13 (pc := 150) hx hb hK h hin dX12_plan_150 (fun H locs h => ?_)
                  obtain ⟨u41, eu41, hf⟩ := bs_e hf
                  rw [← eu41] at h
                  refine lv_iload (pc := 151) hx hb dX12_plan_151 (lv_at hl 6 rfl) ?_
                  refine lv_aload_n (pc := 153) hx hb dX12_plan_153 rfl (lv_at hl 0 rfl) ?_
                  refine gM_0_0 (pc := 154) hx hb hts hown hK h fl_X12_85 dX12_plan_154 ?_
                  obtain ⟨hne, hf⟩ := ck_e hf
                  refine lv_idiv (pc := 157) hx hb dX12_plan_157 hne ?_
                  refine lv_istore (pc := 158) (lv' := [(7, .int (x25 / (u41.1 0 0))), (0, .ref (a 0)), (2, .int p2), (3, .int p3), (4, .int x13), (5, .int x15), (6, .int x16), (8, .int x26)]) hx hb dX12_plan_158 hl (by decide) rfl (fun ls hl => ?_)
                  refine lv_iinc (pc := 160) (v := x26 + (-1)) (lv' := [(8, .int (x26 + (-1))), (7, .int (x25 / (u41.1 0 0))), (0, .ref (a 0)), (2, .int p2), (3, .int p3), (4, .int x13), (5, .int x15), (6, .int x16)]) hx hb dX12_plan_160 hl (k := 7) rfl rfl (by decide) rfl (fun ls hl => ?_)
                  refine lv_goto (pc := 163) (tgt := 127) hx hb dX12_plan_163 (by decide) ?_
                  exact irec39 _ _ _ hf _ _ _ h (lv_sub hl [2, 3, 4, 5, 6, 7, 1, 0] rfl)
            refine lq_2_e (P := fun (x10 : Int32) (x11 : Int32) => ∀ (H : Heap) (locs : List Loc) (ls : Array Slot), Hh D (AB 21 a s.heap.size) (wX 21 a (EM a cI cZ) u9) s.heap H locs → lv_has ls 10 [(0, .ref (a 0)), (2, .int p2), (3, .int p3), (4, .int x10), (5, .int x11)] → W p l e R s m args below meth c H locs 0 0 Q (F0 m 77 ls [])) ?_ FU _ _ hf _ _ _ h (lv_sub hl [2, 4, 5, 1, 0] rfl)
            intro rec42 irec42 x10 x11 hf H locs ls h hl
            unfold B_X12_plan_77 at hf
            refine lv_iload (pc := 77) hx hb dX12_plan_77 (lv_at hl 4 rfl) ?_
            refine lv_aload_n (pc := 79) hx hb dX12_plan_79 rfl (lv_at hl 0 rfl) ?_
            refine gM_0_32 (pc := 80) hx hb hts hown hK h fl_X12_223 dX12_plan_80 ?_
            refine lv_icmp_ge (pc := 83) (tgt := 101) hx hb dX12_plan_83 (by decide) (fun c43 => ?_) (fun c43 => ?_)
            · have hf := if_t hf c43
              exact jk12 _ hf _ _ _ h (lv_sub hl [0, 1, 2, 3] rfl)
            · have hf := if_f hf c43
              refine lv_iload (pc := 86) hx hb dX12_plan_86 (lv_at hl 3 rfl) ?_
              refine lv_aload_n (pc := 88) hx hb dX12_plan_88 rfl (lv_at hl 0 rfl) ?_
              refine gM_0_0 (pc := 89) hx hb hts hown hK h fl_X12_85 dX12_plan_89 ?_
              refine lv_imul (pc := 92) hx hb dX12_plan_92 ?_
              refine lv_istore (pc := 93) (lv' := [(4, .int (x10 * (u9.1 0 0))), (0, .ref (a 0)), (2, .int p2), (3, .int p3), (5, .int x11)]) hx hb dX12_plan_93 hl (by decide) rfl (fun ls hl => ?_)
              refine lv_iinc (pc := 95) (v := x11 + 1) (lv' := [(5, .int (x11 + 1)), (4, .int (x10 * (u9.1 0 0))), (0, .ref (a 0)), (2, .int p2), (3, .int p3)]) hx hb dX12_plan_95 hl (k := 4) rfl rfl (by decide) rfl (fun ls hl => ?_)
              refine lv_goto (pc := 98) (tgt := 77) hx hb dX12_plan_98 (by decide) ?_
              exact irec42 _ _ hf _ _ _ h (lv_sub hl [2, 3, 4, 1, 0] rfl)
          · have hf := if_f hf c8
            refine lv_bipush (pc := 63) (v := (-4)) hx hb dX12_plan_63 (by decide) ?_
            exact hret (so1 hf) rfl (so2 hf) dX12_plan_65 h
        refine lv_icmp_eq (pc := 35) (tgt := 55) hx hb dX12_plan_35 (by decide) (fun c44 => ?_) (fun c44 => ?_)
        · have hf := if_t hf c44
          exact jk6 hf _ _ _ h (lv_sub hl [0, 1, 2, 3] rfl)
        · have hf := if_f hf c44
          refine lv_iload_n (pc := 38) hx hb dX12_plan_38 rfl (lv_at hl 3 rfl) ?_
          obtain ⟨x45, hc, hf⟩ := b1_e hf
          refine kS_X12_isNumber (pc := 39) hx hb hml hown hts hK hN hc ml_X12_103 (Nat.le_trans (by decide) hF) (Nat.le_trans (by decide) hLo) h hl.1 ⟨Nat.zero_le _, Nat.zero_le _⟩ (Nat.le_of_ble_eq_true rfl) dX12_plan_39 (fun H locs h => ?_)
          refine lv_if_eq (pc := 42) (tgt := 53) hx hb dX12_plan_42 (by decide) (fun c46 => ?_) (fun c46 => ?_)
          · have hf := if_t hf c46
            refine lv_iconst (pc := 53) (v := (-1)) hx hb dX12_plan_53 (by decide) ?_
            exact hret (so1 hf) rfl (so2 hf) dX12_plan_54 h
          · have hf := if_f hf c46
            refine lv_iload_n (pc := 45) hx hb dX12_plan_45 rfl (lv_at hl 1 rfl) ?_
            refine lv_iload_n (pc := 46) hx hb dX12_plan_46 rfl (lv_at hl 3 rfl) ?_
            refine lv_ishr (pc := 47) hx hb dX12_plan_47 ?_
            refine lv_iconst (pc := 48) (v := 1) hx hb dX12_plan_48 (by decide) ?_
            refine lv_iand (pc := 49) hx hb dX12_plan_49 ?_
            refine lv_if_ne (pc := 50) (tgt := 55) hx hb dX12_plan_50 (by decide) (fun c47 => ?_) (fun c47 => ?_)
            · have hf := if_f hf c47
              exact jk6 hf _ _ _ h (lv_sub hl [0, 1, 2, 3] rfl)
            · have hf := if_t hf c47
              refine lv_iconst (pc := 53) (v := (-1)) hx hb dX12_plan_53 (by decide) ?_
              exact hret (so1 hf) rfl (so2 hf) dX12_plan_54 h
      · have hf := if_t hf c5
        refine lv_bipush (pc := 30) (v := (-2)) hx hb dX12_plan_30 (by decide) ?_
        exact hret (so1 hf) rfl (so2 hf) dX12_plan_32 h
theorem k_X12_plan {p : Program} {l : Launch} {e : Env} {R : Room} {s : State} {m : MethodId} {args : Array Value} {below : List Frame} {meth : Method} {c : Code} {H : Heap} {locs : List Loc} {cells slots : Nat} {Q : State → Prop} {pc : Nat} {ls : Array Slot} {rest : List Value} {cc : ByteArray} {D : va_G} {cI cZ : ClassId} {a : Nat → Nat} {u : St} {own : String} {index nL : Nat} {p1 : Int32} {p2 : Int32} {p3 : Int32} {rr : Int32} {uu : St} (hx : p.tables.exec = Jvm.exec) (hb : c.code = cc) (hml : c.maxLocals = nL) (hown : s.vm.findClass own = some m.cls) (hts : ∀ w ∈ Gd, w.before args s = true) (hK : va_K D vwCl (tyM cI cZ) s) (hN : NB s) (hc : f_X12_plan u p1 p2 p3 = some (rr, uu)) (hlk : Cond.methodLink own index yX12_plan ∈ Gd) (hF : 7 ≤ R.frames) (hLo : 164 ≤ R.locals) (h : Hh D (AB 21 a s.heap.size) (wX 21 a (EM a cI cZ) u) s.heap H locs) (hsize : ls.size = nL) (hcs : cells ≤ R.cells ∧ slots ≤ R.slots) (hr : (rest.map fun v => v.category).sum ≤ 8) (hdg : decode cc pc = .ok (.invokevirtual index, 3)) (kk : ∀ (H1 : Heap) (locs1 : List Loc), Hh D (AB 21 a s.heap.size) (wX 21 a (EM a cI cZ) uu) s.heap H1 locs1 → W p l e R s m args below meth c H1 locs1 cells slots Q (F0 m (pc + 3) ls (.int rr :: rest))) : W p l e R s m args below meth c H locs cells slots Q (F0 m pc ls (.int p3 :: .int p2 :: .int p1 :: .ref (a 0) :: rest)) :=
  cVi (n := 3) hx hb hml hown hts hK hN (c_X12_plan hc) (gdV hlk im_X12_plan se_X12_plan in_X12 co_X12_plan) rfl (by decide +kernel) rfl hF hLo h hsize hcs (by decide) rfl rfl rfl hr hdg kk
def f_X12_valueOn (u : St) (p1 : Int32) (p2 : Int32) : Option (Int32) := b1 (f_X12_acidBehind u p1 p2) (fun (x1 : Int32) => cki p1 8 (cki (u.1 6 (ix p1)) 4 (bs (p2 - (u.1 8 (ix (u.1 6 (ix p1))))) (fun x2 : Int32 => jq_1 (fun (x4 : Int32) => if (u.1 0 11) ≤ x1 then some 0 else if 0 ≤ (((50 : Int32) - x4) - x1) then cki p1 8 (some ((u.1 4 (ix p1)) * (((50 : Int32) - x4) - x1))) else some 0) (fun (k3 : Int32 → Option (Int32)) => if 0 ≤ x2 then k3 x2 else k3 (-x2))))))
set_option maxRecDepth 100000 in
set_option maxHeartbeats 4000000 in
theorem c_X12_valueOn {l : Launch} {D : va_G} {cI cZ : ClassId} {a : Nat → Nat} {u : St} {p1 : Int32} {p2 : Int32} {rr : Int32} (hf : f_X12_valueOn u p1 p2 = some rr) : Ci l yX12_valueOn cX12_valueOn 6 (some .int) 5 116 D (tyM cI cZ) 21 a (EM a cI cZ) [.ref (a 0), .int p1, .int p2] u rr u := by
  refine metI (by decide +kernel) (Nat.le_of_ble_eq_true rfl) ?_
  intro p e s m args below meth c R Q hx hb hml hown hts hF hLo hret hK hN h ls hl
  have hown : s.vm.findClass RX12 = some m.cls := hown
  have hl : lv_has ls 6 [(0, .ref (a 0)), (1, .int p1), (2, .int p2)] := hl
  unfold f_X12_valueOn at hf
  refine lv_aload_n (pc := 0) hx hb dX12_valueOn_0 rfl (lv_at hl 0 rfl) ?_
  refine lv_iload_n (pc := 1) hx hb dX12_valueOn_1 rfl (lv_at hl 1 rfl) ?_
  refine lv_iload_n (pc := 2) hx hb dX12_valueOn_2 rfl (lv_at hl 2 rfl) ?_
  obtain ⟨x1, hc, hf⟩ := b1_e hf
  refine k_X12_acidBehind (pc := 3) hx hb hml hown hts hK hN hc ml_X12_217 (Nat.le_trans (by decide) hF) (Nat.le_trans (by decide) hLo) h hl.1 ⟨Nat.zero_le _, Nat.zero_le _⟩ (Nat.le_of_ble_eq_true rfl) dX12_valueOn_3 (fun H locs h => ?_)
  refine lv_istore_n (pc := 6) (lv' := [(3, .int x1), (0, .ref (a 0)), (1, .int p1), (2, .int p2)]) hx hb dX12_valueOn_6 rfl hl (by decide) rfl (fun ls hl => ?_)
  refine lv_iload_n (pc := 7) hx hb dX12_valueOn_7 rfl (lv_at hl 3 rfl) ?_
  refine lv_aload_n (pc := 8) hx hb dX12_valueOn_8 rfl (lv_at hl 1 rfl) ?_
  refine gM_0_14 (pc := 9) hx hb hts hown hK h fl_X12_31 dX12_valueOn_9 ?_
  refine lv_aload_n (pc := 12) hx hb dX12_valueOn_12 rfl (lv_at hl 1 rfl) ?_
  refine gM_0_8 (pc := 13) hx hb hts hown hK h fl_X12_25 dX12_valueOn_13 ?_
  refine lv_iload_n (pc := 16) hx hb dX12_valueOn_16 rfl (lv_at hl 2 rfl) ?_
  obtain ⟨hin, hf⟩ := cki_e hf
  refine gM_6 (pc := 17) hx hb hK h hin dX12_valueOn_17 ?_
  obtain ⟨hin, hf⟩ := cki_e hf
  refine gM_8 (pc := 18) hx hb hK h hin dX12_valueOn_18 ?_
  refine lv_isub (pc := 19) hx hb dX12_valueOn_19 ?_
  obtain ⟨x2, ex2, hf⟩ := bs_e hf
  refine rTop ex2 ?_
  refine lv_istore (pc := 20) (lv' := [(4, .int x2), (3, .int x1), (0, .ref (a 0)), (1, .int p1), (2, .int p2)]) hx hb dX12_valueOn_20 hl (by decide) rfl (fun ls hl => ?_)
  refine lv_bipush (pc := 22) (v := 50) hx hb dX12_valueOn_22 (by decide) ?_
  refine lv_iload (pc := 24) hx hb dX12_valueOn_24 (lv_at hl 0 rfl) ?_
  obtain ⟨k3, hk3, hf⟩ := jq_1_e hf
  have jk3 : ∀ (x4 : Int32), k3 x4 = some rr → ∀ (H : Heap) (locs : List Loc) (ls : Array Slot), Hh D (AB 21 a s.heap.size) (wX 21 a (EM a cI cZ) u) s.heap H locs → lv_has ls 6 [(0, .ref (a 0)), (1, .int p1), (3, .int x1)] → W p l e R s m args below meth c H locs 0 0 Q (F0 m 37 ls [.int x4, .int 50]) := by
    intro x4 hf H locs ls h hl
    rw [hk3] at hf
    refine lv_isub (pc := 37) hx hb dX12_valueOn_37 ?_
    refine lv_iload_n (pc := 38) hx hb dX12_valueOn_38 rfl (lv_at hl 2 rfl) ?_
    refine lv_isub (pc := 39) hx hb dX12_valueOn_39 ?_
    refine lv_istore (pc := 40) (lv' := [(5, .int (((50 : Int32) - x4) - x1)), (0, .ref (a 0)), (1, .int p1), (3, .int x1)]) hx hb dX12_valueOn_40 hl (by decide) rfl (fun ls hl => ?_)
    refine lv_iload_n (pc := 42) hx hb dX12_valueOn_42 rfl (lv_at hl 3 rfl) ?_
    refine lv_aload_n (pc := 43) hx hb dX12_valueOn_43 rfl (lv_at hl 1 rfl) ?_
    refine gM_0_11 (pc := 44) hx hb hts hown hK h fl_X12_71 dX12_valueOn_44 ?_
    refine lv_icmp_ge (pc := 47) (tgt := 55) hx hb dX12_valueOn_47 (by decide) (fun c5 => ?_) (fun c5 => ?_)
    · have hf := if_t hf c5
      refine lv_iconst (pc := 55) (v := 0) hx hb dX12_valueOn_55 (by decide) ?_
      refine lv_goto (pc := 56) (tgt := 68) hx hb dX12_valueOn_56 (by decide) ?_
      exact hret (so hf) rfl rfl dX12_valueOn_68 h
    · have hf := if_f hf c5
      refine lv_iload (pc := 50) hx hb dX12_valueOn_50 (lv_at hl 0 rfl) ?_
      refine lv_if_ge (pc := 52) (tgt := 59) hx hb dX12_valueOn_52 (by decide) (fun c6 => ?_) (fun c6 => ?_)
      · have hf := if_t hf c6
        refine lv_aload_n (pc := 59) hx hb dX12_valueOn_59 rfl (lv_at hl 1 rfl) ?_
        refine gM_0_6 (pc := 60) hx hb hts hown hK h fl_X12_19 dX12_valueOn_60 ?_
        refine lv_iload_n (pc := 63) hx hb dX12_valueOn_63 rfl (lv_at hl 2 rfl) ?_
        obtain ⟨hin, hf⟩ := cki_e hf
        refine gM_4 (pc := 64) hx hb hK h hin dX12_valueOn_64 ?_
        refine lv_iload (pc := 65) hx hb dX12_valueOn_65 (lv_at hl 0 rfl) ?_
        refine lv_imul (pc := 67) hx hb dX12_valueOn_67 ?_
        exact hret (so hf) rfl rfl dX12_valueOn_68 h
      · have hf := if_f hf c6
        refine lv_iconst (pc := 55) (v := 0) hx hb dX12_valueOn_55 (by decide) ?_
        refine lv_goto (pc := 56) (tgt := 68) hx hb dX12_valueOn_56 (by decide) ?_
        exact hret (so hf) rfl rfl dX12_valueOn_68 h
  refine lv_if_ge (pc := 26) (tgt := 35) hx hb dX12_valueOn_26 (by decide) (fun c7 => ?_) (fun c7 => ?_)
  · have hf := if_t hf c7
    refine lv_iload (pc := 35) hx hb dX12_valueOn_35 (lv_at hl 0 rfl) ?_
    exact jk3 _ hf _ _ _ h (lv_sub hl [2, 3, 1] rfl)
  · have hf := if_f hf c7
    refine lv_iload (pc := 29) hx hb dX12_valueOn_29 (lv_at hl 0 rfl) ?_
    refine lv_ineg (pc := 31) hx hb dX12_valueOn_31 ?_
    refine lv_goto (pc := 32) (tgt := 37) hx hb dX12_valueOn_32 (by decide) ?_
    exact jk3 _ hf _ _ _ h (lv_sub hl [2, 3, 1] rfl)
theorem k_X12_valueOn {p : Program} {l : Launch} {e : Env} {R : Room} {s : State} {m : MethodId} {args : Array Value} {below : List Frame} {meth : Method} {c : Code} {H : Heap} {locs : List Loc} {cells slots : Nat} {Q : State → Prop} {pc : Nat} {ls : Array Slot} {rest : List Value} {cc : ByteArray} {D : va_G} {cI cZ : ClassId} {a : Nat → Nat} {u : St} {own : String} {index nL : Nat} {p1 : Int32} {p2 : Int32} {rr : Int32} (hx : p.tables.exec = Jvm.exec) (hb : c.code = cc) (hml : c.maxLocals = nL) (hown : s.vm.findClass own = some m.cls) (hts : ∀ w ∈ Gd, w.before args s = true) (hK : va_K D vwCl (tyM cI cZ) s) (hN : NB s) (hc : f_X12_valueOn u p1 p2 = some rr) (hlk : Cond.methodLink own index yX12_valueOn ∈ Gd) (hF : 6 ≤ R.frames) (hLo : 141 ≤ R.locals) (h : Hh D (AB 21 a s.heap.size) (wX 21 a (EM a cI cZ) u) s.heap H locs) (hsize : ls.size = nL) (hcs : cells ≤ R.cells ∧ slots ≤ R.slots) (hr : (rest.map fun v => v.category).sum ≤ 8) (hdg : decode cc pc = .ok (.invokevirtual index, 3)) (kk : ∀ (H1 : Heap) (locs1 : List Loc), Hh D (AB 21 a s.heap.size) (wX 21 a (EM a cI cZ) u) s.heap H1 locs1 → W p l e R s m args below meth c H1 locs1 cells slots Q (F0 m (pc + 3) ls (.int rr :: rest))) : W p l e R s m args below meth c H locs cells slots Q (F0 m pc ls (.int p2 :: .int p1 :: .ref (a 0) :: rest)) :=
  cVi (n := 2) hx hb hml hown hts hK hN (c_X12_valueOn hc) (gdV hlk im_X12_valueOn se_X12_valueOn in_X12 co_X12_valueOn) rfl (by decide +kernel) rfl hF hLo h hsize hcs (by decide) rfl rfl rfl hr hdg kk
def f_X12_value (u : St) (p1 : Int32) (p2 : Int32) : Option (Int32) := b1 (f_X12_isBarrel u p1) (fun (x1 : Int32) => if x1 = 0 then some ((-1)) else b1 (f_X12_in u (Int32.toInt64 p2) 0 99) (fun (x3 : Int32) => if x3 = 0 then some ((-2)) else b1 (f_X12_valueOn u p1 p2) (fun (x5 : Int32) => some x5)))
set_option maxRecDepth 100000 in
set_option maxHeartbeats 4000000 in
theorem c_X12_value {l : Launch} {D : va_G} {cI cZ : ClassId} {a : Nat → Nat} {u : St} {p1 : Int32} {p2 : Int32} {rr : Int32} (hf : f_X12_value u p1 p2 = some rr) : Ci l yX12_value cX12_value 3 (some .int) 6 141 D (tyM cI cZ) 21 a (EM a cI cZ) [.ref (a 0), .int p1, .int p2] u rr u := by
  refine metI (by decide +kernel) (Nat.le_of_ble_eq_true rfl) ?_
  intro p e s m args below meth c R Q hx hb hml hown hts hF hLo hret hK hN h ls hl
  have hown : s.vm.findClass RX12 = some m.cls := hown
  have hl : lv_has ls 3 [(0, .ref (a 0)), (1, .int p1), (2, .int p2)] := hl
  unfold f_X12_value at hf
  refine lv_aload_n (pc := 0) hx hb dX12_value_0 rfl (lv_at hl 0 rfl) ?_
  refine lv_iload_n (pc := 1) hx hb dX12_value_1 rfl (lv_at hl 1 rfl) ?_
  obtain ⟨x1, hc, hf⟩ := b1_e hf
  refine k_X12_isBarrel (pc := 2) hx hb hml hown hts hK hN hc ml_X12_107 (Nat.le_trans (by decide) hF) (Nat.le_trans (by decide) hLo) h hl.1 ⟨Nat.zero_le _, Nat.zero_le _⟩ (Nat.le_of_ble_eq_true rfl) dX12_value_2 (fun H locs h => ?_)
  refine lv_if_ne (pc := 5) (tgt := 10) hx hb dX12_value_5 (by decide) (fun c2 => ?_) (fun c2 => ?_)
  · have hf := if_f hf c2
    refine lv_iload_n (pc := 10) hx hb dX12_value_10 rfl (lv_at hl 2 rfl) ?_
    refine lv_i2l (pc := 11) (v := Int32.toInt64 p2) hx hb dX12_value_11 rfl ?_
    refine lv_lconst (pc := 12) (v := 0) hx hb dX12_value_12 (by decide) ?_
    refine lv_ldc2 (pc := 13) hx hb hown (hts _ ctl_X12_238) dX12_value_13 ?_
    obtain ⟨x3, hc, hf⟩ := b1_e hf
    refine kS_X12_in (pc := 16) hx hb hml hown hts hK hN hc ml_X12_97 (Nat.le_trans (by decide) hF) (Nat.le_trans (by decide) hLo) h hl.1 ⟨Nat.zero_le _, Nat.zero_le _⟩ (Nat.le_of_ble_eq_true rfl) dX12_value_16 (fun H locs h => ?_)
    refine lv_if_eq (pc := 19) (tgt := 31) hx hb dX12_value_19 (by decide) (fun c4 => ?_) (fun c4 => ?_)
    · have hf := if_t hf c4
      refine lv_bipush (pc := 31) (v := (-2)) hx hb dX12_value_31 (by decide) ?_
      exact hret (so hf) rfl rfl dX12_value_33 h
    · have hf := if_f hf c4
      refine lv_aload_n (pc := 22) hx hb dX12_value_22 rfl (lv_at hl 0 rfl) ?_
      refine lv_iload_n (pc := 23) hx hb dX12_value_23 rfl (lv_at hl 1 rfl) ?_
      refine lv_iload_n (pc := 24) hx hb dX12_value_24 rfl (lv_at hl 2 rfl) ?_
      obtain ⟨x5, hc, hf⟩ := b1_e hf
      refine k_X12_valueOn (pc := 25) hx hb hml hown hts hK hN hc ml_X12_240 (Nat.le_trans (by decide) hF) (Nat.le_trans (by decide) hLo) h hl.1 ⟨Nat.zero_le _, Nat.zero_le _⟩ (Nat.le_of_ble_eq_true rfl) dX12_value_25 (fun H locs h => ?_)
      refine lv_goto (pc := 28) (tgt := 33) hx hb dX12_value_28 (by decide) ?_
      exact hret (so hf) rfl rfl dX12_value_33 h
  · have hf := if_t hf c2
    refine lv_iconst (pc := 8) (v := (-1)) hx hb dX12_value_8 (by decide) ?_
    exact hret (so hf) rfl rfl dX12_value_9 h
theorem k_X12_value {p : Program} {l : Launch} {e : Env} {R : Room} {s : State} {m : MethodId} {args : Array Value} {below : List Frame} {meth : Method} {c : Code} {H : Heap} {locs : List Loc} {cells slots : Nat} {Q : State → Prop} {pc : Nat} {ls : Array Slot} {rest : List Value} {cc : ByteArray} {D : va_G} {cI cZ : ClassId} {a : Nat → Nat} {u : St} {own : String} {index nL : Nat} {p1 : Int32} {p2 : Int32} {rr : Int32} (hx : p.tables.exec = Jvm.exec) (hb : c.code = cc) (hml : c.maxLocals = nL) (hown : s.vm.findClass own = some m.cls) (hts : ∀ w ∈ Gd, w.before args s = true) (hK : va_K D vwCl (tyM cI cZ) s) (hN : NB s) (hc : f_X12_value u p1 p2 = some rr) (hlk : Cond.methodLink own index yX12_value ∈ Gd) (hF : 7 ≤ R.frames) (hLo : 163 ≤ R.locals) (h : Hh D (AB 21 a s.heap.size) (wX 21 a (EM a cI cZ) u) s.heap H locs) (hsize : ls.size = nL) (hcs : cells ≤ R.cells ∧ slots ≤ R.slots) (hr : (rest.map fun v => v.category).sum ≤ 8) (hdg : decode cc pc = .ok (.invokevirtual index, 3)) (kk : ∀ (H1 : Heap) (locs1 : List Loc), Hh D (AB 21 a s.heap.size) (wX 21 a (EM a cI cZ) u) s.heap H1 locs1 → W p l e R s m args below meth c H1 locs1 cells slots Q (F0 m (pc + 3) ls (.int rr :: rest))) : W p l e R s m args below meth c H locs cells slots Q (F0 m pc ls (.int p2 :: .int p1 :: .ref (a 0) :: rest)) :=
  cVi (n := 2) hx hb hml hown hts hK hN (c_X12_value hc) (gdV hlk im_X12_value se_X12_value in_X12 co_X12_value) rfl (by decide +kernel) rfl hF hLo h hsize hcs (by decide) rfl rfl rfl hr hdg kk
def B_X12_valueOfAll_4 (p1 : Int32) (u : St) (k3 : Int32 → Option (Int32)) (rec5 : Int32 → Int32 → Option (Int32)) (x1 : Int32) (x2 : Int32) : Option (Int32) := if 8 ≤ x2 then k3 x1 else b1 (f_X12_isBarrel u x2) (fun (x7 : Int32) => if x7 = 0 then rec5 (x1 + (0 : Int32)) (x2 + 1) else b1 (f_X12_valueOn u x2 p1) (fun (x9 : Int32) => rec5 (x1 + x9) (x2 + 1)))
def f_X12_valueOfAll (u : St) (p1 : Int32) : Option (Int32) := jq_1 (fun (x4 : Int32) => some x4) (fun (k3 : Int32 → Option (Int32)) => lq_2 (B_X12_valueOfAll_4 p1 u k3) FU 0 0)
set_option maxRecDepth 100000 in
set_option maxHeartbeats 4000000 in
theorem c_X12_valueOfAll {l : Launch} {D : va_G} {cI cZ : ClassId} {a : Nat → Nat} {u : St} {p1 : Int32} {rr : Int32} (hf : f_X12_valueOfAll u p1 = some rr) : Ci l yX12_valueOfAll cX12_valueOfAll 4 (some .int) 6 141 D (tyM cI cZ) 21 a (EM a cI cZ) [.ref (a 0), .int p1] u rr u := by
  refine metI (by decide +kernel) (Nat.le_of_ble_eq_true rfl) ?_
  intro p e s m args below meth c R Q hx hb hml hown hts hF hLo hret hK hN h ls hl
  have hown : s.vm.findClass RX12 = some m.cls := hown
  have hl : lv_has ls 4 [(0, .ref (a 0)), (1, .int p1)] := hl
  unfold f_X12_valueOfAll at hf
  refine lv_iconst (pc := 0) (v := 0) hx hb dX12_valueOfAll_0 (by decide) ?_
  refine lv_istore_n (pc := 1) (lv' := [(2, .int 0), (0, .ref (a 0)), (1, .int p1)]) hx hb dX12_valueOfAll_1 rfl hl (by decide) rfl (fun ls hl => ?_)
  refine lv_iconst (pc := 2) (v := 0) hx hb dX12_valueOfAll_2 (by decide) ?_
  refine lv_istore_n (pc := 3) (lv' := [(3, .int 0), (2, .int 0), (0, .ref (a 0)), (1, .int p1)]) hx hb dX12_valueOfAll_3 rfl hl (by decide) rfl (fun ls hl => ?_)
  obtain ⟨k3, hk3, hf⟩ := jq_1_e hf
  have jk3 : ∀ (x4 : Int32), k3 x4 = some rr → ∀ (H : Heap) (locs : List Loc) (ls : Array Slot), Hh D (AB 21 a s.heap.size) (wX 21 a (EM a cI cZ) u) s.heap H locs → lv_has ls 4 [(2, .int x4)] → W p l e R s m args below meth c H locs 0 0 Q (F0 m 37 ls []) := by
    intro x4 hf H locs ls h hl
    rw [hk3] at hf
    refine lv_iload_n (pc := 37) hx hb dX12_valueOfAll_37 rfl (lv_at hl 0 rfl) ?_
    exact hret (so hf) rfl rfl dX12_valueOfAll_38 h
  refine lq_2_e (P := fun (x1 : Int32) (x2 : Int32) => ∀ (H : Heap) (locs : List Loc) (ls : Array Slot), Hh D (AB 21 a s.heap.size) (wX 21 a (EM a cI cZ) u) s.heap H locs → lv_has ls 4 [(0, .ref (a 0)), (1, .int p1), (2, .int x1), (3, .int x2)] → W p l e R s m args below meth c H locs 0 0 Q (F0 m 4 ls [])) ?_ FU _ _ hf _ _ _ h (lv_sub hl [2, 3, 1, 0] rfl)
  intro rec5 irec5 x1 x2 hf H locs ls h hl
  unfold B_X12_valueOfAll_4 at hf
  refine lv_iload_n (pc := 4) hx hb dX12_valueOfAll_4 rfl (lv_at hl 3 rfl) ?_
  refine lv_bipush (pc := 5) (v := 8) hx hb dX12_valueOfAll_5 (by decide) ?_
  refine lv_icmp_ge (pc := 7) (tgt := 37) hx hb dX12_valueOfAll_7 (by decide) (fun c6 => ?_) (fun c6 => ?_)
  · have hf := if_t hf c6
    exact jk3 _ hf _ _ _ h (lv_sub hl [2] rfl)
  · have hf := if_f hf c6
    refine lv_iload_n (pc := 10) hx hb dX12_valueOfAll_10 rfl (lv_at hl 2 rfl) ?_
    refine lv_aload_n (pc := 11) hx hb dX12_valueOfAll_11 rfl (lv_at hl 0 rfl) ?_
    refine lv_iload_n (pc := 12) hx hb dX12_valueOfAll_12 rfl (lv_at hl 3 rfl) ?_
    obtain ⟨x7, hc, hf⟩ := b1_e hf
    refine k_X12_isBarrel (pc := 13) hx hb hml hown hts hK hN hc ml_X12_107 (Nat.le_trans (by decide) hF) (Nat.le_trans (by decide) hLo) h hl.1 ⟨Nat.zero_le _, Nat.zero_le _⟩ (Nat.le_of_ble_eq_true rfl) dX12_valueOfAll_13 (fun H locs h => ?_)
    refine lv_if_eq (pc := 16) (tgt := 28) hx hb dX12_valueOfAll_16 (by decide) (fun c8 => ?_) (fun c8 => ?_)
    · have hf := if_t hf c8
      refine lv_iconst (pc := 28) (v := 0) hx hb dX12_valueOfAll_28 (by decide) ?_
      refine lv_iadd (pc := 29) hx hb dX12_valueOfAll_29 ?_
      refine lv_istore_n (pc := 30) (lv' := [(2, .int (x1 + (0 : Int32))), (0, .ref (a 0)), (1, .int p1), (3, .int x2)]) hx hb dX12_valueOfAll_30 rfl hl (by decide) rfl (fun ls hl => ?_)
      refine lv_iinc (pc := 31) (v := x2 + 1) (lv' := [(3, .int (x2 + 1)), (2, .int (x1 + (0 : Int32))), (0, .ref (a 0)), (1, .int p1)]) hx hb dX12_valueOfAll_31 hl (k := 3) rfl rfl (by decide) rfl (fun ls hl => ?_)
      refine lv_goto (pc := 34) (tgt := 4) hx hb dX12_valueOfAll_34 (by decide) ?_
      exact irec5 _ _ hf _ _ _ h (lv_sub hl [2, 3, 1, 0] rfl)
    · have hf := if_f hf c8
      refine lv_aload_n (pc := 19) hx hb dX12_valueOfAll_19 rfl (lv_at hl 0 rfl) ?_
      refine lv_iload_n (pc := 20) hx hb dX12_valueOfAll_20 rfl (lv_at hl 3 rfl) ?_
      refine lv_iload_n (pc := 21) hx hb dX12_valueOfAll_21 rfl (lv_at hl 1 rfl) ?_
      obtain ⟨x9, hc, hf⟩ := b1_e hf
      refine k_X12_valueOn (pc := 22) hx hb hml hown hts hK hN hc ml_X12_240 (Nat.le_trans (by decide) hF) (Nat.le_trans (by decide) hLo) h hl.1 ⟨Nat.zero_le _, Nat.zero_le _⟩ (Nat.le_of_ble_eq_true rfl) dX12_valueOfAll_22 (fun H locs h => ?_)
      refine lv_goto (pc := 25) (tgt := 29) hx hb dX12_valueOfAll_25 (by decide) ?_
      refine lv_iadd (pc := 29) hx hb dX12_valueOfAll_29 ?_
      refine lv_istore_n (pc := 30) (lv' := [(2, .int (x1 + x9)), (0, .ref (a 0)), (1, .int p1), (3, .int x2)]) hx hb dX12_valueOfAll_30 rfl hl (by decide) rfl (fun ls hl => ?_)
      refine lv_iinc (pc := 31) (v := x2 + 1) (lv' := [(3, .int (x2 + 1)), (2, .int (x1 + x9)), (0, .ref (a 0)), (1, .int p1)]) hx hb dX12_valueOfAll_31 hl (k := 3) rfl rfl (by decide) rfl (fun ls hl => ?_)
      refine lv_goto (pc := 34) (tgt := 4) hx hb dX12_valueOfAll_34 (by decide) ?_
      exact irec5 _ _ hf _ _ _ h (lv_sub hl [2, 3, 1, 0] rfl)
theorem k_X12_valueOfAll {p : Program} {l : Launch} {e : Env} {R : Room} {s : State} {m : MethodId} {args : Array Value} {below : List Frame} {meth : Method} {c : Code} {H : Heap} {locs : List Loc} {cells slots : Nat} {Q : State → Prop} {pc : Nat} {ls : Array Slot} {rest : List Value} {cc : ByteArray} {D : va_G} {cI cZ : ClassId} {a : Nat → Nat} {u : St} {own : String} {index nL : Nat} {p1 : Int32} {rr : Int32} (hx : p.tables.exec = Jvm.exec) (hb : c.code = cc) (hml : c.maxLocals = nL) (hown : s.vm.findClass own = some m.cls) (hts : ∀ w ∈ Gd, w.before args s = true) (hK : va_K D vwCl (tyM cI cZ) s) (hN : NB s) (hc : f_X12_valueOfAll u p1 = some rr) (hlk : Cond.methodLink own index yX12_valueOfAll ∈ Gd) (hF : 7 ≤ R.frames) (hLo : 164 ≤ R.locals) (h : Hh D (AB 21 a s.heap.size) (wX 21 a (EM a cI cZ) u) s.heap H locs) (hsize : ls.size = nL) (hcs : cells ≤ R.cells ∧ slots ≤ R.slots) (hr : (rest.map fun v => v.category).sum ≤ 8) (hdg : decode cc pc = .ok (.invokevirtual index, 3)) (kk : ∀ (H1 : Heap) (locs1 : List Loc), Hh D (AB 21 a s.heap.size) (wX 21 a (EM a cI cZ) u) s.heap H1 locs1 → W p l e R s m args below meth c H1 locs1 cells slots Q (F0 m (pc + 3) ls (.int rr :: rest))) : W p l e R s m args below meth c H locs cells slots Q (F0 m pc ls (.int p1 :: .ref (a 0) :: rest)) :=
  cVi (n := 1) hx hb hml hown hts hK hN (c_X12_valueOfAll hc) (gdV hlk im_X12_valueOfAll se_X12_valueOfAll in_X12 co_X12_valueOfAll) rfl (by decide +kernel) rfl hF hLo h hsize hcs (by decide) rfl rfl rfl hr hdg kk
def B_X12_opening_31 (p1 : Int32) (u : St) (k8 : Int32 → Int32 → Option (Int32)) (rec12 : Int32 → Int32 → Int32 → Option (Int32)) (x5 : Int32) (x6 : Int32) (x7 : Int32) : Option (Int32) := if 100 ≤ x7 then k8 x5 x6 else b1 (f_X12_valueOn u p1 x7) (fun (x14 : Int32) => jq_1 (fun (x16 : Int32) => if x14 ≤ x6 then rec12 x16 x6 (x7 + 1) else rec12 x16 x14 (x7 + 1)) (fun (k15 : Int32 → Option (Int32)) => if x14 ≤ x6 then k15 x5 else k15 x7))
def f_X12_opening (u : St) (p1 : Int32) (p2 : Int32) : Option (Int32) := b1 (f_X12_isBarrel u p1) (fun (x1 : Int32) => if x1 = 0 then some ((-1)) else b1 (f_X12_in u (Int32.toInt64 p2) 0 1) (fun (x3 : Int32) => if x3 = 0 then some ((-2)) else jq_2 (fun (x9 : Int32) (x10 : Int32) => if p2 = 0 then some x9 else some x10) (fun (k8 : Int32 → Int32 → Option (Int32)) => lq_3 (B_X12_opening_31 p1 u k8) FU 0 ((-1)) 0)))
set_option maxRecDepth 100000 in
set_option maxHeartbeats 4000000 in
theorem c_X12_opening {l : Launch} {D : va_G} {cI cZ : ClassId} {a : Nat → Nat} {u : St} {p1 : Int32} {p2 : Int32} {rr : Int32} (hf : f_X12_opening u p1 p2 = some rr) : Ci l yX12_opening cX12_opening 7 (some .int) 6 141 D (tyM cI cZ) 21 a (EM a cI cZ) [.ref (a 0), .int p1, .int p2] u rr u := by
  refine metI (by decide +kernel) (Nat.le_of_ble_eq_true rfl) ?_
  intro p e s m args below meth c R Q hx hb hml hown hts hF hLo hret hK hN h ls hl
  have hown : s.vm.findClass RX12 = some m.cls := hown
  have hl : lv_has ls 7 [(0, .ref (a 0)), (1, .int p1), (2, .int p2)] := hl
  unfold f_X12_opening at hf
  refine lv_aload_n (pc := 0) hx hb dX12_opening_0 rfl (lv_at hl 0 rfl) ?_
  refine lv_iload_n (pc := 1) hx hb dX12_opening_1 rfl (lv_at hl 1 rfl) ?_
  obtain ⟨x1, hc, hf⟩ := b1_e hf
  refine k_X12_isBarrel (pc := 2) hx hb hml hown hts hK hN hc ml_X12_107 (Nat.le_trans (by decide) hF) (Nat.le_trans (by decide) hLo) h hl.1 ⟨Nat.zero_le _, Nat.zero_le _⟩ (Nat.le_of_ble_eq_true rfl) dX12_opening_2 (fun H locs h => ?_)
  refine lv_if_ne (pc := 5) (tgt := 10) hx hb dX12_opening_5 (by decide) (fun c2 => ?_) (fun c2 => ?_)
  · have hf := if_f hf c2
    refine lv_iload_n (pc := 10) hx hb dX12_opening_10 rfl (lv_at hl 2 rfl) ?_
    refine lv_i2l (pc := 11) (v := Int32.toInt64 p2) hx hb dX12_opening_11 rfl ?_
    refine lv_lconst (pc := 12) (v := 0) hx hb dX12_opening_12 (by decide) ?_
    refine lv_lconst (pc := 13) (v := 1) hx hb dX12_opening_13 (by decide) ?_
    obtain ⟨x3, hc, hf⟩ := b1_e hf
    refine kS_X12_in (pc := 14) hx hb hml hown hts hK hN hc ml_X12_97 (Nat.le_trans (by decide) hF) (Nat.le_trans (by decide) hLo) h hl.1 ⟨Nat.zero_le _, Nat.zero_le _⟩ (Nat.le_of_ble_eq_true rfl) dX12_opening_14 (fun H locs h => ?_)
    refine lv_if_ne (pc := 17) (tgt := 23) hx hb dX12_opening_17 (by decide) (fun c4 => ?_) (fun c4 => ?_)
    · have hf := if_f hf c4
      refine lv_iconst (pc := 23) (v := 0) hx hb dX12_opening_23 (by decide) ?_
      refine lv_istore_n (pc := 24) (lv' := [(3, .int 0), (0, .ref (a 0)), (1, .int p1), (2, .int p2)]) hx hb dX12_opening_24 rfl hl (by decide) rfl (fun ls hl => ?_)
      refine lv_iconst (pc := 25) (v := (-1)) hx hb dX12_opening_25 (by decide) ?_
      refine lv_istore (pc := 26) (lv' := [(4, .int ((-1))), (3, .int 0), (0, .ref (a 0)), (1, .int p1), (2, .int p2)]) hx hb dX12_opening_26 hl (by decide) rfl (fun ls hl => ?_)
      refine lv_iconst (pc := 28) (v := 0) hx hb dX12_opening_28 (by decide) ?_
      refine lv_istore (pc := 29) (lv' := [(5, .int 0), (4, .int ((-1))), (3, .int 0), (0, .ref (a 0)), (1, .int p1), (2, .int p2)]) hx hb dX12_opening_29 hl (by decide) rfl (fun ls hl => ?_)
      obtain ⟨k8, hk8, hf⟩ := jq_2_e hf
      have jk8 : ∀ (x9 : Int32) (x10 : Int32), k8 x9 x10 = some rr → ∀ (H : Heap) (locs : List Loc) (ls : Array Slot), Hh D (AB 21 a s.heap.size) (wX 21 a (EM a cI cZ) u) s.heap H locs → lv_has ls 7 [(2, .int p2), (3, .int x9), (4, .int x10)] → W p l e R s m args below meth c H locs 0 0 Q (F0 m 83 ls []) := by
        intro x9 x10 hf H locs ls h hl
        rw [hk8] at hf
        refine lv_iload_n (pc := 83) hx hb dX12_opening_83 rfl (lv_at hl 0 rfl) ?_
        refine lv_if_ne (pc := 84) (tgt := 91) hx hb dX12_opening_84 (by decide) (fun c11 => ?_) (fun c11 => ?_)
        · have hf := if_f hf c11
          refine lv_iload (pc := 91) hx hb dX12_opening_91 (lv_at hl 2 rfl) ?_
          exact hret (so hf) rfl rfl dX12_opening_93 h
        · have hf := if_t hf c11
          refine lv_iload_n (pc := 87) hx hb dX12_opening_87 rfl (lv_at hl 1 rfl) ?_
          refine lv_goto (pc := 88) (tgt := 93) hx hb dX12_opening_88 (by decide) ?_
          exact hret (so hf) rfl rfl dX12_opening_93 h
      refine lq_3_e (P := fun (x5 : Int32) (x6 : Int32) (x7 : Int32) => ∀ (H : Heap) (locs : List Loc) (ls : Array Slot), Hh D (AB 21 a s.heap.size) (wX 21 a (EM a cI cZ) u) s.heap H locs → lv_has ls 7 [(0, .ref (a 0)), (1, .int p1), (2, .int p2), (3, .int x5), (4, .int x6), (5, .int x7)] → W p l e R s m args below meth c H locs 0 0 Q (F0 m 31 ls [])) ?_ FU _ _ _ hf _ _ _ h (lv_sub hl [3, 4, 5, 2, 1, 0] rfl)
      intro rec12 irec12 x5 x6 x7 hf H locs ls h hl
      unfold B_X12_opening_31 at hf
      refine lv_iload (pc := 31) hx hb dX12_opening_31 (lv_at hl 5 rfl) ?_
      refine lv_bipush (pc := 33) (v := 100) hx hb dX12_opening_33 (by decide) ?_
      refine lv_icmp_ge (pc := 35) (tgt := 83) hx hb dX12_opening_35 (by decide) (fun c13 => ?_) (fun c13 => ?_)
      · have hf := if_t hf c13
        exact jk8 _ _ hf _ _ _ h (lv_sub hl [2, 3, 4] rfl)
      · have hf := if_f hf c13
        refine lv_aload_n (pc := 38) hx hb dX12_opening_38 rfl (lv_at hl 0 rfl) ?_
        refine lv_iload_n (pc := 39) hx hb dX12_opening_39 rfl (lv_at hl 1 rfl) ?_
        refine lv_iload (pc := 40) hx hb dX12_opening_40 (lv_at hl 5 rfl) ?_
        obtain ⟨x14, hc, hf⟩ := b1_e hf
        refine k_X12_valueOn (pc := 42) hx hb hml hown hts hK hN hc ml_X12_240 (Nat.le_trans (by decide) hF) (Nat.le_trans (by decide) hLo) h hl.1 ⟨Nat.zero_le _, Nat.zero_le _⟩ (Nat.le_of_ble_eq_true rfl) dX12_opening_42 (fun H locs h => ?_)
        refine lv_istore (pc := 45) (lv' := [(6, .int x14), (0, .ref (a 0)), (1, .int p1), (2, .int p2), (3, .int x5), (4, .int x6), (5, .int x7)]) hx hb dX12_opening_45 hl (by decide) rfl (fun ls hl => ?_)
        refine lv_iload (pc := 47) hx hb dX12_opening_47 (lv_at hl 0 rfl) ?_
        refine lv_iload (pc := 49) hx hb dX12_opening_49 (lv_at hl 5 rfl) ?_
        obtain ⟨k15, hk15, hf⟩ := jq_1_e hf
        have jk15 : ∀ (x16 : Int32), k15 x16 = some rr → ∀ (H : Heap) (locs : List Loc) (ls : Array Slot), Hh D (AB 21 a s.heap.size) (wX 21 a (EM a cI cZ) u) s.heap H locs → lv_has ls 7 [(0, .ref (a 0)), (1, .int p1), (2, .int p2), (4, .int x6), (5, .int x7), (6, .int x14)] → W p l e R s m args below meth c H locs 0 0 Q (F0 m 60 ls [.int x16]) := by
          intro x16 hf H locs ls h hl
          rw [hk15] at hf
          refine lv_istore_n (pc := 60) (lv' := [(3, .int x16), (0, .ref (a 0)), (1, .int p1), (2, .int p2), (4, .int x6), (5, .int x7), (6, .int x14)]) hx hb dX12_opening_60 rfl hl (by decide) rfl (fun ls hl => ?_)
          refine lv_iload (pc := 61) hx hb dX12_opening_61 (lv_at hl 6 rfl) ?_
          refine lv_iload (pc := 63) hx hb dX12_opening_63 (lv_at hl 4 rfl) ?_
          refine lv_icmp_le (pc := 65) (tgt := 73) hx hb dX12_opening_65 (by decide) (fun c17 => ?_) (fun c17 => ?_)
          · have hf := if_t hf c17
            refine lv_iload (pc := 73) hx hb dX12_opening_73 (lv_at hl 4 rfl) ?_
            refine lv_istore (pc := 75) (lv' := [(4, .int x6), (3, .int x16), (0, .ref (a 0)), (1, .int p1), (2, .int p2), (5, .int x7), (6, .int x14)]) hx hb dX12_opening_75 hl (by decide) rfl (fun ls hl => ?_)
            refine lv_iinc (pc := 77) (v := x7 + 1) (lv' := [(5, .int (x7 + 1)), (4, .int x6), (3, .int x16), (0, .ref (a 0)), (1, .int p1), (2, .int p2), (6, .int x14)]) hx hb dX12_opening_77 hl (k := 5) rfl rfl (by decide) rfl (fun ls hl => ?_)
            refine lv_goto (pc := 80) (tgt := 31) hx hb dX12_opening_80 (by decide) ?_
            exact irec12 _ _ _ hf _ _ _ h (lv_sub hl [3, 4, 5, 2, 1, 0] rfl)
          · have hf := if_f hf c17
            refine lv_iload (pc := 68) hx hb dX12_opening_68 (lv_at hl 6 rfl) ?_
            refine lv_goto (pc := 70) (tgt := 75) hx hb dX12_opening_70 (by decide) ?_
            refine lv_istore (pc := 75) (lv' := [(4, .int x14), (3, .int x16), (0, .ref (a 0)), (1, .int p1), (2, .int p2), (5, .int x7), (6, .int x14)]) hx hb dX12_opening_75 hl (by decide) rfl (fun ls hl => ?_)
            refine lv_iinc (pc := 77) (v := x7 + 1) (lv' := [(5, .int (x7 + 1)), (4, .int x14), (3, .int x16), (0, .ref (a 0)), (1, .int p1), (2, .int p2), (6, .int x14)]) hx hb dX12_opening_77 hl (k := 5) rfl rfl (by decide) rfl (fun ls hl => ?_)
            refine lv_goto (pc := 80) (tgt := 31) hx hb dX12_opening_80 (by decide) ?_
            exact irec12 _ _ _ hf _ _ _ h (lv_sub hl [3, 4, 5, 2, 1, 0] rfl)
        refine lv_icmp_le (pc := 51) (tgt := 59) hx hb dX12_opening_51 (by decide) (fun c18 => ?_) (fun c18 => ?_)
        · have hf := if_t hf c18
          refine lv_iload_n (pc := 59) hx hb dX12_opening_59 rfl (lv_at hl 4 rfl) ?_
          exact jk15 _ hf _ _ _ h (lv_sub hl [1, 2, 3, 5, 6, 0] rfl)
        · have hf := if_f hf c18
          refine lv_iload (pc := 54) hx hb dX12_opening_54 (lv_at hl 6 rfl) ?_
          refine lv_goto (pc := 56) (tgt := 60) hx hb dX12_opening_56 (by decide) ?_
          exact jk15 _ hf _ _ _ h (lv_sub hl [1, 2, 3, 5, 6, 0] rfl)
    · have hf := if_t hf c4
      refine lv_bipush (pc := 20) (v := (-2)) hx hb dX12_opening_20 (by decide) ?_
      exact hret (so hf) rfl rfl dX12_opening_22 h
  · have hf := if_t hf c2
    refine lv_iconst (pc := 8) (v := (-1)) hx hb dX12_opening_8 (by decide) ?_
    exact hret (so hf) rfl rfl dX12_opening_9 h
theorem k_X12_opening {p : Program} {l : Launch} {e : Env} {R : Room} {s : State} {m : MethodId} {args : Array Value} {below : List Frame} {meth : Method} {c : Code} {H : Heap} {locs : List Loc} {cells slots : Nat} {Q : State → Prop} {pc : Nat} {ls : Array Slot} {rest : List Value} {cc : ByteArray} {D : va_G} {cI cZ : ClassId} {a : Nat → Nat} {u : St} {own : String} {index nL : Nat} {p1 : Int32} {p2 : Int32} {rr : Int32} (hx : p.tables.exec = Jvm.exec) (hb : c.code = cc) (hml : c.maxLocals = nL) (hown : s.vm.findClass own = some m.cls) (hts : ∀ w ∈ Gd, w.before args s = true) (hK : va_K D vwCl (tyM cI cZ) s) (hN : NB s) (hc : f_X12_opening u p1 p2 = some rr) (hlk : Cond.methodLink own index yX12_opening ∈ Gd) (hF : 7 ≤ R.frames) (hLo : 167 ≤ R.locals) (h : Hh D (AB 21 a s.heap.size) (wX 21 a (EM a cI cZ) u) s.heap H locs) (hsize : ls.size = nL) (hcs : cells ≤ R.cells ∧ slots ≤ R.slots) (hr : (rest.map fun v => v.category).sum ≤ 8) (hdg : decode cc pc = .ok (.invokevirtual index, 3)) (kk : ∀ (H1 : Heap) (locs1 : List Loc), Hh D (AB 21 a s.heap.size) (wX 21 a (EM a cI cZ) u) s.heap H1 locs1 → W p l e R s m args below meth c H1 locs1 cells slots Q (F0 m (pc + 3) ls (.int rr :: rest))) : W p l e R s m args below meth c H locs cells slots Q (F0 m pc ls (.int p2 :: .int p1 :: .ref (a 0) :: rest)) :=
  cVi (n := 2) hx hb hml hown hts hK hN (c_X12_opening hc) (gdV hlk im_X12_opening se_X12_opening in_X12 co_X12_opening) rfl (by decide +kernel) rfl hF hLo h hsize hcs (by decide) rfl rfl rfl hr hdg kk
