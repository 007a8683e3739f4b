def f_X12_forget (u : St) : Option (Int32 × St) := bs (sI u 0 18 0) (fun u1 : St => some (u.1 0 18, u1))
set_option maxRecDepth 100000 in
set_option maxHeartbeats 4000000 in
theorem c_X12_forget {l : Launch} {D : va_G} {cI cZ : ClassId} {a : Nat → Nat} {u : St} {rr : Int32} {uu : St} (hf : f_X12_forget u = some (rr, uu)) : Ci l yX12_forget cX12_forget 2 (some .int) 0 0 D (tyM cI cZ) 21 a (EM a cI cZ) [.ref (a 0)] u rr uu := by
  refine metI (by decide +kernel) (Nat.le_of_ble_eq_true rfl) ?_
  intro p e s m args below meth c R Q hx hb hml hown hts hF hLo hret hK hN h ls hl
  have hown : s.vm.findClass RX12 = some m.cls := hown
  have hl : lv_has ls 2 [(0, .ref (a 0))] := hl
  unfold f_X12_forget at hf
  refine lv_aload_n (pc := 0) hx hb dX12_forget_0 rfl (lv_at hl 0 rfl) ?_
  refine gM_0_18 (pc := 1) hx hb hts hown hK h fl_X12_94 dX12_forget_1 ?_
  refine lv_istore_n (pc := 4) (lv' := [(1, .int (u.1 0 18)), (0, .ref (a 0))]) hx hb dX12_forget_4 rfl hl (by decide) rfl (fun ls hl => ?_)
  refine lv_aload_n (pc := 5) hx hb dX12_forget_5 rfl (lv_at hl 1 rfl) ?_
  refine lv_iconst (pc := 6) (v := 0) hx hb dX12_forget_6 (by decide) ?_
  refine pM_0_18 (pc := 7) hx hb hts hown hK h fl_X12_94 dX12_forget_7 (fun H locs h => ?_)
  obtain ⟨u1, eu1, hf⟩ := bs_e hf
  rw [← eu1] at h
  refine lv_iload_n (pc := 10) hx hb dX12_forget_10 rfl (lv_at hl 0 rfl) ?_
  exact hret (so1 hf) rfl (so2 hf) dX12_forget_11 h
theorem k_X12_forget {p : Program} {l : Launch} {e : Env} {R : Room} {s : State} {m : MethodId} {args : Array Value} {below : List Frame} {meth : Method} {c : Code} {H : Heap} {locs : List Loc} {cells slots : Nat} {Q : State → Prop} {pc : Nat} {ls : Array Slot} {rest : List Value} {cc : ByteArray} {D : va_G} {cI cZ : ClassId} {a : Nat → Nat} {u : St} {own : String} {index nL : Nat} {rr : Int32} {uu : St} (hx : p.tables.exec = Jvm.exec) (hb : c.code = cc) (hml : c.maxLocals = nL) (hown : s.vm.findClass own = some m.cls) (hts : ∀ w ∈ Gd, w.before args s = true) (hK : va_K D vwCl (tyM cI cZ) s) (hN : NB s) (hc : f_X12_forget u = some (rr, uu)) (hlk : Cond.methodLink own index yX12_forget ∈ Gd) (hF : 1 ≤ R.frames) (hLo : 21 ≤ R.locals) (h : Hh D (AB 21 a s.heap.size) (wX 21 a (EM a cI cZ) u) s.heap H locs) (hsize : ls.size = nL) (hcs : cells ≤ R.cells ∧ slots ≤ R.slots) (hr : (rest.map fun v => v.category).sum ≤ 8) (hdg : decode cc pc = .ok (.invokevirtual index, 3)) (kk : ∀ (H1 : Heap) (locs1 : List Loc), Hh D (AB 21 a s.heap.size) (wX 21 a (EM a cI cZ) uu) s.heap H1 locs1 → W p l e R s m args below meth c H1 locs1 cells slots Q (F0 m (pc + 3) ls (.int rr :: rest))) : W p l e R s m args below meth c H locs cells slots Q (F0 m pc ls (.ref (a 0) :: rest)) :=
  cVi (n := 0) hx hb hml hown hts hK hN (c_X12_forget hc) (gdV hlk im_X12_forget se_X12_forget in_X12 co_X12_forget) rfl (by decide +kernel) rfl hF hLo h hsize hcs (by decide) rfl rfl rfl hr hdg kk
def B_X12_holdsAll_4 (u : St) (k3 : Int32 → Option (Int32)) (rec5 : Int32 → Int32 → Option (Int32)) (x1 : Int32) (x2 : Int32) : Option (Int32) := if (u.1 0 18) ≤ x2 then k3 x1 else cki x2 6 (if x1 = 0 then rec5 0 (x2 + 1) else b1 (f_X12_isBarrel u (u.1 9 (ix x2))) (fun (x8 : Int32) => if x8 = 0 then rec5 0 (x2 + 1) else cki x2 6 (b1 (f_X12_acidBehind u (u.1 9 (ix x2)) (u.1 10 (ix x2))) (fun (x10 : Int32) => cki x2 6 (if x10 = (u.1 11 (ix x2)) then rec5 1 (x2 + 1) else rec5 0 (x2 + 1))))))
def f_X12_holdsAll (u : St) : Option (Int32) := jq_1 (fun (x4 : Int32) => ck (x4 = 0 ∨ x4 = 1) (some x4)) (fun (k3 : Int32 → Option (Int32)) => lq_2 (B_X12_holdsAll_4 u k3) FU 1 0)
set_option maxRecDepth 100000 in
set_option maxHeartbeats 4000000 in
theorem c_X12_holdsAll {l : Launch} {D : va_G} {cI cZ : ClassId} {a : Nat → Nat} {u : St} {rr : Int32} (hf : f_X12_holdsAll u = some rr) : Ci l yX12_holdsAll cX12_holdsAll 4 (some .boolean) 5 116 D (tyM cI cZ) 21 a (EM a cI cZ) [.ref (a 0)] u rr u := by
  refine metI (by decide +kernel) (Nat.le_of_ble_eq_true rfl) ?_
  intro p e s m args below meth c R Q hx hb hml hown hts hF hLo hret hK hN h ls hl
  have hown : s.vm.findClass RX12 = some m.cls := hown
  have hl : lv_has ls 4 [(0, .ref (a 0))] := hl
  unfold f_X12_holdsAll at hf
  refine lv_iconst (pc := 0) (v := 1) hx hb dX12_holdsAll_0 (by decide) ?_
  refine lv_istore_n (pc := 1) (lv' := [(1, .int 1), (0, .ref (a 0))]) hx hb dX12_holdsAll_1 rfl hl (by decide) rfl (fun ls hl => ?_)
  refine lv_iconst (pc := 2) (v := 0) hx hb dX12_holdsAll_2 (by decide) ?_
  refine lv_istore_n (pc := 3) (lv' := [(2, .int 0), (1, .int 1), (0, .ref (a 0))]) hx hb dX12_holdsAll_3 rfl hl (by decide) rfl (fun ls hl => ?_)
  obtain ⟨k3, hk3, hf⟩ := jq_1_e hf
  have jk3 : ∀ (x4 : Int32), k3 x4 = some rr → ∀ (H : Heap) (locs : List Loc) (ls : Array Slot), Hh D (AB 21 a s.heap.size) (wX 21 a (EM a cI cZ) u) s.heap H locs → lv_has ls 4 [(1, .int x4)] → W p l e R s m args below meth c H locs 0 0 Q (F0 m 63 ls []) := by
    intro x4 hf H locs ls h hl
    rw [hk3] at hf
    refine lv_iload_n (pc := 63) hx hb dX12_holdsAll_63 rfl (lv_at hl 0 rfl) ?_
    obtain ⟨hz, hf⟩ := ck_e hf
    exact hret (so hf) (nz hz) rfl dX12_holdsAll_64 h
  refine lq_2_e (P := fun (x1 : Int32) (x2 : Int32) => ∀ (H : Heap) (locs : List Loc) (ls : Array Slot), Hh D (AB 21 a s.heap.size) (wX 21 a (EM a cI cZ) u) s.heap H locs → lv_has ls 4 [(0, .ref (a 0)), (1, .int x1), (2, .int x2)] → W p l e R s m args below meth c H locs 0 0 Q (F0 m 4 ls [])) ?_ FU _ _ hf _ _ _ h (lv_sub hl [2, 1, 0] rfl)
  intro rec5 irec5 x1 x2 hf H locs ls h hl
  unfold B_X12_holdsAll_4 at hf
  refine lv_iload_n (pc := 4) hx hb dX12_holdsAll_4 rfl (lv_at hl 2 rfl) ?_
  refine lv_aload_n (pc := 5) hx hb dX12_holdsAll_5 rfl (lv_at hl 0 rfl) ?_
  refine gM_0_18 (pc := 6) hx hb hts hown hK h fl_X12_94 dX12_holdsAll_6 ?_
  refine lv_icmp_ge (pc := 9) (tgt := 63) hx hb dX12_holdsAll_9 (by decide) (fun c6 => ?_) (fun c6 => ?_)
  · have hf := if_t hf c6
    exact jk3 _ hf _ _ _ h (lv_sub hl [1] rfl)
  · have hf := if_f hf c6
    refine lv_aload_n (pc := 12) hx hb dX12_holdsAll_12 rfl (lv_at hl 0 rfl) ?_
    refine gM_0_15 (pc := 13) hx hb hts hown hK h fl_X12_34 dX12_holdsAll_13 ?_
    refine lv_iload_n (pc := 16) hx hb dX12_holdsAll_16 rfl (lv_at hl 2 rfl) ?_
    obtain ⟨hin, hf⟩ := cki_e hf
    refine gM_9 (pc := 17) hx hb hK h hin dX12_holdsAll_17 ?_
    refine lv_istore_n (pc := 18) (lv' := [(3, .int (u.1 9 (ix x2))), (0, .ref (a 0)), (1, .int x1), (2, .int x2)]) hx hb dX12_holdsAll_18 rfl hl (by decide) rfl (fun ls hl => ?_)
    refine lv_iload_n (pc := 19) hx hb dX12_holdsAll_19 rfl (lv_at hl 2 rfl) ?_
    refine lv_if_eq (pc := 20) (tgt := 55) hx hb dX12_holdsAll_20 (by decide) (fun c7 => ?_) (fun c7 => ?_)
    · have hf := if_t hf c7
      refine lv_iconst (pc := 55) (v := 0) hx hb dX12_holdsAll_55 (by decide) ?_
      refine lv_istore_n (pc := 56) (lv' := [(1, .int 0), (3, .int (u.1 9 (ix x2))), (0, .ref (a 0)), (2, .int x2)]) hx hb dX12_holdsAll_56 rfl hl (by decide) rfl (fun ls hl => ?_)
      refine lv_iinc (pc := 57) (v := x2 + 1) (lv' := [(2, .int (x2 + 1)), (1, .int 0), (3, .int (u.1 9 (ix x2))), (0, .ref (a 0))]) hx hb dX12_holdsAll_57 hl (k := 3) rfl rfl (by decide) rfl (fun ls hl => ?_)
      refine lv_goto (pc := 60) (tgt := 4) hx hb dX12_holdsAll_60 (by decide) ?_
      exact irec5 _ _ hf _ _ _ h (lv_sub hl [3, 1, 0] rfl)
    · have hf := if_f hf c7
      refine lv_aload_n (pc := 23) hx hb dX12_holdsAll_23 rfl (lv_at hl 1 rfl) ?_
      refine lv_iload_n (pc := 24) hx hb dX12_holdsAll_24 rfl (lv_at hl 0 rfl) ?_
      obtain ⟨x8, hc, hf⟩ := b1_e hf
      refine k_X12_isBarrel (pc := 25) hx hb hml hown hts hK hN hc ml_X12_107 (Nat.le_trans (by decide) hF) (Nat.le_trans (by decide) hLo) h hl.1 ⟨Nat.zero_le _, Nat.zero_le _⟩ (Nat.le_of_ble_eq_true rfl) dX12_holdsAll_25 (fun H locs h => ?_)
      refine lv_if_eq (pc := 28) (tgt := 55) hx hb dX12_holdsAll_28 (by decide) (fun c9 => ?_) (fun c9 => ?_)
      · have hf := if_t hf c9
        refine lv_iconst (pc := 55) (v := 0) hx hb dX12_holdsAll_55 (by decide) ?_
        refine lv_istore_n (pc := 56) (lv' := [(1, .int 0), (3, .int (u.1 9 (ix x2))), (0, .ref (a 0)), (2, .int x2)]) hx hb dX12_holdsAll_56 rfl hl (by decide) rfl (fun ls hl => ?_)
        refine lv_iinc (pc := 57) (v := x2 + 1) (lv' := [(2, .int (x2 + 1)), (1, .int 0), (3, .int (u.1 9 (ix x2))), (0, .ref (a 0))]) hx hb dX12_holdsAll_57 hl (k := 3) rfl rfl (by decide) rfl (fun ls hl => ?_)
        refine lv_goto (pc := 60) (tgt := 4) hx hb dX12_holdsAll_60 (by decide) ?_
        exact irec5 _ _ hf _ _ _ h (lv_sub hl [3, 1, 0] rfl)
      · have hf := if_f hf c9
        refine lv_aload_n (pc := 31) hx hb dX12_holdsAll_31 rfl (lv_at hl 1 rfl) ?_
        refine lv_iload_n (pc := 32) hx hb dX12_holdsAll_32 rfl (lv_at hl 0 rfl) ?_
        refine lv_aload_n (pc := 33) hx hb dX12_holdsAll_33 rfl (lv_at hl 1 rfl) ?_
        refine gM_0_16 (pc := 34) hx hb hts hown hK h fl_X12_37 dX12_holdsAll_34 ?_
        refine lv_iload_n (pc := 37) hx hb dX12_holdsAll_37 rfl (lv_at hl 3 rfl) ?_
        obtain ⟨hin, hf⟩ := cki_e hf
        refine gM_10 (pc := 38) hx hb hK h hin dX12_holdsAll_38 ?_
        obtain ⟨x10, hc, hf⟩ := b1_e hf
        refine k_X12_acidBehind (pc := 39) hx hb hml hown hts hK hN hc ml_X12_217 (Nat.le_trans (by decide) hF) (Nat.le_trans (by decide) hLo) h hl.1 ⟨Nat.zero_le _, Nat.zero_le _⟩ (Nat.le_of_ble_eq_true rfl) dX12_holdsAll_39 (fun H locs h => ?_)
        refine lv_aload_n (pc := 42) hx hb dX12_holdsAll_42 rfl (lv_at hl 1 rfl) ?_
        refine gM_0_17 (pc := 43) hx hb hts hown hK h fl_X12_40 dX12_holdsAll_43 ?_
        refine lv_iload_n (pc := 46) hx hb dX12_holdsAll_46 rfl (lv_at hl 3 rfl) ?_
        obtain ⟨hin, hf⟩ := cki_e hf
        refine gM_11 (pc := 47) hx hb hK h hin dX12_holdsAll_47 ?_
        refine lv_icmp_ne (pc := 48) (tgt := 55) hx hb dX12_holdsAll_48 (by decide) (fun c11 => ?_) (fun c11 => ?_)
        · have hf := if_f hf c11
          refine lv_iconst (pc := 55) (v := 0) hx hb dX12_holdsAll_55 (by decide) ?_
          refine lv_istore_n (pc := 56) (lv' := [(1, .int 0), (3, .int (u.1 9 (ix x2))), (0, .ref (a 0)), (2, .int x2)]) hx hb dX12_holdsAll_56 rfl hl (by decide) rfl (fun ls hl => ?_)
          refine lv_iinc (pc := 57) (v := x2 + 1) (lv' := [(2, .int (x2 + 1)), (1, .int 0), (3, .int (u.1 9 (ix x2))), (0, .ref (a 0))]) hx hb dX12_holdsAll_57 hl (k := 3) rfl rfl (by decide) rfl (fun ls hl => ?_)
          refine lv_goto (pc := 60) (tgt := 4) hx hb dX12_holdsAll_60 (by decide) ?_
          exact irec5 _ _ hf _ _ _ h (lv_sub hl [3, 1, 0] rfl)
        · have hf := if_t hf c11
          refine lv_iconst (pc := 51) (v := 1) hx hb dX12_holdsAll_51 (by decide) ?_
          refine lv_goto (pc := 52) (tgt := 56) hx hb dX12_holdsAll_52 (by decide) ?_
          refine lv_istore_n (pc := 56) (lv' := [(1, .int 1), (3, .int (u.1 9 (ix x2))), (0, .ref (a 0)), (2, .int x2)]) hx hb dX12_holdsAll_56 rfl hl (by decide) rfl (fun ls hl => ?_)
          refine lv_iinc (pc := 57) (v := x2 + 1) (lv' := [(2, .int (x2 + 1)), (1, .int 1), (3, .int (u.1 9 (ix x2))), (0, .ref (a 0))]) hx hb dX12_holdsAll_57 hl (k := 3) rfl rfl (by decide) rfl (fun ls hl => ?_)
          refine lv_goto (pc := 60) (tgt := 4) hx hb dX12_holdsAll_60 (by decide) ?_
          exact irec5 _ _ hf _ _ _ h (lv_sub hl [3, 1, 0] rfl)
theorem k_X12_holdsAll {p : Program} {l : Launch} {e : Env} {R : Room} {s : State} {m : MethodId} {args : Array Value} {below : List Frame} {meth : Method} {c : Code} {H : Heap} {locs : List Loc} {cells slots : Nat} {Q : State → Prop} {pc : Nat} {ls : Array Slot} {rest : List Value} {cc : ByteArray} {D : va_G} {cI cZ : ClassId} {a : Nat → Nat} {u : St} {own : String} {index nL : Nat} {rr : Int32} (hx : p.tables.exec = Jvm.exec) (hb : c.code = cc) (hml : c.maxLocals = nL) (hown : s.vm.findClass own = some m.cls) (hts : ∀ w ∈ Gd, w.before args s = true) (hK : va_K D vwCl (tyM cI cZ) s) (hN : NB s) (hc : f_X12_holdsAll u = some rr) (hlk : Cond.methodLink own index yX12_holdsAll ∈ Gd) (hF : 6 ≤ R.frames) (hLo : 139 ≤ R.locals) (h : Hh D (AB 21 a s.heap.size) (wX 21 a (EM a cI cZ) u) s.heap H locs) (hsize : ls.size = nL) (hcs : cells ≤ R.cells ∧ slots ≤ R.slots) (hr : (rest.map fun v => v.category).sum ≤ 8) (hdg : decode cc pc = .ok (.invokevirtual index, 3)) (kk : ∀ (H1 : Heap) (locs1 : List Loc), Hh D (AB 21 a s.heap.size) (wX 21 a (EM a cI cZ) u) s.heap H1 locs1 → W p l e R s m args below meth c H1 locs1 cells slots Q (F0 m (pc + 3) ls (.int rr :: rest))) : W p l e R s m args below meth c H locs cells slots Q (F0 m pc ls (.ref (a 0) :: rest)) :=
  cVi (n := 0) hx hb hml hown hts hK hN (c_X12_holdsAll hc) (gdV hlk im_X12_holdsAll se_X12_holdsAll in_X12 co_X12_holdsAll) rfl (by decide +kernel) rfl hF hLo h hsize hcs (by decide) rfl rfl rfl hr hdg kk
def B_X12_walls_9 (k4 : St → Int32 → Option (Int32 × St)) (rec8 : St → Int32 → Int32 → Option (Int32 × St)) (u1 : St) (x2 : Int32) (x3 : Int32) : Option (Int32 × St) := if 6 < x3 then k4 u1 x2 else jq_1 (fun (x11 : Int32) => jq_1 (fun (x13 : Int32) => bs (sI u1 0 3 x13) (fun u14 : St => if x11 = 0 then rec8 u14 (x2 ||| (0 : Int32)) (x3 + 1) else b1 (f_X12_holdsAll u14) (fun (x16 : Int32) => if x16 = 0 then rec8 u14 (x2 ||| (0 : Int32)) (x3 + 1) else rec8 u14 (x2 ||| ((1 : Int32) <<< (x3 &&& 31))) (x3 + 1)))) (fun (k12 : Int32 → Option (Int32 × St)) => if x3 = 6 then k12 0 else k12 ((1 : Int32) <<< (x3 &&& 31)))) (fun (k10 : Int32 → Option (Int32 × St)) => if x3 = 6 then k10 1 else b1 (f_X12_isCellar u1 x3) (fun (x20 : Int32) => if x20 = 0 then k10 0 else k10 1))
def f_X12_walls (u : St) : Option (Int32 × St) := jq_2 (fun (u5 : St) (x6 : Int32) => bs (sI u5 0 3 (u.1 0 3)) (fun u7 : St => some (x6, u7))) (fun (k4 : St → Int32 → Option (Int32 × St)) => lq_3 (B_X12_walls_9 k4) FU u 0 0)
set_option maxRecDepth 100000 in
set_option maxHeartbeats 4000000 in
theorem c_X12_walls {l : Launch} {D : va_G} {cI cZ : ClassId} {a : Nat → Nat} {u : St} {rr : Int32} {uu : St} (hf : f_X12_walls u = some (rr, uu)) : Ci l yX12_walls cX12_walls 5 (some .int) 6 139 D (tyM cI cZ) 21 a (EM a cI cZ) [.ref (a 0)] u rr uu := by
  refine metI (by decide +kernel) (Nat.le_of_ble_eq_true rfl) ?_
  intro p e s m args below meth c R Q hx hb hml hown hts hF hLo hret hK hN h ls hl
  have hown : s.vm.findClass RX12 = some m.cls := hown
  have hl : lv_has ls 5 [(0, .ref (a 0))] := hl
  unfold f_X12_walls at hf
  refine lv_aload_n (pc := 0) hx hb dX12_walls_0 rfl (lv_at hl 0 rfl) ?_
  refine gM_0_3 (pc := 1) hx hb hts hown hK h fl_X12_88 dX12_walls_1 ?_
  refine lv_istore_n (pc := 4) (lv' := [(1, .int (u.1 0 3)), (0, .ref (a 0))]) hx hb dX12_walls_4 rfl hl (by decide) rfl (fun ls hl => ?_)
  refine lv_iconst (pc := 5) (v := 0) hx hb dX12_walls_5 (by decide) ?_
  refine lv_istore_n (pc := 6) (lv' := [(2, .int 0), (1, .int (u.1 0 3)), (0, .ref (a 0))]) hx hb dX12_walls_6 rfl hl (by decide) rfl (fun ls hl => ?_)
  refine lv_iconst (pc := 7) (v := 0) hx hb dX12_walls_7 (by decide) ?_
  refine lv_istore_n (pc := 8) (lv' := [(3, .int 0), (2, .int 0), (1, .int (u.1 0 3)), (0, .ref (a 0))]) hx hb dX12_walls_8 rfl hl (by decide) rfl (fun ls hl => ?_)
  obtain ⟨k4, hk4, hf⟩ := jq_2_e hf
  have jk4 : ∀ (u5 : St) (x6 : Int32), k4 u5 x6 = some (rr, uu) → ∀ (H : Heap) (locs : List Loc) (ls : Array Slot), Hh D (AB 21 a s.heap.size) (wX 21 a (EM a cI cZ) u5) s.heap H locs → lv_has ls 5 [(0, .ref (a 0)), (1, .int (u.1 0 3)), (2, .int x6)] → W p l e R s m args below meth c H locs 0 0 Q (F0 m 81 ls []) := by
    intro u5 x6 hf H locs ls h hl
    rw [hk4] at hf
    refine lv_aload_n (pc := 81) hx hb dX12_walls_81 rfl (lv_at hl 0 rfl) ?_
    refine lv_iload_n (pc := 82) hx hb dX12_walls_82 rfl (lv_at hl 1 rfl) ?_
    refine pM_0_3 (pc := 83) hx hb hts hown hK h fl_X12_88 dX12_walls_83 (fun H locs h => ?_)
    obtain ⟨u7, eu7, hf⟩ := bs_e hf
    rw [← eu7] at h
    refine lv_iload_n (pc := 86) hx hb dX12_walls_86 rfl (lv_at hl 2 rfl) ?_
    exact hret (so1 hf) rfl (so2 hf) dX12_walls_87 h
  refine lq_3_e (P := fun (u1 : St) (x2 : Int32) (x3 : Int32) => ∀ (H : Heap) (locs : List Loc) (ls : Array Slot), Hh D (AB 21 a s.heap.size) (wX 21 a (EM a cI cZ) u1) s.heap H locs → lv_has ls 5 [(0, .ref (a 0)), (1, .int (u.1 0 3)), (2, .int x2), (3, .int x3)] → W p l e R s m args below meth c H locs 0 0 Q (F0 m 9 ls [])) ?_ FU _ _ _ hf _ _ _ h (lv_sub hl [3, 2, 1, 0] rfl)
  intro rec8 irec8 u1 x2 x3 hf H locs ls h hl
  unfold B_X12_walls_9 at hf
  refine lv_iload_n (pc := 9) hx hb dX12_walls_9 rfl (lv_at hl 3 rfl) ?_
  refine lv_bipush (pc := 10) (v := 6) hx hb dX12_walls_10 (by decide) ?_
  refine lv_icmp_gt (pc := 12) (tgt := 81) hx hb dX12_walls_12 (by decide) (fun c9 => ?_) (fun c9 => ?_)
  · have hf := if_t hf c9
    exact jk4 _ _ hf _ _ _ h (lv_sub hl [0, 1, 2] rfl)
  · have hf := if_f hf c9
    refine lv_iload_n (pc := 15) hx hb dX12_walls_15 rfl (lv_at hl 3 rfl) ?_
    refine lv_bipush (pc := 16) (v := 6) hx hb dX12_walls_16 (by decide) ?_
    obtain ⟨k10, hk10, hf⟩ := jq_1_e hf
    have jk10 : ∀ (x11 : Int32), k10 x11 = some (rr, uu) → ∀ (H : Heap) (locs : List Loc) (ls : Array Slot), Hh D (AB 21 a s.heap.size) (wX 21 a (EM a cI cZ) u1) s.heap H locs → lv_has ls 5 [(0, .ref (a 0)), (1, .int (u.1 0 3)), (2, .int x2), (3, .int x3)] → W p l e R s m args below meth c H locs 0 0 Q (F0 m 34 ls [.int x11]) := by
      intro x11 hf H locs ls h hl
      rw [hk10] at hf
      refine lv_istore (pc := 34) (lv' := [(4, .int x11), (0, .ref (a 0)), (1, .int (u.1 0 3)), (2, .int x2), (3, .int x3)]) hx hb dX12_walls_34 hl (by decide) rfl (fun ls hl => ?_)
      refine lv_aload_n (pc := 36) hx hb dX12_walls_36 rfl (lv_at hl 1 rfl) ?_
      refine lv_iload_n (pc := 37) hx hb dX12_walls_37 rfl (lv_at hl 4 rfl) ?_
      refine lv_bipush (pc := 38) (v := 6) hx hb dX12_walls_38 (by decide) ?_
      obtain ⟨k12, hk12, hf⟩ := jq_1_e hf
      have jk12 : ∀ (x13 : Int32), k12 x13 = some (rr, uu) → ∀ (H : Heap) (locs : List Loc) (ls : Array Slot), Hh D (AB 21 a s.heap.size) (wX 21 a (EM a cI cZ) u1) s.heap H locs → lv_has ls 5 [(0, .ref (a 0)), (1, .int (u.1 0 3)), (2, .int x2), (3, .int x3), (4, .int x11)] → W p l e R s m args below meth c H locs 0 0 Q (F0 m 50 ls [.int x13, .ref (a 0)]) := by
        intro x13 hf H locs ls h hl
        rw [hk12] at hf
        refine pM_0_3 (pc := 50) hx hb hts hown hK h fl_X12_88 dX12_walls_50 (fun H locs h => ?_)
        obtain ⟨u14, eu14, hf⟩ := bs_e hf
        rw [← eu14] at h
        refine lv_iload_n (pc := 53) hx hb dX12_walls_53 rfl (lv_at hl 2 rfl) ?_
        refine lv_iload (pc := 54) hx hb dX12_walls_54 (lv_at hl 4 rfl) ?_
        refine lv_if_eq (pc := 56) (tgt := 72) hx hb dX12_walls_56 (by decide) (fun c15 => ?_) (fun c15 => ?_)
        · have hf := if_t hf c15
          refine lv_iconst (pc := 72) (v := 0) hx hb dX12_walls_72 (by decide) ?_
          refine lv_ior (pc := 73) hx hb dX12_walls_73 ?_
          refine lv_istore_n (pc := 74) (lv' := [(2, .int (x2 ||| (0 : Int32))), (0, .ref (a 0)), (1, .int (u.1 0 3)), (3, .int x3), (4, .int x11)]) hx hb dX12_walls_74 rfl hl (by decide) rfl (fun ls hl => ?_)
          refine lv_iinc (pc := 75) (v := x3 + 1) (lv' := [(3, .int (x3 + 1)), (2, .int (x2 ||| (0 : Int32))), (0, .ref (a 0)), (1, .int (u.1 0 3)), (4, .int x11)]) hx hb dX12_walls_75 hl (k := 3) rfl rfl (by decide) rfl (fun ls hl => ?_)
          refine lv_goto (pc := 78) (tgt := 9) hx hb dX12_walls_78 (by decide) ?_
          exact irec8 _ _ _ hf _ _ _ h (lv_sub hl [2, 3, 1, 0] rfl)
        · have hf := if_f hf c15
          refine lv_aload_n (pc := 59) hx hb dX12_walls_59 rfl (lv_at hl 0 rfl) ?_
          obtain ⟨x16, hc, hf⟩ := b1_e hf
          refine k_X12_holdsAll (pc := 60) hx hb hml hown hts hK hN hc ml_X12_285 (Nat.le_trans (by decide) hF) (Nat.le_trans (by decide) hLo) h hl.1 ⟨Nat.zero_le _, Nat.zero_le _⟩ (Nat.le_of_ble_eq_true rfl) dX12_walls_60 (fun H locs h => ?_)
          refine lv_if_eq (pc := 63) (tgt := 72) hx hb dX12_walls_63 (by decide) (fun c17 => ?_) (fun c17 => ?_)
          · have hf := if_t hf c17
            refine lv_iconst (pc := 72) (v := 0) hx hb dX12_walls_72 (by decide) ?_
            refine lv_ior (pc := 73) hx hb dX12_walls_73 ?_
            refine lv_istore_n (pc := 74) (lv' := [(2, .int (x2 ||| (0 : Int32))), (0, .ref (a 0)), (1, .int (u.1 0 3)), (3, .int x3), (4, .int x11)]) hx hb dX12_walls_74 rfl hl (by decide) rfl (fun ls hl => ?_)
            refine lv_iinc (pc := 75) (v := x3 + 1) (lv' := [(3, .int (x3 + 1)), (2, .int (x2 ||| (0 : Int32))), (0, .ref (a 0)), (1, .int (u.1 0 3)), (4, .int x11)]) hx hb dX12_walls_75 hl (k := 3) rfl rfl (by decide) rfl (fun ls hl => ?_)
            refine lv_goto (pc := 78) (tgt := 9) hx hb dX12_walls_78 (by decide) ?_
            exact irec8 _ _ _ hf _ _ _ h (lv_sub hl [2, 3, 1, 0] rfl)
          · have hf := if_f hf c17
            refine lv_iconst (pc := 66) (v := 1) hx hb dX12_walls_66 (by decide) ?_
            refine lv_iload_n (pc := 67) hx hb dX12_walls_67 rfl (lv_at hl 3 rfl) ?_
            refine lv_ishl (pc := 68) hx hb dX12_walls_68 ?_
            refine lv_goto (pc := 69) (tgt := 73) hx hb dX12_walls_69 (by decide) ?_
            refine lv_ior (pc := 73) hx hb dX12_walls_73 ?_
            refine lv_istore_n (pc := 74) (lv' := [(2, .int (x2 ||| ((1 : Int32) <<< (x3 &&& 31)))), (0, .ref (a 0)), (1, .int (u.1 0 3)), (3, .int x3), (4, .int x11)]) hx hb dX12_walls_74 rfl hl (by decide) rfl (fun ls hl => ?_)
            refine lv_iinc (pc := 75) (v := x3 + 1) (lv' := [(3, .int (x3 + 1)), (2, .int (x2 ||| ((1 : Int32) <<< (x3 &&& 31)))), (0, .ref (a 0)), (1, .int (u.1 0 3)), (4, .int x11)]) hx hb dX12_walls_75 hl (k := 3) rfl rfl (by decide) rfl (fun ls hl => ?_)
            refine lv_goto (pc := 78) (tgt := 9) hx hb dX12_walls_78 (by decide) ?_
            exact irec8 _ _ _ hf _ _ _ h (lv_sub hl [2, 3, 1, 0] rfl)
      refine lv_icmp_ne (pc := 40) (tgt := 47) hx hb dX12_walls_40 (by decide) (fun c18 => ?_) (fun c18 => ?_)
      · have hf := if_f hf c18
        refine lv_iconst (pc := 47) (v := 1) hx hb dX12_walls_47 (by decide) ?_
        refine lv_iload_n (pc := 48) hx hb dX12_walls_48 rfl (lv_at hl 4 rfl) ?_
        refine lv_ishl (pc := 49) hx hb dX12_walls_49 ?_
        exact jk12 _ hf _ _ _ h (lv_sub hl [1, 2, 3, 4, 0] rfl)
      · have hf := if_t hf c18
        refine lv_iconst (pc := 43) (v := 0) hx hb dX12_walls_43 (by decide) ?_
        refine lv_goto (pc := 44) (tgt := 50) hx hb dX12_walls_44 (by decide) ?_
        exact jk12 _ hf _ _ _ h (lv_sub hl [1, 2, 3, 4, 0] rfl)
    refine lv_icmp_eq (pc := 18) (tgt := 29) hx hb dX12_walls_18 (by decide) (fun c19 => ?_) (fun c19 => ?_)
    · have hf := if_t hf c19
      refine lv_iconst (pc := 29) (v := 1) hx hb dX12_walls_29 (by decide) ?_
      refine lv_goto (pc := 30) (tgt := 34) hx hb dX12_walls_30 (by decide) ?_
      exact jk10 _ hf _ _ _ h (lv_sub hl [0, 1, 2, 3] rfl)
    · have hf := if_f hf c19
      refine lv_aload_n (pc := 21) hx hb dX12_walls_21 rfl (lv_at hl 0 rfl) ?_
      refine lv_iload_n (pc := 22) hx hb dX12_walls_22 rfl (lv_at hl 3 rfl) ?_
      obtain ⟨x20, hc, hf⟩ := b1_e hf
      refine k_X12_isCellar (pc := 23) hx hb hml hown hts hK hN hc ml_X12_112 (Nat.le_trans (by decide) hF) (Nat.le_trans (by decide) hLo) h hl.1 ⟨Nat.zero_le _, Nat.zero_le _⟩ (Nat.le_of_ble_eq_true rfl) dX12_walls_23 (fun H locs h => ?_)
      refine lv_if_eq (pc := 26) (tgt := 33) hx hb dX12_walls_26 (by decide) (fun c21 => ?_) (fun c21 => ?_)
      · have hf := if_t hf c21
        refine lv_iconst (pc := 33) (v := 0) hx hb dX12_walls_33 (by decide) ?_
        exact jk10 _ hf _ _ _ h (lv_sub hl [0, 1, 2, 3] rfl)
      · have hf := if_f hf c21
        refine lv_iconst (pc := 29) (v := 1) hx hb dX12_walls_29 (by decide) ?_
        refine lv_goto (pc := 30) (tgt := 34) hx hb dX12_walls_30 (by decide) ?_
        exact jk10 _ hf _ _ _ h (lv_sub hl [0, 1, 2, 3] rfl)
theorem k_X12_walls {p : Program} {l : Launch} {e : Env} {R : Room} {s : State} {m : MethodId} {args : Array Value} {below : List Frame} {meth : Method} {c : Code} {H : Heap} {locs : List Loc} {cells slots : Nat} {Q : State → Prop} {pc : Nat} {ls : Array Slot} {rest : List Value} {cc : ByteArray} {D : va_G} {cI cZ : ClassId} {a : Nat → Nat} {u : St} {own : String} {index nL : Nat} {rr : Int32} {uu : St} (hx : p.tables.exec = Jvm.exec) (hb : c.code = cc) (hml : c.maxLocals = nL) (hown : s.vm.findClass own = some m.cls) (hts : ∀ w ∈ Gd, w.before args s = true) (hK : va_K D vwCl (tyM cI cZ) s) (hN : NB s) (hc : f_X12_walls u = some (rr, uu)) (hlk : Cond.methodLink own index yX12_walls ∈ Gd) (hF : 7 ≤ R.frames) (hLo : 163 ≤ R.locals) (h : Hh D (AB 21 a s.heap.size) (wX 21 a (EM a cI cZ) u) s.heap H locs) (hsize : ls.size = nL) (hcs : cells ≤ R.cells ∧ slots ≤ R.slots) (hr : (rest.map fun v => v.category).sum ≤ 8) (hdg : decode cc pc = .ok (.invokevirtual index, 3)) (kk : ∀ (H1 : Heap) (locs1 : List Loc), Hh D (AB 21 a s.heap.size) (wX 21 a (EM a cI cZ) uu) s.heap H1 locs1 → W p l e R s m args below meth c H1 locs1 cells slots Q (F0 m (pc + 3) ls (.int rr :: rest))) : W p l e R s m args below meth c H locs cells slots Q (F0 m pc ls (.ref (a 0) :: rest)) :=
  cVi (n := 0) hx hb hml hown hts hK hN (c_X12_walls hc) (gdV hlk im_X12_walls se_X12_walls in_X12 co_X12_walls) rfl (by decide +kernel) rfl hF hLo h hsize hcs (by decide) rfl rfl rfl hr hdg kk
def B_X12_moons_9 (k4 : St → Int32 → Option (Int32 × St)) (rec8 : St → Int32 → Int32 → Option (Int32 × St)) (u1 : St) (x2 : Int32) (x3 : Int32) : Option (Int32 × St) := if (u1.1 0 10) ≤ x3 then k4 u1 x2 else bs (sI u1 0 13 x3) (fun u10 : St => b1 (f_X12_holdsAll u10) (fun (x11 : Int32) => if x11 = 0 then rec8 u10 (x2 ||| (0 : Int32)) (x3 + 1) else rec8 u10 (x2 ||| ((1 : Int32) <<< (x3 &&& 31))) (x3 + 1)))
def f_X12_moons (u : St) : Option (Int32 × St) := jq_2 (fun (u5 : St) (x6 : Int32) => bs (sI u5 0 13 (u.1 0 13)) (fun u7 : St => some (x6, u7))) (fun (k4 : St → Int32 → Option (Int32 × St)) => lq_3 (B_X12_moons_9 k4) FU u 0 0)
set_option maxRecDepth 100000 in
set_option maxHeartbeats 4000000 in
theorem c_X12_moons {l : Launch} {D : va_G} {cI cZ : ClassId} {a : Nat → Nat} {u : St} {rr : Int32} {uu : St} (hf : f_X12_moons u = some (rr, uu)) : Ci l yX12_moons cX12_moons 4 (some .int) 6 139 D (tyM cI cZ) 21 a (EM a cI cZ) [.ref (a 0)] u rr uu := by
  refine metI (by decide +kernel) (Nat.le_of_ble_eq_true rfl) ?_
  intro p e s m args below meth c R Q hx hb hml hown hts hF hLo hret hK hN h ls hl
  have hown : s.vm.findClass RX12 = some m.cls := hown
  have hl : lv_has ls 4 [(0, .ref (a 0))] := hl
  unfold f_X12_moons at hf
  refine lv_aload_n (pc := 0) hx hb dX12_moons_0 rfl (lv_at hl 0 rfl) ?_
  refine gM_0_13 (pc := 1) hx hb hts hown hK h fl_X12_128 dX12_moons_1 ?_
  refine lv_istore_n (pc := 4) (lv' := [(1, .int (u.1 0 13)), (0, .ref (a 0))]) hx hb dX12_moons_4 rfl hl (by decide) rfl (fun ls hl => ?_)
  refine lv_iconst (pc := 5) (v := 0) hx hb dX12_moons_5 (by decide) ?_
  refine lv_istore_n (pc := 6) (lv' := [(2, .int 0), (1, .int (u.1 0 13)), (0, .ref (a 0))]) hx hb dX12_moons_6 rfl hl (by decide) rfl (fun ls hl => ?_)
  refine lv_iconst (pc := 7) (v := 0) hx hb dX12_moons_7 (by decide) ?_
  refine lv_istore_n (pc := 8) (lv' := [(3, .int 0), (2, .int 0), (1, .int (u.1 0 13)), (0, .ref (a 0))]) hx hb dX12_moons_8 rfl hl (by decide) rfl (fun ls hl => ?_)
  obtain ⟨k4, hk4, hf⟩ := jq_2_e hf
  have jk4 : ∀ (u5 : St) (x6 : Int32), k4 u5 x6 = some (rr, uu) → ∀ (H : Heap) (locs : List Loc) (ls : Array Slot), Hh D (AB 21 a s.heap.size) (wX 21 a (EM a cI cZ) u5) s.heap H locs → lv_has ls 4 [(0, .ref (a 0)), (1, .int (u.1 0 13)), (2, .int x6)] → W p l e R s m args below meth c H locs 0 0 Q (F0 m 45 ls []) := by
    intro u5 x6 hf H locs ls h hl
    rw [hk4] at hf
    refine lv_aload_n (pc := 45) hx hb dX12_moons_45 rfl (lv_at hl 0 rfl) ?_
    refine lv_iload_n (pc := 46) hx hb dX12_moons_46 rfl (lv_at hl 1 rfl) ?_
    refine pM_0_13 (pc := 47) hx hb hts hown hK h fl_X12_128 dX12_moons_47 (fun H locs h => ?_)
    obtain ⟨u7, eu7, hf⟩ := bs_e hf
    rw [← eu7] at h
    refine lv_iload_n (pc := 50) hx hb dX12_moons_50 rfl (lv_at hl 2 rfl) ?_
    exact hret (so1 hf) rfl (so2 hf) dX12_moons_51 h
  refine lq_3_e (P := fun (u1 : St) (x2 : Int32) (x3 : Int32) => ∀ (H : Heap) (locs : List Loc) (ls : Array Slot), Hh D (AB 21 a s.heap.size) (wX 21 a (EM a cI cZ) u1) s.heap H locs → lv_has ls 4 [(0, .ref (a 0)), (1, .int (u.1 0 13)), (2, .int x2), (3, .int x3)] → W p l e R s m args below meth c H locs 0 0 Q (F0 m 9 ls [])) ?_ FU _ _ _ hf _ _ _ h (lv_sub hl [3, 2, 1, 0] rfl)
  intro rec8 irec8 u1 x2 x3 hf H locs ls h hl
  unfold B_X12_moons_9 at hf
  refine lv_iload_n (pc := 9) hx hb dX12_moons_9 rfl (lv_at hl 3 rfl) ?_
  refine lv_aload_n (pc := 10) hx hb dX12_moons_10 rfl (lv_at hl 0 rfl) ?_
  refine gM_0_10 (pc := 11) hx hb hts hown hK h fl_X12_78 dX12_moons_11 ?_
  refine lv_icmp_ge (pc := 14) (tgt := 45) hx hb dX12_moons_14 (by decide) (fun c9 => ?_) (fun c9 => ?_)
  · have hf := if_t hf c9
    exact jk4 _ _ hf _ _ _ h (lv_sub hl [0, 1, 2] rfl)
  · have hf := if_f hf c9
    refine lv_aload_n (pc := 17) hx hb dX12_moons_17 rfl (lv_at hl 0 rfl) ?_
    refine lv_iload_n (pc := 18) hx hb dX12_moons_18 rfl (lv_at hl 3 rfl) ?_
    refine pM_0_13 (pc := 19) hx hb hts hown hK h fl_X12_128 dX12_moons_19 (fun H locs h => ?_)
    obtain ⟨u10, eu10, hf⟩ := bs_e hf
    rw [← eu10] at h
    refine lv_iload_n (pc := 22) hx hb dX12_moons_22 rfl (lv_at hl 2 rfl) ?_
    refine lv_aload_n (pc := 23) hx hb dX12_moons_23 rfl (lv_at hl 0 rfl) ?_
    obtain ⟨x11, hc, hf⟩ := b1_e hf
    refine k_X12_holdsAll (pc := 24) hx hb hml hown hts hK hN hc ml_X12_285 (Nat.le_trans (by decide) hF) (Nat.le_trans (by decide) hLo) h hl.1 ⟨Nat.zero_le _, Nat.zero_le _⟩ (Nat.le_of_ble_eq_true rfl) dX12_moons_24 (fun H locs h => ?_)
    refine lv_if_eq (pc := 27) (tgt := 36) hx hb dX12_moons_27 (by decide) (fun c12 => ?_) (fun c12 => ?_)
    · have hf := if_t hf c12
      refine lv_iconst (pc := 36) (v := 0) hx hb dX12_moons_36 (by decide) ?_
      refine lv_ior (pc := 37) hx hb dX12_moons_37 ?_
      refine lv_istore_n (pc := 38) (lv' := [(2, .int (x2 ||| (0 : Int32))), (0, .ref (a 0)), (1, .int (u.1 0 13)), (3, .int x3)]) hx hb dX12_moons_38 rfl hl (by decide) rfl (fun ls hl => ?_)
      refine lv_iinc (pc := 39) (v := x3 + 1) (lv' := [(3, .int (x3 + 1)), (2, .int (x2 ||| (0 : Int32))), (0, .ref (a 0)), (1, .int (u.1 0 13))]) hx hb dX12_moons_39 hl (k := 3) rfl rfl (by decide) rfl (fun ls hl => ?_)
      refine lv_goto (pc := 42) (tgt := 9) hx hb dX12_moons_42 (by decide) ?_
      exact irec8 _ _ _ hf _ _ _ h (lv_sub hl [2, 3, 1, 0] rfl)
    · have hf := if_f hf c12
      refine lv_iconst (pc := 30) (v := 1) hx hb dX12_moons_30 (by decide) ?_
      refine lv_iload_n (pc := 31) hx hb dX12_moons_31 rfl (lv_at hl 3 rfl) ?_
      refine lv_ishl (pc := 32) hx hb dX12_moons_32 ?_
      refine lv_goto (pc := 33) (tgt := 37) hx hb dX12_moons_33 (by decide) ?_
      refine lv_ior (pc := 37) hx hb dX12_moons_37 ?_
      refine lv_istore_n (pc := 38) (lv' := [(2, .int (x2 ||| ((1 : Int32) <<< (x3 &&& 31)))), (0, .ref (a 0)), (1, .int (u.1 0 13)), (3, .int x3)]) hx hb dX12_moons_38 rfl hl (by decide) rfl (fun ls hl => ?_)
      refine lv_iinc (pc := 39) (v := x3 + 1) (lv' := [(3, .int (x3 + 1)), (2, .int (x2 ||| ((1 : Int32) <<< (x3 &&& 31)))), (0, .ref (a 0)), (1, .int (u.1 0 13))]) hx hb dX12_moons_39 hl (k := 3) rfl rfl (by decide) rfl (fun ls hl => ?_)
      refine lv_goto (pc := 42) (tgt := 9) hx hb dX12_moons_42 (by decide) ?_
      exact irec8 _ _ _ hf _ _ _ h (lv_sub hl [2, 3, 1, 0] rfl)
theorem k_X12_moons {p : Program} {l : Launch} {e : Env} {R : Room} {s : State} {m : MethodId} {args : Array Value} {below : List Frame} {meth : Method} {c : Code} {H : Heap} {locs : List Loc} {cells slots : Nat} {Q : State → Prop} {pc : Nat} {ls : Array Slot} {rest : List Value} {cc : ByteArray} {D : va_G} {cI cZ : ClassId} {a : Nat → Nat} {u : St} {own : String} {index nL : Nat} {rr : Int32} {uu : St} (hx : p.tables.exec = Jvm.exec) (hb : c.code = cc) (hml : c.maxLocals = nL) (hown : s.vm.findClass own = some m.cls) (hts : ∀ w ∈ Gd, w.before args s = true) (hK : va_K D vwCl (tyM cI cZ) s) (hN : NB s) (hc : f_X12_moons u = some (rr, uu)) (hlk : Cond.methodLink own index yX12_moons ∈ Gd) (hF : 7 ≤ R.frames) (hLo : 162 ≤ R.locals) (h : Hh D (AB 21 a s.heap.size) (wX 21 a (EM a cI cZ) u) s.heap H locs) (hsize : ls.size = nL) (hcs : cells ≤ R.cells ∧ slots ≤ R.slots) (hr : (rest.map fun v => v.category).sum ≤ 8) (hdg : decode cc pc = .ok (.invokevirtual index, 3)) (kk : ∀ (H1 : Heap) (locs1 : List Loc), Hh D (AB 21 a s.heap.size) (wX 21 a (EM a cI cZ) uu) s.heap H1 locs1 → W p l e R s m args below meth c H1 locs1 cells slots Q (F0 m (pc + 3) ls (.int rr :: rest))) : W p l e R s m args below meth c H locs cells slots Q (F0 m pc ls (.ref (a 0) :: rest)) :=
  cVi (n := 0) hx hb hml hown hts hK hN (c_X12_moons hc) (gdV hlk im_X12_moons se_X12_moons in_X12 co_X12_moons) rfl (by decide +kernel) rfl hF hLo h hsize hcs (by decide) rfl rfl rfl hr hdg kk
def B_X12_open_61 (x6 : Int32) (k11 : St → Int32 → Int32 → Option (Int32 × St)) (rec17 : St → Int32 → Int32 → Int32 → Option (Int32 × St)) (u7 : St) (x8 : Int32) (x9 : Int32) (x10 : Int32) : Option (Int32 × St) := if x6 ≤ x10 then k11 u7 x8 x9 else bs (sL u7 0 21 ((1 : Int64) <<< (Int32.toInt64 x10 &&& 63))) (fun u19 : St => b1 (f_X12_holdsAll u19) (fun (x20 : Int32) => if x20 = 0 then rec17 u19 x8 x9 (x10 + 1) else if x8 = 0 then rec17 u19 (x8 + 1) x10 (x10 + 1) else rec17 u19 (x8 + 1) x9 (x10 + 1)))
def B_X12_open_17 (u : St) (k5 : Int32 → Option (Int32 × St)) (rec23 : Int32 → Int32 → Option (Int32 × St)) (x3 : Int32) (x4 : Int32) : Option (Int32 × St) := if (u.1 0 18) ≤ x4 then k5 x3 else cki x4 6 (if (u.1 10 (ix x4)) ≤ x3 then rec23 x3 (x4 + 1) else cki x4 6 (rec23 (u.1 10 (ix x4)) (x4 + 1)))
def f_X12_open (u : St) (p1 : Int32) : Option (Int32 × St) := b1 (f_X12_in u (Int32.toInt64 p1) 0 1) (fun (x1 : Int32) => if x1 = 0 then some ((-2), u) else jq_1 (fun (x6 : Int32) => jq_3 (fun (u12 : St) (x13 : Int32) (x14 : Int32) => bs (sL u12 0 21 0) (fun u15 : St => if p1 = 0 then some (x13, u15) else some (x14, u15))) (fun (k11 : St → Int32 → Int32 → Option (Int32 × St)) => lq_4 (B_X12_open_61 x6 k11) FU u 0 ((-6)) 0)) (fun (k5 : Int32 → Option (Int32 × St)) => lq_2 (B_X12_open_17 u k5) FU 0 0))
set_option maxRecDepth 100000 in
set_option maxHeartbeats 4000000 in
theorem c_X12_open {l : Launch} {D : va_G} {cI cZ : ClassId} {a : Nat → Nat} {u : St} {p1 : Int32} {rr : Int32} {uu : St} (hf : f_X12_open u p1 = some (rr, uu)) : Ci l yX12_open cX12_open 6 (some .int) 6 139 D (tyM cI cZ) 21 a (EM a cI cZ) [.ref (a 0), .int p1] u rr uu := by
  refine metI (by decide +kernel) (Nat.le_of_ble_eq_true rfl) ?_
  intro p e s m args below meth c R Q hx hb hml hown hts hF hLo hret hK hN h ls hl
  have hown : s.vm.findClass RX12 = some m.cls := hown
  have hl : lv_has ls 6 [(0, .ref (a 0)), (1, .int p1)] := hl
  unfold f_X12_open at hf
  refine lv_iload_n (pc := 0) hx hb dX12_open_0 rfl (lv_at hl 1 rfl) ?_
  refine lv_i2l (pc := 1) (v := Int32.toInt64 p1) hx hb dX12_open_1 rfl ?_
  refine lv_lconst (pc := 2) (v := 0) hx hb dX12_open_2 (by decide) ?_
  refine lv_lconst (pc := 3) (v := 1) hx hb dX12_open_3 (by decide) ?_
  obtain ⟨x1, hc, hf⟩ := b1_e hf
  refine kS_X12_in (pc := 4) hx hb hml hown hts hK hN hc ml_X12_97 (Nat.le_trans (by decide) hF) (Nat.le_trans (by decide) hLo) h hl.1 ⟨Nat.zero_le _, Nat.zero_le _⟩ (Nat.le_of_ble_eq_true rfl) dX12_open_4 (fun H locs h => ?_)
  refine lv_if_ne (pc := 7) (tgt := 13) hx hb dX12_open_7 (by decide) (fun c2 => ?_) (fun c2 => ?_)
  · have hf := if_f hf c2
    refine lv_iconst (pc := 13) (v := 0) hx hb dX12_open_13 (by decide) ?_
    refine lv_istore_n (pc := 14) (lv' := [(2, .int 0), (0, .ref (a 0)), (1, .int p1)]) hx hb dX12_open_14 rfl hl (by decide) rfl (fun ls hl => ?_)
    refine lv_iconst (pc := 15) (v := 0) hx hb dX12_open_15 (by decide) ?_
    refine lv_istore_n (pc := 16) (lv' := [(3, .int 0), (2, .int 0), (0, .ref (a 0)), (1, .int p1)]) hx hb dX12_open_16 rfl hl (by decide) rfl (fun ls hl => ?_)
    obtain ⟨k5, hk5, hf⟩ := jq_1_e hf
    have jk5 : ∀ (x6 : Int32), k5 x6 = some (rr, uu) → ∀ (H : Heap) (locs : List Loc) (ls : Array Slot), Hh D (AB 21 a s.heap.size) (wX 21 a (EM a cI cZ) u) s.heap H locs → lv_has ls 6 [(0, .ref (a 0)), (1, .int p1), (2, .int x6)] → W p l e R s m args below meth c H locs 0 0 Q (F0 m 52 ls []) := by
      intro x6 hf H locs ls h hl
      rw [hk5] at hf
      refine lv_iconst (pc := 52) (v := 0) hx hb dX12_open_52 (by decide) ?_
      refine lv_istore_n (pc := 53) (lv' := [(3, .int 0), (0, .ref (a 0)), (1, .int p1), (2, .int x6)]) hx hb dX12_open_53 rfl hl (by decide) rfl (fun ls hl => ?_)
      refine lv_bipush (pc := 54) (v := (-6)) hx hb dX12_open_54 (by decide) ?_
      refine lv_istore (pc := 56) (lv' := [(4, .int ((-6))), (3, .int 0), (0, .ref (a 0)), (1, .int p1), (2, .int x6)]) hx hb dX12_open_56 hl (by decide) rfl (fun ls hl => ?_)
      refine lv_iconst (pc := 58) (v := 0) hx hb dX12_open_58 (by decide) ?_
      refine lv_istore (pc := 59) (lv' := [(5, .int 0), (4, .int ((-6))), (3, .int 0), (0, .ref (a 0)), (1, .int p1), (2, .int x6)]) hx hb dX12_open_59 hl (by decide) rfl (fun ls hl => ?_)
      obtain ⟨k11, hk11, hf⟩ := jq_3_e hf
      have jk11 : ∀ (u12 : St) (x13 : Int32) (x14 : Int32), k11 u12 x13 x14 = some (rr, uu) → ∀ (H : Heap) (locs : List Loc) (ls : Array Slot), Hh D (AB 21 a s.heap.size) (wX 21 a (EM a cI cZ) u12) s.heap H locs → lv_has ls 6 [(0, .ref (a 0)), (1, .int p1), (3, .int x13), (4, .int x14)] → W p l e R s m args below meth c H locs 0 0 Q (F0 m 104 ls []) := by
        intro u12 x13 x14 hf H locs ls h hl
        rw [hk11] at hf
        refine lv_aload_n (pc := 104) hx hb dX12_open_104 rfl (lv_at hl 0 rfl) ?_
        refine lv_lconst (pc := 105) (v := 0) hx hb dX12_open_105 (by decide) ?_
        refine pM_0_21 (pc := 106) hx hb hts hown hK h fl_X12_151 dX12_open_106 (fun H locs h => ?_)
        obtain ⟨u15, eu15, hf⟩ := bs_e hf
        rw [← eu15] at h
        refine lv_iload_n (pc := 109) hx hb dX12_open_109 rfl (lv_at hl 1 rfl) ?_
        refine lv_if_ne (pc := 110) (tgt := 117) hx hb dX12_open_110 (by decide) (fun c16 => ?_) (fun c16 => ?_)
        · have hf := if_f hf c16
          refine lv_iload (pc := 117) hx hb dX12_open_117 (lv_at hl 3 rfl) ?_
          exact hret (so1 hf) rfl (so2 hf) dX12_open_119 h
        · have hf := if_t hf c16
          refine lv_iload_n (pc := 113) hx hb dX12_open_113 rfl (lv_at hl 2 rfl) ?_
          refine lv_goto (pc := 114) (tgt := 119) hx hb dX12_open_114 (by decide) ?_
          exact hret (so1 hf) rfl (so2 hf) dX12_open_119 h
      refine lq_4_e (P := fun (u7 : St) (x8 : Int32) (x9 : Int32) (x10 : Int32) => ∀ (H : Heap) (locs : List Loc) (ls : Array Slot), Hh D (AB 21 a s.heap.size) (wX 21 a (EM a cI cZ) u7) s.heap H locs → lv_has ls 6 [(0, .ref (a 0)), (1, .int p1), (2, .int x6), (3, .int x8), (4, .int x9), (5, .int x10)] → W p l e R s m args below meth c H locs 0 0 Q (F0 m 61 ls [])) ?_ FU _ _ _ _ hf _ _ _ h (lv_sub hl [3, 4, 5, 2, 1, 0] rfl)
      intro rec17 irec17 u7 x8 x9 x10 hf H locs ls h hl
      unfold B_X12_open_61 at hf
      refine lv_iload (pc := 61) hx hb dX12_open_61 (lv_at hl 5 rfl) ?_
      refine lv_iload_n (pc := 63) hx hb dX12_open_63 rfl (lv_at hl 2 rfl) ?_
      refine lv_icmp_ge (pc := 64) (tgt := 104) hx hb dX12_open_64 (by decide) (fun c18 => ?_) (fun c18 => ?_)
      · have hf := if_t hf c18
        exact jk11 _ _ _ hf _ _ _ h (lv_sub hl [0, 1, 3, 4] rfl)
      · have hf := if_f hf c18
        refine lv_aload_n (pc := 67) hx hb dX12_open_67 rfl (lv_at hl 0 rfl) ?_
        refine lv_lconst (pc := 68) (v := 1) hx hb dX12_open_68 (by decide) ?_
        refine lv_iload (pc := 69) hx hb dX12_open_69 (lv_at hl 5 rfl) ?_
        refine lv_lshl (pc := 71) (v := (1 : Int64) <<< (Int32.toInt64 x10 &&& 63)) hx hb dX12_open_71 rfl ?_
        refine pM_0_21 (pc := 72) hx hb hts hown hK h fl_X12_151 dX12_open_72 (fun H locs h => ?_)
        obtain ⟨u19, eu19, hf⟩ := bs_e hf
        rw [← eu19] at h
        refine lv_aload_n (pc := 75) hx hb dX12_open_75 rfl (lv_at hl 0 rfl) ?_
        obtain ⟨x20, hc, hf⟩ := b1_e hf
        refine k_X12_holdsAll (pc := 76) hx hb hml hown hts hK hN hc ml_X12_285 (Nat.le_trans (by decide) hF) (Nat.le_trans (by decide) hLo) h hl.1 ⟨Nat.zero_le _, Nat.zero_le _⟩ (Nat.le_of_ble_eq_true rfl) dX12_open_76 (fun H locs h => ?_)
        refine lv_if_eq (pc := 79) (tgt := 98) hx hb dX12_open_79 (by decide) (fun c21 => ?_) (fun c21 => ?_)
        · have hf := if_t hf c21
          refine lv_iinc (pc := 98) (v := x10 + 1) (lv' := [(5, .int (x10 + 1)), (0, .ref (a 0)), (1, .int p1), (2, .int x6), (3, .int x8), (4, .int x9)]) hx hb dX12_open_98 hl (k := 5) rfl rfl (by decide) rfl (fun ls hl => ?_)
          refine lv_goto (pc := 101) (tgt := 61) hx hb dX12_open_101 (by decide) ?_
          exact irec17 _ _ _ _ hf _ _ _ h (lv_sub hl [1, 2, 3, 4, 5, 0] rfl)
        · have hf := if_f hf c21
          refine lv_iload_n (pc := 82) hx hb dX12_open_82 rfl (lv_at hl 3 rfl) ?_
          refine lv_if_ne (pc := 83) (tgt := 91) hx hb dX12_open_83 (by decide) (fun c22 => ?_) (fun c22 => ?_)
          · have hf := if_f hf c22
            refine lv_iload (pc := 91) hx hb dX12_open_91 (lv_at hl 4 rfl) ?_
            refine lv_istore (pc := 93) (lv' := [(4, .int x9), (0, .ref (a 0)), (1, .int p1), (2, .int x6), (3, .int x8), (5, .int x10)]) hx hb dX12_open_93 hl (by decide) rfl (fun ls hl => ?_)
            refine lv_iinc (pc := 95) (v := x8 + 1) (lv' := [(3, .int (x8 + 1)), (4, .int x9), (0, .ref (a 0)), (1, .int p1), (2, .int x6), (5, .int x10)]) hx hb dX12_open_95 hl (k := 4) rfl rfl (by decide) rfl (fun ls hl => ?_)
            refine lv_iinc (pc := 98) (v := x10 + 1) (lv' := [(5, .int (x10 + 1)), (3, .int (x8 + 1)), (4, .int x9), (0, .ref (a 0)), (1, .int p1), (2, .int x6)]) hx hb dX12_open_98 hl (k := 5) rfl rfl (by decide) rfl (fun ls hl => ?_)
            refine lv_goto (pc := 101) (tgt := 61) hx hb dX12_open_101 (by decide) ?_
            exact irec17 _ _ _ _ hf _ _ _ h (lv_sub hl [3, 4, 5, 1, 2, 0] rfl)
          · have hf := if_t hf c22
            refine lv_iload (pc := 86) hx hb dX12_open_86 (lv_at hl 5 rfl) ?_
            refine lv_goto (pc := 88) (tgt := 93) hx hb dX12_open_88 (by decide) ?_
            refine lv_istore (pc := 93) (lv' := [(4, .int x10), (0, .ref (a 0)), (1, .int p1), (2, .int x6), (3, .int x8), (5, .int x10)]) hx hb dX12_open_93 hl (by decide) rfl (fun ls hl => ?_)
            refine lv_iinc (pc := 95) (v := x8 + 1) (lv' := [(3, .int (x8 + 1)), (4, .int x10), (0, .ref (a 0)), (1, .int p1), (2, .int x6), (5, .int x10)]) hx hb dX12_open_95 hl (k := 4) rfl rfl (by decide) rfl (fun ls hl => ?_)
            refine lv_iinc (pc := 98) (v := x10 + 1) (lv' := [(5, .int (x10 + 1)), (3, .int (x8 + 1)), (4, .int x10), (0, .ref (a 0)), (1, .int p1), (2, .int x6)]) hx hb dX12_open_98 hl (k := 5) rfl rfl (by decide) rfl (fun ls hl => ?_)
            refine lv_goto (pc := 101) (tgt := 61) hx hb dX12_open_101 (by decide) ?_
            exact irec17 _ _ _ _ hf _ _ _ h (lv_sub hl [3, 4, 5, 1, 2, 0] rfl)
    refine lq_2_e (P := fun (x3 : Int32) (x4 : Int32) => ∀ (H : Heap) (locs : List Loc) (ls : Array Slot), Hh D (AB 21 a s.heap.size) (wX 21 a (EM a cI cZ) u) s.heap H locs → lv_has ls 6 [(0, .ref (a 0)), (1, .int p1), (2, .int x3), (3, .int x4)] → W p l e R s m args below meth c H locs 0 0 Q (F0 m 17 ls [])) ?_ FU _ _ hf _ _ _ h (lv_sub hl [2, 3, 1, 0] rfl)
    intro rec23 irec23 x3 x4 hf H locs ls h hl
    unfold B_X12_open_17 at hf
    refine lv_iload_n (pc := 17) hx hb dX12_open_17 rfl (lv_at hl 3 rfl) ?_
    refine lv_aload_n (pc := 18) hx hb dX12_open_18 rfl (lv_at hl 0 rfl) ?_
    refine gM_0_18 (pc := 19) hx hb hts hown hK h fl_X12_94 dX12_open_19 ?_
    refine lv_icmp_ge (pc := 22) (tgt := 52) hx hb dX12_open_22 (by decide) (fun c24 => ?_) (fun c24 => ?_)
    · have hf := if_t hf c24
      exact jk5 _ hf _ _ _ h (lv_sub hl [0, 1, 2] rfl)
    · have hf := if_f hf c24
      refine lv_aload_n (pc := 25) hx hb dX12_open_25 rfl (lv_at hl 0 rfl) ?_
      refine gM_0_16 (pc := 26) hx hb hts hown hK h fl_X12_37 dX12_open_26 ?_
      refine lv_iload_n (pc := 29) hx hb dX12_open_29 rfl (lv_at hl 3 rfl) ?_
      obtain ⟨hin, hf⟩ := cki_e hf
      refine gM_10 (pc := 30) hx hb hK h hin dX12_open_30 ?_
      refine lv_iload_n (pc := 31) hx hb dX12_open_31 rfl (lv_at hl 2 rfl) ?_
      refine lv_icmp_le (pc := 32) (tgt := 44) hx hb dX12_open_32 (by decide) (fun c25 => ?_) (fun c25 => ?_)
      · have hf := if_t hf c25
        refine lv_iload_n (pc := 44) hx hb dX12_open_44 rfl (lv_at hl 2 rfl) ?_
        refine lv_istore_n (pc := 45) (lv' := [(2, .int x3), (0, .ref (a 0)), (1, .int p1), (3, .int x4)]) hx hb dX12_open_45 rfl hl (by decide) rfl (fun ls hl => ?_)
        refine lv_iinc (pc := 46) (v := x4 + 1) (lv' := [(3, .int (x4 + 1)), (2, .int x3), (0, .ref (a 0)), (1, .int p1)]) hx hb dX12_open_46 hl (k := 3) rfl rfl (by decide) rfl (fun ls hl => ?_)
        refine lv_goto (pc := 49) (tgt := 17) hx hb dX12_open_49 (by decide) ?_
        exact irec23 _ _ hf _ _ _ h (lv_sub hl [2, 3, 1, 0] rfl)
      · have hf := if_f hf c25
        refine lv_aload_n (pc := 35) hx hb dX12_open_35 rfl (lv_at hl 0 rfl) ?_
        refine gM_0_16 (pc := 36) hx hb hts hown hK h fl_X12_37 dX12_open_36 ?_
        refine lv_iload_n (pc := 39) hx hb dX12_open_39 rfl (lv_at hl 3 rfl) ?_
        obtain ⟨hin, hf⟩ := cki_e hf
        refine gM_10 (pc := 40) hx hb hK h hin dX12_open_40 ?_
        refine lv_goto (pc := 41) (tgt := 45) hx hb dX12_open_41 (by decide) ?_
        refine lv_istore_n (pc := 45) (lv' := [(2, .int (u.1 10 (ix x4))), (0, .ref (a 0)), (1, .int p1), (3, .int x4)]) hx hb dX12_open_45 rfl hl (by decide) rfl (fun ls hl => ?_)
        refine lv_iinc (pc := 46) (v := x4 + 1) (lv' := [(3, .int (x4 + 1)), (2, .int (u.1 10 (ix x4))), (0, .ref (a 0)), (1, .int p1)]) hx hb dX12_open_46 hl (k := 3) rfl rfl (by decide) rfl (fun ls hl => ?_)
        refine lv_goto (pc := 49) (tgt := 17) hx hb dX12_open_49 (by decide) ?_
        exact irec23 _ _ hf _ _ _ h (lv_sub hl [2, 3, 1, 0] rfl)
  · have hf := if_t hf c2
    refine lv_bipush (pc := 10) (v := (-2)) hx hb dX12_open_10 (by decide) ?_
    exact hret (so1 hf) rfl (so2 hf) dX12_open_12 h
theorem k_X12_open {p : Program} {l : Launch} {e : Env} {R : Room} {s : State} {m : MethodId} {args : Array Value} {below : List Frame} {meth : Method} {c : Code} {H : Heap} {locs : List Loc} {cells slots : Nat} {Q : State → Prop} {pc : Nat} {ls : Array Slot} {rest : List Value} {cc : ByteArray} {D : va_G} {cI cZ : ClassId} {a : Nat → Nat} {u : St} {own : String} {index nL : Nat} {p1 : Int32} {rr : Int32} {uu : St} (hx : p.tables.exec = Jvm.exec) (hb : c.code = cc) (hml : c.maxLocals = nL) (hown : s.vm.findClass own = some m.cls) (hts : ∀ w ∈ Gd, w.before args s = true) (hK : va_K D vwCl (tyM cI cZ) s) (hN : NB s) (hc : f_X12_open u p1 = some (rr, uu)) (hlk : Cond.methodLink own index yX12_open ∈ Gd) (hF : 7 ≤ R.frames) (hLo : 164 ≤ R.locals) (h : Hh D (AB 21 a s.heap.size) (wX 21 a (EM a cI cZ) u) s.heap H locs) (hsize : ls.size = nL) (hcs : cells ≤ R.cells ∧ slots ≤ R.slots) (hr : (rest.map fun v => v.category).sum ≤ 8) (hdg : decode cc pc = .ok (.invokevirtual index, 3)) (kk : ∀ (H1 : Heap) (locs1 : List Loc), Hh D (AB 21 a s.heap.size) (wX 21 a (EM a cI cZ) uu) s.heap H1 locs1 → W p l e R s m args below meth c H1 locs1 cells slots Q (F0 m (pc + 3) ls (.int rr :: rest))) : W p l e R s m args below meth c H locs cells slots Q (F0 m pc ls (.int p1 :: .ref (a 0) :: rest)) :=
  cVi (n := 1) hx hb hml hown hts hK hN (c_X12_open hc) (gdV hlk im_X12_open se_X12_open in_X12 co_X12_open) rfl (by decide +kernel) rfl hF hLo h hsize hcs (by decide) rfl rfl rfl hr hdg kk
def B_X12_wakenBy_17 (p1 : Int32) (p2 : Int32) (u : St) (x2 : Int32) (k9 : Int32 → Option (Int32)) (rec11 : Int32 → Int32 → Option (Int32)) (x7 : Int32) (x8 : Int32) : Option (Int32) := if p2 ≤ x8 then k9 x7 else if ((p1 >>> (x2 &&& 31)) &&& (1 : Int32)) = 1 then ck (¬ (u.1 0 10) = 0) (bs (x7 ||| ((1 : Int32) <<< (((x2 + x8) - (x2 + x8) / (u.1 0 10) * (u.1 0 10)) &&& 31))) (fun x14 : Int32 => rec11 x14 (x8 + 1))) else k9 x7
def B_X12_wakenBy_5 (p1 : Int32) (p2 : Int32) (u : St) (k3 : Int32 → Option (Int32)) (rec5 : Int32 → Int32 → Option (Int32)) (x1 : Int32) (x2 : Int32) : Option (Int32) := if (u.1 0 10) ≤ x2 then k3 x1 else jq_1 (fun (x10 : Int32) => rec5 x10 (x2 + 1)) (fun (k9 : Int32 → Option (Int32)) => lq_2 (B_X12_wakenBy_17 p1 p2 u x2 k9) FU x1 0)
def f_X12_wakenBy (u : St) (p1 : Int32) (p2 : Int32) : Option (Int32) := jq_1 (fun (x4 : Int32) => some x4) (fun (k3 : Int32 → Option (Int32)) => lq_2 (B_X12_wakenBy_5 p1 p2 u k3) FU 0 0)
set_option maxRecDepth 100000 in
set_option maxHeartbeats 4000000 in
theorem c_X12_wakenBy {l : Launch} {D : va_G} {cI cZ : ClassId} {a : Nat → Nat} {u : St} {p1 : Int32} {p2 : Int32} {rr : Int32} (hf : f_X12_wakenBy u p1 p2 = some rr) : Ci l yX12_wakenBy cX12_wakenBy 6 (some .int) 0 0 D (tyM cI cZ) 21 a (EM a cI cZ) [.ref (a 0), .int p1, .int p2] u rr u := by
  refine metI (by decide +kernel) (Nat.le_of_ble_eq_true rfl) ?_
  intro p e s m args below meth c R Q hx hb hml hown hts hF hLo hret hK hN h ls hl
  have hown : s.vm.findClass RX12 = some m.cls := hown
  have hl : lv_has ls 6 [(0, .ref (a 0)), (1, .int p1), (2, .int p2)] := hl
  unfold f_X12_wakenBy at hf
  refine lv_iconst (pc := 0) (v := 0) hx hb dX12_wakenBy_0 (by decide) ?_
  refine lv_istore_n (pc := 1) (lv' := [(3, .int 0), (0, .ref (a 0)), (1, .int p1), (2, .int p2)]) hx hb dX12_wakenBy_1 rfl hl (by decide) rfl (fun ls hl => ?_)
  refine lv_iconst (pc := 2) (v := 0) hx hb dX12_wakenBy_2 (by decide) ?_
  refine lv_istore (pc := 3) (lv' := [(4, .int 0), (3, .int 0), (0, .ref (a 0)), (1, .int p1), (2, .int p2)]) hx hb dX12_wakenBy_3 hl (by decide) rfl (fun ls hl => ?_)
  obtain ⟨k3, hk3, hf⟩ := jq_1_e hf
  have jk3 : ∀ (x4 : Int32), k3 x4 = some rr → ∀ (H : Heap) (locs : List Loc) (ls : Array Slot), Hh D (AB 21 a s.heap.size) (wX 21 a (EM a cI cZ) u) s.heap H locs → lv_has ls 6 [(3, .int x4)] → W p l e R s m args below meth c H locs 0 0 Q (F0 m 60 ls []) := by
    intro x4 hf H locs ls h hl
    rw [hk3] at hf
    refine lv_iload_n (pc := 60) hx hb dX12_wakenBy_60 rfl (lv_at hl 0 rfl) ?_
    exact hret (so hf) rfl rfl dX12_wakenBy_61 h
  refine lq_2_e (P := fun (x1 : Int32) (x2 : Int32) => ∀ (H : Heap) (locs : List Loc) (ls : Array Slot), Hh D (AB 21 a s.heap.size) (wX 21 a (EM a cI cZ) u) s.heap H locs → lv_has ls 6 [(0, .ref (a 0)), (1, .int p1), (2, .int p2), (3, .int x1), (4, .int x2)] → W p l e R s m args below meth c H locs 0 0 Q (F0 m 5 ls [])) ?_ FU _ _ hf _ _ _ h (lv_sub hl [2, 3, 4, 1, 0] rfl)
  intro rec5 irec5 x1 x2 hf H locs ls h hl
  unfold B_X12_wakenBy_5 at hf
  refine lv_iload (pc := 5) hx hb dX12_wakenBy_5 (lv_at hl 4 rfl) ?_
  refine lv_aload_n (pc := 7) hx hb dX12_wakenBy_7 rfl (lv_at hl 0 rfl) ?_
  refine gM_0_10 (pc := 8) hx hb hts hown hK h fl_X12_78 dX12_wakenBy_8 ?_
  refine lv_icmp_ge (pc := 11) (tgt := 60) hx hb dX12_wakenBy_11 (by decide) (fun c6 => ?_) (fun c6 => ?_)
  · have hf := if_t hf c6
    exact jk3 _ hf _ _ _ h (lv_sub hl [3] rfl)
  · have hf := if_f hf c6
    refine lv_iconst (pc := 14) (v := 0) hx hb dX12_wakenBy_14 (by decide) ?_
    refine lv_istore (pc := 15) (lv' := [(5, .int 0), (0, .ref (a 0)), (1, .int p1), (2, .int p2), (3, .int x1), (4, .int x2)]) hx hb dX12_wakenBy_15 hl (by decide) rfl (fun ls hl => ?_)
    obtain ⟨k9, hk9, hf⟩ := jq_1_e hf
    have jk9 : ∀ (x10 : Int32), k9 x10 = some rr → ∀ (H : Heap) (locs : List Loc) (ls : Array Slot), Hh D (AB 21 a s.heap.size) (wX 21 a (EM a cI cZ) u) s.heap H locs → lv_has ls 6 [(0, .ref (a 0)), (1, .int p1), (2, .int p2), (3, .int x10), (4, .int x2)] → W p l e R s m args below meth c H locs 0 0 Q (F0 m 54 ls []) := by
      intro x10 hf H locs ls h hl
      rw [hk9] at hf
      refine lv_iinc (pc := 54) (v := x2 + 1) (lv' := [(4, .int (x2 + 1)), (0, .ref (a 0)), (1, .int p1), (2, .int p2), (3, .int x10)]) hx hb dX12_wakenBy_54 hl (k := 4) rfl rfl (by decide) rfl (fun ls hl => ?_)
      refine lv_goto (pc := 57) (tgt := 5) hx hb dX12_wakenBy_57 (by decide) ?_
      exact irec5 _ _ hf _ _ _ h (lv_sub hl [1, 2, 3, 4, 0] rfl)
    refine lq_2_e (P := fun (x7 : Int32) (x8 : Int32) => ∀ (H : Heap) (locs : List Loc) (ls : Array Slot), Hh D (AB 21 a s.heap.size) (wX 21 a (EM a cI cZ) u) s.heap H locs → lv_has ls 6 [(0, .ref (a 0)), (1, .int p1), (2, .int p2), (3, .int x7), (4, .int x2), (5, .int x8)] → W p l e R s m args below meth c H locs 0 0 Q (F0 m 17 ls [])) ?_ FU _ _ hf _ _ _ h (lv_sub hl [1, 2, 3, 4, 5, 0] rfl)
    intro rec11 irec11 x7 x8 hf H locs ls h hl
    unfold B_X12_wakenBy_17 at hf
    refine lv_iload (pc := 17) hx hb dX12_wakenBy_17 (lv_at hl 5 rfl) ?_
    refine lv_iload_n (pc := 19) hx hb dX12_wakenBy_19 rfl (lv_at hl 2 rfl) ?_
    refine lv_icmp_ge (pc := 20) (tgt := 54) hx hb dX12_wakenBy_20 (by decide) (fun c12 => ?_) (fun c12 => ?_)
    · have hf := if_t hf c12
      exact jk9 _ hf _ _ _ h (lv_sub hl [0, 1, 2, 3, 4] rfl)
    · have hf := if_f hf c12
      refine lv_iload_n (pc := 23) hx hb dX12_wakenBy_23 rfl (lv_at hl 1 rfl) ?_
      refine lv_iload (pc := 24) hx hb dX12_wakenBy_24 (lv_at hl 4 rfl) ?_
      refine lv_ishr (pc := 26) hx hb dX12_wakenBy_26 ?_
      refine lv_iconst (pc := 27) (v := 1) hx hb dX12_wakenBy_27 (by decide) ?_
      refine lv_iand (pc := 28) hx hb dX12_wakenBy_28 ?_
      refine lv_iconst (pc := 29) (v := 1) hx hb dX12_wakenBy_29 (by decide) ?_
      refine lv_icmp_ne (pc := 30) (tgt := 54) hx hb dX12_wakenBy_30 (by decide) (fun c13 => ?_) (fun c13 => ?_)
      · have hf := if_f hf c13
        exact jk9 _ hf _ _ _ h (lv_sub hl [0, 1, 2, 3, 4] rfl)
      · have hf := if_t hf c13
        refine lv_iload_n (pc := 33) hx hb dX12_wakenBy_33 rfl (lv_at hl 3 rfl) ?_
        refine lv_iconst (pc := 34) (v := 1) hx hb dX12_wakenBy_34 (by decide) ?_
        refine lv_iload (pc := 35) hx hb dX12_wakenBy_35 (lv_at hl 4 rfl) ?_
        refine lv_iload (pc := 37) hx hb dX12_wakenBy_37 (lv_at hl 5 rfl) ?_
        refine lv_iadd (pc := 39) hx hb dX12_wakenBy_39 ?_
        refine lv_aload_n (pc := 40) hx hb dX12_wakenBy_40 rfl (lv_at hl 0 rfl) ?_
        refine gM_0_10 (pc := 41) hx hb hts hown hK h fl_X12_78 dX12_wakenBy_41 ?_
        obtain ⟨hne, hf⟩ := ck_e hf
        refine lv_irem (pc := 44) hx hb dX12_wakenBy_44 hne ?_
        refine lv_ishl (pc := 45) hx hb dX12_wakenBy_45 ?_
        refine lv_ior (pc := 46) hx hb dX12_wakenBy_46 ?_
        obtain ⟨x14, ex14, hf⟩ := bs_e hf
        refine rTop ex14 ?_
        refine lv_istore_n (pc := 47) (lv' := [(3, .int x14), (0, .ref (a 0)), (1, .int p1), (2, .int p2), (4, .int x2), (5, .int x8)]) hx hb dX12_wakenBy_47 rfl hl (by decide) rfl (fun ls hl => ?_)
        refine lv_iinc (pc := 48) (v := x8 + 1) (lv' := [(5, .int (x8 + 1)), (3, .int x14), (0, .ref (a 0)), (1, .int p1), (2, .int p2), (4, .int x2)]) hx hb dX12_wakenBy_48 hl (k := 5) rfl rfl (by decide) rfl (fun ls hl => ?_)
        refine lv_goto (pc := 51) (tgt := 17) hx hb dX12_wakenBy_51 (by decide) ?_
        exact irec11 _ _ hf _ _ _ h (lv_sub hl [2, 3, 4, 1, 5, 0] rfl)
theorem k_X12_wakenBy {p : Program} {l : Launch} {e : Env} {R : Room} {s : State} {m : MethodId} {args : Array Value} {below : List Frame} {meth : Method} {c : Code} {H : Heap} {locs : List Loc} {cells slots : Nat} {Q : State → Prop} {pc : Nat} {ls : Array Slot} {rest : List Value} {cc : ByteArray} {D : va_G} {cI cZ : ClassId} {a : Nat → Nat} {u : St} {own : String} {index nL : Nat} {p1 : Int32} {p2 : Int32} {rr : Int32} (hx : p.tables.exec = Jvm.exec) (hb : c.code = cc) (hml : c.maxLocals = nL) (hown : s.vm.findClass own = some m.cls) (hts : ∀ w ∈ Gd, w.before args s = true) (hK : va_K D vwCl (tyM cI cZ) s) (hN : NB s) (hc : f_X12_wakenBy u p1 p2 = some rr) (hlk : Cond.methodLink own index yX12_wakenBy ∈ Gd) (hF : 1 ≤ R.frames) (hLo : 25 ≤ R.locals) (h : Hh D (AB 21 a s.heap.size) (wX 21 a (EM a cI cZ) u) s.heap H locs) (hsize : ls.size = nL) (hcs : cells ≤ R.cells ∧ slots ≤ R.slots) (hr : (rest.map fun v => v.category).sum ≤ 8) (hdg : decode cc pc = .ok (.invokevirtual index, 3)) (kk : ∀ (H1 : Heap) (locs1 : List Loc), Hh D (AB 21 a s.heap.size) (wX 21 a (EM a cI cZ) u) s.heap H1 locs1 → W p l e R s m args below meth c H1 locs1 cells slots Q (F0 m (pc + 3) ls (.int rr :: rest))) : W p l e R s m args below meth c H locs cells slots Q (F0 m pc ls (.int p2 :: .int p1 :: .ref (a 0) :: rest)) :=
  cVi (n := 2) hx hb hml hown hts hK hN (c_X12_wakenBy hc) (gdV hlk im_X12_wakenBy se_X12_wakenBy in_X12 co_X12_wakenBy) rfl (by decide +kernel) rfl hF hLo h hsize hcs (by decide) rfl rfl rfl hr hdg kk
def B_X12_shifts_101 (p2 : Int32) (u : St) (x11 : Int32) (k14 : Int32 → Option (Int32)) (rec18 : Int32 → Int32 → Option (Int32)) (x12 : Int32) (x13 : Int32) : Option (Int32) := if ((1 : Int32) <<< ((u.1 0 10) &&& 31)) ≤ x13 then k14 x12 else jq_1 (fun (x21 : Int32) => if x21 = 0 then rec18 x12 (x13 + 1) else b1 (f_X12_wakenBy u x13 p2) (fun (x23 : Int32) => if (x11 &&& (x23 ^^^ (-1 : Int32))) = 0 then rec18 x13 (x13 + 1) else rec18 x12 (x13 + 1))) (fun (k20 : Int32 → Option (Int32)) => if x12 < 0 then k20 1 else b1 (f_X12_ones u x13) (fun (x26 : Int32) => b1 (f_X12_ones u x12) (fun (x27 : Int32) => if x27 ≤ x26 then k20 0 else k20 1)))
def B_X12_shifts_55 (p1 : Int32) (u : St) (k10 : Int32 → Option (Int32)) (rec29 : Int32 → Int32 → Option (Int32)) (x8 : Int32) (x9 : Int32) : Option (Int32) := if (u.1 0 10) ≤ x9 then k10 x8 else cki x9 30 (if (u.1 7 (ix x9)) < p1 then rec29 (x8 ||| (0 : Int32)) (x9 + 1) else rec29 (x8 ||| ((1 : Int32) <<< (x9 &&& 31))) (x9 + 1))
def f_X12_shifts (u : St) (p1 : Int32) (p2 : Int32) (p3 : Int32) : Option (Int32) := b1 (f_X12_in u (Int32.toInt64 p1) 0 9) (fun (x1 : Int32) => if x1 = 0 then some ((-2)) else b1 (f_X12_in u (Int32.toInt64 p2) 1 30) (fun (x3 : Int32) => if x3 = 0 then some ((-2)) else b1 (f_X12_in u (Int32.toInt64 p3) 0 1) (fun (x5 : Int32) => if x5 = 0 then some ((-2)) else if (u.1 0 10) ≤ 12 then jq_1 (fun (x11 : Int32) => jq_1 (fun (x15 : Int32) => if p3 = 0 then b1 (f_X12_ones u x15) (fun (x17 : Int32) => some x17) else some x15) (fun (k14 : Int32 → Option (Int32)) => lq_2 (B_X12_shifts_101 p2 u x11 k14) FU ((-6)) 0)) (fun (k10 : Int32 → Option (Int32)) => lq_2 (B_X12_shifts_55 p1 u k10) FU 0 0) else some ((-4)))))
set_option maxRecDepth 100000 in
set_option maxHeartbeats 4000000 in
theorem c_X12_shifts {l : Launch} {D : va_G} {cI cZ : ClassId} {a : Nat → Nat} {u : St} {p1 : Int32} {p2 : Int32} {p3 : Int32} {rr : Int32} (hf : f_X12_shifts u p1 p2 p3 = some rr) : Ci l yX12_shifts cX12_shifts 8 (some .int) 1 25 D (tyM cI cZ) 21 a (EM a cI cZ) [.ref (a 0), .int p1, .int p2, .int p3] u rr u := by
  refine metI (by decide +kernel) (Nat.le_of_ble_eq_true rfl) ?_
  intro p e s m args below meth c R Q hx hb hml hown hts hF hLo hret hK hN h ls hl
  have hown : s.vm.findClass RX12 = some m.cls := hown
  have hl : lv_has ls 8 [(0, .ref (a 0)), (1, .int p1), (2, .int p2), (3, .int p3)] := hl
  unfold f_X12_shifts at hf
  refine lv_iload_n (pc := 0) hx hb dX12_shifts_0 rfl (lv_at hl 1 rfl) ?_
  refine lv_i2l (pc := 1) (v := Int32.toInt64 p1) hx hb dX12_shifts_1 rfl ?_
  refine lv_lconst (pc := 2) (v := 0) hx hb dX12_shifts_2 (by decide) ?_
  refine lv_ldc2 (pc := 3) hx hb hown (hts _ ctl_X12_121) dX12_shifts_3 ?_
  obtain ⟨x1, hc, hf⟩ := b1_e hf
  refine kS_X12_in (pc := 6) hx hb hml hown hts hK hN hc ml_X12_97 (Nat.le_trans (by decide) hF) (Nat.le_trans (by decide) hLo) h hl.1 ⟨Nat.zero_le _, Nat.zero_le _⟩ (Nat.le_of_ble_eq_true rfl) dX12_shifts_6 (fun H locs h => ?_)
  refine lv_if_eq (pc := 9) (tgt := 34) hx hb dX12_shifts_9 (by decide) (fun c2 => ?_) (fun c2 => ?_)
  · have hf := if_t hf c2
    refine lv_bipush (pc := 34) (v := (-2)) hx hb dX12_shifts_34 (by decide) ?_
    exact hret (so hf) rfl rfl dX12_shifts_36 h
  · have hf := if_f hf c2
    refine lv_iload_n (pc := 12) hx hb dX12_shifts_12 rfl (lv_at hl 2 rfl) ?_
    refine lv_i2l (pc := 13) (v := Int32.toInt64 p2) hx hb dX12_shifts_13 rfl ?_
    refine lv_lconst (pc := 14) (v := 1) hx hb dX12_shifts_14 (by decide) ?_
    refine lv_ldc2 (pc := 15) hx hb hown (hts _ ctl_X12_283) dX12_shifts_15 ?_
    obtain ⟨x3, hc, hf⟩ := b1_e hf
    refine kS_X12_in (pc := 18) hx hb hml hown hts hK hN hc ml_X12_97 (Nat.le_trans (by decide) hF) (Nat.le_trans (by decide) hLo) h hl.1 ⟨Nat.zero_le _, Nat.zero_le _⟩ (Nat.le_of_ble_eq_true rfl) dX12_shifts_18 (fun H locs h => ?_)
    refine lv_if_eq (pc := 21) (tgt := 34) hx hb dX12_shifts_21 (by decide) (fun c4 => ?_) (fun c4 => ?_)
    · have hf := if_t hf c4
      refine lv_bipush (pc := 34) (v := (-2)) hx hb dX12_shifts_34 (by decide) ?_
      exact hret (so hf) rfl rfl dX12_shifts_36 h
    · have hf := if_f hf c4
      refine lv_iload_n (pc := 24) hx hb dX12_shifts_24 rfl (lv_at hl 3 rfl) ?_
      refine lv_i2l (pc := 25) (v := Int32.toInt64 p3) hx hb dX12_shifts_25 rfl ?_
      refine lv_lconst (pc := 26) (v := 0) hx hb dX12_shifts_26 (by decide) ?_
      refine lv_lconst (pc := 27) (v := 1) hx hb dX12_shifts_27 (by decide) ?_
      obtain ⟨x5, hc, hf⟩ := b1_e hf
      refine kS_X12_in (pc := 28) hx hb hml hown hts hK hN hc ml_X12_97 (Nat.le_trans (by decide) hF) (Nat.le_trans (by decide) hLo) h hl.1 ⟨Nat.zero_le _, Nat.zero_le _⟩ (Nat.le_of_ble_eq_true rfl) dX12_shifts_28 (fun H locs h => ?_)
      refine lv_if_ne (pc := 31) (tgt := 37) hx hb dX12_shifts_31 (by decide) (fun c6 => ?_) (fun c6 => ?_)
      · have hf := if_f hf c6
        refine lv_aload_n (pc := 37) hx hb dX12_shifts_37 rfl (lv_at hl 0 rfl) ?_
        refine gM_0_10 (pc := 38) hx hb hts hown hK h fl_X12_78 dX12_shifts_38 ?_
        refine lv_bipush (pc := 41) (v := 12) hx hb dX12_shifts_41 (by decide) ?_
        refine lv_icmp_le (pc := 43) (tgt := 49) hx hb dX12_shifts_43 (by decide) (fun c7 => ?_) (fun c7 => ?_)
        · have hf := if_t hf c7
          refine lv_iconst (pc := 49) (v := 0) hx hb dX12_shifts_49 (by decide) ?_
          refine lv_istore (pc := 50) (lv' := [(4, .int 0), (0, .ref (a 0)), (1, .int p1), (2, .int p2), (3, .int p3)]) hx hb dX12_shifts_50 hl (by decide) rfl (fun ls hl => ?_)
          refine lv_iconst (pc := 52) (v := 0) hx hb dX12_shifts_52 (by decide) ?_
          refine lv_istore (pc := 53) (lv' := [(5, .int 0), (4, .int 0), (0, .ref (a 0)), (1, .int p1), (2, .int p2), (3, .int p3)]) hx hb dX12_shifts_53 hl (by decide) rfl (fun ls hl => ?_)
          obtain ⟨k10, hk10, hf⟩ := jq_1_e hf
          have jk10 : ∀ (x11 : Int32), k10 x11 = some rr → ∀ (H : Heap) (locs : List Loc) (ls : Array Slot), Hh D (AB 21 a s.heap.size) (wX 21 a (EM a cI cZ) u) s.heap H locs → lv_has ls 8 [(0, .ref (a 0)), (2, .int p2), (3, .int p3), (4, .int x11)] → W p l e R s m args below meth c H locs 0 0 Q (F0 m 94 ls []) := by
            intro x11 hf H locs ls h hl
            rw [hk10] at hf
            refine lv_bipush (pc := 94) (v := (-6)) hx hb dX12_shifts_94 (by decide) ?_
            refine lv_istore (pc := 96) (lv' := [(5, .int ((-6))), (0, .ref (a 0)), (2, .int p2), (3, .int p3), (4, .int x11)]) hx hb dX12_shifts_96 hl (by decide) rfl (fun ls hl => ?_)
            refine lv_iconst (pc := 98) (v := 0) hx hb dX12_shifts_98 (by decide) ?_
            refine lv_istore (pc := 99) (lv' := [(6, .int 0), (5, .int ((-6))), (0, .ref (a 0)), (2, .int p2), (3, .int p3), (4, .int x11)]) hx hb dX12_shifts_99 hl (by decide) rfl (fun ls hl => ?_)
            obtain ⟨k14, hk14, hf⟩ := jq_1_e hf
            have jk14 : ∀ (x15 : Int32), k14 x15 = some rr → ∀ (H : Heap) (locs : List Loc) (ls : Array Slot), Hh D (AB 21 a s.heap.size) (wX 21 a (EM a cI cZ) u) s.heap H locs → lv_has ls 8 [(3, .int p3), (5, .int x15)] → W p l e R s m args below meth c H locs 0 0 Q (F0 m 172 ls []) := by
              intro x15 hf H locs ls h hl
              rw [hk14] at hf
              refine lv_iload_n (pc := 172) hx hb dX12_shifts_172 rfl (lv_at hl 0 rfl) ?_
              refine lv_if_ne (pc := 173) (tgt := 184) hx hb dX12_shifts_173 (by decide) (fun c16 => ?_) (fun c16 => ?_)
              · have hf := if_f hf c16
                refine lv_iload (pc := 184) hx hb dX12_shifts_184 (lv_at hl 1 rfl) ?_
                exact hret (so hf) rfl rfl dX12_shifts_186 h
              · have hf := if_t hf c16
                refine lv_iload (pc := 176) hx hb dX12_shifts_176 (lv_at hl 1 rfl) ?_
                obtain ⟨x17, hc, hf⟩ := b1_e hf
                refine kS_X12_ones (pc := 178) hx hb hml hown hts hK hN hc ml_X12_125 (Nat.le_trans (by decide) hF) (Nat.le_trans (by decide) hLo) h hl.1 ⟨Nat.zero_le _, Nat.zero_le _⟩ (Nat.le_of_ble_eq_true rfl) dX12_shifts_178 (fun H locs h => ?_)
                refine lv_goto (pc := 181) (tgt := 186) hx hb dX12_shifts_181 (by decide) ?_
                exact hret (so hf) rfl rfl dX12_shifts_186 h
            refine lq_2_e (P := fun (x12 : Int32) (x13 : Int32) => ∀ (H : Heap) (locs : List Loc) (ls : Array Slot), Hh D (AB 21 a s.heap.size) (wX 21 a (EM a cI cZ) u) s.heap H locs → lv_has ls 8 [(0, .ref (a 0)), (2, .int p2), (3, .int p3), (4, .int x11), (5, .int x12), (6, .int x13)] → W p l e R s m args below meth c H locs 0 0 Q (F0 m 101 ls [])) ?_ FU _ _ hf _ _ _ h (lv_sub hl [2, 3, 4, 5, 1, 0] rfl)
            intro rec18 irec18 x12 x13 hf H locs ls h hl
            unfold B_X12_shifts_101 at hf
            refine lv_iload (pc := 101) hx hb dX12_shifts_101 (lv_at hl 5 rfl) ?_
            refine lv_iconst (pc := 103) (v := 1) hx hb dX12_shifts_103 (by decide) ?_
            refine lv_aload_n (pc := 104) hx hb dX12_shifts_104 rfl (lv_at hl 0 rfl) ?_
            refine gM_0_10 (pc := 105) hx hb hts hown hK h fl_X12_78 dX12_shifts_105 ?_
            refine lv_ishl (pc := 108) hx hb dX12_shifts_108 ?_
            refine lv_icmp_ge (pc := 109) (tgt := 172) hx hb dX12_shifts_109 (by decide) (fun c19 => ?_) (fun c19 => ?_)
            · have hf := if_t hf c19
              exact jk14 _ hf _ _ _ h (lv_sub hl [2, 4] rfl)
            · have hf := if_f hf c19
              refine lv_iload (pc := 112) hx hb dX12_shifts_112 (lv_at hl 4 rfl) ?_
              obtain ⟨k20, hk20, hf⟩ := jq_1_e hf
              have jk20 : ∀ (x21 : Int32), k20 x21 = some rr → ∀ (H : Heap) (locs : List Loc) (ls : Array Slot), Hh D (AB 21 a s.heap.size) (wX 21 a (EM a cI cZ) u) s.heap H locs → lv_has ls 8 [(0, .ref (a 0)), (2, .int p2), (3, .int p3), (4, .int x11), (5, .int x12), (6, .int x13)] → W p l e R s m args below meth c H locs 0 0 Q (F0 m 135 ls [.int x21]) := by
                intro x21 hf H locs ls h hl
                rw [hk20] at hf
                refine lv_istore (pc := 135) (lv' := [(7, .int x21), (0, .ref (a 0)), (2, .int p2), (3, .int p3), (4, .int x11), (5, .int x12), (6, .int x13)]) hx hb dX12_shifts_135 hl (by decide) rfl (fun ls hl => ?_)
                refine lv_iload (pc := 137) hx hb dX12_shifts_137 (lv_at hl 0 rfl) ?_
                refine lv_if_eq (pc := 139) (tgt := 162) hx hb dX12_shifts_139 (by decide) (fun c22 => ?_) (fun c22 => ?_)
                · have hf := if_t hf c22
                  refine lv_iload (pc := 162) hx hb dX12_shifts_162 (lv_at hl 5 rfl) ?_
                  refine lv_istore (pc := 164) (lv' := [(5, .int x12), (7, .int x21), (0, .ref (a 0)), (2, .int p2), (3, .int p3), (4, .int x11), (6, .int x13)]) hx hb dX12_shifts_164 hl (by decide) rfl (fun ls hl => ?_)
                  refine lv_iinc (pc := 166) (v := x13 + 1) (lv' := [(6, .int (x13 + 1)), (5, .int x12), (7, .int x21), (0, .ref (a 0)), (2, .int p2), (3, .int p3), (4, .int x11)]) hx hb dX12_shifts_166 hl (k := 6) rfl rfl (by decide) rfl (fun ls hl => ?_)
                  refine lv_goto (pc := 169) (tgt := 101) hx hb dX12_shifts_169 (by decide) ?_
                  exact irec18 _ _ hf _ _ _ h (lv_sub hl [3, 4, 5, 6, 1, 0] rfl)
                · have hf := if_f hf c22
                  refine lv_iload (pc := 142) hx hb dX12_shifts_142 (lv_at hl 4 rfl) ?_
                  refine lv_aload_n (pc := 144) hx hb dX12_shifts_144 rfl (lv_at hl 1 rfl) ?_
                  refine lv_iload (pc := 145) hx hb dX12_shifts_145 (lv_at hl 6 rfl) ?_
                  refine lv_iload_n (pc := 147) hx hb dX12_shifts_147 rfl (lv_at hl 2 rfl) ?_
                  obtain ⟨x23, hc, hf⟩ := b1_e hf
                  refine k_X12_wakenBy (pc := 148) hx hb hml hown hts hK hN hc ml_X12_288 (Nat.le_trans (by decide) hF) (Nat.le_trans (by decide) hLo) h hl.1 ⟨Nat.zero_le _, Nat.zero_le _⟩ (Nat.le_of_ble_eq_true rfl) dX12_shifts_148 (fun H locs h => ?_)
                  refine lv_iconst (pc := 151) (v := (-1)) hx hb dX12_shifts_151 (by decide) ?_
                  refine lv_ixor (pc := 152) hx hb dX12_shifts_152 ?_
                  refine lv_iand (pc := 153) hx hb dX12_shifts_153 ?_
                  refine lv_if_ne (pc := 154) (tgt := 162) hx hb dX12_shifts_154 (by decide) (fun c24 => ?_) (fun c24 => ?_)
                  · have hf := if_f hf c24
                    refine lv_iload (pc := 162) hx hb dX12_shifts_162 (lv_at hl 5 rfl) ?_
                    refine lv_istore (pc := 164) (lv' := [(5, .int x12), (7, .int x21), (0, .ref (a 0)), (2, .int p2), (3, .int p3), (4, .int x11), (6, .int x13)]) hx hb dX12_shifts_164 hl (by decide) rfl (fun ls hl => ?_)
                    refine lv_iinc (pc := 166) (v := x13 + 1) (lv' := [(6, .int (x13 + 1)), (5, .int x12), (7, .int x21), (0, .ref (a 0)), (2, .int p2), (3, .int p3), (4, .int x11)]) hx hb dX12_shifts_166 hl (k := 6) rfl rfl (by decide) rfl (fun ls hl => ?_)
                    refine lv_goto (pc := 169) (tgt := 101) hx hb dX12_shifts_169 (by decide) ?_
                    exact irec18 _ _ hf _ _ _ h (lv_sub hl [3, 4, 5, 6, 1, 0] rfl)
                  · have hf := if_t hf c24
                    refine lv_iload (pc := 157) hx hb dX12_shifts_157 (lv_at hl 6 rfl) ?_
                    refine lv_goto (pc := 159) (tgt := 164) hx hb dX12_shifts_159 (by decide) ?_
                    refine lv_istore (pc := 164) (lv' := [(5, .int x13), (7, .int x21), (0, .ref (a 0)), (2, .int p2), (3, .int p3), (4, .int x11), (6, .int x13)]) hx hb dX12_shifts_164 hl (by decide) rfl (fun ls hl => ?_)
                    refine lv_iinc (pc := 166) (v := x13 + 1) (lv' := [(6, .int (x13 + 1)), (5, .int x13), (7, .int x21), (0, .ref (a 0)), (2, .int p2), (3, .int p3), (4, .int x11)]) hx hb dX12_shifts_166 hl (k := 6) rfl rfl (by decide) rfl (fun ls hl => ?_)
                    refine lv_goto (pc := 169) (tgt := 101) hx hb dX12_shifts_169 (by decide) ?_
                    exact irec18 _ _ hf _ _ _ h (lv_sub hl [3, 4, 5, 6, 1, 0] rfl)
              refine lv_if_lt (pc := 114) (tgt := 130) hx hb dX12_shifts_114 (by decide) (fun c25 => ?_) (fun c25 => ?_)
              · have hf := if_t hf c25
                refine lv_iconst (pc := 130) (v := 1) hx hb dX12_shifts_130 (by decide) ?_
                refine lv_goto (pc := 131) (tgt := 135) hx hb dX12_shifts_131 (by decide) ?_
                exact jk20 _ hf _ _ _ h (lv_sub hl [0, 1, 2, 3, 4, 5] rfl)
              · have hf := if_f hf c25
                refine lv_iload (pc := 117) hx hb dX12_shifts_117 (lv_at hl 5 rfl) ?_
                obtain ⟨x26, hc, hf⟩ := b1_e hf
                refine kS_X12_ones (pc := 119) hx hb hml hown hts hK hN hc ml_X12_125 (Nat.le_trans (by decide) hF) (Nat.le_trans (by decide) hLo) h hl.1 ⟨Nat.zero_le _, Nat.zero_le _⟩ (Nat.le_of_ble_eq_true rfl) dX12_shifts_119 (fun H locs h => ?_)
                refine lv_iload (pc := 122) hx hb dX12_shifts_122 (lv_at hl 4 rfl) ?_
                obtain ⟨x27, hc, hf⟩ := b1_e hf
                refine kS_X12_ones (pc := 124) hx hb hml hown hts hK hN hc ml_X12_125 (Nat.le_trans (by decide) hF) (Nat.le_trans (by decide) hLo) h hl.1 ⟨Nat.zero_le _, Nat.zero_le _⟩ (Nat.le_of_ble_eq_true rfl) dX12_shifts_124 (fun H locs h => ?_)
                refine lv_icmp_ge (pc := 127) (tgt := 134) hx hb dX12_shifts_127 (by decide) (fun c28 => ?_) (fun c28 => ?_)
                · have hf := if_t hf c28
                  refine lv_iconst (pc := 134) (v := 0) hx hb dX12_shifts_134 (by decide) ?_
                  exact jk20 _ hf _ _ _ h (lv_sub hl [0, 1, 2, 3, 4, 5] rfl)
                · have hf := if_f hf c28
                  refine lv_iconst (pc := 130) (v := 1) hx hb dX12_shifts_130 (by decide) ?_
                  refine lv_goto (pc := 131) (tgt := 135) hx hb dX12_shifts_131 (by decide) ?_
                  exact jk20 _ hf _ _ _ h (lv_sub hl [0, 1, 2, 3, 4, 5] rfl)
          refine lq_2_e (P := fun (x8 : Int32) (x9 : Int32) => ∀ (H : Heap) (locs : List Loc) (ls : Array Slot), Hh D (AB 21 a s.heap.size) (wX 21 a (EM a cI cZ) u) s.heap H locs → lv_has ls 8 [(0, .ref (a 0)), (1, .int p1), (2, .int p2), (3, .int p3), (4, .int x8), (5, .int x9)] → W p l e R s m args below meth c H locs 0 0 Q (F0 m 55 ls [])) ?_ FU _ _ hf _ _ _ h (lv_sub hl [2, 3, 4, 5, 1, 0] rfl)
          intro rec29 irec29 x8 x9 hf H locs ls h hl
          unfold B_X12_shifts_55 at hf
          refine lv_iload (pc := 55) hx hb dX12_shifts_55 (lv_at hl 5 rfl) ?_
          refine lv_aload_n (pc := 57) hx hb dX12_shifts_57 rfl (lv_at hl 0 rfl) ?_
          refine gM_0_10 (pc := 58) hx hb hts hown hK h fl_X12_78 dX12_shifts_58 ?_
          refine lv_icmp_ge (pc := 61) (tgt := 94) hx hb dX12_shifts_61 (by decide) (fun c30 => ?_) (fun c30 => ?_)
          · have hf := if_t hf c30
            exact jk10 _ hf _ _ _ h (lv_sub hl [0, 2, 3, 4] rfl)
          · have hf := if_f hf c30
            refine lv_iload (pc := 64) hx hb dX12_shifts_64 (lv_at hl 4 rfl) ?_
            refine lv_aload_n (pc := 66) hx hb dX12_shifts_66 rfl (lv_at hl 0 rfl) ?_
            refine gM_0_9 (pc := 67) hx hb hts hown hK h fl_X12_28 dX12_shifts_67 ?_
            refine lv_iload (pc := 70) hx hb dX12_shifts_70 (lv_at hl 5 rfl) ?_
            obtain ⟨hin, hf⟩ := cki_e hf
            refine gM_7 (pc := 72) hx hb hK h hin dX12_shifts_72 ?_
            refine lv_iload_n (pc := 73) hx hb dX12_shifts_73 rfl (lv_at hl 1 rfl) ?_
            refine lv_icmp_lt (pc := 74) (tgt := 84) hx hb dX12_shifts_74 (by decide) (fun c31 => ?_) (fun c31 => ?_)
            · have hf := if_t hf c31
              refine lv_iconst (pc := 84) (v := 0) hx hb dX12_shifts_84 (by decide) ?_
              refine lv_ior (pc := 85) hx hb dX12_shifts_85 ?_
              refine lv_istore (pc := 86) (lv' := [(4, .int (x8 ||| (0 : Int32))), (0, .ref (a 0)), (1, .int p1), (2, .int p2), (3, .int p3), (5, .int x9)]) hx hb dX12_shifts_86 hl (by decide) rfl (fun ls hl => ?_)
              refine lv_iinc (pc := 88) (v := x9 + 1) (lv' := [(5, .int (x9 + 1)), (4, .int (x8 ||| (0 : Int32))), (0, .ref (a 0)), (1, .int p1), (2, .int p2), (3, .int p3)]) hx hb dX12_shifts_88 hl (k := 5) rfl rfl (by decide) rfl (fun ls hl => ?_)
              refine lv_goto (pc := 91) (tgt := 55) hx hb dX12_shifts_91 (by decide) ?_
              exact irec29 _ _ hf _ _ _ h (lv_sub hl [2, 3, 4, 5, 1, 0] rfl)
            · have hf := if_f hf c31
              refine lv_iconst (pc := 77) (v := 1) hx hb dX12_shifts_77 (by decide) ?_
              refine lv_iload (pc := 78) hx hb dX12_shifts_78 (lv_at hl 5 rfl) ?_
              refine lv_ishl (pc := 80) hx hb dX12_shifts_80 ?_
              refine lv_goto (pc := 81) (tgt := 85) hx hb dX12_shifts_81 (by decide) ?_
              refine lv_ior (pc := 85) hx hb dX12_shifts_85 ?_
              refine lv_istore (pc := 86) (lv' := [(4, .int (x8 ||| ((1 : Int32) <<< (x9 &&& 31)))), (0, .ref (a 0)), (1, .int p1), (2, .int p2), (3, .int p3), (5, .int x9)]) hx hb dX12_shifts_86 hl (by decide) rfl (fun ls hl => ?_)
              refine lv_iinc (pc := 88) (v := x9 + 1) (lv' := [(5, .int (x9 + 1)), (4, .int (x8 ||| ((1 : Int32) <<< (x9 &&& 31)))), (0, .ref (a 0)), (1, .int p1), (2, .int p2), (3, .int p3)]) hx hb dX12_shifts_88 hl (k := 5) rfl rfl (by decide) rfl (fun ls hl => ?_)
              refine lv_goto (pc := 91) (tgt := 55) hx hb dX12_shifts_91 (by decide) ?_
              exact irec29 _ _ hf _ _ _ h (lv_sub hl [2, 3, 4, 5, 1, 0] rfl)
        · have hf := if_f hf c7
          refine lv_bipush (pc := 46) (v := (-4)) hx hb dX12_shifts_46 (by decide) ?_
          exact hret (so hf) rfl rfl dX12_shifts_48 h
      · have hf := if_t hf c6
        refine lv_bipush (pc := 34) (v := (-2)) hx hb dX12_shifts_34 (by decide) ?_
        exact hret (so hf) rfl rfl dX12_shifts_36 h
theorem k_X12_shifts {p : Program} {l : Launch} {e : Env} {R : Room} {s : State} {m : MethodId} {args : Array Value} {below : List Frame} {meth : Method} {c : Code} {H : Heap} {locs : List Loc} {cells slots : Nat} {Q : State → Prop} {pc : Nat} {ls : Array Slot} {rest : List Value} {cc : ByteArray} {D : va_G} {cI cZ : ClassId} {a : Nat → Nat} {u : St} {own : String} {index nL : Nat} {p1 : Int32} {p2 : Int32} {p3 : Int32} {rr : Int32} (hx : p.tables.exec = Jvm.exec) (hb : c.code = cc) (hml : c.maxLocals = nL) (hown : s.vm.findClass own = some m.cls) (hts : ∀ w ∈ Gd, w.before args s = true) (hK : va_K D vwCl (tyM cI cZ) s) (hN : NB s) (hc : f_X12_shifts u p1 p2 p3 = some rr) (hlk : Cond.methodLink own index yX12_shifts ∈ Gd) (hF : 2 ≤ R.frames) (hLo : 52 ≤ R.locals) (h : Hh D (AB 21 a s.heap.size) (wX 21 a (EM a cI cZ) u) s.heap H locs) (hsize : ls.size = nL) (hcs : cells ≤ R.cells ∧ slots ≤ R.slots) (hr : (rest.map fun v => v.category).sum ≤ 8) (hdg : decode cc pc = .ok (.invokevirtual index, 3)) (kk : ∀ (H1 : Heap) (locs1 : List Loc), Hh D (AB 21 a s.heap.size) (wX 21 a (EM a cI cZ) u) s.heap H1 locs1 → W p l e R s m args below meth c H1 locs1 cells slots Q (F0 m (pc + 3) ls (.int rr :: rest))) : W p l e R s m args below meth c H locs cells slots Q (F0 m pc ls (.int p3 :: .int p2 :: .int p1 :: .ref (a 0) :: rest)) :=
  cVi (n := 3) hx hb hml hown hts hK hN (c_X12_shifts hc) (gdV hlk im_X12_shifts se_X12_shifts in_X12 co_X12_shifts) rfl (by decide +kernel) rfl hF hLo h hsize hcs (by decide) rfl rfl rfl hr hdg kk
def B_X12_drought_15 (p1 : Int32) (k5 : St → Option (Int32 × St)) (rec8 : St → Option (Int32 × St)) (u4 : St) : Option (Int32 × St) := b1 (f_X12_lostBehind u4 p1) (fun (x9 : Int32) => if x9 ≤ 0 then k5 u4 else bs (sI u4 0 22 ((u4.1 0 22) + (1 : Int32))) (fun u11 : St => rec8 u11))
def f_X12_drought (u : St) (p1 : Int32) : Option (Int32 × St) := b1 (f_X12_isDays u p1) (fun (x1 : Int32) => if x1 = 0 then some ((-2), u) else bs (sI u 0 22 0) (fun u3 : St => jq_1 (fun (u6 : St) => bs (sI u6 0 22 0) (fun u7 : St => some (u6.1 0 22, u7))) (fun (k5 : St → Option (Int32 × St)) => lq_1 (B_X12_drought_15 p1 k5) FU u3)))
set_option maxRecDepth 100000 in
set_option maxHeartbeats 4000000 in
theorem c_X12_drought {l : Launch} {D : va_G} {cI cZ : ClassId} {a : Nat → Nat} {u : St} {p1 : Int32} {rr : Int32} {uu : St} (hf : f_X12_drought u p1 = some (rr, uu)) : Ci l yX12_drought cX12_drought 3 (some .int) 6 139 D (tyM cI cZ) 21 a (EM a cI cZ) [.ref (a 0), .int p1] u rr uu := by
  refine metI (by decide +kernel) (Nat.le_of_ble_eq_true rfl) ?_
  intro p e s m args below meth c R Q hx hb hml hown hts hF hLo hret hK hN h ls hl
  have hown : s.vm.findClass RX12 = some m.cls := hown
  have hl : lv_has ls 3 [(0, .ref (a 0)), (1, .int p1)] := hl
  unfold f_X12_drought at hf
  refine lv_iload_n (pc := 0) hx hb dX12_drought_0 rfl (lv_at hl 1 rfl) ?_
  obtain ⟨x1, hc, hf⟩ := b1_e hf
  refine kS_X12_isDays (pc := 1) hx hb hml hown hts hK hN hc ml_X12_177 (Nat.le_trans (by decide) hF) (Nat.le_trans (by decide) hLo) h hl.1 ⟨Nat.zero_le _, Nat.zero_le _⟩ (Nat.le_of_ble_eq_true rfl) dX12_drought_1 (fun H locs h => ?_)
  refine lv_if_ne (pc := 4) (tgt := 10) hx hb dX12_drought_4 (by decide) (fun c2 => ?_) (fun c2 => ?_)
  · have hf := if_f hf c2
    refine lv_aload_n (pc := 10) hx hb dX12_drought_10 rfl (lv_at hl 0 rfl) ?_
    refine lv_iconst (pc := 11) (v := 0) hx hb dX12_drought_11 (by decide) ?_
    refine pM_0_22 (pc := 12) hx hb hts hown hK h fl_X12_155 dX12_drought_12 (fun H locs h => ?_)
    obtain ⟨u3, eu3, hf⟩ := bs_e hf
    rw [← eu3] at h
    obtain ⟨k5, hk5, hf⟩ := jq_1_e hf
    have jk5 : ∀ (u6 : St), k5 u6 = some (rr, uu) → ∀ (H : Heap) (locs : List Loc) (ls : Array Slot), Hh D (AB 21 a s.heap.size) (wX 21 a (EM a cI cZ) u6) s.heap H locs → lv_has ls 3 [(0, .ref (a 0))] → W p l e R s m args below meth c H locs 0 0 Q (F0 m 36 ls []) := by
      intro u6 hf H locs ls h hl
      rw [hk5] at hf
      refine lv_aload_n (pc := 36) hx hb dX12_drought_36 rfl (lv_at hl 0 rfl) ?_
      refine gM_0_22 (pc := 37) hx hb hts hown hK h fl_X12_155 dX12_drought_37 ?_
      refine lv_istore_n (pc := 40) (lv' := [(2, .int (u6.1 0 22)), (0, .ref (a 0))]) hx hb dX12_drought_40 rfl hl (by decide) rfl (fun ls hl => ?_)
      refine lv_aload_n (pc := 41) hx hb dX12_drought_41 rfl (lv_at hl 1 rfl) ?_
      refine lv_iconst (pc := 42) (v := 0) hx hb dX12_drought_42 (by decide) ?_
      refine pM_0_22 (pc := 43) hx hb hts hown hK h fl_X12_155 dX12_drought_43 (fun H locs h => ?_)
      obtain ⟨u7, eu7, hf⟩ := bs_e hf
      rw [← eu7] at h
      refine lv_iload_n (pc := 46) hx hb dX12_drought_46 rfl (lv_at hl 0 rfl) ?_
      exact hret (so1 hf) rfl (so2 hf) dX12_drought_47 h
    refine lq_1_e (P := fun (u4 : St) => ∀ (H : Heap) (locs : List Loc) (ls : Array Slot), Hh D (AB 21 a s.heap.size) (wX 21 a (EM a cI cZ) u4) s.heap H locs → lv_has ls 3 [(0, .ref (a 0)), (1, .int p1)] → W p l e R s m args below meth c H locs 0 0 Q (F0 m 15 ls [])) ?_ FU _ hf _ _ _ h (lv_sub hl [0, 1] rfl)
    intro rec8 irec8 u4 hf H locs ls h hl
    unfold B_X12_drought_15 at hf
    refine lv_aload_n (pc := 15) hx hb dX12_drought_15 rfl (lv_at hl 0 rfl) ?_
    refine lv_iload_n (pc := 16) hx hb dX12_drought_16 rfl (lv_at hl 1 rfl) ?_
    obtain ⟨x9, hc, hf⟩ := b1_e hf
    refine k_X12_lostBehind (pc := 17) hx hb hml hown hts hK hN hc ml_X12_220 (Nat.le_trans (by decide) hF) (Nat.le_trans (by decide) hLo) h hl.1 ⟨Nat.zero_le _, Nat.zero_le _⟩ (Nat.le_of_ble_eq_true rfl) dX12_drought_17 (fun H locs h => ?_)
    refine lv_if_le (pc := 20) (tgt := 36) hx hb dX12_drought_20 (by decide) (fun c10 => ?_) (fun c10 => ?_)
    · have hf := if_t hf c10
      exact jk5 _ hf _ _ _ h (lv_sub hl [0] rfl)
    · have hf := if_f hf c10
      refine lv_aload_n (pc := 23) hx hb dX12_drought_23 rfl (lv_at hl 0 rfl) ?_
      refine lv_dup (pc := 24) hx hb dX12_drought_24 rfl ?_
      refine gM_0_22 (pc := 25) hx hb hts hown hK h fl_X12_155 dX12_drought_25 ?_
      refine lv_iconst (pc := 28) (v := 1) hx hb dX12_drought_28 (by decide) ?_
      refine lv_iadd (pc := 29) hx hb dX12_drought_29 ?_
      refine pM_0_22 (pc := 30) hx hb hts hown hK h fl_X12_155 dX12_drought_30 (fun H locs h => ?_)
      obtain ⟨u11, eu11, hf⟩ := bs_e hf
      rw [← eu11] at h
      refine lv_goto (pc := 33) (tgt := 15) hx hb dX12_drought_33 (by decide) ?_
      exact irec8 _ hf _ _ _ h (lv_sub hl [0, 1] rfl)
  · have hf := if_t hf c2
    refine lv_bipush (pc := 7) (v := (-2)) hx hb dX12_drought_7 (by decide) ?_
    exact hret (so1 hf) rfl (so2 hf) dX12_drought_9 h
theorem k_X12_drought {p : Program} {l : Launch} {e : Env} {R : Room} {s : State} {m : MethodId} {args : Array Value} {below : List Frame} {meth : Method} {c : Code} {H : Heap} {locs : List Loc} {cells slots : Nat} {Q : State → Prop} {pc : Nat} {ls : Array Slot} {rest : List Value} {cc : ByteArray} {D : va_G} {cI cZ : ClassId} {a : Nat → Nat} {u : St} {own : String} {index nL : Nat} {p1 : Int32} {rr : Int32} {uu : St} (hx : p.tables.exec = Jvm.exec) (hb : c.code = cc) (hml : c.maxLocals = nL) (hown : s.vm.findClass own = some m.cls) (hts : ∀ w ∈ Gd, w.before args s = true) (hK : va_K D vwCl (tyM cI cZ) s) (hN : NB s) (hc : f_X12_drought u p1 = some (rr, uu)) (hlk : Cond.methodLink own index yX12_drought ∈ Gd) (hF : 7 ≤ R.frames) (hLo : 161 ≤ R.locals) (h : Hh D (AB 21 a s.heap.size) (wX 21 a (EM a cI cZ) u) s.heap H locs) (hsize : ls.size = nL) (hcs : cells ≤ R.cells ∧ slots ≤ R.slots) (hr : (rest.map fun v => v.category).sum ≤ 8) (hdg : decode cc pc = .ok (.invokevirtual index, 3)) (kk : ∀ (H1 : Heap) (locs1 : List Loc), Hh D (AB 21 a s.heap.size) (wX 21 a (EM a cI cZ) uu) s.heap H1 locs1 → W p l e R s m args below meth c H1 locs1 cells slots Q (F0 m (pc + 3) ls (.int rr :: rest))) : W p l e R s m args below meth c H locs cells slots Q (F0 m pc ls (.int p1 :: .ref (a 0) :: rest)) :=
  cVi (n := 1) hx hb hml hown hts hK hN (c_X12_drought hc) (gdV hlk im_X12_drought se_X12_drought in_X12 co_X12_drought) rfl (by decide +kernel) rfl hF hLo h hsize hcs (by decide) rfl rfl rfl hr hdg kk
def B_X12_quiet_17 (p1 : Int32) (u : St) (k6 : Int32 → Option (Int32)) (rec9 : Int32 → Int32 → Int32 → Option (Int32)) (x3 : Int32) (x4 : Int32) (x5 : Int32) : Option (Int32) := if ((2 : Int32) * (u.1 0 10)) ≤ x5 then k6 x3 else b1 (f_X12_breathOn u p1 x5) (fun (x11 : Int32) => jq_1 (fun (x13 : Int32) => if x13 ≤ x3 then rec9 x3 x13 (x5 + 1) else rec9 x13 x13 (x5 + 1)) (fun (k12 : Int32 → Option (Int32)) => if x11 = 0 then k12 (x4 + (1 : Int32)) else k12 0))
def f_X12_quiet (u : St) (p1 : Int32) : Option (Int32) := b1 (f_X12_isCellar u p1) (fun (x1 : Int32) => if x1 = 0 then some ((-1)) else jq_1 (fun (x7 : Int32) => if x7 < (u.1 0 10) then some x7 else some ((-6))) (fun (k6 : Int32 → Option (Int32)) => lq_3 (B_X12_quiet_17 p1 u k6) FU 0 0 0))
set_option maxRecDepth 100000 in
set_option maxHeartbeats 4000000 in
theorem c_X12_quiet {l : Launch} {D : va_G} {cI cZ : ClassId} {a : Nat → Nat} {u : St} {p1 : Int32} {rr : Int32} (hf : f_X12_quiet u p1 = some rr) : Ci l yX12_quiet cX12_quiet 5 (some .int) 2 46 D (tyM cI cZ) 21 a (EM a cI cZ) [.ref (a 0), .int p1] u rr u := by
  refine metI (by decide +kernel) (Nat.le_of_ble_eq_true rfl) ?_
  intro p e s m args below meth c R Q hx hb hml hown hts hF hLo hret hK hN h ls hl
  have hown : s.vm.findClass RX12 = some m.cls := hown
  have hl : lv_has ls 5 [(0, .ref (a 0)), (1, .int p1)] := hl
  unfold f_X12_quiet at hf
  refine lv_aload_n (pc := 0) hx hb dX12_quiet_0 rfl (lv_at hl 0 rfl) ?_
  refine lv_iload_n (pc := 1) hx hb dX12_quiet_1 rfl (lv_at hl 1 rfl) ?_
  obtain ⟨x1, hc, hf⟩ := b1_e hf
  refine k_X12_isCellar (pc := 2) hx hb hml hown hts hK hN hc ml_X12_112 (Nat.le_trans (by decide) hF) (Nat.le_trans (by decide) hLo) h hl.1 ⟨Nat.zero_le _, Nat.zero_le _⟩ (Nat.le_of_ble_eq_true rfl) dX12_quiet_2 (fun H locs h => ?_)
  refine lv_if_ne (pc := 5) (tgt := 10) hx hb dX12_quiet_5 (by decide) (fun c2 => ?_) (fun c2 => ?_)
  · have hf := if_f hf c2
    refine lv_iconst (pc := 10) (v := 0) hx hb dX12_quiet_10 (by decide) ?_
    refine lv_istore_n (pc := 11) (lv' := [(2, .int 0), (0, .ref (a 0)), (1, .int p1)]) hx hb dX12_quiet_11 rfl hl (by decide) rfl (fun ls hl => ?_)
    refine lv_iconst (pc := 12) (v := 0) hx hb dX12_quiet_12 (by decide) ?_
    refine lv_istore_n (pc := 13) (lv' := [(3, .int 0), (2, .int 0), (0, .ref (a 0)), (1, .int p1)]) hx hb dX12_quiet_13 rfl hl (by decide) rfl (fun ls hl => ?_)
    refine lv_iconst (pc := 14) (v := 0) hx hb dX12_quiet_14 (by decide) ?_
    refine lv_istore (pc := 15) (lv' := [(4, .int 0), (3, .int 0), (2, .int 0), (0, .ref (a 0)), (1, .int p1)]) hx hb dX12_quiet_15 hl (by decide) rfl (fun ls hl => ?_)
    obtain ⟨k6, hk6, hf⟩ := jq_1_e hf
    have jk6 : ∀ (x7 : Int32), k6 x7 = some rr → ∀ (H : Heap) (locs : List Loc) (ls : Array Slot), Hh D (AB 21 a s.heap.size) (wX 21 a (EM a cI cZ) u) s.heap H locs → lv_has ls 5 [(0, .ref (a 0)), (2, .int x7)] → W p l e R s m args below meth c H locs 0 0 Q (F0 m 63 ls []) := by
      intro x7 hf H locs ls h hl
      rw [hk6] at hf
      refine lv_iload_n (pc := 63) hx hb dX12_quiet_63 rfl (lv_at hl 1 rfl) ?_
      refine lv_aload_n (pc := 64) hx hb dX12_quiet_64 rfl (lv_at hl 0 rfl) ?_
      refine gM_0_10 (pc := 65) hx hb hts hown hK h fl_X12_78 dX12_quiet_65 ?_
      refine lv_icmp_lt (pc := 68) (tgt := 76) hx hb dX12_quiet_68 (by decide) (fun c8 => ?_) (fun c8 => ?_)
      · have hf := if_t hf c8
        refine lv_iload_n (pc := 76) hx hb dX12_quiet_76 rfl (lv_at hl 1 rfl) ?_
        exact hret (so hf) rfl rfl dX12_quiet_77 h
      · have hf := if_f hf c8
        refine lv_bipush (pc := 71) (v := (-6)) hx hb dX12_quiet_71 (by decide) ?_
        refine lv_goto (pc := 73) (tgt := 77) hx hb dX12_quiet_73 (by decide) ?_
        exact hret (so hf) rfl rfl dX12_quiet_77 h
    refine lq_3_e (P := fun (x3 : Int32) (x4 : Int32) (x5 : Int32) => ∀ (H : Heap) (locs : List Loc) (ls : Array Slot), Hh D (AB 21 a s.heap.size) (wX 21 a (EM a cI cZ) u) s.heap H locs → lv_has ls 5 [(0, .ref (a 0)), (1, .int p1), (2, .int x3), (3, .int x4), (4, .int x5)] → W p l e R s m args below meth c H locs 0 0 Q (F0 m 17 ls [])) ?_ FU _ _ _ hf _ _ _ h (lv_sub hl [3, 4, 2, 1, 0] rfl)
    intro rec9 irec9 x3 x4 x5 hf H locs ls h hl
    unfold B_X12_quiet_17 at hf
    refine lv_iload (pc := 17) hx hb dX12_quiet_17 (lv_at hl 4 rfl) ?_
    refine lv_iconst (pc := 19) (v := 2) hx hb dX12_quiet_19 (by decide) ?_
    refine lv_aload_n (pc := 20) hx hb dX12_quiet_20 rfl (lv_at hl 0 rfl) ?_
    refine gM_0_10 (pc := 21) hx hb hts hown hK h fl_X12_78 dX12_quiet_21 ?_
    refine lv_imul (pc := 24) hx hb dX12_quiet_24 ?_
    refine lv_icmp_ge (pc := 25) (tgt := 63) hx hb dX12_quiet_25 (by decide) (fun c10 => ?_) (fun c10 => ?_)
    · have hf := if_t hf c10
      exact jk6 _ hf _ _ _ h (lv_sub hl [0, 2] rfl)
    · have hf := if_f hf c10
      refine lv_aload_n (pc := 28) hx hb dX12_quiet_28 rfl (lv_at hl 0 rfl) ?_
      refine lv_iload_n (pc := 29) hx hb dX12_quiet_29 rfl (lv_at hl 1 rfl) ?_
      refine lv_iload (pc := 30) hx hb dX12_quiet_30 (lv_at hl 4 rfl) ?_
      obtain ⟨x11, hc, hf⟩ := b1_e hf
      refine k_X12_breathOn (pc := 32) hx hb hml hown hts hK hN hc ml_X12_161 (Nat.le_trans (by decide) hF) (Nat.le_trans (by decide) hLo) h hl.1 ⟨Nat.zero_le _, Nat.zero_le _⟩ (Nat.le_of_ble_eq_true rfl) dX12_quiet_32 (fun H locs h => ?_)
      obtain ⟨k12, hk12, hf⟩ := jq_1_e hf
      have jk12 : ∀ (x13 : Int32), k12 x13 = some rr → ∀ (H : Heap) (locs : List Loc) (ls : Array Slot), Hh D (AB 21 a s.heap.size) (wX 21 a (EM a cI cZ) u) s.heap H locs → lv_has ls 5 [(0, .ref (a 0)), (1, .int p1), (2, .int x3), (4, .int x5)] → W p l e R s m args below meth c H locs 0 0 Q (F0 m 45 ls [.int x13]) := by
        intro x13 hf H locs ls h hl
        rw [hk12] at hf
        refine lv_istore_n (pc := 45) (lv' := [(3, .int x13), (0, .ref (a 0)), (1, .int p1), (2, .int x3), (4, .int x5)]) hx hb dX12_quiet_45 rfl hl (by decide) rfl (fun ls hl => ?_)
        refine lv_iload_n (pc := 46) hx hb dX12_quiet_46 rfl (lv_at hl 0 rfl) ?_
        refine lv_iload_n (pc := 47) hx hb dX12_quiet_47 rfl (lv_at hl 3 rfl) ?_
        refine lv_icmp_le (pc := 48) (tgt := 55) hx hb dX12_quiet_48 (by decide) (fun c14 => ?_) (fun c14 => ?_)
        · have hf := if_t hf c14
          refine lv_iload_n (pc := 55) hx hb dX12_quiet_55 rfl (lv_at hl 3 rfl) ?_
          refine lv_istore_n (pc := 56) (lv' := [(2, .int x3), (3, .int x13), (0, .ref (a 0)), (1, .int p1), (4, .int x5)]) hx hb dX12_quiet_56 rfl hl (by decide) rfl (fun ls hl => ?_)
          refine lv_iinc (pc := 57) (v := x5 + 1) (lv' := [(4, .int (x5 + 1)), (2, .int x3), (3, .int x13), (0, .ref (a 0)), (1, .int p1)]) hx hb dX12_quiet_57 hl (k := 4) rfl rfl (by decide) rfl (fun ls hl => ?_)
          refine lv_goto (pc := 60) (tgt := 17) hx hb dX12_quiet_60 (by decide) ?_
          exact irec9 _ _ _ hf _ _ _ h (lv_sub hl [3, 4, 1, 2, 0] rfl)
        · have hf := if_f hf c14
          refine lv_iload_n (pc := 51) hx hb dX12_quiet_51 rfl (lv_at hl 0 rfl) ?_
          refine lv_goto (pc := 52) (tgt := 56) hx hb dX12_quiet_52 (by decide) ?_
          refine lv_istore_n (pc := 56) (lv' := [(2, .int x13), (3, .int x13), (0, .ref (a 0)), (1, .int p1), (4, .int x5)]) hx hb dX12_quiet_56 rfl hl (by decide) rfl (fun ls hl => ?_)
          refine lv_iinc (pc := 57) (v := x5 + 1) (lv' := [(4, .int (x5 + 1)), (2, .int x13), (3, .int x13), (0, .ref (a 0)), (1, .int p1)]) hx hb dX12_quiet_57 hl (k := 4) rfl rfl (by decide) rfl (fun ls hl => ?_)
          refine lv_goto (pc := 60) (tgt := 17) hx hb dX12_quiet_60 (by decide) ?_
          exact irec9 _ _ _ hf _ _ _ h (lv_sub hl [3, 4, 1, 2, 0] rfl)
      refine lv_if_ne (pc := 35) (tgt := 44) hx hb dX12_quiet_35 (by decide) (fun c15 => ?_) (fun c15 => ?_)
      · have hf := if_f hf c15
        refine lv_iconst (pc := 44) (v := 0) hx hb dX12_quiet_44 (by decide) ?_
        exact jk12 _ hf _ _ _ h (lv_sub hl [0, 1, 2, 4] rfl)
      · have hf := if_t hf c15
        refine lv_iload_n (pc := 38) hx hb dX12_quiet_38 rfl (lv_at hl 3 rfl) ?_
        refine lv_iconst (pc := 39) (v := 1) hx hb dX12_quiet_39 (by decide) ?_
        refine lv_iadd (pc := 40) hx hb dX12_quiet_40 ?_
        refine lv_goto (pc := 41) (tgt := 45) hx hb dX12_quiet_41 (by decide) ?_
        exact jk12 _ hf _ _ _ h (lv_sub hl [0, 1, 2, 4] rfl)
  · have hf := if_t hf c2
    refine lv_iconst (pc := 8) (v := (-1)) hx hb dX12_quiet_8 (by decide) ?_
    exact hret (so hf) rfl rfl dX12_quiet_9 h
theorem k_X12_quiet {p : Program} {l : Launch} {e : Env} {R : Room} {s : State} {m : MethodId} {args : Array Value} {below : List Frame} {meth : Method} {c : Code} {H : Heap} {locs : List Loc} {cells slots : Nat} {Q : State → Prop} {pc : Nat} {ls : Array Slot} {rest : List Value} {cc : ByteArray} {D : va_G} {cI cZ : ClassId} {a : Nat → Nat} {u : St} {own : String} {index nL : Nat} {p1 : Int32} {rr : Int32} (hx : p.tables.exec = Jvm.exec) (hb : c.code = cc) (hml : c.maxLocals = nL) (hown : s.vm.findClass own = some m.cls) (hts : ∀ w ∈ Gd, w.before args s = true) (hK : va_K D vwCl (tyM cI cZ) s) (hN : NB s) (hc : f_X12_quiet u p1 = some rr) (hlk : Cond.methodLink own index yX12_quiet ∈ Gd) (hF : 3 ≤ R.frames) (hLo : 70 ≤ R.locals) (h : Hh D (AB 21 a s.heap.size) (wX 21 a (EM a cI cZ) u) s.heap H locs) (hsize : ls.size = nL) (hcs : cells ≤ R.cells ∧ slots ≤ R.slots) (hr : (rest.map fun v => v.category).sum ≤ 8) (hdg : decode cc pc = .ok (.invokevirtual index, 3)) (kk : ∀ (H1 : Heap) (locs1 : List Loc), Hh D (AB 21 a s.heap.size) (wX 21 a (EM a cI cZ) u) s.heap H1 locs1 → W p l e R s m args below meth c H1 locs1 cells slots Q (F0 m (pc + 3) ls (.int rr :: rest))) : W p l e R s m args below meth c H locs cells slots Q (F0 m pc ls (.int p1 :: .ref (a 0) :: rest)) :=
  cVi (n := 1) hx hb hml hown hts hK hN (c_X12_quiet hc) (gdV hlk im_X12_quiet se_X12_quiet in_X12 co_X12_quiet) rfl (by decide +kernel) rfl hF hLo h hsize hcs (by decide) rfl rfl rfl hr hdg kk
def B_X12_isPeriod_17 (p1 : Int32) (u : St) (k5 : Int32 → Option (Int32)) (rec7 : Int32 → Int32 → Option (Int32)) (x3 : Int32) (x4 : Int32) : Option (Int32) := if (u.1 0 10) ≤ x4 then k5 x3 else if x3 = 0 then rec7 0 (x4 + 1) else cki x4 30 (cki (x4 - p1) 30 (if (u.1 7 (ix x4)) = (u.1 7 (ix (x4 - p1))) then rec7 1 (x4 + 1) else rec7 0 (x4 + 1)))
def f_X12_isPeriod (u : St) (p1 : Int32) : Option (Int32) := ck (¬ p1 = 0) (jq_1 (fun (x2 : Int32) => jq_1 (fun (x6 : Int32) => ck (x6 = 0 ∨ x6 = 1) (some x6)) (fun (k5 : Int32 → Option (Int32)) => lq_2 (B_X12_isPeriod_17 p1 u k5) FU x2 p1)) (fun (k1 : Int32 → Option (Int32)) => if ((u.1 0 10) - (u.1 0 10) / p1 * p1) = 0 then k1 1 else k1 0))
set_option maxRecDepth 100000 in
set_option maxHeartbeats 4000000 in
theorem c_X12_isPeriod {l : Launch} {D : va_G} {cI cZ : ClassId} {a : Nat → Nat} {u : St} {p1 : Int32} {rr : Int32} (hf : f_X12_isPeriod u p1 = some rr) : Ci l yX12_isPeriod cX12_isPeriod 4 (some .boolean) 0 0 D (tyM cI cZ) 21 a (EM a cI cZ) [.ref (a 0), .int p1] u rr u := by
  refine metI (by decide +kernel) (Nat.le_of_ble_eq_true rfl) ?_
  intro p e s m args below meth c R Q hx hb hml hown hts hF hLo hret hK hN h ls hl
  have hown : s.vm.findClass RX12 = some m.cls := hown
  have hl : lv_has ls 4 [(0, .ref (a 0)), (1, .int p1)] := hl
  unfold f_X12_isPeriod at hf
  refine lv_aload_n (pc := 0) hx hb dX12_isPeriod_0 rfl (lv_at hl 0 rfl) ?_
  refine gM_0_10 (pc := 1) hx hb hts hown hK h fl_X12_78 dX12_isPeriod_1 ?_
  refine lv_iload_n (pc := 4) hx hb dX12_isPeriod_4 rfl (lv_at hl 1 rfl) ?_
  obtain ⟨hne, hf⟩ := ck_e hf
  refine lv_irem (pc := 5) hx hb dX12_isPeriod_5 hne ?_
  obtain ⟨k1, hk1, hf⟩ := jq_1_e hf
  have jk1 : ∀ (x2 : Int32), k1 x2 = some rr → ∀ (H : Heap) (locs : List Loc) (ls : Array Slot), Hh D (AB 21 a s.heap.size) (wX 21 a (EM a cI cZ) u) s.heap H locs → lv_has ls 4 [(0, .ref (a 0)), (1, .int p1)] → W p l e R s m args below meth c H locs 0 0 Q (F0 m 14 ls [.int x2]) := by
    intro x2 hf H locs ls h hl
    rw [hk1] at hf
    refine lv_istore_n (pc := 14) (lv' := [(2, .int x2), (0, .ref (a 0)), (1, .int p1)]) hx hb dX12_isPeriod_14 rfl hl (by decide) rfl (fun ls hl => ?_)
    refine lv_iload_n (pc := 15) hx hb dX12_isPeriod_15 rfl (lv_at hl 2 rfl) ?_
    refine lv_istore_n (pc := 16) (lv' := [(3, .int p1), (2, .int x2), (0, .ref (a 0)), (1, .int p1)]) hx hb dX12_isPeriod_16 rfl hl (by decide) rfl (fun ls hl => ?_)
    obtain ⟨k5, hk5, hf⟩ := jq_1_e hf
    have jk5 : ∀ (x6 : Int32), k5 x6 = some rr → ∀ (H : Heap) (locs : List Loc) (ls : Array Slot), Hh D (AB 21 a s.heap.size) (wX 21 a (EM a cI cZ) u) s.heap H locs → lv_has ls 4 [(2, .int x6)] → W p l e R s m args below meth c H locs 0 0 Q (F0 m 58 ls []) := by
      intro x6 hf H locs ls h hl
      rw [hk5] at hf
      refine lv_iload_n (pc := 58) hx hb dX12_isPeriod_58 rfl (lv_at hl 0 rfl) ?_
      obtain ⟨hz, hf⟩ := ck_e hf
      exact hret (so hf) (nz hz) rfl dX12_isPeriod_59 h
    refine lq_2_e (P := fun (x3 : Int32) (x4 : Int32) => ∀ (H : Heap) (locs : List Loc) (ls : Array Slot), Hh D (AB 21 a s.heap.size) (wX 21 a (EM a cI cZ) u) s.heap H locs → lv_has ls 4 [(0, .ref (a 0)), (1, .int p1), (2, .int x3), (3, .int x4)] → W p l e R s m args below meth c H locs 0 0 Q (F0 m 17 ls [])) ?_ FU _ _ hf _ _ _ h (lv_sub hl [2, 3, 1, 0] rfl)
    intro rec7 irec7 x3 x4 hf H locs ls h hl
    unfold B_X12_isPeriod_17 at hf
    refine lv_iload_n (pc := 17) hx hb dX12_isPeriod_17 rfl (lv_at hl 3 rfl) ?_
    refine lv_aload_n (pc := 18) hx hb dX12_isPeriod_18 rfl (lv_at hl 0 rfl) ?_
    refine gM_0_10 (pc := 19) hx hb hts hown hK h fl_X12_78 dX12_isPeriod_19 ?_
    refine lv_icmp_ge (pc := 22) (tgt := 58) hx hb dX12_isPeriod_22 (by decide) (fun c8 => ?_) (fun c8 => ?_)
    · have hf := if_t hf c8
      exact jk5 _ hf _ _ _ h (lv_sub hl [2] rfl)
    · have hf := if_f hf c8
      refine lv_iload_n (pc := 25) hx hb dX12_isPeriod_25 rfl (lv_at hl 2 rfl) ?_
      refine lv_if_eq (pc := 26) (tgt := 50) hx hb dX12_isPeriod_26 (by decide) (fun c9 => ?_) (fun c9 => ?_)
      · have hf := if_t hf c9
        refine lv_iconst (pc := 50) (v := 0) hx hb dX12_isPeriod_50 (by decide) ?_
        refine lv_istore_n (pc := 51) (lv' := [(2, .int 0), (0, .ref (a 0)), (1, .int p1), (3, .int x4)]) hx hb dX12_isPeriod_51 rfl hl (by decide) rfl (fun ls hl => ?_)
        refine lv_iinc (pc := 52) (v := x4 + 1) (lv' := [(3, .int (x4 + 1)), (2, .int 0), (0, .ref (a 0)), (1, .int p1)]) hx hb dX12_isPeriod_52 hl (k := 3) rfl rfl (by decide) rfl (fun ls hl => ?_)
        refine lv_goto (pc := 55) (tgt := 17) hx hb dX12_isPeriod_55 (by decide) ?_
        exact irec7 _ _ hf _ _ _ h (lv_sub hl [2, 3, 1, 0] rfl)
      · have hf := if_f hf c9
        refine lv_aload_n (pc := 29) hx hb dX12_isPeriod_29 rfl (lv_at hl 0 rfl) ?_
        refine gM_0_9 (pc := 30) hx hb hts hown hK h fl_X12_28 dX12_isPeriod_30 ?_
        refine lv_iload_n (pc := 33) hx hb dX12_isPeriod_33 rfl (lv_at hl 3 rfl) ?_
        obtain ⟨hin, hf⟩ := cki_e hf
        refine gM_7 (pc := 34) hx hb hK h hin dX12_isPeriod_34 ?_
        refine lv_aload_n (pc := 35) hx hb dX12_isPeriod_35 rfl (lv_at hl 0 rfl) ?_
        refine gM_0_9 (pc := 36) hx hb hts hown hK h fl_X12_28 dX12_isPeriod_36 ?_
        refine lv_iload_n (pc := 39) hx hb dX12_isPeriod_39 rfl (lv_at hl 3 rfl) ?_
        refine lv_iload_n (pc := 40) hx hb dX12_isPeriod_40 rfl (lv_at hl 1 rfl) ?_
        refine lv_isub (pc := 41) hx hb dX12_isPeriod_41 ?_
        obtain ⟨hin, hf⟩ := cki_e hf
        refine gM_7 (pc := 42) hx hb hK h hin dX12_isPeriod_42 ?_
        refine lv_icmp_ne (pc := 43) (tgt := 50) hx hb dX12_isPeriod_43 (by decide) (fun c10 => ?_) (fun c10 => ?_)
        · have hf := if_f hf c10
          refine lv_iconst (pc := 50) (v := 0) hx hb dX12_isPeriod_50 (by decide) ?_
          refine lv_istore_n (pc := 51) (lv' := [(2, .int 0), (0, .ref (a 0)), (1, .int p1), (3, .int x4)]) hx hb dX12_isPeriod_51 rfl hl (by decide) rfl (fun ls hl => ?_)
          refine lv_iinc (pc := 52) (v := x4 + 1) (lv' := [(3, .int (x4 + 1)), (2, .int 0), (0, .ref (a 0)), (1, .int p1)]) hx hb dX12_isPeriod_52 hl (k := 3) rfl rfl (by decide) rfl (fun ls hl => ?_)
          refine lv_goto (pc := 55) (tgt := 17) hx hb dX12_isPeriod_55 (by decide) ?_
          exact irec7 _ _ hf _ _ _ h (lv_sub hl [2, 3, 1, 0] rfl)
        · have hf := if_t hf c10
          refine lv_iconst (pc := 46) (v := 1) hx hb dX12_isPeriod_46 (by decide) ?_
          refine lv_goto (pc := 47) (tgt := 51) hx hb dX12_isPeriod_47 (by decide) ?_
          refine lv_istore_n (pc := 51) (lv' := [(2, .int 1), (0, .ref (a 0)), (1, .int p1), (3, .int x4)]) hx hb dX12_isPeriod_51 rfl hl (by decide) rfl (fun ls hl => ?_)
          refine lv_iinc (pc := 52) (v := x4 + 1) (lv' := [(3, .int (x4 + 1)), (2, .int 1), (0, .ref (a 0)), (1, .int p1)]) hx hb dX12_isPeriod_52 hl (k := 3) rfl rfl (by decide) rfl (fun ls hl => ?_)
          refine lv_goto (pc := 55) (tgt := 17) hx hb dX12_isPeriod_55 (by decide) ?_
          exact irec7 _ _ hf _ _ _ h (lv_sub hl [2, 3, 1, 0] rfl)
  refine lv_if_ne (pc := 6) (tgt := 13) hx hb dX12_isPeriod_6 (by decide) (fun c11 => ?_) (fun c11 => ?_)
  · have hf := if_f hf c11
    refine lv_iconst (pc := 13) (v := 0) hx hb dX12_isPeriod_13 (by decide) ?_
    exact jk1 _ hf _ _ _ h (lv_sub hl [0, 1] rfl)
  · have hf := if_t hf c11
    refine lv_iconst (pc := 9) (v := 1) hx hb dX12_isPeriod_9 (by decide) ?_
    refine lv_goto (pc := 10) (tgt := 14) hx hb dX12_isPeriod_10 (by decide) ?_
    exact jk1 _ hf _ _ _ h (lv_sub hl [0, 1] rfl)
theorem k_X12_isPeriod {p : Program} {l : Launch} {e : Env} {R : Room} {s : State} {m : MethodId} {args : Array Value} {below : List Frame} {meth : Method} {c : Code} {H : Heap} {locs : List Loc} {cells slots : Nat} {Q : State → Prop} {pc : Nat} {ls : Array Slot} {rest : List Value} {cc : ByteArray} {D : va_G} {cI cZ : ClassId} {a : Nat → Nat} {u : St} {own : String} {index nL : Nat} {p1 : Int32} {rr : Int32} (hx : p.tables.exec = Jvm.exec) (hb : c.code = cc) (hml : c.maxLocals = nL) (hown : s.vm.findClass own = some m.cls) (hts : ∀ w ∈ Gd, w.before args s = true) (hK : va_K D vwCl (tyM cI cZ) s) (hN : NB s) (hc : f_X12_isPeriod u p1 = some rr) (hlk : Cond.methodLink own index yX12_isPeriod ∈ Gd) (hF : 1 ≤ R.frames) (hLo : 23 ≤ R.locals) (h : Hh D (AB 21 a s.heap.size) (wX 21 a (EM a cI cZ) u) s.heap H locs) (hsize : ls.size = nL) (hcs : cells ≤ R.cells ∧ slots ≤ R.slots) (hr : (rest.map fun v => v.category).sum ≤ 8) (hdg : decode cc pc = .ok (.invokevirtual index, 3)) (kk : ∀ (H1 : Heap) (locs1 : List Loc), Hh D (AB 21 a s.heap.size) (wX 21 a (EM a cI cZ) u) s.heap H1 locs1 → W p l e R s m args below meth c H1 locs1 cells slots Q (F0 m (pc + 3) ls (.int rr :: rest))) : W p l e R s m args below meth c H locs cells slots Q (F0 m pc ls (.int p1 :: .ref (a 0) :: rest)) :=
  cVi (n := 1) hx hb hml hown hts hK hN (c_X12_isPeriod hc) (gdV hlk im_X12_isPeriod se_X12_isPeriod in_X12 co_X12_isPeriod) rfl (by decide +kernel) rfl hF hLo h hsize hcs (by decide) rfl rfl rfl hr hdg kk
def B_X12_period_2 (u : St) (k2 : Int32 → Option (Int32)) (rec4 : Int32 → Option (Int32)) (x1 : Int32) : Option (Int32) := b1 (f_X12_isPeriod u x1) (fun (x5 : Int32) => if x5 = 0 then rec4 (x1 + 1) else k2 x1)
def f_X12_period (u : St) : Option (Int32) := jq_1 (fun (x3 : Int32) => some x3) (fun (k2 : Int32 → Option (Int32)) => lq_1 (B_X12_period_2 u k2) FU 1)
set_option maxRecDepth 100000 in
set_option maxHeartbeats 4000000 in
theorem c_X12_period {l : Launch} {D : va_G} {cI cZ : ClassId} {a : Nat → Nat} {u : St} {rr : Int32} (hf : f_X12_period u = some rr) : Ci l yX12_period cX12_period 2 (some .int) 1 23 D (tyM cI cZ) 21 a (EM a cI cZ) [.ref (a 0)] u rr u := by
  refine metI (by decide +kernel) (Nat.le_of_ble_eq_true rfl) ?_
  intro p e s m args below meth c R Q hx hb hml hown hts hF hLo hret hK hN h ls hl
  have hown : s.vm.findClass RX12 = some m.cls := hown
  have hl : lv_has ls 2 [(0, .ref (a 0))] := hl
  unfold f_X12_period at hf
  refine lv_iconst (pc := 0) (v := 1) hx hb dX12_period_0 (by decide) ?_
  refine lv_istore_n (pc := 1) (lv' := [(1, .int 1), (0, .ref (a 0))]) hx hb dX12_period_1 rfl hl (by decide) rfl (fun ls hl => ?_)
  obtain ⟨k2, hk2, hf⟩ := jq_1_e hf
  have jk2 : ∀ (x3 : Int32), k2 x3 = some rr → ∀ (H : Heap) (locs : List Loc) (ls : Array Slot), Hh D (AB 21 a s.heap.size) (wX 21 a (EM a cI cZ) u) s.heap H locs → lv_has ls 2 [(1, .int x3)] → W p l e R s m args below meth c H locs 0 0 Q (F0 m 16 ls []) := by
    intro x3 hf H locs ls h hl
    rw [hk2] at hf
    refine lv_iload_n (pc := 16) hx hb dX12_period_16 rfl (lv_at hl 0 rfl) ?_
    exact hret (so hf) rfl rfl dX12_period_17 h
  refine lq_1_e (P := fun (x1 : Int32) => ∀ (H : Heap) (locs : List Loc) (ls : Array Slot), Hh D (AB 21 a s.heap.size) (wX 21 a (EM a cI cZ) u) s.heap H locs → lv_has ls 2 [(0, .ref (a 0)), (1, .int x1)] → W p l e R s m args below meth c H locs 0 0 Q (F0 m 2 ls [])) ?_ FU _ hf _ _ _ h (lv_sub hl [1, 0] rfl)
  intro rec4 irec4 x1 hf H locs ls h hl
  unfold B_X12_period_2 at hf
  refine lv_aload_n (pc := 2) hx hb dX12_period_2 rfl (lv_at hl 0 rfl) ?_
  refine lv_iload_n (pc := 3) hx hb dX12_period_3 rfl (lv_at hl 1 rfl) ?_
  obtain ⟨x5, hc, hf⟩ := b1_e hf
  refine k_X12_isPeriod (pc := 4) hx hb hml hown hts hK hN hc ml_X12_291 (Nat.le_trans (by decide) hF) (Nat.le_trans (by decide) hLo) h hl.1 ⟨Nat.zero_le _, Nat.zero_le _⟩ (Nat.le_of_ble_eq_true rfl) dX12_period_4 (fun H locs h => ?_)
  refine lv_if_ne (pc := 7) (tgt := 16) hx hb dX12_period_7 (by decide) (fun c6 => ?_) (fun c6 => ?_)
  · have hf := if_f hf c6
    exact jk2 _ hf _ _ _ h (lv_sub hl [1] rfl)
  · have hf := if_t hf c6
    refine lv_iinc (pc := 10) (v := x1 + 1) (lv' := [(1, .int (x1 + 1)), (0, .ref (a 0))]) hx hb dX12_period_10 hl (k := 1) rfl rfl (by decide) rfl (fun ls hl => ?_)
    refine lv_goto (pc := 13) (tgt := 2) hx hb dX12_period_13 (by decide) ?_
    exact irec4 _ hf _ _ _ h (lv_sub hl [1, 0] rfl)
theorem k_X12_period {p : Program} {l : Launch} {e : Env} {R : Room} {s : State} {m : MethodId} {args : Array Value} {below : List Frame} {meth : Method} {c : Code} {H : Heap} {locs : List Loc} {cells slots : Nat} {Q : State → Prop} {pc : Nat} {ls : Array Slot} {rest : List Value} {cc : ByteArray} {D : va_G} {cI cZ : ClassId} {a : Nat → Nat} {u : St} {own : String} {index nL : Nat} {rr : Int32} (hx : p.tables.exec = Jvm.exec) (hb : c.code = cc) (hml : c.maxLocals = nL) (hown : s.vm.findClass own = some m.cls) (hts : ∀ w ∈ Gd, w.before args s = true) (hK : va_K D vwCl (tyM cI cZ) s) (hN : NB s) (hc : f_X12_period u = some rr) (hlk : Cond.methodLink own index yX12_period ∈ Gd) (hF : 2 ≤ R.frames) (hLo : 44 ≤ R.locals) (h : Hh D (AB 21 a s.heap.size) (wX 21 a (EM a cI cZ) u) s.heap H locs) (hsize : ls.size = nL) (hcs : cells ≤ R.cells ∧ slots ≤ R.slots) (hr : (rest.map fun v => v.category).sum ≤ 8) (hdg : decode cc pc = .ok (.invokevirtual index, 3)) (kk : ∀ (H1 : Heap) (locs1 : List Loc), Hh D (AB 21 a s.heap.size) (wX 21 a (EM a cI cZ) u) s.heap H1 locs1 → W p l e R s m args below meth c H1 locs1 cells slots Q (F0 m (pc + 3) ls (.int rr :: rest))) : W p l e R s m args below meth c H locs cells slots Q (F0 m pc ls (.ref (a 0) :: rest)) :=
  cVi (n := 0) hx hb hml hown hts hK hN (c_X12_period hc) (gdV hlk im_X12_period se_X12_period in_X12 co_X12_period) rfl (by decide +kernel) rfl hF hLo h hsize hcs (by decide) rfl rfl rfl hr hdg kk
def B_X12_year_229 (u20 : St) (k23 : Int32 → Option (Int32 × St)) (rec26 : Int32 → Int32 → Option (Int32 × St)) (x21 : Int32) (x22 : Int32) : Option (Int32 × St) := if 8 ≤ x22 then k23 x21 else b1 (f_X12_isBarrel u20 x22) (fun (x28 : Int32) => if x28 = 0 then rec26 (x21 + (0 : Int32)) (x22 + 1) else cki x22 8 (if (u20.1 14 (ix x22)) < (u20.1 0 11) then rec26 (x21 + (0 : Int32)) (x22 + 1) else cki x22 8 (rec26 (x21 + (u20.1 4 (ix x22))) (x22 + 1))))
def B_X12_year_153 (x16 : Int32) (k43 : St → Option (Int32 × St)) (rec45 : St → Int32 → Option (Int32 × St)) (u41 : St) (x42 : Int32) : Option (Int32 × St) := if 8 ≤ x42 then k43 u41 else b1 (f_X12_isBarrel u41 x42) (fun (x47 : Int32) => if x47 = 0 then cki x42 8 (bs (sI u41 14 (ix x42) 0) (fun u49 : St => rec45 u49 (x42 + 1))) else cki x42 8 (cki x42 8 (b1 (f_X12_rise u41 x42 (u41.1 3 (ix x42)) x16) (fun (x50 : Int32) => b1 (f_X12_upTo u41 ((u41.1 14 (ix x42)) + x50)) (fun (x51 : Int32) => cki x42 8 (bs (sI u41 14 (ix x42) x51) (fun u52 : St => rec45 u52 (x42 + 1))))))))
def B_X12_year_83 (p2 : Int32) (p3 : Int32) (k17 : St → Int32 → Option (Int32 × St)) (rec31 : St → Int32 → Int32 → Int32 → Option (Int32 × St)) (u13 : St) (x14 : Int32) (x15 : Int32) (x16 : Int32) : Option (Int32 × St) := if p2 ≤ x16 then k17 u13 x15 else ck (¬ (65537 : Int64) = 0) (bs (Int64.toInt32 ((((75 : Int64) * (Int32.toInt64 x14)) + (74 : Int64)) - (((75 : Int64) * (Int32.toInt64 x14)) + (74 : Int64)) / (65537 : Int64) * (65537 : Int64))) (fun x33 : Int32 => ck (¬ p3 = 0) (jq_1 (fun (x35 : Int32) => jq_1 (fun (x37 : Int32) => jq_1 (fun (x39 : Int32) => bs (sI u13 0 22 x39) (fun u40 : St => jq_1 (fun (u44 : St) => rec31 u44 x33 (x15 + x37) (x16 + 1)) (fun (k43 : St → Option (Int32 × St)) => lq_2 (B_X12_year_153 x16 k43) FU u40 0))) (fun (k38 : Int32 → Option (Int32 × St)) => if x35 = 0 then k38 0 else k38 ((-1)))) (fun (k36 : Int32 → Option (Int32 × St)) => if x35 = 0 then k36 0 else k36 1)) (fun (k34 : Int32 → Option (Int32 × St)) => if (x33 - x33 / p3 * p3) = 0 then k34 1 else k34 0))))
def B_X12_year_53 (k11 : St → Option (Int32 × St)) (rec56 : St → Int32 → Option (Int32 × St)) (u9 : St) (x10 : Int32) : Option (Int32 × St) := if 8 ≤ x10 then k11 u9 else cki x10 8 (bs (sI u9 14 (ix x10) 0) (fun u58 : St => rec56 u58 (x10 + 1)))
def f_X12_year (u : St) (p1 : Int32) (p2 : Int32) (p3 : Int32) (p4 : Int32) : Option (Int32 × St) := b1 (f_X12_in u (Int32.toInt64 p1) 0 9999) (fun (x1 : Int32) => if x1 = 0 then some ((-2), u) else b1 (f_X12_in u (Int32.toInt64 p2) 1 999) (fun (x3 : Int32) => if x3 = 0 then some ((-2), u) else b1 (f_X12_in u (Int32.toInt64 p3) 1 99) (fun (x5 : Int32) => if x5 = 0 then some ((-2), u) else b1 (f_X12_in u (Int32.toInt64 p4) 0 1) (fun (x7 : Int32) => if x7 = 0 then some ((-2), u) else jq_1 (fun (u12 : St) => jq_2 (fun (u18 : St) (x19 : Int32) => bs (sI u18 0 22 0) (fun u20 : St => jq_1 (fun (x24 : Int32) => if p4 = 0 then some (x24, u20) else some (x19, u20)) (fun (k23 : Int32 → Option (Int32 × St)) => lq_2 (B_X12_year_229 u20 k23) FU 0 0))) (fun (k17 : St → Int32 → Option (Int32 × St)) => lq_4 (B_X12_year_83 p2 p3 k17) FU u12 p1 0 0)) (fun (k11 : St → Option (Int32 × St)) => lq_2 (B_X12_year_53 k11) FU u 0)))))
set_option maxRecDepth 100000 in
set_option maxHeartbeats 4000000 in
theorem c_X12_year {l : Launch} {D : va_G} {cI cZ : ClassId} {a : Nat → Nat} {u : St} {p1 : Int32} {p2 : Int32} {p3 : Int32} {p4 : Int32} {rr : Int32} {uu : St} (hf : f_X12_year u p1 p2 p3 p4 = some (rr, uu)) : Ci l yX12_year cX12_year 10 (some .int) 3 69 D (tyM cI cZ) 21 a (EM a cI cZ) [.ref (a 0), .int p1, .int p2, .int p3, .int p4] u rr uu := by
  refine metI (by decide +kernel) (Nat.le_of_ble_eq_true rfl) ?_
  intro p e s m args below meth c R Q hx hb hml hown hts hF hLo hret hK hN h ls hl
  have hown : s.vm.findClass RX12 = some m.cls := hown
  have hl : lv_has ls 10 [(0, .ref (a 0)), (1, .int p1), (2, .int p2), (3, .int p3), (4, .int p4)] := hl
  unfold f_X12_year at hf
  refine lv_iload_n (pc := 0) hx hb dX12_year_0 rfl (lv_at hl 1 rfl) ?_
  refine lv_i2l (pc := 1) (v := Int32.toInt64 p1) hx hb dX12_year_1 rfl ?_
  refine lv_lconst (pc := 2) (v := 0) hx hb dX12_year_2 (by decide) ?_
  refine lv_ldc2 (pc := 3) hx hb hown (hts _ ctl_X12_294) dX12_year_3 ?_
  obtain ⟨x1, hc, hf⟩ := b1_e hf
  refine kS_X12_in (pc := 6) hx hb hml hown hts hK hN hc ml_X12_97 (Nat.le_trans (by decide) hF) (Nat.le_trans (by decide) hLo) h hl.1 ⟨Nat.zero_le _, Nat.zero_le _⟩ (Nat.le_of_ble_eq_true rfl) dX12_year_6 (fun H locs h => ?_)
  refine lv_if_eq (pc := 9) (tgt := 47) hx hb dX12_year_9 (by decide) (fun c2 => ?_) (fun c2 => ?_)
  · have hf := if_t hf c2
    refine lv_bipush (pc := 47) (v := (-2)) hx hb dX12_year_47 (by decide) ?_
    exact hret (so1 hf) rfl (so2 hf) dX12_year_49 h
  · have hf := if_f hf c2
    refine lv_iload_n (pc := 12) hx hb dX12_year_12 rfl (lv_at hl 2 rfl) ?_
    refine lv_i2l (pc := 13) (v := Int32.toInt64 p2) hx hb dX12_year_13 rfl ?_
    refine lv_lconst (pc := 14) (v := 1) hx hb dX12_year_14 (by decide) ?_
    refine lv_ldc2 (pc := 15) hx hb hown (hts _ ctl_X12_175) dX12_year_15 ?_
    obtain ⟨x3, hc, hf⟩ := b1_e hf
    refine kS_X12_in (pc := 18) hx hb hml hown hts hK hN hc ml_X12_97 (Nat.le_trans (by decide) hF) (Nat.le_trans (by decide) hLo) h hl.1 ⟨Nat.zero_le _, Nat.zero_le _⟩ (Nat.le_of_ble_eq_true rfl) dX12_year_18 (fun H locs h => ?_)
    refine lv_if_eq (pc := 21) (tgt := 47) hx hb dX12_year_21 (by decide) (fun c4 => ?_) (fun c4 => ?_)
    · have hf := if_t hf c4
      refine lv_bipush (pc := 47) (v := (-2)) hx hb dX12_year_47 (by decide) ?_
      exact hret (so1 hf) rfl (so2 hf) dX12_year_49 h
    · have hf := if_f hf c4
      refine lv_iload_n (pc := 24) hx hb dX12_year_24 rfl (lv_at hl 3 rfl) ?_
      refine lv_i2l (pc := 25) (v := Int32.toInt64 p3) hx hb dX12_year_25 rfl ?_
      refine lv_lconst (pc := 26) (v := 1) hx hb dX12_year_26 (by decide) ?_
      refine lv_ldc2 (pc := 27) hx hb hown (hts _ ctl_X12_238) dX12_year_27 ?_
      obtain ⟨x5, hc, hf⟩ := b1_e hf
      refine kS_X12_in (pc := 30) hx hb hml hown hts hK hN hc ml_X12_97 (Nat.le_trans (by decide) hF) (Nat.le_trans (by decide) hLo) h hl.1 ⟨Nat.zero_le _, Nat.zero_le _⟩ (Nat.le_of_ble_eq_true rfl) dX12_year_30 (fun H locs h => ?_)
      refine lv_if_eq (pc := 33) (tgt := 47) hx hb dX12_year_33 (by decide) (fun c6 => ?_) (fun c6 => ?_)
      · have hf := if_t hf c6
        refine lv_bipush (pc := 47) (v := (-2)) hx hb dX12_year_47 (by decide) ?_
        exact hret (so1 hf) rfl (so2 hf) dX12_year_49 h
      · have hf := if_f hf c6
        refine lv_iload (pc := 36) hx hb dX12_year_36 (lv_at hl 4 rfl) ?_
        refine lv_i2l (pc := 38) (v := Int32.toInt64 p4) hx hb dX12_year_38 rfl ?_
        refine lv_lconst (pc := 39) (v := 0) hx hb dX12_year_39 (by decide) ?_
        refine lv_lconst (pc := 40) (v := 1) hx hb dX12_year_40 (by decide) ?_
        obtain ⟨x7, hc, hf⟩ := b1_e hf
        refine kS_X12_in (pc := 41) hx hb hml hown hts hK hN hc ml_X12_97 (Nat.le_trans (by decide) hF) (Nat.le_trans (by decide) hLo) h hl.1 ⟨Nat.zero_le _, Nat.zero_le _⟩ (Nat.le_of_ble_eq_true rfl) dX12_year_41 (fun H locs h => ?_)
        refine lv_if_ne (pc := 44) (tgt := 50) hx hb dX12_year_44 (by decide) (fun c8 => ?_) (fun c8 => ?_)
        · have hf := if_f hf c8
          refine lv_iconst (pc := 50) (v := 0) hx hb dX12_year_50 (by decide) ?_
          refine lv_istore (pc := 51) (lv' := [(5, .int 0), (0, .ref (a 0)), (1, .int p1), (2, .int p2), (3, .int p3), (4, .int p4)]) hx hb dX12_year_51 hl (by decide) rfl (fun ls hl => ?_)
          obtain ⟨k11, hk11, hf⟩ := jq_1_e hf
          have jk11 : ∀ (u12 : St), k11 u12 = some (rr, uu) → ∀ (H : Heap) (locs : List Loc) (ls : Array Slot), Hh D (AB 21 a s.heap.size) (wX 21 a (EM a cI cZ) u12) s.heap H locs → lv_has ls 10 [(0, .ref (a 0)), (1, .int p1), (2, .int p2), (3, .int p3), (4, .int p4)] → W p l e R s m args below meth c H locs 0 0 Q (F0 m 74 ls []) := by
            intro u12 hf H locs ls h hl
            rw [hk11] at hf
            refine lv_iload_n (pc := 74) hx hb dX12_year_74 rfl (lv_at hl 1 rfl) ?_
            refine lv_istore (pc := 75) (lv' := [(5, .int p1), (0, .ref (a 0)), (1, .int p1), (2, .int p2), (3, .int p3), (4, .int p4)]) hx hb dX12_year_75 hl (by decide) rfl (fun ls hl => ?_)
            refine lv_iconst (pc := 77) (v := 0) hx hb dX12_year_77 (by decide) ?_
            refine lv_istore (pc := 78) (lv' := [(6, .int 0), (5, .int p1), (0, .ref (a 0)), (1, .int p1), (2, .int p2), (3, .int p3), (4, .int p4)]) hx hb dX12_year_78 hl (by decide) rfl (fun ls hl => ?_)
            refine lv_iconst (pc := 80) (v := 0) hx hb dX12_year_80 (by decide) ?_
            refine lv_istore (pc := 81) (lv' := [(7, .int 0), (6, .int 0), (5, .int p1), (0, .ref (a 0)), (1, .int p1), (2, .int p2), (3, .int p3), (4, .int p4)]) hx hb dX12_year_81 hl (by decide) rfl (fun ls hl => ?_)
            obtain ⟨k17, hk17, hf⟩ := jq_2_e hf
            have jk17 : ∀ (u18 : St) (x19 : Int32), k17 u18 x19 = some (rr, uu) → ∀ (H : Heap) (locs : List Loc) (ls : Array Slot), Hh D (AB 21 a s.heap.size) (wX 21 a (EM a cI cZ) u18) s.heap H locs → lv_has ls 10 [(0, .ref (a 0)), (4, .int p4), (6, .int x19)] → W p l e R s m args below meth c H locs 0 0 Q (F0 m 218 ls []) := by
              intro u18 x19 hf H locs ls h hl
              rw [hk17] at hf
              refine lv_aload_n (pc := 218) hx hb dX12_year_218 rfl (lv_at hl 0 rfl) ?_
              refine lv_iconst (pc := 219) (v := 0) hx hb dX12_year_219 (by decide) ?_
              refine pM_0_22 (pc := 220) hx hb hts hown hK h fl_X12_155 dX12_year_220 (fun H locs h => ?_)
              obtain ⟨u20, eu20, hf⟩ := bs_e hf
              rw [← eu20] at h
              refine lv_iconst (pc := 223) (v := 0) hx hb dX12_year_223 (by decide) ?_
              refine lv_istore (pc := 224) (lv' := [(7, .int 0), (0, .ref (a 0)), (4, .int p4), (6, .int x19)]) hx hb dX12_year_224 hl (by decide) rfl (fun ls hl => ?_)
              refine lv_iconst (pc := 226) (v := 0) hx hb dX12_year_226 (by decide) ?_
              refine lv_istore (pc := 227) (lv' := [(8, .int 0), (7, .int 0), (0, .ref (a 0)), (4, .int p4), (6, .int x19)]) hx hb dX12_year_227 hl (by decide) rfl (fun ls hl => ?_)
              obtain ⟨k23, hk23, hf⟩ := jq_1_e hf
              have jk23 : ∀ (x24 : Int32), k23 x24 = some (rr, uu) → ∀ (H : Heap) (locs : List Loc) (ls : Array Slot), Hh D (AB 21 a s.heap.size) (wX 21 a (EM a cI cZ) u20) s.heap H locs → lv_has ls 10 [(4, .int p4), (6, .int x19), (7, .int x24)] → W p l e R s m args below meth c H locs 0 0 Q (F0 m 281 ls []) := by
                intro x24 hf H locs ls h hl
                rw [hk23] at hf
                refine lv_iload (pc := 281) hx hb dX12_year_281 (lv_at hl 0 rfl) ?_
                refine lv_if_ne (pc := 283) (tgt := 291) hx hb dX12_year_283 (by decide) (fun c25 => ?_) (fun c25 => ?_)
                · have hf := if_f hf c25
                  refine lv_iload (pc := 291) hx hb dX12_year_291 (lv_at hl 1 rfl) ?_
                  exact hret (so1 hf) rfl (so2 hf) dX12_year_293 h
                · have hf := if_t hf c25
                  refine lv_iload (pc := 286) hx hb dX12_year_286 (lv_at hl 2 rfl) ?_
                  refine lv_goto (pc := 288) (tgt := 293) hx hb dX12_year_288 (by decide) ?_
                  exact hret (so1 hf) rfl (so2 hf) dX12_year_293 h
              refine lq_2_e (P := fun (x21 : Int32) (x22 : Int32) => ∀ (H : Heap) (locs : List Loc) (ls : Array Slot), Hh D (AB 21 a s.heap.size) (wX 21 a (EM a cI cZ) u20) s.heap H locs → lv_has ls 10 [(0, .ref (a 0)), (4, .int p4), (6, .int x19), (7, .int x21), (8, .int x22)] → W p l e R s m args below meth c H locs 0 0 Q (F0 m 229 ls [])) ?_ FU _ _ hf _ _ _ h (lv_sub hl [2, 3, 4, 1, 0] rfl)
              intro rec26 irec26 x21 x22 hf H locs ls h hl
              unfold B_X12_year_229 at hf
              refine lv_iload (pc := 229) hx hb dX12_year_229 (lv_at hl 4 rfl) ?_
              refine lv_bipush (pc := 231) (v := 8) hx hb dX12_year_231 (by decide) ?_
              refine lv_icmp_ge (pc := 233) (tgt := 281) hx hb dX12_year_233 (by decide) (fun c27 => ?_) (fun c27 => ?_)
              · have hf := if_t hf c27
                exact jk23 _ hf _ _ _ h (lv_sub hl [1, 2, 3] rfl)
              · have hf := if_f hf c27
                refine lv_iload (pc := 236) hx hb dX12_year_236 (lv_at hl 3 rfl) ?_
                refine lv_aload_n (pc := 238) hx hb dX12_year_238 rfl (lv_at hl 0 rfl) ?_
                refine lv_iload (pc := 239) hx hb dX12_year_239 (lv_at hl 4 rfl) ?_
                obtain ⟨x28, hc, hf⟩ := b1_e hf
                refine k_X12_isBarrel (pc := 241) hx hb hml hown hts hK hN hc ml_X12_107 (Nat.le_trans (by decide) hF) (Nat.le_trans (by decide) hLo) h hl.1 ⟨Nat.zero_le _, Nat.zero_le _⟩ (Nat.le_of_ble_eq_true rfl) dX12_year_241 (fun H locs h => ?_)
                refine lv_if_eq (pc := 244) (tgt := 271) hx hb dX12_year_244 (by decide) (fun c29 => ?_) (fun c29 => ?_)
                · have hf := if_t hf c29
                  refine lv_iconst (pc := 271) (v := 0) hx hb dX12_year_271 (by decide) ?_
                  refine lv_iadd (pc := 272) hx hb dX12_year_272 ?_
                  refine lv_istore (pc := 273) (lv' := [(7, .int (x21 + (0 : Int32))), (0, .ref (a 0)), (4, .int p4), (6, .int x19), (8, .int x22)]) hx hb dX12_year_273 hl (by decide) rfl (fun ls hl => ?_)
                  refine lv_iinc (pc := 275) (v := x22 + 1) (lv' := [(8, .int (x22 + 1)), (7, .int (x21 + (0 : Int32))), (0, .ref (a 0)), (4, .int p4), (6, .int x19)]) hx hb dX12_year_275 hl (k := 4) rfl rfl (by decide) rfl (fun ls hl => ?_)
                  refine lv_goto (pc := 278) (tgt := 229) hx hb dX12_year_278 (by decide) ?_
                  exact irec26 _ _ hf _ _ _ h (lv_sub hl [2, 3, 4, 1, 0] rfl)
                · have hf := if_f hf c29
                  refine lv_aload_n (pc := 247) hx hb dX12_year_247 rfl (lv_at hl 0 rfl) ?_
                  refine gM_0_24 (pc := 248) hx hb hts hown hK h fl_X12_49 dX12_year_248 ?_
                  refine lv_iload (pc := 251) hx hb dX12_year_251 (lv_at hl 4 rfl) ?_
                  obtain ⟨hin, hf⟩ := cki_e hf
                  refine gM_14 (pc := 253) hx hb hK h hin dX12_year_253 ?_
                  refine lv_aload_n (pc := 254) hx hb dX12_year_254 rfl (lv_at hl 0 rfl) ?_
                  refine gM_0_11 (pc := 255) hx hb hts hown hK h fl_X12_71 dX12_year_255 ?_
                  refine lv_icmp_lt (pc := 258) (tgt := 271) hx hb dX12_year_258 (by decide) (fun c30 => ?_) (fun c30 => ?_)
                  · have hf := if_t hf c30
                    refine lv_iconst (pc := 271) (v := 0) hx hb dX12_year_271 (by decide) ?_
                    refine lv_iadd (pc := 272) hx hb dX12_year_272 ?_
                    refine lv_istore (pc := 273) (lv' := [(7, .int (x21 + (0 : Int32))), (0, .ref (a 0)), (4, .int p4), (6, .int x19), (8, .int x22)]) hx hb dX12_year_273 hl (by decide) rfl (fun ls hl => ?_)
                    refine lv_iinc (pc := 275) (v := x22 + 1) (lv' := [(8, .int (x22 + 1)), (7, .int (x21 + (0 : Int32))), (0, .ref (a 0)), (4, .int p4), (6, .int x19)]) hx hb dX12_year_275 hl (k := 4) rfl rfl (by decide) rfl (fun ls hl => ?_)
                    refine lv_goto (pc := 278) (tgt := 229) hx hb dX12_year_278 (by decide) ?_
                    exact irec26 _ _ hf _ _ _ h (lv_sub hl [2, 3, 4, 1, 0] rfl)
                  · have hf := if_f hf c30
                    refine lv_aload_n (pc := 261) hx hb dX12_year_261 rfl (lv_at hl 0 rfl) ?_
                    refine gM_0_6 (pc := 262) hx hb hts hown hK h fl_X12_19 dX12_year_262 ?_
                    refine lv_iload (pc := 265) hx hb dX12_year_265 (lv_at hl 4 rfl) ?_
                    obtain ⟨hin, hf⟩ := cki_e hf
                    refine gM_4 (pc := 267) hx hb hK h hin dX12_year_267 ?_
                    refine lv_goto (pc := 268) (tgt := 272) hx hb dX12_year_268 (by decide) ?_
                    refine lv_iadd (pc := 272) hx hb dX12_year_272 ?_
                    refine lv_istore (pc := 273) (lv' := [(7, .int (x21 + (u20.1 4 (ix x22)))), (0, .ref (a 0)), (4, .int p4), (6, .int x19), (8, .int x22)]) hx hb dX12_year_273 hl (by decide) rfl (fun ls hl => ?_)
                    refine lv_iinc (pc := 275) (v := x22 + 1) (lv' := [(8, .int (x22 + 1)), (7, .int (x21 + (u20.1 4 (ix x22)))), (0, .ref (a 0)), (4, .int p4), (6, .int x19)]) hx hb dX12_year_275 hl (k := 4) rfl rfl (by decide) rfl (fun ls hl => ?_)
                    refine lv_goto (pc := 278) (tgt := 229) hx hb dX12_year_278 (by decide) ?_
                    exact irec26 _ _ hf _ _ _ h (lv_sub hl [2, 3, 4, 1, 0] rfl)
            refine lq_4_e (P := fun (u13 : St) (x14 : Int32) (x15 : Int32) (x16 : Int32) => ∀ (H : Heap) (locs : List Loc) (ls : Array Slot), Hh D (AB 21 a s.heap.size) (wX 21 a (EM a cI cZ) u13) s.heap H locs → lv_has ls 10 [(0, .ref (a 0)), (2, .int p2), (3, .int p3), (4, .int p4), (5, .int x14), (6, .int x15), (7, .int x16)] → W p l e R s m args below meth c H locs 0 0 Q (F0 m 83 ls [])) ?_ FU _ _ _ _ hf _ _ _ h (lv_sub hl [3, 5, 6, 7, 2, 1, 0] rfl)
            intro rec31 irec31 u13 x14 x15 x16 hf H locs ls h hl
            unfold B_X12_year_83 at hf
            refine lv_iload (pc := 83) hx hb dX12_year_83 (lv_at hl 6 rfl) ?_
            refine lv_iload_n (pc := 85) hx hb dX12_year_85 rfl (lv_at hl 1 rfl) ?_
            refine lv_icmp_ge (pc := 86) (tgt := 218) hx hb dX12_year_86 (by decide) (fun c32 => ?_) (fun c32 => ?_)
            · have hf := if_t hf c32
              exact jk17 _ _ hf _ _ _ h (lv_sub hl [0, 3, 5] rfl)
            · have hf := if_f hf c32
              refine lv_ldc2 (pc := 89) hx hb hown (hts _ ctl_X12_296) dX12_year_89 ?_
              refine lv_iload (pc := 92) hx hb dX12_year_92 (lv_at hl 4 rfl) ?_
              refine lv_i2l (pc := 94) (v := Int32.toInt64 x14) hx hb dX12_year_94 rfl ?_
              refine lv_lmul (pc := 95) hx hb dX12_year_95 ?_
              refine lv_ldc2 (pc := 96) hx hb hown (hts _ ctl_X12_298) dX12_year_96 ?_
              refine lv_ladd (pc := 99) hx hb dX12_year_99 ?_
              refine lv_ldc2 (pc := 100) hx hb hown (hts _ ctl_X12_300) dX12_year_100 ?_
              obtain ⟨hne, hf⟩ := ck_e hf
              refine lv_lrem (pc := 103) hx hb dX12_year_103 hne ?_
              refine lv_l2i (pc := 104) (v := Int64.toInt32 ((((75 : Int64) * (Int32.toInt64 x14)) + (74 : Int64)) - (((75 : Int64) * (Int32.toInt64 x14)) + (74 : Int64)) / (65537 : Int64) * (65537 : Int64))) hx hb dX12_year_104 rfl ?_
              obtain ⟨x33, ex33, hf⟩ := bs_e hf
              refine rTop ex33 ?_
              refine lv_istore (pc := 105) (lv' := [(5, .int x33), (0, .ref (a 0)), (2, .int p2), (3, .int p3), (4, .int p4), (6, .int x15), (7, .int x16)]) hx hb dX12_year_105 hl (by decide) rfl (fun ls hl => ?_)
              refine lv_iload (pc := 107) hx hb dX12_year_107 (lv_at hl 0 rfl) ?_
              refine lv_iload_n (pc := 109) hx hb dX12_year_109 rfl (lv_at hl 3 rfl) ?_
              obtain ⟨hne, hf⟩ := ck_e hf
              refine lv_irem (pc := 110) hx hb dX12_year_110 hne ?_
              obtain ⟨k34, hk34, hf⟩ := jq_1_e hf
              have jk34 : ∀ (x35 : Int32), k34 x35 = some (rr, uu) → ∀ (H : Heap) (locs : List Loc) (ls : Array Slot), Hh D (AB 21 a s.heap.size) (wX 21 a (EM a cI cZ) u13) s.heap H locs → lv_has ls 10 [(0, .ref (a 0)), (2, .int p2), (3, .int p3), (4, .int p4), (5, .int x33), (6, .int x15), (7, .int x16)] → W p l e R s m args below meth c H locs 0 0 Q (F0 m 119 ls [.int x35]) := by
                intro x35 hf H locs ls h hl
                rw [hk34] at hf
                refine lv_istore (pc := 119) (lv' := [(8, .int x35), (0, .ref (a 0)), (2, .int p2), (3, .int p3), (4, .int p4), (5, .int x33), (6, .int x15), (7, .int x16)]) hx hb dX12_year_119 hl (by decide) rfl (fun ls hl => ?_)
                refine lv_iload (pc := 121) hx hb dX12_year_121 (lv_at hl 6 rfl) ?_
                refine lv_iload (pc := 123) hx hb dX12_year_123 (lv_at hl 0 rfl) ?_
                obtain ⟨k36, hk36, hf⟩ := jq_1_e hf
                have jk36 : ∀ (x37 : Int32), k36 x37 = some (rr, uu) → ∀ (H : Heap) (locs : List Loc) (ls : Array Slot), Hh D (AB 21 a s.heap.size) (wX 21 a (EM a cI cZ) u13) s.heap H locs → lv_has ls 10 [(0, .ref (a 0)), (2, .int p2), (3, .int p3), (4, .int p4), (5, .int x33), (7, .int x16), (8, .int x35)] → W p l e R s m args below meth c H locs 0 0 Q (F0 m 133 ls [.int x37, .int x15]) := by
                  intro x37 hf H locs ls h hl
                  rw [hk36] at hf
                  refine lv_iadd (pc := 133) hx hb dX12_year_133 ?_
                  refine lv_istore (pc := 134) (lv' := [(6, .int (x15 + x37)), (0, .ref (a 0)), (2, .int p2), (3, .int p3), (4, .int p4), (5, .int x33), (7, .int x16), (8, .int x35)]) hx hb dX12_year_134 hl (by decide) rfl (fun ls hl => ?_)
                  refine lv_aload_n (pc := 136) hx hb dX12_year_136 rfl (lv_at hl 1 rfl) ?_
                  refine lv_iload (pc := 137) hx hb dX12_year_137 (lv_at hl 7 rfl) ?_
                  obtain ⟨k38, hk38, hf⟩ := jq_1_e hf
                  have jk38 : ∀ (x39 : Int32), k38 x39 = some (rr, uu) → ∀ (H : Heap) (locs : List Loc) (ls : Array Slot), Hh D (AB 21 a s.heap.size) (wX 21 a (EM a cI cZ) u13) s.heap H locs → lv_has ls 10 [(0, .ref (a 0)), (2, .int p2), (3, .int p3), (4, .int p4), (5, .int x33), (6, .int (x15 + x37)), (7, .int x16)] → W p l e R s m args below meth c H locs 0 0 Q (F0 m 147 ls [.int x39, .ref (a 0)]) := by
                    intro x39 hf H locs ls h hl
                    rw [hk38] at hf
                    refine pM_0_22 (pc := 147) hx hb hts hown hK h fl_X12_155 dX12_year_147 (fun H locs h => ?_)
                    obtain ⟨u40, eu40, hf⟩ := bs_e hf
                    rw [← eu40] at h
                    refine lv_iconst (pc := 150) (v := 0) hx hb dX12_year_150 (by decide) ?_
                    refine lv_istore (pc := 151) (lv' := [(9, .int 0), (0, .ref (a 0)), (2, .int p2), (3, .int p3), (4, .int p4), (5, .int x33), (6, .int (x15 + x37)), (7, .int x16)]) hx hb dX12_year_151 hl (by decide) rfl (fun ls hl => ?_)
                    obtain ⟨k43, hk43, hf⟩ := jq_1_e hf
                    have jk43 : ∀ (u44 : St), k43 u44 = some (rr, uu) → ∀ (H : Heap) (locs : List Loc) (ls : Array Slot), Hh D (AB 21 a s.heap.size) (wX 21 a (EM a cI cZ) u44) s.heap H locs → lv_has ls 10 [(0, .ref (a 0)), (2, .int p2), (3, .int p3), (4, .int p4), (5, .int x33), (6, .int (x15 + x37)), (7, .int x16)] → W p l e R s m args below meth c H locs 0 0 Q (F0 m 212 ls []) := by
                      intro u44 hf H locs ls h hl
                      rw [hk43] at hf
                      refine lv_iinc (pc := 212) (v := x16 + 1) (lv' := [(7, .int (x16 + 1)), (0, .ref (a 0)), (2, .int p2), (3, .int p3), (4, .int p4), (5, .int x33), (6, .int (x15 + x37))]) hx hb dX12_year_212 hl (k := 6) rfl rfl (by decide) rfl (fun ls hl => ?_)
                      refine lv_goto (pc := 215) (tgt := 83) hx hb dX12_year_215 (by decide) ?_
                      exact irec31 _ _ _ _ hf _ _ _ h (lv_sub hl [1, 2, 3, 4, 5, 6, 0] rfl)
                    refine lq_2_e (P := fun (u41 : St) (x42 : Int32) => ∀ (H : Heap) (locs : List Loc) (ls : Array Slot), Hh D (AB 21 a s.heap.size) (wX 21 a (EM a cI cZ) u41) s.heap H locs → lv_has ls 10 [(0, .ref (a 0)), (2, .int p2), (3, .int p3), (4, .int p4), (5, .int x33), (6, .int (x15 + x37)), (7, .int x16), (9, .int x42)] → W p l e R s m args below meth c H locs 0 0 Q (F0 m 153 ls [])) ?_ FU _ _ hf _ _ _ h (lv_sub hl [1, 2, 3, 4, 5, 6, 7, 0] rfl)
                    intro rec45 irec45 u41 x42 hf H locs ls h hl
                    unfold B_X12_year_153 at hf
                    refine lv_iload (pc := 153) hx hb dX12_year_153 (lv_at hl 7 rfl) ?_
                    refine lv_bipush (pc := 155) (v := 8) hx hb dX12_year_155 (by decide) ?_
                    refine lv_icmp_ge (pc := 157) (tgt := 212) hx hb dX12_year_157 (by decide) (fun c46 => ?_) (fun c46 => ?_)
                    · have hf := if_t hf c46
                      exact jk43 _ hf _ _ _ h (lv_sub hl [0, 1, 2, 3, 4, 5, 6] rfl)
                    · have hf := if_f hf c46
                      refine lv_aload_n (pc := 160) hx hb dX12_year_160 rfl (lv_at hl 0 rfl) ?_
                      refine gM_0_24 (pc := 161) hx hb hts hown hK h fl_X12_49 dX12_year_161 ?_
                      refine lv_iload (pc := 164) hx hb dX12_year_164 (lv_at hl 7 rfl) ?_
                      refine lv_aload_n (pc := 166) hx hb dX12_year_166 rfl (lv_at hl 0 rfl) ?_
                      refine lv_iload (pc := 167) hx hb dX12_year_167 (lv_at hl 7 rfl) ?_
                      obtain ⟨x47, hc, hf⟩ := b1_e hf
                      refine k_X12_isBarrel (pc := 169) hx hb hml hown hts hK hN hc ml_X12_107 (Nat.le_trans (by decide) hF) (Nat.le_trans (by decide) hLo) h hl.1 ⟨Nat.zero_le _, Nat.zero_le _⟩ (Nat.le_of_ble_eq_true rfl) dX12_year_169 (fun H locs h => ?_)
                      refine lv_if_eq (pc := 172) (tgt := 204) hx hb dX12_year_172 (by decide) (fun c48 => ?_) (fun c48 => ?_)
                      · have hf := if_t hf c48
                        refine lv_iconst (pc := 204) (v := 0) hx hb dX12_year_204 (by decide) ?_
                        obtain ⟨hin, hf⟩ := cki_e hf
                        refine pM_14 (pc := 205) hx hb hK h hin dX12_year_205 (fun H locs h => ?_)
                        obtain ⟨u49, eu49, hf⟩ := bs_e hf
                        rw [← eu49] at h
                        refine lv_iinc (pc := 206) (v := x42 + 1) (lv' := [(9, .int (x42 + 1)), (0, .ref (a 0)), (2, .int p2), (3, .int p3), (4, .int p4), (5, .int x33), (6, .int (x15 + x37)), (7, .int x16)]) hx hb dX12_year_206 hl (k := 7) rfl rfl (by decide) rfl (fun ls hl => ?_)
                        refine lv_goto (pc := 209) (tgt := 153) hx hb dX12_year_209 (by decide) ?_
                        exact irec45 _ _ hf _ _ _ h (lv_sub hl [1, 2, 3, 4, 5, 6, 7, 0] rfl)
                      · have hf := if_f hf c48
                        refine lv_aload_n (pc := 175) hx hb dX12_year_175 rfl (lv_at hl 0 rfl) ?_
                        refine gM_0_24 (pc := 176) hx hb hts hown hK h fl_X12_49 dX12_year_176 ?_
                        refine lv_iload (pc := 179) hx hb dX12_year_179 (lv_at hl 7 rfl) ?_
                        obtain ⟨hin, hf⟩ := cki_e hf
                        refine gM_14 (pc := 181) hx hb hK h hin dX12_year_181 ?_
                        refine lv_aload_n (pc := 182) hx hb dX12_year_182 rfl (lv_at hl 0 rfl) ?_
                        refine lv_iload (pc := 183) hx hb dX12_year_183 (lv_at hl 7 rfl) ?_
                        refine lv_aload_n (pc := 185) hx hb dX12_year_185 rfl (lv_at hl 0 rfl) ?_
                        refine gM_0_5 (pc := 186) hx hb hts hown hK h fl_X12_16 dX12_year_186 ?_
                        refine lv_iload (pc := 189) hx hb dX12_year_189 (lv_at hl 7 rfl) ?_
                        obtain ⟨hin, hf⟩ := cki_e hf
                        refine gM_3 (pc := 191) hx hb hK h hin dX12_year_191 ?_
                        refine lv_iload (pc := 192) hx hb dX12_year_192 (lv_at hl 6 rfl) ?_
                        obtain ⟨x50, hc, hf⟩ := b1_e hf
                        refine k_X12_rise (pc := 194) hx hb hml hown hts hK hN hc ml_X12_165 (Nat.le_trans (by decide) hF) (Nat.le_trans (by decide) hLo) h hl.1 ⟨Nat.zero_le _, Nat.zero_le _⟩ (Nat.le_of_ble_eq_true rfl) dX12_year_194 (fun H locs h => ?_)
                        refine lv_iadd (pc := 197) hx hb dX12_year_197 ?_
                        obtain ⟨x51, hc, hf⟩ := b1_e hf
                        refine kS_X12_upTo (pc := 198) hx hb hml hown hts hK hN hc ml_X12_169 (Nat.le_trans (by decide) hF) (Nat.le_trans (by decide) hLo) h hl.1 ⟨Nat.zero_le _, Nat.zero_le _⟩ (Nat.le_of_ble_eq_true rfl) dX12_year_198 (fun H locs h => ?_)
                        refine lv_goto (pc := 201) (tgt := 205) hx hb dX12_year_201 (by decide) ?_
                        obtain ⟨hin, hf⟩ := cki_e hf
                        refine pM_14 (pc := 205) hx hb hK h hin dX12_year_205 (fun H locs h => ?_)
                        obtain ⟨u52, eu52, hf⟩ := bs_e hf
                        rw [← eu52] at h
                        refine lv_iinc (pc := 206) (v := x42 + 1) (lv' := [(9, .int (x42 + 1)), (0, .ref (a 0)), (2, .int p2), (3, .int p3), (4, .int p4), (5, .int x33), (6, .int (x15 + x37)), (7, .int x16)]) hx hb dX12_year_206 hl (k := 7) rfl rfl (by decide) rfl (fun ls hl => ?_)
                        refine lv_goto (pc := 209) (tgt := 153) hx hb dX12_year_209 (by decide) ?_
                        exact irec45 _ _ hf _ _ _ h (lv_sub hl [1, 2, 3, 4, 5, 6, 7, 0] rfl)
                  refine lv_if_eq (pc := 139) (tgt := 146) hx hb dX12_year_139 (by decide) (fun c53 => ?_) (fun c53 => ?_)
                  · have hf := if_t hf c53
                    refine lv_iconst (pc := 146) (v := 0) hx hb dX12_year_146 (by decide) ?_
                    exact jk38 _ hf _ _ _ h (lv_sub hl [1, 2, 3, 4, 5, 0, 6] rfl)
                  · have hf := if_f hf c53
                    refine lv_iconst (pc := 142) (v := (-1)) hx hb dX12_year_142 (by decide) ?_
                    refine lv_goto (pc := 143) (tgt := 147) hx hb dX12_year_143 (by decide) ?_
                    exact jk38 _ hf _ _ _ h (lv_sub hl [1, 2, 3, 4, 5, 0, 6] rfl)
                refine lv_if_eq (pc := 125) (tgt := 132) hx hb dX12_year_125 (by decide) (fun c54 => ?_) (fun c54 => ?_)
                · have hf := if_t hf c54
                  refine lv_iconst (pc := 132) (v := 0) hx hb dX12_year_132 (by decide) ?_
                  exact jk36 _ hf _ _ _ h (lv_sub hl [1, 2, 3, 4, 5, 7, 0] rfl)
                · have hf := if_f hf c54
                  refine lv_iconst (pc := 128) (v := 1) hx hb dX12_year_128 (by decide) ?_
                  refine lv_goto (pc := 129) (tgt := 133) hx hb dX12_year_129 (by decide) ?_
                  exact jk36 _ hf _ _ _ h (lv_sub hl [1, 2, 3, 4, 5, 7, 0] rfl)
              refine lv_if_ne (pc := 111) (tgt := 118) hx hb dX12_year_111 (by decide) (fun c55 => ?_) (fun c55 => ?_)
              · have hf := if_f hf c55
                refine lv_iconst (pc := 118) (v := 0) hx hb dX12_year_118 (by decide) ?_
                exact jk34 _ hf _ _ _ h (lv_sub hl [1, 2, 3, 4, 0, 5, 6] rfl)
              · have hf := if_t hf c55
                refine lv_iconst (pc := 114) (v := 1) hx hb dX12_year_114 (by decide) ?_
                refine lv_goto (pc := 115) (tgt := 119) hx hb dX12_year_115 (by decide) ?_
                exact jk34 _ hf _ _ _ h (lv_sub hl [1, 2, 3, 4, 0, 5, 6] rfl)
          refine lq_2_e (P := fun (u9 : St) (x10 : Int32) => ∀ (H : Heap) (locs : List Loc) (ls : Array Slot), Hh D (AB 21 a s.heap.size) (wX 21 a (EM a cI cZ) u9) s.heap H locs → lv_has ls 10 [(0, .ref (a 0)), (1, .int p1), (2, .int p2), (3, .int p3), (4, .int p4), (5, .int x10)] → W p l e R s m args below meth c H locs 0 0 Q (F0 m 53 ls [])) ?_ FU _ _ hf _ _ _ h (lv_sub hl [1, 2, 3, 4, 5, 0] rfl)
          intro rec56 irec56 u9 x10 hf H locs ls h hl
          unfold B_X12_year_53 at hf
          refine lv_iload (pc := 53) hx hb dX12_year_53 (lv_at hl 5 rfl) ?_
          refine lv_bipush (pc := 55) (v := 8) hx hb dX12_year_55 (by decide) ?_
          refine lv_icmp_ge (pc := 57) (tgt := 74) hx hb dX12_year_57 (by decide) (fun c57 => ?_) (fun c57 => ?_)
          · have hf := if_t hf c57
            exact jk11 _ hf _ _ _ h (lv_sub hl [0, 1, 2, 3, 4] rfl)
          · have hf := if_f hf c57
            refine lv_aload_n (pc := 60) hx hb dX12_year_60 rfl (lv_at hl 0 rfl) ?_
            refine gM_0_24 (pc := 61) hx hb hts hown hK h fl_X12_49 dX12_year_61 ?_
            refine lv_iload (pc := 64) hx hb dX12_year_64 (lv_at hl 5 rfl) ?_
            refine lv_iconst (pc := 66) (v := 0) hx hb dX12_year_66 (by decide) ?_
            obtain ⟨hin, hf⟩ := cki_e hf
            refine pM_14 (pc := 67) hx hb hK h hin dX12_year_67 (fun H locs h => ?_)
            obtain ⟨u58, eu58, hf⟩ := bs_e hf
            rw [← eu58] at h
            refine lv_iinc (pc := 68) (v := x10 + 1) (lv' := [(5, .int (x10 + 1)), (0, .ref (a 0)), (1, .int p1), (2, .int p2), (3, .int p3), (4, .int p4)]) hx hb dX12_year_68 hl (k := 5) rfl rfl (by decide) rfl (fun ls hl => ?_)
            refine lv_goto (pc := 71) (tgt := 53) hx hb dX12_year_71 (by decide) ?_
            exact irec56 _ _ hf _ _ _ h (lv_sub hl [1, 2, 3, 4, 5, 0] rfl)
        · have hf := if_t hf c8
          refine lv_bipush (pc := 47) (v := (-2)) hx hb dX12_year_47 (by decide) ?_
          exact hret (so1 hf) rfl (so2 hf) dX12_year_49 h
theorem k_X12_year {p : Program} {l : Launch} {e : Env} {R : Room} {s : State} {m : MethodId} {args : Array Value} {below : List Frame} {meth : Method} {c : Code} {H : Heap} {locs : List Loc} {cells slots : Nat} {Q : State → Prop} {pc : Nat} {ls : Array Slot} {rest : List Value} {cc : ByteArray} {D : va_G} {cI cZ : ClassId} {a : Nat → Nat} {u : St} {own : String} {index nL : Nat} {p1 : Int32} {p2 : Int32} {p3 : Int32} {p4 : Int32} {rr : Int32} {uu : St} (hx : p.tables.exec = Jvm.exec) (hb : c.code = cc) (hml : c.maxLocals = nL) (hown : s.vm.findClass own = some m.cls) (hts : ∀ w ∈ Gd, w.before args s = true) (hK : va_K D vwCl (tyM cI cZ) s) (hN : NB s) (hc : f_X12_year u p1 p2 p3 p4 = some (rr, uu)) (hlk : Cond.methodLink own index yX12_year ∈ Gd) (hF : 4 ≤ R.frames) (hLo : 98 ≤ R.locals) (h : Hh D (AB 21 a s.heap.size) (wX 21 a (EM a cI cZ) u) s.heap H locs) (hsize : ls.size = nL) (hcs : cells ≤ R.cells ∧ slots ≤ R.slots) (hr : (rest.map fun v => v.category).sum ≤ 8) (hdg : decode cc pc = .ok (.invokevirtual index, 3)) (kk : ∀ (H1 : Heap) (locs1 : List Loc), Hh D (AB 21 a s.heap.size) (wX 21 a (EM a cI cZ) uu) s.heap H1 locs1 → W p l e R s m args below meth c H1 locs1 cells slots Q (F0 m (pc + 3) ls (.int rr :: rest))) : W p l e R s m args below meth c H locs cells slots Q (F0 m pc ls (.int p4 :: .int p3 :: .int p2 :: .int p1 :: .ref (a 0) :: rest)) :=
  cVi (n := 4) hx hb hml hown hts hK hN (c_X12_year hc) (gdV hlk im_X12_year se_X12_year in_X12 co_X12_year) rfl (by decide +kernel) rfl hF hLo h hsize hcs (by decide) rfl rfl rfl hr hdg kk
