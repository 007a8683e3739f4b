def f_X12_pass (u : St) (p1 : Int32) : Option (Int32 × St) := jq_1 (fun (x2 : Int32) => cki (u.1 0 38) 300 (bs (sI u 19 (ix (u.1 0 38)) x2) (fun u3 : St => bs (sI u3 0 38 ((u3.1 0 38) + (1 : Int32))) (fun u4 : St => some (x2, u4))))) (fun (k1 : Int32 → Option (Int32 × St)) => if (u.1 0 39) = 0 then cki (u.1 0 38) 300 (k1 (u.1 19 (ix (u.1 0 38)))) else k1 p1)
set_option maxRecDepth 100000 in
set_option maxHeartbeats 4000000 in
theorem c_X12_pass {l : Launch} {D : va_G} {cI cZ : ClassId} {a : Nat → Nat} {u : St} {p1 : Int32} {rr : Int32} {uu : St} (hf : f_X12_pass u p1 = some (rr, uu)) : Ci l yX12_pass cX12_pass 3 (some .int) 0 0 D (tyM cI cZ) 21 a (EM a cI cZ) [.ref (a 0), .int p1] u rr uu := by
  refine metI (by decide +kernel) (Nat.le_of_ble_eq_true rfl) ?_
  intro p e s m args below meth c R Q hx hb hml hown hts hF hLo hret hK hN h ls hl
  have hown : s.vm.findClass RX12 = some m.cls := hown
  have hl : lv_has ls 3 [(0, .ref (a 0)), (1, .int p1)] := hl
  unfold f_X12_pass at hf
  refine lv_aload_n (pc := 0) hx hb dX12_pass_0 rfl (lv_at hl 0 rfl) ?_
  refine gM_0_39 (pc := 1) hx hb hts hown hK h fl_X12_302 dX12_pass_1 ?_
  obtain ⟨k1, hk1, hf⟩ := jq_1_e hf
  have jk1 : ∀ (x2 : Int32), k1 x2 = some (rr, uu) → ∀ (H : Heap) (locs : List Loc) (ls : Array Slot), Hh D (AB 21 a s.heap.size) (wX 21 a (EM a cI cZ) u) s.heap H locs → lv_has ls 3 [(0, .ref (a 0))] → W p l e R s m args below meth c H locs 0 0 Q (F0 m 20 ls [.int x2]) := by
    intro x2 hf H locs ls h hl
    rw [hk1] at hf
    refine lv_istore_n (pc := 20) (lv' := [(2, .int x2), (0, .ref (a 0))]) hx hb dX12_pass_20 rfl hl (by decide) rfl (fun ls hl => ?_)
    refine lv_aload_n (pc := 21) hx hb dX12_pass_21 rfl (lv_at hl 1 rfl) ?_
    refine gM_0_36 (pc := 22) hx hb hts hown hK h fl_X12_64 dX12_pass_22 ?_
    refine lv_aload_n (pc := 25) hx hb dX12_pass_25 rfl (lv_at hl 1 rfl) ?_
    refine gM_0_38 (pc := 26) hx hb hts hown hK h fl_X12_306 dX12_pass_26 ?_
    refine lv_iload_n (pc := 29) hx hb dX12_pass_29 rfl (lv_at hl 0 rfl) ?_
    obtain ⟨hin, hf⟩ := cki_e hf
    refine pM_19 (pc := 30) hx hb hK h hin dX12_pass_30 (fun H locs h => ?_)
    obtain ⟨u3, eu3, hf⟩ := bs_e hf
    rw [← eu3] at h
    refine lv_aload_n (pc := 31) hx hb dX12_pass_31 rfl (lv_at hl 1 rfl) ?_
    refine lv_dup (pc := 32) hx hb dX12_pass_32 rfl ?_
    refine gM_0_38 (pc := 33) hx hb hts hown hK h fl_X12_306 dX12_pass_33 ?_
    refine lv_iconst (pc := 36) (v := 1) hx hb dX12_pass_36 (by decide) ?_
    refine lv_iadd (pc := 37) hx hb dX12_pass_37 ?_
    refine pM_0_38 (pc := 38) hx hb hts hown hK h fl_X12_306 dX12_pass_38 (fun H locs h => ?_)
    obtain ⟨u4, eu4, hf⟩ := bs_e hf
    rw [← eu4] at h
    refine lv_iload_n (pc := 41) hx hb dX12_pass_41 rfl (lv_at hl 0 rfl) ?_
    exact hret (so1 hf) rfl (so2 hf) dX12_pass_42 h
  refine lv_if_eq (pc := 4) (tgt := 11) hx hb dX12_pass_4 (by decide) (fun c5 => ?_) (fun c5 => ?_)
  · have hf := if_t hf c5
    refine lv_aload_n (pc := 11) hx hb dX12_pass_11 rfl (lv_at hl 0 rfl) ?_
    refine gM_0_36 (pc := 12) hx hb hts hown hK h fl_X12_64 dX12_pass_12 ?_
    refine lv_aload_n (pc := 15) hx hb dX12_pass_15 rfl (lv_at hl 0 rfl) ?_
    refine gM_0_38 (pc := 16) hx hb hts hown hK h fl_X12_306 dX12_pass_16 ?_
    obtain ⟨hin, hf⟩ := cki_e hf
    refine gM_19 (pc := 19) hx hb hK h hin dX12_pass_19 ?_
    exact jk1 _ hf _ _ _ h (lv_sub hl [0] rfl)
  · have hf := if_f hf c5
    refine lv_iload_n (pc := 7) hx hb dX12_pass_7 rfl (lv_at hl 1 rfl) ?_
    refine lv_goto (pc := 8) (tgt := 20) hx hb dX12_pass_8 (by decide) ?_
    exact jk1 _ hf _ _ _ h (lv_sub hl [0] rfl)
theorem k_X12_pass {p : Program} {l : Launch} {e : Env} {R : Room} {s : State} {m : MethodId} {args : Array Value} {below : List Frame} {meth : Method} {c : Code} {H : Heap} {locs : List Loc} {cells slots : Nat} {Q : State → Prop} {pc : Nat} {ls : Array Slot} {rest : List Value} {cc : ByteArray} {D : va_G} {cI cZ : ClassId} {a : Nat → Nat} {u : St} {own : String} {index nL : Nat} {p1 : Int32} {rr : Int32} {uu : St} (hx : p.tables.exec = Jvm.exec) (hb : c.code = cc) (hml : c.maxLocals = nL) (hown : s.vm.findClass own = some m.cls) (hts : ∀ w ∈ Gd, w.before args s = true) (hK : va_K D vwCl (tyM cI cZ) s) (hN : NB s) (hc : f_X12_pass u p1 = some (rr, uu)) (hlk : Cond.methodLink own index yX12_pass ∈ Gd) (hF : 1 ≤ R.frames) (hLo : 22 ≤ R.locals) (h : Hh D (AB 21 a s.heap.size) (wX 21 a (EM a cI cZ) u) s.heap H locs) (hsize : ls.size = nL) (hcs : cells ≤ R.cells ∧ slots ≤ R.slots) (hr : (rest.map fun v => v.category).sum ≤ 8) (hdg : decode cc pc = .ok (.invokevirtual index, 3)) (kk : ∀ (H1 : Heap) (locs1 : List Loc), Hh D (AB 21 a s.heap.size) (wX 21 a (EM a cI cZ) uu) s.heap H1 locs1 → W p l e R s m args below meth c H1 locs1 cells slots Q (F0 m (pc + 3) ls (.int rr :: rest))) : W p l e R s m args below meth c H locs cells slots Q (F0 m pc ls (.int p1 :: .ref (a 0) :: rest)) :=
  cVi (n := 1) hx hb hml hown hts hK hN (c_X12_pass hc) (gdV hlk im_X12_pass se_X12_pass in_X12 co_X12_pass) rfl (by decide +kernel) rfl hF hLo h hsize hcs (by decide) rfl rfl rfl hr hdg kk
def B_X12_passAll_299 (k39 : St → Option (St)) (rec41 : St → Int32 → Option (St)) (u37 : St) (x38 : Int32) : Option (St) := if 30 ≤ x38 then k39 u37 else cki x38 30 (b2 (f_X12_pass u37 (u37.1 7 (ix x38))) (fun (x43 : Int32) (u44 : St) => cki x38 30 (bs (sI u44 7 (ix x38) x43) (fun u45 : St => rec41 u45 (x38 + 1)))))
def B_X12_passAll_221 (k35 : St → Option (St)) (rec46 : St → Int32 → Option (St)) (u33 : St) (x34 : Int32) : Option (St) := if 8 ≤ x34 then k35 u33 else cki x34 8 (b2 (f_X12_pass u33 (u33.1 3 (ix x34))) (fun (x48 : Int32) (u49 : St) => cki x34 8 (bs (sI u49 3 (ix x34) x48) (fun u50 : St => cki x34 8 (b2 (f_X12_pass u50 (u50.1 4 (ix x34))) (fun (x51 : Int32) (u52 : St) => cki x34 8 (bs (sI u52 4 (ix x34) x51) (fun u53 : St => cki x34 8 (b2 (f_X12_pass u53 (u53.1 5 (ix x34))) (fun (x54 : Int32) (u55 : St) => cki x34 8 (bs (sI u55 5 (ix x34) x54) (fun u56 : St => cki x34 8 (b2 (f_X12_pass u56 (u56.1 6 (ix x34))) (fun (x57 : Int32) (u58 : St) => cki x34 8 (bs (sI u58 6 (ix x34) x57) (fun u59 : St => rec46 u59 (x34 + 1)))))))))))))))))
def B_X12_passAll_127 (k31 : St → Option (St)) (rec60 : St → Int32 → Option (St)) (u29 : St) (x30 : Int32) : Option (St) := if 6 ≤ x30 then k31 u29 else cki x30 6 (b2 (f_X12_pass u29 (u29.1 1 (ix x30))) (fun (x62 : Int32) (u63 : St) => cki x30 6 (bs (sI u63 1 (ix x30) x62) (fun u64 : St => cki x30 6 (b2 (f_X12_pass u64 (u64.1 2 (ix x30))) (fun (x65 : Int32) (u66 : St) => cki x30 6 (bs (sI u66 2 (ix x30) x65) (fun u67 : St => cki x30 6 (b2 (f_X12_pass u67 (u67.1 9 (ix x30))) (fun (x68 : Int32) (u69 : St) => cki x30 6 (bs (sI u69 9 (ix x30) x68) (fun u70 : St => cki x30 6 (b2 (f_X12_pass u70 (u70.1 10 (ix x30))) (fun (x71 : Int32) (u72 : St) => cki x30 6 (bs (sI u72 10 (ix x30) x71) (fun u73 : St => cki x30 6 (b2 (f_X12_pass u73 (u73.1 11 (ix x30))) (fun (x74 : Int32) (u75 : St) => cki x30 6 (bs (sI u75 11 (ix x30) x74) (fun u76 : St => rec60 u76 (x30 + 1)))))))))))))))))))))
def B_X12_passAll_98 (k27 : St → Option (St)) (rec77 : St → Int32 → Option (St)) (u25 : St) (x26 : Int32) : Option (St) := if 4 ≤ x26 then k27 u25 else cki x26 4 (b2 (f_X12_pass u25 (u25.1 8 (ix x26))) (fun (x79 : Int32) (u80 : St) => cki x26 4 (bs (sI u80 8 (ix x26) x79) (fun u81 : St => rec77 u81 (x26 + 1)))))
def f_X12_passAll (u : St) : Option (St) := b2 (f_X12_pass u (u.1 0 0)) (fun (x1 : Int32) (u2 : St) => bs (sI u2 0 0 x1) (fun u3 : St => b2 (f_X12_pass u3 (u3.1 0 3)) (fun (x4 : Int32) (u5 : St) => bs (sI u5 0 3 x4) (fun u6 : St => b2 (f_X12_pass u6 (u6.1 0 4)) (fun (x7 : Int32) (u8 : St) => bs (sI u8 0 4 x7) (fun u9 : St => b2 (f_X12_pass u9 (u9.1 0 10)) (fun (x10 : Int32) (u11 : St) => bs (sI u11 0 10 x10) (fun u12 : St => b2 (f_X12_pass u12 (u12.1 0 11)) (fun (x13 : Int32) (u14 : St) => bs (sI u14 0 11 x13) (fun u15 : St => b2 (f_X12_pass u15 (u15.1 0 12)) (fun (x16 : Int32) (u17 : St) => bs (sI u17 0 12 x16) (fun u18 : St => b2 (f_X12_pass u18 (u18.1 0 13)) (fun (x19 : Int32) (u20 : St) => bs (sI u20 0 13 x19) (fun u21 : St => b2 (f_X12_pass u21 (u21.1 0 18)) (fun (x22 : Int32) (u23 : St) => bs (sI u23 0 18 x22) (fun u24 : St => jq_1 (fun (u28 : St) => jq_1 (fun (u32 : St) => jq_1 (fun (u36 : St) => jq_1 (fun (u40 : St) => some u40) (fun (k39 : St → Option (St)) => lq_2 (B_X12_passAll_299 k39) FU u36 0)) (fun (k35 : St → Option (St)) => lq_2 (B_X12_passAll_221 k35) FU u32 0)) (fun (k31 : St → Option (St)) => lq_2 (B_X12_passAll_127 k31) FU u28 0)) (fun (k27 : St → Option (St)) => lq_2 (B_X12_passAll_98 k27) FU u24 0)))))))))))))))))
set_option maxRecDepth 100000 in
set_option maxHeartbeats 4000000 in
theorem c_X12_passAll {l : Launch} {D : va_G} {cI cZ : ClassId} {a : Nat → Nat} {u : St} {uu : St} (hf : f_X12_passAll u = some uu) : Cv l yX12_passAll cX12_passAll 2 none 1 22 D (tyM cI cZ) 21 a (EM a cI cZ) [.ref (a 0)] u uu := by
  refine metV (by decide +kernel) (Nat.le_of_ble_eq_true rfl) ?_
  intro p e s m args below meth c R Q hx hb hml hown hts hF hLo hret hK hN h ls hl
  have hown : s.vm.findClass RX12 = some m.cls := hown
  have hl : lv_has ls 2 [(0, .ref (a 0))] := hl
  unfold f_X12_passAll at hf
  refine lv_aload_n (pc := 0) hx hb dX12_passAll_0 rfl (lv_at hl 0 rfl) ?_
  refine lv_aload_n (pc := 1) hx hb dX12_passAll_1 rfl (lv_at hl 0 rfl) ?_
  refine lv_aload_n (pc := 2) hx hb dX12_passAll_2 rfl (lv_at hl 0 rfl) ?_
  refine gM_0_0 (pc := 3) hx hb hts hown hK h fl_X12_85 dX12_passAll_3 ?_
  obtain ⟨x1, u2, hc, hf⟩ := b2_e hf
  refine k_X12_pass (pc := 6) hx hb hml hown hts hK hN hc ml_X12_309 (Nat.le_trans (by decide) hF) (Nat.le_trans (by decide) hLo) h hl.1 ⟨Nat.zero_le _, Nat.zero_le _⟩ (Nat.le_of_ble_eq_true rfl) dX12_passAll_6 (fun H locs h => ?_)
  refine pM_0_0 (pc := 9) hx hb hts hown hK h fl_X12_85 dX12_passAll_9 (fun H locs h => ?_)
  obtain ⟨u3, eu3, hf⟩ := bs_e hf
  rw [← eu3] at h
  refine lv_aload_n (pc := 12) hx hb dX12_passAll_12 rfl (lv_at hl 0 rfl) ?_
  refine lv_aload_n (pc := 13) hx hb dX12_passAll_13 rfl (lv_at hl 0 rfl) ?_
  refine lv_aload_n (pc := 14) hx hb dX12_passAll_14 rfl (lv_at hl 0 rfl) ?_
  refine gM_0_3 (pc := 15) hx hb hts hown hK h fl_X12_88 dX12_passAll_15 ?_
  obtain ⟨x4, u5, hc, hf⟩ := b2_e hf
  refine k_X12_pass (pc := 18) hx hb hml hown hts hK hN hc ml_X12_309 (Nat.le_trans (by decide) hF) (Nat.le_trans (by decide) hLo) h hl.1 ⟨Nat.zero_le _, Nat.zero_le _⟩ (Nat.le_of_ble_eq_true rfl) dX12_passAll_18 (fun H locs h => ?_)
  refine pM_0_3 (pc := 21) hx hb hts hown hK h fl_X12_88 dX12_passAll_21 (fun H locs h => ?_)
  obtain ⟨u6, eu6, hf⟩ := bs_e hf
  rw [← eu6] at h
  refine lv_aload_n (pc := 24) hx hb dX12_passAll_24 rfl (lv_at hl 0 rfl) ?_
  refine lv_aload_n (pc := 25) hx hb dX12_passAll_25 rfl (lv_at hl 0 rfl) ?_
  refine lv_aload_n (pc := 26) hx hb dX12_passAll_26 rfl (lv_at hl 0 rfl) ?_
  refine gM_0_4 (pc := 27) hx hb hts hown hK h fl_X12_91 dX12_passAll_27 ?_
  obtain ⟨x7, u8, hc, hf⟩ := b2_e hf
  refine k_X12_pass (pc := 30) hx hb hml hown hts hK hN hc ml_X12_309 (Nat.le_trans (by decide) hF) (Nat.le_trans (by decide) hLo) h hl.1 ⟨Nat.zero_le _, Nat.zero_le _⟩ (Nat.le_of_ble_eq_true rfl) dX12_passAll_30 (fun H locs h => ?_)
  refine pM_0_4 (pc := 33) hx hb hts hown hK h fl_X12_91 dX12_passAll_33 (fun H locs h => ?_)
  obtain ⟨u9, eu9, hf⟩ := bs_e hf
  rw [← eu9] at h
  refine lv_aload_n (pc := 36) hx hb dX12_passAll_36 rfl (lv_at hl 0 rfl) ?_
  refine lv_aload_n (pc := 37) hx hb dX12_passAll_37 rfl (lv_at hl 0 rfl) ?_
  refine lv_aload_n (pc := 38) hx hb dX12_passAll_38 rfl (lv_at hl 0 rfl) ?_
  refine gM_0_10 (pc := 39) hx hb hts hown hK h fl_X12_78 dX12_passAll_39 ?_
  obtain ⟨x10, u11, hc, hf⟩ := b2_e hf
  refine k_X12_pass (pc := 42) hx hb hml hown hts hK hN hc ml_X12_309 (Nat.le_trans (by decide) hF) (Nat.le_trans (by decide) hLo) h hl.1 ⟨Nat.zero_le _, Nat.zero_le _⟩ (Nat.le_of_ble_eq_true rfl) dX12_passAll_42 (fun H locs h => ?_)
  refine pM_0_10 (pc := 45) hx hb hts hown hK h fl_X12_78 dX12_passAll_45 (fun H locs h => ?_)
  obtain ⟨u12, eu12, hf⟩ := bs_e hf
  rw [← eu12] at h
  refine lv_aload_n (pc := 48) hx hb dX12_passAll_48 rfl (lv_at hl 0 rfl) ?_
  refine lv_aload_n (pc := 49) hx hb dX12_passAll_49 rfl (lv_at hl 0 rfl) ?_
  refine lv_aload_n (pc := 50) hx hb dX12_passAll_50 rfl (lv_at hl 0 rfl) ?_
  refine gM_0_11 (pc := 51) hx hb hts hown hK h fl_X12_71 dX12_passAll_51 ?_
  obtain ⟨x13, u14, hc, hf⟩ := b2_e hf
  refine k_X12_pass (pc := 54) hx hb hml hown hts hK hN hc ml_X12_309 (Nat.le_trans (by decide) hF) (Nat.le_trans (by decide) hLo) h hl.1 ⟨Nat.zero_le _, Nat.zero_le _⟩ (Nat.le_of_ble_eq_true rfl) dX12_passAll_54 (fun H locs h => ?_)
  refine pM_0_11 (pc := 57) hx hb hts hown hK h fl_X12_71 dX12_passAll_57 (fun H locs h => ?_)
  obtain ⟨u15, eu15, hf⟩ := bs_e hf
  rw [← eu15] at h
  refine lv_aload_n (pc := 60) hx hb dX12_passAll_60 rfl (lv_at hl 0 rfl) ?_
  refine lv_aload_n (pc := 61) hx hb dX12_passAll_61 rfl (lv_at hl 0 rfl) ?_
  refine lv_aload_n (pc := 62) hx hb dX12_passAll_62 rfl (lv_at hl 0 rfl) ?_
  refine gM_0_12 (pc := 63) hx hb hts hown hK h fl_X12_75 dX12_passAll_63 ?_
  obtain ⟨x16, u17, hc, hf⟩ := b2_e hf
  refine k_X12_pass (pc := 66) hx hb hml hown hts hK hN hc ml_X12_309 (Nat.le_trans (by decide) hF) (Nat.le_trans (by decide) hLo) h hl.1 ⟨Nat.zero_le _, Nat.zero_le _⟩ (Nat.le_of_ble_eq_true rfl) dX12_passAll_66 (fun H locs h => ?_)
  refine pM_0_12 (pc := 69) hx hb hts hown hK h fl_X12_75 dX12_passAll_69 (fun H locs h => ?_)
  obtain ⟨u18, eu18, hf⟩ := bs_e hf
  rw [← eu18] at h
  refine lv_aload_n (pc := 72) hx hb dX12_passAll_72 rfl (lv_at hl 0 rfl) ?_
  refine lv_aload_n (pc := 73) hx hb dX12_passAll_73 rfl (lv_at hl 0 rfl) ?_
  refine lv_aload_n (pc := 74) hx hb dX12_passAll_74 rfl (lv_at hl 0 rfl) ?_
  refine gM_0_13 (pc := 75) hx hb hts hown hK h fl_X12_128 dX12_passAll_75 ?_
  obtain ⟨x19, u20, hc, hf⟩ := b2_e hf
  refine k_X12_pass (pc := 78) hx hb hml hown hts hK hN hc ml_X12_309 (Nat.le_trans (by decide) hF) (Nat.le_trans (by decide) hLo) h hl.1 ⟨Nat.zero_le _, Nat.zero_le _⟩ (Nat.le_of_ble_eq_true rfl) dX12_passAll_78 (fun H locs h => ?_)
  refine pM_0_13 (pc := 81) hx hb hts hown hK h fl_X12_128 dX12_passAll_81 (fun H locs h => ?_)
  obtain ⟨u21, eu21, hf⟩ := bs_e hf
  rw [← eu21] at h
  refine lv_aload_n (pc := 84) hx hb dX12_passAll_84 rfl (lv_at hl 0 rfl) ?_
  refine lv_aload_n (pc := 85) hx hb dX12_passAll_85 rfl (lv_at hl 0 rfl) ?_
  refine lv_aload_n (pc := 86) hx hb dX12_passAll_86 rfl (lv_at hl 0 rfl) ?_
  refine gM_0_18 (pc := 87) hx hb hts hown hK h fl_X12_94 dX12_passAll_87 ?_
  obtain ⟨x22, u23, hc, hf⟩ := b2_e hf
  refine k_X12_pass (pc := 90) hx hb hml hown hts hK hN hc ml_X12_309 (Nat.le_trans (by decide) hF) (Nat.le_trans (by decide) hLo) h hl.1 ⟨Nat.zero_le _, Nat.zero_le _⟩ (Nat.le_of_ble_eq_true rfl) dX12_passAll_90 (fun H locs h => ?_)
  refine pM_0_18 (pc := 93) hx hb hts hown hK h fl_X12_94 dX12_passAll_93 (fun H locs h => ?_)
  obtain ⟨u24, eu24, hf⟩ := bs_e hf
  rw [← eu24] at h
  refine lv_iconst (pc := 96) (v := 0) hx hb dX12_passAll_96 (by decide) ?_
  refine lv_istore_n (pc := 97) (lv' := [(1, .int 0), (0, .ref (a 0))]) hx hb dX12_passAll_97 rfl hl (by decide) rfl (fun ls hl => ?_)
  obtain ⟨k27, hk27, hf⟩ := jq_1_e hf
  have jk27 : ∀ (u28 : St), k27 u28 = some uu → ∀ (H : Heap) (locs : List Loc) (ls : Array Slot), Hh D (AB 21 a s.heap.size) (wX 21 a (EM a cI cZ) u28) s.heap H locs → lv_has ls 2 [(0, .ref (a 0))] → W p l e R s m args below meth c H locs 0 0 Q (F0 m 125 ls []) := by
    intro u28 hf H locs ls h hl
    rw [hk27] at hf
    refine lv_iconst (pc := 125) (v := 0) hx hb dX12_passAll_125 (by decide) ?_
    refine lv_istore_n (pc := 126) (lv' := [(1, .int 0), (0, .ref (a 0))]) hx hb dX12_passAll_126 rfl hl (by decide) rfl (fun ls hl => ?_)
    obtain ⟨k31, hk31, hf⟩ := jq_1_e hf
    have jk31 : ∀ (u32 : St), k31 u32 = some uu → ∀ (H : Heap) (locs : List Loc) (ls : Array Slot), Hh D (AB 21 a s.heap.size) (wX 21 a (EM a cI cZ) u32) s.heap H locs → lv_has ls 2 [(0, .ref (a 0))] → W p l e R s m args below meth c H locs 0 0 Q (F0 m 219 ls []) := by
      intro u32 hf H locs ls h hl
      rw [hk31] at hf
      refine lv_iconst (pc := 219) (v := 0) hx hb dX12_passAll_219 (by decide) ?_
      refine lv_istore_n (pc := 220) (lv' := [(1, .int 0), (0, .ref (a 0))]) hx hb dX12_passAll_220 rfl hl (by decide) rfl (fun ls hl => ?_)
      obtain ⟨k35, hk35, hf⟩ := jq_1_e hf
      have jk35 : ∀ (u36 : St), k35 u36 = some uu → ∀ (H : Heap) (locs : List Loc) (ls : Array Slot), Hh D (AB 21 a s.heap.size) (wX 21 a (EM a cI cZ) u36) s.heap H locs → lv_has ls 2 [(0, .ref (a 0))] → W p l e R s m args below meth c H locs 0 0 Q (F0 m 297 ls []) := by
        intro u36 hf H locs ls h hl
        rw [hk35] at hf
        refine lv_iconst (pc := 297) (v := 0) hx hb dX12_passAll_297 (by decide) ?_
        refine lv_istore_n (pc := 298) (lv' := [(1, .int 0), (0, .ref (a 0))]) hx hb dX12_passAll_298 rfl hl (by decide) rfl (fun ls hl => ?_)
        obtain ⟨k39, hk39, hf⟩ := jq_1_e hf
        have jk39 : ∀ (u40 : St), k39 u40 = some uu → ∀ (H : Heap) (locs : List Loc) (ls : Array Slot), Hh D (AB 21 a s.heap.size) (wX 21 a (EM a cI cZ) u40) s.heap H locs → lv_has ls 2 [] → W p l e R s m args below meth c H locs 0 0 Q (F0 m 327 ls []) := by
          intro u40 hf H locs ls h hl
          rw [hk39] at hf
          exact hret (so hf) dX12_passAll_327 h
        refine lq_2_e (P := fun (u37 : St) (x38 : Int32) => ∀ (H : Heap) (locs : List Loc) (ls : Array Slot), Hh D (AB 21 a s.heap.size) (wX 21 a (EM a cI cZ) u37) s.heap H locs → lv_has ls 2 [(0, .ref (a 0)), (1, .int x38)] → W p l e R s m args below meth c H locs 0 0 Q (F0 m 299 ls [])) ?_ FU _ _ hf _ _ _ h (lv_sub hl [1, 0] rfl)
        intro rec41 irec41 u37 x38 hf H locs ls h hl
        unfold B_X12_passAll_299 at hf
        refine lv_iload_n (pc := 299) hx hb dX12_passAll_299 rfl (lv_at hl 1 rfl) ?_
        refine lv_bipush (pc := 300) (v := 30) hx hb dX12_passAll_300 (by decide) ?_
        refine lv_icmp_ge (pc := 302) (tgt := 327) hx hb dX12_passAll_302 (by decide) (fun c42 => ?_) (fun c42 => ?_)
        · have hf := if_t hf c42
          exact jk39 _ hf _ _ _ h (lv_sub hl [] rfl)
        · have hf := if_f hf c42
          refine lv_aload_n (pc := 305) hx hb dX12_passAll_305 rfl (lv_at hl 0 rfl) ?_
          refine gM_0_9 (pc := 306) hx hb hts hown hK h fl_X12_28 dX12_passAll_306 ?_
          refine lv_iload_n (pc := 309) hx hb dX12_passAll_309 rfl (lv_at hl 1 rfl) ?_
          refine lv_aload_n (pc := 310) hx hb dX12_passAll_310 rfl (lv_at hl 0 rfl) ?_
          refine lv_aload_n (pc := 311) hx hb dX12_passAll_311 rfl (lv_at hl 0 rfl) ?_
          refine gM_0_9 (pc := 312) hx hb hts hown hK h fl_X12_28 dX12_passAll_312 ?_
          refine lv_iload_n (pc := 315) hx hb dX12_passAll_315 rfl (lv_at hl 1 rfl) ?_
          obtain ⟨hin, hf⟩ := cki_e hf
          refine gM_7 (pc := 316) hx hb hK h hin dX12_passAll_316 ?_
          obtain ⟨x43, u44, hc, hf⟩ := b2_e hf
          refine k_X12_pass (pc := 317) hx hb hml hown hts hK hN hc ml_X12_309 (Nat.le_trans (by decide) hF) (Nat.le_trans (by decide) hLo) h hl.1 ⟨Nat.zero_le _, Nat.zero_le _⟩ (Nat.le_of_ble_eq_true rfl) dX12_passAll_317 (fun H locs h => ?_)
          obtain ⟨hin, hf⟩ := cki_e hf
          refine pM_7 (pc := 320) hx hb hK h hin dX12_passAll_320 (fun H locs h => ?_)
          obtain ⟨u45, eu45, hf⟩ := bs_e hf
          rw [← eu45] at h
          refine lv_iinc (pc := 321) (v := x38 + 1) (lv' := [(1, .int (x38 + 1)), (0, .ref (a 0))]) hx hb dX12_passAll_321 hl (k := 1) rfl rfl (by decide) rfl (fun ls hl => ?_)
          refine lv_goto (pc := 324) (tgt := 299) hx hb dX12_passAll_324 (by decide) ?_
          exact irec41 _ _ hf _ _ _ h (lv_sub hl [1, 0] rfl)
      refine lq_2_e (P := fun (u33 : St) (x34 : Int32) => ∀ (H : Heap) (locs : List Loc) (ls : Array Slot), Hh D (AB 21 a s.heap.size) (wX 21 a (EM a cI cZ) u33) s.heap H locs → lv_has ls 2 [(0, .ref (a 0)), (1, .int x34)] → W p l e R s m args below meth c H locs 0 0 Q (F0 m 221 ls [])) ?_ FU _ _ hf _ _ _ h (lv_sub hl [1, 0] rfl)
      intro rec46 irec46 u33 x34 hf H locs ls h hl
      unfold B_X12_passAll_221 at hf
      refine lv_iload_n (pc := 221) hx hb dX12_passAll_221 rfl (lv_at hl 1 rfl) ?_
      refine lv_bipush (pc := 222) (v := 8) hx hb dX12_passAll_222 (by decide) ?_
      refine lv_icmp_ge (pc := 224) (tgt := 297) hx hb dX12_passAll_224 (by decide) (fun c47 => ?_) (fun c47 => ?_)
      · have hf := if_t hf c47
        exact jk35 _ hf _ _ _ h (lv_sub hl [0] rfl)
      · have hf := if_f hf c47
        refine lv_aload_n (pc := 227) hx hb dX12_passAll_227 rfl (lv_at hl 0 rfl) ?_
        refine gM_0_5 (pc := 228) hx hb hts hown hK h fl_X12_16 dX12_passAll_228 ?_
        refine lv_iload_n (pc := 231) hx hb dX12_passAll_231 rfl (lv_at hl 1 rfl) ?_
        refine lv_aload_n (pc := 232) hx hb dX12_passAll_232 rfl (lv_at hl 0 rfl) ?_
        refine lv_aload_n (pc := 233) hx hb dX12_passAll_233 rfl (lv_at hl 0 rfl) ?_
        refine gM_0_5 (pc := 234) hx hb hts hown hK h fl_X12_16 dX12_passAll_234 ?_
        refine lv_iload_n (pc := 237) hx hb dX12_passAll_237 rfl (lv_at hl 1 rfl) ?_
        obtain ⟨hin, hf⟩ := cki_e hf
        refine gM_3 (pc := 238) hx hb hK h hin dX12_passAll_238 ?_
        obtain ⟨x48, u49, hc, hf⟩ := b2_e hf
        refine k_X12_pass (pc := 239) hx hb hml hown hts hK hN hc ml_X12_309 (Nat.le_trans (by decide) hF) (Nat.le_trans (by decide) hLo) h hl.1 ⟨Nat.zero_le _, Nat.zero_le _⟩ (Nat.le_of_ble_eq_true rfl) dX12_passAll_239 (fun H locs h => ?_)
        obtain ⟨hin, hf⟩ := cki_e hf
        refine pM_3 (pc := 242) hx hb hK h hin dX12_passAll_242 (fun H locs h => ?_)
        obtain ⟨u50, eu50, hf⟩ := bs_e hf
        rw [← eu50] at h
        refine lv_aload_n (pc := 243) hx hb dX12_passAll_243 rfl (lv_at hl 0 rfl) ?_
        refine gM_0_6 (pc := 244) hx hb hts hown hK h fl_X12_19 dX12_passAll_244 ?_
        refine lv_iload_n (pc := 247) hx hb dX12_passAll_247 rfl (lv_at hl 1 rfl) ?_
        refine lv_aload_n (pc := 248) hx hb dX12_passAll_248 rfl (lv_at hl 0 rfl) ?_
        refine lv_aload_n (pc := 249) hx hb dX12_passAll_249 rfl (lv_at hl 0 rfl) ?_
        refine gM_0_6 (pc := 250) hx hb hts hown hK h fl_X12_19 dX12_passAll_250 ?_
        refine lv_iload_n (pc := 253) hx hb dX12_passAll_253 rfl (lv_at hl 1 rfl) ?_
        obtain ⟨hin, hf⟩ := cki_e hf
        refine gM_4 (pc := 254) hx hb hK h hin dX12_passAll_254 ?_
        obtain ⟨x51, u52, hc, hf⟩ := b2_e hf
        refine k_X12_pass (pc := 255) hx hb hml hown hts hK hN hc ml_X12_309 (Nat.le_trans (by decide) hF) (Nat.le_trans (by decide) hLo) h hl.1 ⟨Nat.zero_le _, Nat.zero_le _⟩ (Nat.le_of_ble_eq_true rfl) dX12_passAll_255 (fun H locs h => ?_)
        obtain ⟨hin, hf⟩ := cki_e hf
        refine pM_4 (pc := 258) hx hb hK h hin dX12_passAll_258 (fun H locs h => ?_)
        obtain ⟨u53, eu53, hf⟩ := bs_e hf
        rw [← eu53] at h
        refine lv_aload_n (pc := 259) hx hb dX12_passAll_259 rfl (lv_at hl 0 rfl) ?_
        refine gM_0_7 (pc := 260) hx hb hts hown hK h fl_X12_22 dX12_passAll_260 ?_
        refine lv_iload_n (pc := 263) hx hb dX12_passAll_263 rfl (lv_at hl 1 rfl) ?_
        refine lv_aload_n (pc := 264) hx hb dX12_passAll_264 rfl (lv_at hl 0 rfl) ?_
        refine lv_aload_n (pc := 265) hx hb dX12_passAll_265 rfl (lv_at hl 0 rfl) ?_
        refine gM_0_7 (pc := 266) hx hb hts hown hK h fl_X12_22 dX12_passAll_266 ?_
        refine lv_iload_n (pc := 269) hx hb dX12_passAll_269 rfl (lv_at hl 1 rfl) ?_
        obtain ⟨hin, hf⟩ := cki_e hf
        refine gM_5 (pc := 270) hx hb hK h hin dX12_passAll_270 ?_
        obtain ⟨x54, u55, hc, hf⟩ := b2_e hf
        refine k_X12_pass (pc := 271) hx hb hml hown hts hK hN hc ml_X12_309 (Nat.le_trans (by decide) hF) (Nat.le_trans (by decide) hLo) h hl.1 ⟨Nat.zero_le _, Nat.zero_le _⟩ (Nat.le_of_ble_eq_true rfl) dX12_passAll_271 (fun H locs h => ?_)
        obtain ⟨hin, hf⟩ := cki_e hf
        refine pM_5 (pc := 274) hx hb hK h hin dX12_passAll_274 (fun H locs h => ?_)
        obtain ⟨u56, eu56, hf⟩ := bs_e hf
        rw [← eu56] at h
        refine lv_aload_n (pc := 275) hx hb dX12_passAll_275 rfl (lv_at hl 0 rfl) ?_
        refine gM_0_8 (pc := 276) hx hb hts hown hK h fl_X12_25 dX12_passAll_276 ?_
        refine lv_iload_n (pc := 279) hx hb dX12_passAll_279 rfl (lv_at hl 1 rfl) ?_
        refine lv_aload_n (pc := 280) hx hb dX12_passAll_280 rfl (lv_at hl 0 rfl) ?_
        refine lv_aload_n (pc := 281) hx hb dX12_passAll_281 rfl (lv_at hl 0 rfl) ?_
        refine gM_0_8 (pc := 282) hx hb hts hown hK h fl_X12_25 dX12_passAll_282 ?_
        refine lv_iload_n (pc := 285) hx hb dX12_passAll_285 rfl (lv_at hl 1 rfl) ?_
        obtain ⟨hin, hf⟩ := cki_e hf
        refine gM_6 (pc := 286) hx hb hK h hin dX12_passAll_286 ?_
        obtain ⟨x57, u58, hc, hf⟩ := b2_e hf
        refine k_X12_pass (pc := 287) hx hb hml hown hts hK hN hc ml_X12_309 (Nat.le_trans (by decide) hF) (Nat.le_trans (by decide) hLo) h hl.1 ⟨Nat.zero_le _, Nat.zero_le _⟩ (Nat.le_of_ble_eq_true rfl) dX12_passAll_287 (fun H locs h => ?_)
        obtain ⟨hin, hf⟩ := cki_e hf
        refine pM_6 (pc := 290) hx hb hK h hin dX12_passAll_290 (fun H locs h => ?_)
        obtain ⟨u59, eu59, hf⟩ := bs_e hf
        rw [← eu59] at h
        refine lv_iinc (pc := 291) (v := x34 + 1) (lv' := [(1, .int (x34 + 1)), (0, .ref (a 0))]) hx hb dX12_passAll_291 hl (k := 1) rfl rfl (by decide) rfl (fun ls hl => ?_)
        refine lv_goto (pc := 294) (tgt := 221) hx hb dX12_passAll_294 (by decide) ?_
        exact irec46 _ _ hf _ _ _ h (lv_sub hl [1, 0] rfl)
    refine lq_2_e (P := fun (u29 : St) (x30 : Int32) => ∀ (H : Heap) (locs : List Loc) (ls : Array Slot), Hh D (AB 21 a s.heap.size) (wX 21 a (EM a cI cZ) u29) s.heap H locs → lv_has ls 2 [(0, .ref (a 0)), (1, .int x30)] → W p l e R s m args below meth c H locs 0 0 Q (F0 m 127 ls [])) ?_ FU _ _ hf _ _ _ h (lv_sub hl [1, 0] rfl)
    intro rec60 irec60 u29 x30 hf H locs ls h hl
    unfold B_X12_passAll_127 at hf
    refine lv_iload_n (pc := 127) hx hb dX12_passAll_127 rfl (lv_at hl 1 rfl) ?_
    refine lv_bipush (pc := 128) (v := 6) hx hb dX12_passAll_128 (by decide) ?_
    refine lv_icmp_ge (pc := 130) (tgt := 219) hx hb dX12_passAll_130 (by decide) (fun c61 => ?_) (fun c61 => ?_)
    · have hf := if_t hf c61
      exact jk31 _ hf _ _ _ h (lv_sub hl [0] rfl)
    · have hf := if_f hf c61
      refine lv_aload_n (pc := 133) hx hb dX12_passAll_133 rfl (lv_at hl 0 rfl) ?_
      refine gM_0_1 (pc := 134) hx hb hts hown hK h fl_X12_7 dX12_passAll_134 ?_
      refine lv_iload_n (pc := 137) hx hb dX12_passAll_137 rfl (lv_at hl 1 rfl) ?_
      refine lv_aload_n (pc := 138) hx hb dX12_passAll_138 rfl (lv_at hl 0 rfl) ?_
      refine lv_aload_n (pc := 139) hx hb dX12_passAll_139 rfl (lv_at hl 0 rfl) ?_
      refine gM_0_1 (pc := 140) hx hb hts hown hK h fl_X12_7 dX12_passAll_140 ?_
      refine lv_iload_n (pc := 143) hx hb dX12_passAll_143 rfl (lv_at hl 1 rfl) ?_
      obtain ⟨hin, hf⟩ := cki_e hf
      refine gM_1 (pc := 144) hx hb hK h hin dX12_passAll_144 ?_
      obtain ⟨x62, u63, hc, hf⟩ := b2_e hf
      refine k_X12_pass (pc := 145) hx hb hml hown hts hK hN hc ml_X12_309 (Nat.le_trans (by decide) hF) (Nat.le_trans (by decide) hLo) h hl.1 ⟨Nat.zero_le _, Nat.zero_le _⟩ (Nat.le_of_ble_eq_true rfl) dX12_passAll_145 (fun H locs h => ?_)
      obtain ⟨hin, hf⟩ := cki_e hf
      refine pM_1 (pc := 148) hx hb hK h hin dX12_passAll_148 (fun H locs h => ?_)
      obtain ⟨u64, eu64, hf⟩ := bs_e hf
      rw [← eu64] at h
      refine lv_aload_n (pc := 149) hx hb dX12_passAll_149 rfl (lv_at hl 0 rfl) ?_
      refine gM_0_2 (pc := 150) hx hb hts hown hK h fl_X12_13 dX12_passAll_150 ?_
      refine lv_iload_n (pc := 153) hx hb dX12_passAll_153 rfl (lv_at hl 1 rfl) ?_
      refine lv_aload_n (pc := 154) hx hb dX12_passAll_154 rfl (lv_at hl 0 rfl) ?_
      refine lv_aload_n (pc := 155) hx hb dX12_passAll_155 rfl (lv_at hl 0 rfl) ?_
      refine gM_0_2 (pc := 156) hx hb hts hown hK h fl_X12_13 dX12_passAll_156 ?_
      refine lv_iload_n (pc := 159) hx hb dX12_passAll_159 rfl (lv_at hl 1 rfl) ?_
      obtain ⟨hin, hf⟩ := cki_e hf
      refine gM_2 (pc := 160) hx hb hK h hin dX12_passAll_160 ?_
      obtain ⟨x65, u66, hc, hf⟩ := b2_e hf
      refine k_X12_pass (pc := 161) hx hb hml hown hts hK hN hc ml_X12_309 (Nat.le_trans (by decide) hF) (Nat.le_trans (by decide) hLo) h hl.1 ⟨Nat.zero_le _, Nat.zero_le _⟩ (Nat.le_of_ble_eq_true rfl) dX12_passAll_161 (fun H locs h => ?_)
      obtain ⟨hin, hf⟩ := cki_e hf
      refine pM_2 (pc := 164) hx hb hK h hin dX12_passAll_164 (fun H locs h => ?_)
      obtain ⟨u67, eu67, hf⟩ := bs_e hf
      rw [← eu67] at h
      refine lv_aload_n (pc := 165) hx hb dX12_passAll_165 rfl (lv_at hl 0 rfl) ?_
      refine gM_0_15 (pc := 166) hx hb hts hown hK h fl_X12_34 dX12_passAll_166 ?_
      refine lv_iload_n (pc := 169) hx hb dX12_passAll_169 rfl (lv_at hl 1 rfl) ?_
      refine lv_aload_n (pc := 170) hx hb dX12_passAll_170 rfl (lv_at hl 0 rfl) ?_
      refine lv_aload_n (pc := 171) hx hb dX12_passAll_171 rfl (lv_at hl 0 rfl) ?_
      refine gM_0_15 (pc := 172) hx hb hts hown hK h fl_X12_34 dX12_passAll_172 ?_
      refine lv_iload_n (pc := 175) hx hb dX12_passAll_175 rfl (lv_at hl 1 rfl) ?_
      obtain ⟨hin, hf⟩ := cki_e hf
      refine gM_9 (pc := 176) hx hb hK h hin dX12_passAll_176 ?_
      obtain ⟨x68, u69, hc, hf⟩ := b2_e hf
      refine k_X12_pass (pc := 177) hx hb hml hown hts hK hN hc ml_X12_309 (Nat.le_trans (by decide) hF) (Nat.le_trans (by decide) hLo) h hl.1 ⟨Nat.zero_le _, Nat.zero_le _⟩ (Nat.le_of_ble_eq_true rfl) dX12_passAll_177 (fun H locs h => ?_)
      obtain ⟨hin, hf⟩ := cki_e hf
      refine pM_9 (pc := 180) hx hb hK h hin dX12_passAll_180 (fun H locs h => ?_)
      obtain ⟨u70, eu70, hf⟩ := bs_e hf
      rw [← eu70] at h
      refine lv_aload_n (pc := 181) hx hb dX12_passAll_181 rfl (lv_at hl 0 rfl) ?_
      refine gM_0_16 (pc := 182) hx hb hts hown hK h fl_X12_37 dX12_passAll_182 ?_
      refine lv_iload_n (pc := 185) hx hb dX12_passAll_185 rfl (lv_at hl 1 rfl) ?_
      refine lv_aload_n (pc := 186) hx hb dX12_passAll_186 rfl (lv_at hl 0 rfl) ?_
      refine lv_aload_n (pc := 187) hx hb dX12_passAll_187 rfl (lv_at hl 0 rfl) ?_
      refine gM_0_16 (pc := 188) hx hb hts hown hK h fl_X12_37 dX12_passAll_188 ?_
      refine lv_iload_n (pc := 191) hx hb dX12_passAll_191 rfl (lv_at hl 1 rfl) ?_
      obtain ⟨hin, hf⟩ := cki_e hf
      refine gM_10 (pc := 192) hx hb hK h hin dX12_passAll_192 ?_
      obtain ⟨x71, u72, hc, hf⟩ := b2_e hf
      refine k_X12_pass (pc := 193) hx hb hml hown hts hK hN hc ml_X12_309 (Nat.le_trans (by decide) hF) (Nat.le_trans (by decide) hLo) h hl.1 ⟨Nat.zero_le _, Nat.zero_le _⟩ (Nat.le_of_ble_eq_true rfl) dX12_passAll_193 (fun H locs h => ?_)
      obtain ⟨hin, hf⟩ := cki_e hf
      refine pM_10 (pc := 196) hx hb hK h hin dX12_passAll_196 (fun H locs h => ?_)
      obtain ⟨u73, eu73, hf⟩ := bs_e hf
      rw [← eu73] at h
      refine lv_aload_n (pc := 197) hx hb dX12_passAll_197 rfl (lv_at hl 0 rfl) ?_
      refine gM_0_17 (pc := 198) hx hb hts hown hK h fl_X12_40 dX12_passAll_198 ?_
      refine lv_iload_n (pc := 201) hx hb dX12_passAll_201 rfl (lv_at hl 1 rfl) ?_
      refine lv_aload_n (pc := 202) hx hb dX12_passAll_202 rfl (lv_at hl 0 rfl) ?_
      refine lv_aload_n (pc := 203) hx hb dX12_passAll_203 rfl (lv_at hl 0 rfl) ?_
      refine gM_0_17 (pc := 204) hx hb hts hown hK h fl_X12_40 dX12_passAll_204 ?_
      refine lv_iload_n (pc := 207) hx hb dX12_passAll_207 rfl (lv_at hl 1 rfl) ?_
      obtain ⟨hin, hf⟩ := cki_e hf
      refine gM_11 (pc := 208) hx hb hK h hin dX12_passAll_208 ?_
      obtain ⟨x74, u75, hc, hf⟩ := b2_e hf
      refine k_X12_pass (pc := 209) hx hb hml hown hts hK hN hc ml_X12_309 (Nat.le_trans (by decide) hF) (Nat.le_trans (by decide) hLo) h hl.1 ⟨Nat.zero_le _, Nat.zero_le _⟩ (Nat.le_of_ble_eq_true rfl) dX12_passAll_209 (fun H locs h => ?_)
      obtain ⟨hin, hf⟩ := cki_e hf
      refine pM_11 (pc := 212) hx hb hK h hin dX12_passAll_212 (fun H locs h => ?_)
      obtain ⟨u76, eu76, hf⟩ := bs_e hf
      rw [← eu76] at h
      refine lv_iinc (pc := 213) (v := x30 + 1) (lv' := [(1, .int (x30 + 1)), (0, .ref (a 0))]) hx hb dX12_passAll_213 hl (k := 1) rfl rfl (by decide) rfl (fun ls hl => ?_)
      refine lv_goto (pc := 216) (tgt := 127) hx hb dX12_passAll_216 (by decide) ?_
      exact irec60 _ _ hf _ _ _ h (lv_sub hl [1, 0] rfl)
  refine lq_2_e (P := fun (u25 : St) (x26 : Int32) => ∀ (H : Heap) (locs : List Loc) (ls : Array Slot), Hh D (AB 21 a s.heap.size) (wX 21 a (EM a cI cZ) u25) s.heap H locs → lv_has ls 2 [(0, .ref (a 0)), (1, .int x26)] → W p l e R s m args below meth c H locs 0 0 Q (F0 m 98 ls [])) ?_ FU _ _ hf _ _ _ h (lv_sub hl [1, 0] rfl)
  intro rec77 irec77 u25 x26 hf H locs ls h hl
  unfold B_X12_passAll_98 at hf
  refine lv_iload_n (pc := 98) hx hb dX12_passAll_98 rfl (lv_at hl 1 rfl) ?_
  refine lv_iconst (pc := 99) (v := 4) hx hb dX12_passAll_99 (by decide) ?_
  refine lv_icmp_ge (pc := 100) (tgt := 125) hx hb dX12_passAll_100 (by decide) (fun c78 => ?_) (fun c78 => ?_)
  · have hf := if_t hf c78
    exact jk27 _ hf _ _ _ h (lv_sub hl [0] rfl)
  · have hf := if_f hf c78
    refine lv_aload_n (pc := 103) hx hb dX12_passAll_103 rfl (lv_at hl 0 rfl) ?_
    refine gM_0_14 (pc := 104) hx hb hts hown hK h fl_X12_31 dX12_passAll_104 ?_
    refine lv_iload_n (pc := 107) hx hb dX12_passAll_107 rfl (lv_at hl 1 rfl) ?_
    refine lv_aload_n (pc := 108) hx hb dX12_passAll_108 rfl (lv_at hl 0 rfl) ?_
    refine lv_aload_n (pc := 109) hx hb dX12_passAll_109 rfl (lv_at hl 0 rfl) ?_
    refine gM_0_14 (pc := 110) hx hb hts hown hK h fl_X12_31 dX12_passAll_110 ?_
    refine lv_iload_n (pc := 113) hx hb dX12_passAll_113 rfl (lv_at hl 1 rfl) ?_
    obtain ⟨hin, hf⟩ := cki_e hf
    refine gM_8 (pc := 114) hx hb hK h hin dX12_passAll_114 ?_
    obtain ⟨x79, u80, hc, hf⟩ := b2_e hf
    refine k_X12_pass (pc := 115) hx hb hml hown hts hK hN hc ml_X12_309 (Nat.le_trans (by decide) hF) (Nat.le_trans (by decide) hLo) h hl.1 ⟨Nat.zero_le _, Nat.zero_le _⟩ (Nat.le_of_ble_eq_true rfl) dX12_passAll_115 (fun H locs h => ?_)
    obtain ⟨hin, hf⟩ := cki_e hf
    refine pM_8 (pc := 118) hx hb hK h hin dX12_passAll_118 (fun H locs h => ?_)
    obtain ⟨u81, eu81, hf⟩ := bs_e hf
    rw [← eu81] at h
    refine lv_iinc (pc := 119) (v := x26 + 1) (lv' := [(1, .int (x26 + 1)), (0, .ref (a 0))]) hx hb dX12_passAll_119 hl (k := 1) rfl rfl (by decide) rfl (fun ls hl => ?_)
    refine lv_goto (pc := 122) (tgt := 98) hx hb dX12_passAll_122 (by decide) ?_
    exact irec77 _ _ hf _ _ _ h (lv_sub hl [1, 0] rfl)
theorem k_X12_passAll {p : Program} {l : Launch} {e : Env} {R : Room} {s : State} {m : MethodId} {args : Array Value} {below : List Frame} {meth : Method} {c : Code} {H : Heap} {locs : List Loc} {cells slots : Nat} {Q : State → Prop} {pc : Nat} {ls : Array Slot} {rest : List Value} {cc : ByteArray} {D : va_G} {cI cZ : ClassId} {a : Nat → Nat} {u : St} {own : String} {index nL : Nat} {uu : St} (hx : p.tables.exec = Jvm.exec) (hb : c.code = cc) (hml : c.maxLocals = nL) (hown : s.vm.findClass own = some m.cls) (hts : ∀ w ∈ Gd, w.before args s = true) (hK : va_K D vwCl (tyM cI cZ) s) (hN : NB s) (hc : f_X12_passAll u = some uu) (hlk : Cond.methodLink own index yX12_passAll ∈ Gd) (hF : 2 ≤ R.frames) (hLo : 43 ≤ R.locals) (h : Hh D (AB 21 a s.heap.size) (wX 21 a (EM a cI cZ) u) s.heap H locs) (hsize : ls.size = nL) (hcs : cells ≤ R.cells ∧ slots ≤ R.slots) (hr : (rest.map fun v => v.category).sum ≤ 8) (hdg : decode cc pc = .ok (.invokevirtual index, 3)) (kk : ∀ (H1 : Heap) (locs1 : List Loc), Hh D (AB 21 a s.heap.size) (wX 21 a (EM a cI cZ) uu) s.heap H1 locs1 → W p l e R s m args below meth c H1 locs1 cells slots Q (F0 m (pc + 3) ls (rest))) : W p l e R s m args below meth c H locs cells slots Q (F0 m pc ls (.ref (a 0) :: rest)) :=
  cVv (n := 0) hx hb hml hown hts hK hN (c_X12_passAll hc) (gdV hlk im_X12_passAll se_X12_passAll in_X12 co_X12_passAll) rfl (by decide +kernel) rfl hF hLo h hsize hcs (by decide) rfl rfl rfl hr hdg kk
def f_X12_image (u : St) (p1 : Int32) : Option (Int32 × St) := b1 (f_X12_in u (Int32.toInt64 p1) 0 1) (fun (x1 : Int32) => if x1 = 0 then some ((-2), u) else bs (sI u 0 38 ((150 : Int32) * p1)) (fun u3 : St => bs (sI u3 0 39 1) (fun u4 : St => b1 (f_X12_passAll u4) (fun (u5 : St) => cki p1 2 (bs (sI u5 20 (ix p1) 1) (fun u6 : St => some (1, u6)))))))
set_option maxRecDepth 100000 in
set_option maxHeartbeats 4000000 in
theorem c_X12_image {l : Launch} {D : va_G} {cI cZ : ClassId} {a : Nat → Nat} {u : St} {p1 : Int32} {rr : Int32} {uu : St} (hf : f_X12_image u p1 = some (rr, uu)) : Ci l yX12_image cX12_image 2 (some .int) 2 43 D (tyM cI cZ) 21 a (EM a cI cZ) [.ref (a 0), .int p1] u rr uu := by
  refine metI (by decide +kernel) (Nat.le_of_ble_eq_true rfl) ?_
  intro p e s m args below meth c R Q hx hb hml hown hts hF hLo hret hK hN h ls hl
  have hown : s.vm.findClass RX12 = some m.cls := hown
  have hl : lv_has ls 2 [(0, .ref (a 0)), (1, .int p1)] := hl
  unfold f_X12_image at hf
  refine lv_iload_n (pc := 0) hx hb dX12_image_0 rfl (lv_at hl 1 rfl) ?_
  refine lv_i2l (pc := 1) (v := Int32.toInt64 p1) hx hb dX12_image_1 rfl ?_
  refine lv_lconst (pc := 2) (v := 0) hx hb dX12_image_2 (by decide) ?_
  refine lv_lconst (pc := 3) (v := 1) hx hb dX12_image_3 (by decide) ?_
  obtain ⟨x1, hc, hf⟩ := b1_e hf
  refine kS_X12_in (pc := 4) hx hb hml hown hts hK hN hc ml_X12_97 (Nat.le_trans (by decide) hF) (Nat.le_trans (by decide) hLo) h hl.1 ⟨Nat.zero_le _, Nat.zero_le _⟩ (Nat.le_of_ble_eq_true rfl) dX12_image_4 (fun H locs h => ?_)
  refine lv_if_ne (pc := 7) (tgt := 13) hx hb dX12_image_7 (by decide) (fun c2 => ?_) (fun c2 => ?_)
  · have hf := if_f hf c2
    refine lv_aload_n (pc := 13) hx hb dX12_image_13 rfl (lv_at hl 0 rfl) ?_
    refine lv_sipush (pc := 14) (v := 150) hx hb dX12_image_14 (by decide) ?_
    refine lv_iload_n (pc := 17) hx hb dX12_image_17 rfl (lv_at hl 1 rfl) ?_
    refine lv_imul (pc := 18) hx hb dX12_image_18 ?_
    refine pM_0_38 (pc := 19) hx hb hts hown hK h fl_X12_306 dX12_image_19 (fun H locs h => ?_)
    obtain ⟨u3, eu3, hf⟩ := bs_e hf
    rw [← eu3] at h
    refine lv_aload_n (pc := 22) hx hb dX12_image_22 rfl (lv_at hl 0 rfl) ?_
    refine lv_iconst (pc := 23) (v := 1) hx hb dX12_image_23 (by decide) ?_
    refine pM_0_39 (pc := 24) hx hb hts hown hK h (Or.inr rfl) fl_X12_302 dX12_image_24 (fun H locs h => ?_)
    obtain ⟨u4, eu4, hf⟩ := bs_e hf
    rw [← eu4] at h
    refine lv_aload_n (pc := 27) hx hb dX12_image_27 rfl (lv_at hl 0 rfl) ?_
    obtain ⟨u5, hc, hf⟩ := b1_e hf
    refine k_X12_passAll (pc := 28) hx hb hml hown hts hK hN hc ml_X12_312 (Nat.le_trans (by decide) hF) (Nat.le_trans (by decide) hLo) h hl.1 ⟨Nat.zero_le _, Nat.zero_le _⟩ (Nat.le_of_ble_eq_true rfl) dX12_image_28 (fun H locs h => ?_)
    refine lv_aload_n (pc := 31) hx hb dX12_image_31 rfl (lv_at hl 0 rfl) ?_
    refine gM_0_37 (pc := 32) hx hb hts hown hK h fl_X12_67 dX12_image_32 ?_
    refine lv_iload_n (pc := 35) hx hb dX12_image_35 rfl (lv_at hl 1 rfl) ?_
    refine lv_iconst (pc := 36) (v := 1) hx hb dX12_image_36 (by decide) ?_
    obtain ⟨hin, hf⟩ := cki_e hf
    refine pM_20 (pc := 37) hx hb hK h rfl hin dX12_image_37 (fun H locs h => ?_)
    obtain ⟨u6, eu6, hf⟩ := bs_e hf
    rw [← eu6] at h
    refine lv_iconst (pc := 38) (v := 1) hx hb dX12_image_38 (by decide) ?_
    exact hret (so1 hf) rfl (so2 hf) dX12_image_39 h
  · have hf := if_t hf c2
    refine lv_bipush (pc := 10) (v := (-2)) hx hb dX12_image_10 (by decide) ?_
    exact hret (so1 hf) rfl (so2 hf) dX12_image_12 h
theorem k_X12_image {p : Program} {l : Launch} {e : Env} {R : Room} {s : State} {m : MethodId} {args : Array Value} {below : List Frame} {meth : Method} {c : Code} {H : Heap} {locs : List Loc} {cells slots : Nat} {Q : State → Prop} {pc : Nat} {ls : Array Slot} {rest : List Value} {cc : ByteArray} {D : va_G} {cI cZ : ClassId} {a : Nat → Nat} {u : St} {own : String} {index nL : Nat} {p1 : Int32} {rr : Int32} {uu : St} (hx : p.tables.exec = Jvm.exec) (hb : c.code = cc) (hml : c.maxLocals = nL) (hown : s.vm.findClass own = some m.cls) (hts : ∀ w ∈ Gd, w.before args s = true) (hK : va_K D vwCl (tyM cI cZ) s) (hN : NB s) (hc : f_X12_image u p1 = some (rr, uu)) (hlk : Cond.methodLink own index yX12_image ∈ Gd) (hF : 3 ≤ R.frames) (hLo : 64 ≤ R.locals) (h : Hh D (AB 21 a s.heap.size) (wX 21 a (EM a cI cZ) u) s.heap H locs) (hsize : ls.size = nL) (hcs : cells ≤ R.cells ∧ slots ≤ R.slots) (hr : (rest.map fun v => v.category).sum ≤ 8) (hdg : decode cc pc = .ok (.invokevirtual index, 3)) (kk : ∀ (H1 : Heap) (locs1 : List Loc), Hh D (AB 21 a s.heap.size) (wX 21 a (EM a cI cZ) uu) s.heap H1 locs1 → W p l e R s m args below meth c H1 locs1 cells slots Q (F0 m (pc + 3) ls (.int rr :: rest))) : W p l e R s m args below meth c H locs cells slots Q (F0 m pc ls (.int p1 :: .ref (a 0) :: rest)) :=
  cVi (n := 1) hx hb hml hown hts hK hN (c_X12_image hc) (gdV hlk im_X12_image se_X12_image in_X12 co_X12_image) rfl (by decide +kernel) rfl hF hLo h hsize hcs (by decide) rfl rfl rfl hr hdg kk
def f_X12_restore (u : St) (p1 : Int32) : Option (Int32 × St) := b1 (f_X12_in u (Int32.toInt64 p1) 0 1) (fun (x1 : Int32) => if x1 = 0 then some ((-2), u) else cki p1 2 (if (u.1 20 (ix p1)) = 0 then some ((-3), u) else bs (sI u 0 38 ((150 : Int32) * p1)) (fun u4 : St => bs (sI u4 0 39 0) (fun u5 : St => b1 (f_X12_passAll u5) (fun (u6 : St) => some (1, u6))))))
set_option maxRecDepth 100000 in
set_option maxHeartbeats 4000000 in
theorem c_X12_restore {l : Launch} {D : va_G} {cI cZ : ClassId} {a : Nat → Nat} {u : St} {p1 : Int32} {rr : Int32} {uu : St} (hf : f_X12_restore u p1 = some (rr, uu)) : Ci l yX12_restore cX12_restore 2 (some .int) 2 43 D (tyM cI cZ) 21 a (EM a cI cZ) [.ref (a 0), .int p1] u rr uu := by
  refine metI (by decide +kernel) (Nat.le_of_ble_eq_true rfl) ?_
  intro p e s m args below meth c R Q hx hb hml hown hts hF hLo hret hK hN h ls hl
  have hown : s.vm.findClass RX12 = some m.cls := hown
  have hl : lv_has ls 2 [(0, .ref (a 0)), (1, .int p1)] := hl
  unfold f_X12_restore at hf
  refine lv_iload_n (pc := 0) hx hb dX12_restore_0 rfl (lv_at hl 1 rfl) ?_
  refine lv_i2l (pc := 1) (v := Int32.toInt64 p1) hx hb dX12_restore_1 rfl ?_
  refine lv_lconst (pc := 2) (v := 0) hx hb dX12_restore_2 (by decide) ?_
  refine lv_lconst (pc := 3) (v := 1) hx hb dX12_restore_3 (by decide) ?_
  obtain ⟨x1, hc, hf⟩ := b1_e hf
  refine kS_X12_in (pc := 4) hx hb hml hown hts hK hN hc ml_X12_97 (Nat.le_trans (by decide) hF) (Nat.le_trans (by decide) hLo) h hl.1 ⟨Nat.zero_le _, Nat.zero_le _⟩ (Nat.le_of_ble_eq_true rfl) dX12_restore_4 (fun H locs h => ?_)
  refine lv_if_ne (pc := 7) (tgt := 13) hx hb dX12_restore_7 (by decide) (fun c2 => ?_) (fun c2 => ?_)
  · have hf := if_f hf c2
    refine lv_aload_n (pc := 13) hx hb dX12_restore_13 rfl (lv_at hl 0 rfl) ?_
    refine gM_0_37 (pc := 14) hx hb hts hown hK h fl_X12_67 dX12_restore_14 ?_
    refine lv_iload_n (pc := 17) hx hb dX12_restore_17 rfl (lv_at hl 1 rfl) ?_
    obtain ⟨hin, hf⟩ := cki_e hf
    refine gM_20 (pc := 18) hx hb hK h hin dX12_restore_18 ?_
    refine lv_if_ne (pc := 19) (tgt := 25) hx hb dX12_restore_19 (by decide) (fun c3 => ?_) (fun c3 => ?_)
    · have hf := if_f hf c3
      refine lv_aload_n (pc := 25) hx hb dX12_restore_25 rfl (lv_at hl 0 rfl) ?_
      refine lv_sipush (pc := 26) (v := 150) hx hb dX12_restore_26 (by decide) ?_
      refine lv_iload_n (pc := 29) hx hb dX12_restore_29 rfl (lv_at hl 1 rfl) ?_
      refine lv_imul (pc := 30) hx hb dX12_restore_30 ?_
      refine pM_0_38 (pc := 31) hx hb hts hown hK h fl_X12_306 dX12_restore_31 (fun H locs h => ?_)
      obtain ⟨u4, eu4, hf⟩ := bs_e hf
      rw [← eu4] at h
      refine lv_aload_n (pc := 34) hx hb dX12_restore_34 rfl (lv_at hl 0 rfl) ?_
      refine lv_iconst (pc := 35) (v := 0) hx hb dX12_restore_35 (by decide) ?_
      refine pM_0_39 (pc := 36) hx hb hts hown hK h (Or.inl rfl) fl_X12_302 dX12_restore_36 (fun H locs h => ?_)
      obtain ⟨u5, eu5, hf⟩ := bs_e hf
      rw [← eu5] at h
      refine lv_aload_n (pc := 39) hx hb dX12_restore_39 rfl (lv_at hl 0 rfl) ?_
      obtain ⟨u6, hc, hf⟩ := b1_e hf
      refine k_X12_passAll (pc := 40) hx hb hml hown hts hK hN hc ml_X12_312 (Nat.le_trans (by decide) hF) (Nat.le_trans (by decide) hLo) h hl.1 ⟨Nat.zero_le _, Nat.zero_le _⟩ (Nat.le_of_ble_eq_true rfl) dX12_restore_40 (fun H locs h => ?_)
      refine lv_iconst (pc := 43) (v := 1) hx hb dX12_restore_43 (by decide) ?_
      exact hret (so1 hf) rfl (so2 hf) dX12_restore_44 h
    · have hf := if_t hf c3
      refine lv_bipush (pc := 22) (v := (-3)) hx hb dX12_restore_22 (by decide) ?_
      exact hret (so1 hf) rfl (so2 hf) dX12_restore_24 h
  · have hf := if_t hf c2
    refine lv_bipush (pc := 10) (v := (-2)) hx hb dX12_restore_10 (by decide) ?_
    exact hret (so1 hf) rfl (so2 hf) dX12_restore_12 h
theorem k_X12_restore {p : Program} {l : Launch} {e : Env} {R : Room} {s : State} {m : MethodId} {args : Array Value} {below : List Frame} {meth : Method} {c : Code} {H : Heap} {locs : List Loc} {cells slots : Nat} {Q : State → Prop} {pc : Nat} {ls : Array Slot} {rest : List Value} {cc : ByteArray} {D : va_G} {cI cZ : ClassId} {a : Nat → Nat} {u : St} {own : String} {index nL : Nat} {p1 : Int32} {rr : Int32} {uu : St} (hx : p.tables.exec = Jvm.exec) (hb : c.code = cc) (hml : c.maxLocals = nL) (hown : s.vm.findClass own = some m.cls) (hts : ∀ w ∈ Gd, w.before args s = true) (hK : va_K D vwCl (tyM cI cZ) s) (hN : NB s) (hc : f_X12_restore u p1 = some (rr, uu)) (hlk : Cond.methodLink own index yX12_restore ∈ Gd) (hF : 3 ≤ R.frames) (hLo : 64 ≤ R.locals) (h : Hh D (AB 21 a s.heap.size) (wX 21 a (EM a cI cZ) u) s.heap H locs) (hsize : ls.size = nL) (hcs : cells ≤ R.cells ∧ slots ≤ R.slots) (hr : (rest.map fun v => v.category).sum ≤ 8) (hdg : decode cc pc = .ok (.invokevirtual index, 3)) (kk : ∀ (H1 : Heap) (locs1 : List Loc), Hh D (AB 21 a s.heap.size) (wX 21 a (EM a cI cZ) uu) s.heap H1 locs1 → W p l e R s m args below meth c H1 locs1 cells slots Q (F0 m (pc + 3) ls (.int rr :: rest))) : W p l e R s m args below meth c H locs cells slots Q (F0 m pc ls (.int p1 :: .ref (a 0) :: rest)) :=
  cVi (n := 1) hx hb hml hown hts hK hN (c_X12_restore hc) (gdV hlk im_X12_restore se_X12_restore in_X12 co_X12_restore) rfl (by decide +kernel) rfl hF hLo h hsize hcs (by decide) rfl rfl rfl hr hdg kk
def f_X12_toldOfBarrel (u : St) (p1 : Int32) (p2 : Int32) : Option (Int32) := b1 (f_X12_isBarrel u p1) (fun (x1 : Int32) => if x1 = 0 then some ((-2)) else if p2 = 0 then cki p1 8 (some (u.1 3 (ix p1))) else if p2 = 1 then cki p1 8 (some (u.1 4 (ix p1))) else if p2 = 2 then cki p1 8 (some (u.1 5 (ix p1))) else if p2 = 3 then cki p1 8 (some (u.1 6 (ix p1))) else some ((-2)))
set_option maxRecDepth 100000 in
set_option maxHeartbeats 4000000 in
theorem c_X12_toldOfBarrel {l : Launch} {D : va_G} {cI cZ : ClassId} {a : Nat → Nat} {u : St} {p1 : Int32} {p2 : Int32} {rr : Int32} (hf : f_X12_toldOfBarrel u p1 p2 = some rr) : Ci l yX12_toldOfBarrel cX12_toldOfBarrel 3 (some .int) 3 66 D (tyM cI cZ) 21 a (EM a cI cZ) [.ref (a 0), .int p1, .int p2] u rr u := by
  refine metI (by decide +kernel) (Nat.le_of_ble_eq_true rfl) ?_
  intro p e s m args below meth c R Q hx hb hml hown hts hF hLo hret hK hN h ls hl
  have hown : s.vm.findClass RX12 = some m.cls := hown
  have hl : lv_has ls 3 [(0, .ref (a 0)), (1, .int p1), (2, .int p2)] := hl
  unfold f_X12_toldOfBarrel at hf
  refine lv_aload_n (pc := 0) hx hb dX12_toldOfBarrel_0 rfl (lv_at hl 0 rfl) ?_
  refine lv_iload_n (pc := 1) hx hb dX12_toldOfBarrel_1 rfl (lv_at hl 1 rfl) ?_
  obtain ⟨x1, hc, hf⟩ := b1_e hf
  refine k_X12_isBarrel (pc := 2) hx hb hml hown hts hK hN hc ml_X12_107 (Nat.le_trans (by decide) hF) (Nat.le_trans (by decide) hLo) h hl.1 ⟨Nat.zero_le _, Nat.zero_le _⟩ (Nat.le_of_ble_eq_true rfl) dX12_toldOfBarrel_2 (fun H locs h => ?_)
  refine lv_if_ne (pc := 5) (tgt := 11) hx hb dX12_toldOfBarrel_5 (by decide) (fun c2 => ?_) (fun c2 => ?_)
  · have hf := if_f hf c2
    refine lv_iload_n (pc := 11) hx hb dX12_toldOfBarrel_11 rfl (lv_at hl 2 rfl) ?_
    refine lv_if_ne (pc := 12) (tgt := 24) hx hb dX12_toldOfBarrel_12 (by decide) (fun c3 => ?_) (fun c3 => ?_)
    · have hf := if_f hf c3
      refine lv_iload_n (pc := 24) hx hb dX12_toldOfBarrel_24 rfl (lv_at hl 2 rfl) ?_
      refine lv_iconst (pc := 25) (v := 1) hx hb dX12_toldOfBarrel_25 (by decide) ?_
      refine lv_icmp_ne (pc := 26) (tgt := 38) hx hb dX12_toldOfBarrel_26 (by decide) (fun c4 => ?_) (fun c4 => ?_)
      · have hf := if_f hf c4
        refine lv_iload_n (pc := 38) hx hb dX12_toldOfBarrel_38 rfl (lv_at hl 2 rfl) ?_
        refine lv_iconst (pc := 39) (v := 2) hx hb dX12_toldOfBarrel_39 (by decide) ?_
        refine lv_icmp_ne (pc := 40) (tgt := 52) hx hb dX12_toldOfBarrel_40 (by decide) (fun c5 => ?_) (fun c5 => ?_)
        · have hf := if_f hf c5
          refine lv_iload_n (pc := 52) hx hb dX12_toldOfBarrel_52 rfl (lv_at hl 2 rfl) ?_
          refine lv_iconst (pc := 53) (v := 3) hx hb dX12_toldOfBarrel_53 (by decide) ?_
          refine lv_icmp_ne (pc := 54) (tgt := 66) hx hb dX12_toldOfBarrel_54 (by decide) (fun c6 => ?_) (fun c6 => ?_)
          · have hf := if_f hf c6
            refine lv_bipush (pc := 66) (v := (-2)) hx hb dX12_toldOfBarrel_66 (by decide) ?_
            exact hret (so hf) rfl rfl dX12_toldOfBarrel_68 h
          · have hf := if_t hf c6
            refine lv_aload_n (pc := 57) hx hb dX12_toldOfBarrel_57 rfl (lv_at hl 0 rfl) ?_
            refine gM_0_8 (pc := 58) hx hb hts hown hK h fl_X12_25 dX12_toldOfBarrel_58 ?_
            refine lv_iload_n (pc := 61) hx hb dX12_toldOfBarrel_61 rfl (lv_at hl 1 rfl) ?_
            obtain ⟨hin, hf⟩ := cki_e hf
            refine gM_6 (pc := 62) hx hb hK h hin dX12_toldOfBarrel_62 ?_
            refine lv_goto (pc := 63) (tgt := 68) hx hb dX12_toldOfBarrel_63 (by decide) ?_
            exact hret (so hf) rfl rfl dX12_toldOfBarrel_68 h
        · have hf := if_t hf c5
          refine lv_aload_n (pc := 43) hx hb dX12_toldOfBarrel_43 rfl (lv_at hl 0 rfl) ?_
          refine gM_0_7 (pc := 44) hx hb hts hown hK h fl_X12_22 dX12_toldOfBarrel_44 ?_
          refine lv_iload_n (pc := 47) hx hb dX12_toldOfBarrel_47 rfl (lv_at hl 1 rfl) ?_
          obtain ⟨hin, hf⟩ := cki_e hf
          refine gM_5 (pc := 48) hx hb hK h hin dX12_toldOfBarrel_48 ?_
          refine lv_goto (pc := 49) (tgt := 68) hx hb dX12_toldOfBarrel_49 (by decide) ?_
          exact hret (so hf) rfl rfl dX12_toldOfBarrel_68 h
      · have hf := if_t hf c4
        refine lv_aload_n (pc := 29) hx hb dX12_toldOfBarrel_29 rfl (lv_at hl 0 rfl) ?_
        refine gM_0_6 (pc := 30) hx hb hts hown hK h fl_X12_19 dX12_toldOfBarrel_30 ?_
        refine lv_iload_n (pc := 33) hx hb dX12_toldOfBarrel_33 rfl (lv_at hl 1 rfl) ?_
        obtain ⟨hin, hf⟩ := cki_e hf
        refine gM_4 (pc := 34) hx hb hK h hin dX12_toldOfBarrel_34 ?_
        refine lv_goto (pc := 35) (tgt := 68) hx hb dX12_toldOfBarrel_35 (by decide) ?_
        exact hret (so hf) rfl rfl dX12_toldOfBarrel_68 h
    · have hf := if_t hf c3
      refine lv_aload_n (pc := 15) hx hb dX12_toldOfBarrel_15 rfl (lv_at hl 0 rfl) ?_
      refine gM_0_5 (pc := 16) hx hb hts hown hK h fl_X12_16 dX12_toldOfBarrel_16 ?_
      refine lv_iload_n (pc := 19) hx hb dX12_toldOfBarrel_19 rfl (lv_at hl 1 rfl) ?_
      obtain ⟨hin, hf⟩ := cki_e hf
      refine gM_3 (pc := 20) hx hb hK h hin dX12_toldOfBarrel_20 ?_
      refine lv_goto (pc := 21) (tgt := 68) hx hb dX12_toldOfBarrel_21 (by decide) ?_
      exact hret (so hf) rfl rfl dX12_toldOfBarrel_68 h
  · have hf := if_t hf c2
    refine lv_bipush (pc := 8) (v := (-2)) hx hb dX12_toldOfBarrel_8 (by decide) ?_
    exact hret (so hf) rfl rfl dX12_toldOfBarrel_10 h
theorem k_X12_toldOfBarrel {p : Program} {l : Launch} {e : Env} {R : Room} {s : State} {m : MethodId} {args : Array Value} {below : List Frame} {meth : Method} {c : Code} {H : Heap} {locs : List Loc} {cells slots : Nat} {Q : State → Prop} {pc : Nat} {ls : Array Slot} {rest : List Value} {cc : ByteArray} {D : va_G} {cI cZ : ClassId} {a : Nat → Nat} {u : St} {own : String} {index nL : Nat} {p1 : Int32} {p2 : Int32} {rr : Int32} (hx : p.tables.exec = Jvm.exec) (hb : c.code = cc) (hml : c.maxLocals = nL) (hown : s.vm.findClass own = some m.cls) (hts : ∀ w ∈ Gd, w.before args s = true) (hK : va_K D vwCl (tyM cI cZ) s) (hN : NB s) (hc : f_X12_toldOfBarrel u p1 p2 = some rr) (hlk : Cond.methodLink own index yX12_toldOfBarrel ∈ Gd) (hF : 4 ≤ R.frames) (hLo : 88 ≤ R.locals) (h : Hh D (AB 21 a s.heap.size) (wX 21 a (EM a cI cZ) u) s.heap H locs) (hsize : ls.size = nL) (hcs : cells ≤ R.cells ∧ slots ≤ R.slots) (hr : (rest.map fun v => v.category).sum ≤ 8) (hdg : decode cc pc = .ok (.invokevirtual index, 3)) (kk : ∀ (H1 : Heap) (locs1 : List Loc), Hh D (AB 21 a s.heap.size) (wX 21 a (EM a cI cZ) u) s.heap H1 locs1 → W p l e R s m args below meth c H1 locs1 cells slots Q (F0 m (pc + 3) ls (.int rr :: rest))) : W p l e R s m args below meth c H locs cells slots Q (F0 m pc ls (.int p2 :: .int p1 :: .ref (a 0) :: rest)) :=
  cVi (n := 2) hx hb hml hown hts hK hN (c_X12_toldOfBarrel hc) (gdV hlk im_X12_toldOfBarrel se_X12_toldOfBarrel in_X12 co_X12_toldOfBarrel) rfl (by decide +kernel) rfl hF hLo h hsize hcs (by decide) rfl rfl rfl hr hdg kk
def f_X12_toldOfCellar (u : St) (p1 : Int32) (p2 : Int32) : Option (Int32) := b1 (f_X12_isCellar u p2) (fun (x1 : Int32) => if x1 = 0 then some ((-2)) else if p1 = 1 then cki p2 6 (some (u.1 1 (ix p2))) else if p1 = 2 then cki p2 6 (some (u.1 2 (ix p2))) else some (((u.1 0 3) >>> (p2 &&& 31)) &&& (1 : Int32)))
set_option maxRecDepth 100000 in
set_option maxHeartbeats 4000000 in
theorem c_X12_toldOfCellar {l : Launch} {D : va_G} {cI cZ : ClassId} {a : Nat → Nat} {u : St} {p1 : Int32} {p2 : Int32} {rr : Int32} (hf : f_X12_toldOfCellar u p1 p2 = some rr) : Ci l yX12_toldOfCellar cX12_toldOfCellar 3 (some .int) 2 46 D (tyM cI cZ) 21 a (EM a cI cZ) [.ref (a 0), .int p1, .int p2] u rr u := by
  refine metI (by decide +kernel) (Nat.le_of_ble_eq_true rfl) ?_
  intro p e s m args below meth c R Q hx hb hml hown hts hF hLo hret hK hN h ls hl
  have hown : s.vm.findClass RX12 = some m.cls := hown
  have hl : lv_has ls 3 [(0, .ref (a 0)), (1, .int p1), (2, .int p2)] := hl
  unfold f_X12_toldOfCellar at hf
  refine lv_aload_n (pc := 0) hx hb dX12_toldOfCellar_0 rfl (lv_at hl 0 rfl) ?_
  refine lv_iload_n (pc := 1) hx hb dX12_toldOfCellar_1 rfl (lv_at hl 2 rfl) ?_
  obtain ⟨x1, hc, hf⟩ := b1_e hf
  refine k_X12_isCellar (pc := 2) hx hb hml hown hts hK hN hc ml_X12_112 (Nat.le_trans (by decide) hF) (Nat.le_trans (by decide) hLo) h hl.1 ⟨Nat.zero_le _, Nat.zero_le _⟩ (Nat.le_of_ble_eq_true rfl) dX12_toldOfCellar_2 (fun H locs h => ?_)
  refine lv_if_ne (pc := 5) (tgt := 11) hx hb dX12_toldOfCellar_5 (by decide) (fun c2 => ?_) (fun c2 => ?_)
  · have hf := if_f hf c2
    refine lv_iload_n (pc := 11) hx hb dX12_toldOfCellar_11 rfl (lv_at hl 1 rfl) ?_
    refine lv_iconst (pc := 12) (v := 1) hx hb dX12_toldOfCellar_12 (by decide) ?_
    refine lv_icmp_ne (pc := 13) (tgt := 25) hx hb dX12_toldOfCellar_13 (by decide) (fun c3 => ?_) (fun c3 => ?_)
    · have hf := if_f hf c3
      refine lv_iload_n (pc := 25) hx hb dX12_toldOfCellar_25 rfl (lv_at hl 1 rfl) ?_
      refine lv_iconst (pc := 26) (v := 2) hx hb dX12_toldOfCellar_26 (by decide) ?_
      refine lv_icmp_ne (pc := 27) (tgt := 39) hx hb dX12_toldOfCellar_27 (by decide) (fun c4 => ?_) (fun c4 => ?_)
      · have hf := if_f hf c4
        refine lv_aload_n (pc := 39) hx hb dX12_toldOfCellar_39 rfl (lv_at hl 0 rfl) ?_
        refine gM_0_3 (pc := 40) hx hb hts hown hK h fl_X12_88 dX12_toldOfCellar_40 ?_
        refine lv_iload_n (pc := 43) hx hb dX12_toldOfCellar_43 rfl (lv_at hl 2 rfl) ?_
        refine lv_ishr (pc := 44) hx hb dX12_toldOfCellar_44 ?_
        refine lv_iconst (pc := 45) (v := 1) hx hb dX12_toldOfCellar_45 (by decide) ?_
        refine lv_iand (pc := 46) hx hb dX12_toldOfCellar_46 ?_
        exact hret (so hf) rfl rfl dX12_toldOfCellar_47 h
      · have hf := if_t hf c4
        refine lv_aload_n (pc := 30) hx hb dX12_toldOfCellar_30 rfl (lv_at hl 0 rfl) ?_
        refine gM_0_2 (pc := 31) hx hb hts hown hK h fl_X12_13 dX12_toldOfCellar_31 ?_
        refine lv_iload_n (pc := 34) hx hb dX12_toldOfCellar_34 rfl (lv_at hl 2 rfl) ?_
        obtain ⟨hin, hf⟩ := cki_e hf
        refine gM_2 (pc := 35) hx hb hK h hin dX12_toldOfCellar_35 ?_
        refine lv_goto (pc := 36) (tgt := 47) hx hb dX12_toldOfCellar_36 (by decide) ?_
        exact hret (so hf) rfl rfl dX12_toldOfCellar_47 h
    · have hf := if_t hf c3
      refine lv_aload_n (pc := 16) hx hb dX12_toldOfCellar_16 rfl (lv_at hl 0 rfl) ?_
      refine gM_0_1 (pc := 17) hx hb hts hown hK h fl_X12_7 dX12_toldOfCellar_17 ?_
      refine lv_iload_n (pc := 20) hx hb dX12_toldOfCellar_20 rfl (lv_at hl 2 rfl) ?_
      obtain ⟨hin, hf⟩ := cki_e hf
      refine gM_1 (pc := 21) hx hb hK h hin dX12_toldOfCellar_21 ?_
      refine lv_goto (pc := 22) (tgt := 47) hx hb dX12_toldOfCellar_22 (by decide) ?_
      exact hret (so hf) rfl rfl dX12_toldOfCellar_47 h
  · have hf := if_t hf c2
    refine lv_bipush (pc := 8) (v := (-2)) hx hb dX12_toldOfCellar_8 (by decide) ?_
    exact hret (so hf) rfl rfl dX12_toldOfCellar_10 h
theorem k_X12_toldOfCellar {p : Program} {l : Launch} {e : Env} {R : Room} {s : State} {m : MethodId} {args : Array Value} {below : List Frame} {meth : Method} {c : Code} {H : Heap} {locs : List Loc} {cells slots : Nat} {Q : State → Prop} {pc : Nat} {ls : Array Slot} {rest : List Value} {cc : ByteArray} {D : va_G} {cI cZ : ClassId} {a : Nat → Nat} {u : St} {own : String} {index nL : Nat} {p1 : Int32} {p2 : Int32} {rr : Int32} (hx : p.tables.exec = Jvm.exec) (hb : c.code = cc) (hml : c.maxLocals = nL) (hown : s.vm.findClass own = some m.cls) (hts : ∀ w ∈ Gd, w.before args s = true) (hK : va_K D vwCl (tyM cI cZ) s) (hN : NB s) (hc : f_X12_toldOfCellar u p1 p2 = some rr) (hlk : Cond.methodLink own index yX12_toldOfCellar ∈ Gd) (hF : 3 ≤ R.frames) (hLo : 68 ≤ R.locals) (h : Hh D (AB 21 a s.heap.size) (wX 21 a (EM a cI cZ) u) s.heap H locs) (hsize : ls.size = nL) (hcs : cells ≤ R.cells ∧ slots ≤ R.slots) (hr : (rest.map fun v => v.category).sum ≤ 8) (hdg : decode cc pc = .ok (.invokevirtual index, 3)) (kk : ∀ (H1 : Heap) (locs1 : List Loc), Hh D (AB 21 a s.heap.size) (wX 21 a (EM a cI cZ) u) s.heap H1 locs1 → W p l e R s m args below meth c H1 locs1 cells slots Q (F0 m (pc + 3) ls (.int rr :: rest))) : W p l e R s m args below meth c H locs cells slots Q (F0 m pc ls (.int p2 :: .int p1 :: .ref (a 0) :: rest)) :=
  cVi (n := 2) hx hb hml hown hts hK hN (c_X12_toldOfCellar hc) (gdV hlk im_X12_toldOfCellar se_X12_toldOfCellar in_X12 co_X12_toldOfCellar) rfl (by decide +kernel) rfl hF hLo h hsize hcs (by decide) rfl rfl rfl hr hdg kk
def f_X12_told (u : St) (p1 : Int32) : Option (Int32) := b1 (f_X12_in u (Int32.toInt64 p1) 100 899) (fun (x1 : Int32) => if x1 = 0 then b1 (f_X12_in u (Int32.toInt64 p1) 10 39) (fun (x3 : Int32) => if x3 = 0 then b1 (f_X12_in u (Int32.toInt64 p1) 40 43) (fun (x5 : Int32) => if x5 = 0 then if p1 = 0 then some (u.1 0 20) else if p1 = 1 then some (u.1 0 0) else if p1 = 2 then some (u.1 0 4) else if p1 = 3 then some (u.1 0 11) else if p1 = 4 then some (u.1 0 12) else if p1 = 5 then some (u.1 0 13) else if p1 = 6 then some (u.1 0 10) else if p1 = 7 then some (u.1 0 18) else some ((-2)) else cki (p1 - (40 : Int32)) 4 (some (u.1 8 (ix (p1 - (40 : Int32)))))) else ck (¬ (10 : Int32) = 0) (ck (¬ (10 : Int32) = 0) (b1 (f_X12_toldOfCellar u (p1 / (10 : Int32)) (p1 - p1 / (10 : Int32) * (10 : Int32))) (fun (x15 : Int32) => some x15)))) else ck (¬ (100 : Int32) = 0) (ck (¬ (100 : Int32) = 0) (b1 (f_X12_toldOfBarrel u ((p1 / (100 : Int32)) - (1 : Int32)) (p1 - p1 / (100 : Int32) * (100 : Int32))) (fun (x16 : Int32) => some x16))))
set_option maxRecDepth 100000 in
set_option maxHeartbeats 4000000 in
theorem c_X12_told {l : Launch} {D : va_G} {cI cZ : ClassId} {a : Nat → Nat} {u : St} {p1 : Int32} {rr : Int32} (hf : f_X12_told u p1 = some rr) : Ci l yX12_told cX12_told 2 (some .int) 4 88 D (tyM cI cZ) 21 a (EM a cI cZ) [.ref (a 0), .int p1] u rr u := by
  refine metI (by decide +kernel) (Nat.le_of_ble_eq_true rfl) ?_
  intro p e s m args below meth c R Q hx hb hml hown hts hF hLo hret hK hN h ls hl
  have hown : s.vm.findClass RX12 = some m.cls := hown
  have hl : lv_has ls 2 [(0, .ref (a 0)), (1, .int p1)] := hl
  unfold f_X12_told at hf
  refine lv_iload_n (pc := 0) hx hb dX12_told_0 rfl (lv_at hl 1 rfl) ?_
  refine lv_i2l (pc := 1) (v := Int32.toInt64 p1) hx hb dX12_told_1 rfl ?_
  refine lv_ldc2 (pc := 2) hx hb hown (hts _ ctl_X12_315) dX12_told_2 ?_
  refine lv_ldc2 (pc := 5) hx hb hown (hts _ ctl_X12_317) dX12_told_5 ?_
  obtain ⟨x1, hc, hf⟩ := b1_e hf
  refine kS_X12_in (pc := 8) hx hb hml hown hts hK hN hc ml_X12_97 (Nat.le_trans (by decide) hF) (Nat.le_trans (by decide) hLo) h hl.1 ⟨Nat.zero_le _, Nat.zero_le _⟩ (Nat.le_of_ble_eq_true rfl) dX12_told_8 (fun H locs h => ?_)
  refine lv_if_eq (pc := 11) (tgt := 29) hx hb dX12_told_11 (by decide) (fun c2 => ?_) (fun c2 => ?_)
  · have hf := if_t hf c2
    refine lv_iload_n (pc := 29) hx hb dX12_told_29 rfl (lv_at hl 1 rfl) ?_
    refine lv_i2l (pc := 30) (v := Int32.toInt64 p1) hx hb dX12_told_30 rfl ?_
    refine lv_ldc2 (pc := 31) hx hb hown (hts _ ctl_X12_261) dX12_told_31 ?_
    refine lv_ldc2 (pc := 34) hx hb hown (hts _ ctl_X12_322) dX12_told_34 ?_
    obtain ⟨x3, hc, hf⟩ := b1_e hf
    refine kS_X12_in (pc := 37) hx hb hml hown hts hK hN hc ml_X12_97 (Nat.le_trans (by decide) hF) (Nat.le_trans (by decide) hLo) h hl.1 ⟨Nat.zero_le _, Nat.zero_le _⟩ (Nat.le_of_ble_eq_true rfl) dX12_told_37 (fun H locs h => ?_)
    refine lv_if_eq (pc := 40) (tgt := 56) hx hb dX12_told_40 (by decide) (fun c4 => ?_) (fun c4 => ?_)
    · have hf := if_t hf c4
      refine lv_iload_n (pc := 56) hx hb dX12_told_56 rfl (lv_at hl 1 rfl) ?_
      refine lv_i2l (pc := 57) (v := Int32.toInt64 p1) hx hb dX12_told_57 rfl ?_
      refine lv_ldc2 (pc := 58) hx hb hown (hts _ ctl_X12_327) dX12_told_58 ?_
      refine lv_ldc2 (pc := 61) hx hb hown (hts _ ctl_X12_329) dX12_told_61 ?_
      obtain ⟨x5, hc, hf⟩ := b1_e hf
      refine kS_X12_in (pc := 64) hx hb hml hown hts hK hN hc ml_X12_97 (Nat.le_trans (by decide) hF) (Nat.le_trans (by decide) hLo) h hl.1 ⟨Nat.zero_le _, Nat.zero_le _⟩ (Nat.le_of_ble_eq_true rfl) dX12_told_64 (fun H locs h => ?_)
      refine lv_if_eq (pc := 67) (tgt := 80) hx hb dX12_told_67 (by decide) (fun c6 => ?_) (fun c6 => ?_)
      · have hf := if_t hf c6
        refine lv_iload_n (pc := 80) hx hb dX12_told_80 rfl (lv_at hl 1 rfl) ?_
        by_cases c7 : p1 = 0
        · have hf := if_t hf c7
          refine rSw (pc := 81) hx hb 128 dX12_told_81 0 c7 (by decide) (by decide) (by rfl) (by decide) ?_
          refine lv_aload_n (pc := 128) hx hb dX12_told_128 rfl (lv_at hl 0 rfl) ?_
          refine gM_0_20 (pc := 129) hx hb hts hown hK h fl_X12_135 dX12_told_129 ?_
          exact hret (so hf) rfl rfl dX12_told_132 h
        have hf := if_f hf c7
        by_cases c8 : p1 = 1
        · have hf := if_t hf c8
          refine rSw (pc := 81) hx hb 133 dX12_told_81 1 c8 (by decide) (by decide) (by rfl) (by decide) ?_
          refine lv_aload_n (pc := 133) hx hb dX12_told_133 rfl (lv_at hl 0 rfl) ?_
          refine gM_0_0 (pc := 134) hx hb hts hown hK h fl_X12_85 dX12_told_134 ?_
          exact hret (so hf) rfl rfl dX12_told_137 h
        have hf := if_f hf c8
        by_cases c9 : p1 = 2
        · have hf := if_t hf c9
          refine rSw (pc := 81) hx hb 138 dX12_told_81 2 c9 (by decide) (by decide) (by rfl) (by decide) ?_
          refine lv_aload_n (pc := 138) hx hb dX12_told_138 rfl (lv_at hl 0 rfl) ?_
          refine gM_0_4 (pc := 139) hx hb hts hown hK h fl_X12_91 dX12_told_139 ?_
          exact hret (so hf) rfl rfl dX12_told_142 h
        have hf := if_f hf c9
        by_cases c10 : p1 = 3
        · have hf := if_t hf c10
          refine rSw (pc := 81) hx hb 143 dX12_told_81 3 c10 (by decide) (by decide) (by rfl) (by decide) ?_
          refine lv_aload_n (pc := 143) hx hb dX12_told_143 rfl (lv_at hl 0 rfl) ?_
          refine gM_0_11 (pc := 144) hx hb hts hown hK h fl_X12_71 dX12_told_144 ?_
          exact hret (so hf) rfl rfl dX12_told_147 h
        have hf := if_f hf c10
        by_cases c11 : p1 = 4
        · have hf := if_t hf c11
          refine rSw (pc := 81) hx hb 148 dX12_told_81 4 c11 (by decide) (by decide) (by rfl) (by decide) ?_
          refine lv_aload_n (pc := 148) hx hb dX12_told_148 rfl (lv_at hl 0 rfl) ?_
          refine gM_0_12 (pc := 149) hx hb hts hown hK h fl_X12_75 dX12_told_149 ?_
          exact hret (so hf) rfl rfl dX12_told_152 h
        have hf := if_f hf c11
        by_cases c12 : p1 = 5
        · have hf := if_t hf c12
          refine rSw (pc := 81) hx hb 153 dX12_told_81 5 c12 (by decide) (by decide) (by rfl) (by decide) ?_
          refine lv_aload_n (pc := 153) hx hb dX12_told_153 rfl (lv_at hl 0 rfl) ?_
          refine gM_0_13 (pc := 154) hx hb hts hown hK h fl_X12_128 dX12_told_154 ?_
          exact hret (so hf) rfl rfl dX12_told_157 h
        have hf := if_f hf c12
        by_cases c13 : p1 = 6
        · have hf := if_t hf c13
          refine rSw (pc := 81) hx hb 158 dX12_told_81 6 c13 (by decide) (by decide) (by rfl) (by decide) ?_
          refine lv_aload_n (pc := 158) hx hb dX12_told_158 rfl (lv_at hl 0 rfl) ?_
          refine gM_0_10 (pc := 159) hx hb hts hown hK h fl_X12_78 dX12_told_159 ?_
          exact hret (so hf) rfl rfl dX12_told_162 h
        have hf := if_f hf c13
        by_cases c14 : p1 = 7
        · have hf := if_t hf c14
          refine rSw (pc := 81) hx hb 163 dX12_told_81 7 c14 (by decide) (by decide) (by rfl) (by decide) ?_
          refine lv_aload_n (pc := 163) hx hb dX12_told_163 rfl (lv_at hl 0 rfl) ?_
          refine gM_0_18 (pc := 164) hx hb hts hown hK h fl_X12_94 dX12_told_164 ?_
          exact hret (so hf) rfl rfl dX12_told_167 h
        have hf := if_f hf c14
        refine lv_tableOut (pc := 81) (tgt := 168) hx hb dX12_told_81 (tbOut8 c7 c8 c9 c10 c11 c12 c13 c14) (by decide) ?_
        refine lv_bipush (pc := 168) (v := (-2)) hx hb dX12_told_168 (by decide) ?_
        exact hret (so hf) rfl rfl dX12_told_170 h
      · have hf := if_f hf c6
        refine lv_aload_n (pc := 70) hx hb dX12_told_70 rfl (lv_at hl 0 rfl) ?_
        refine gM_0_14 (pc := 71) hx hb hts hown hK h fl_X12_31 dX12_told_71 ?_
        refine lv_iload_n (pc := 74) hx hb dX12_told_74 rfl (lv_at hl 1 rfl) ?_
        refine lv_bipush (pc := 75) (v := 40) hx hb dX12_told_75 (by decide) ?_
        refine lv_isub (pc := 77) hx hb dX12_told_77 ?_
        obtain ⟨hin, hf⟩ := cki_e hf
        refine gM_8 (pc := 78) hx hb hK h hin dX12_told_78 ?_
        exact hret (so hf) rfl rfl dX12_told_79 h
    · have hf := if_f hf c4
      refine lv_aload_n (pc := 43) hx hb dX12_told_43 rfl (lv_at hl 0 rfl) ?_
      refine lv_iload_n (pc := 44) hx hb dX12_told_44 rfl (lv_at hl 1 rfl) ?_
      refine lv_bipush (pc := 45) (v := 10) hx hb dX12_told_45 (by decide) ?_
      obtain ⟨hne, hf⟩ := ck_e hf
      refine lv_idiv (pc := 47) hx hb dX12_told_47 hne ?_
      refine lv_iload_n (pc := 48) hx hb dX12_told_48 rfl (lv_at hl 1 rfl) ?_
      refine lv_bipush (pc := 49) (v := 10) hx hb dX12_told_49 (by decide) ?_
      obtain ⟨hne, hf⟩ := ck_e hf
      refine lv_irem (pc := 51) hx hb dX12_told_51 hne ?_
      obtain ⟨x15, hc, hf⟩ := b1_e hf
      refine k_X12_toldOfCellar (pc := 52) hx hb hml hown hts hK hN hc ml_X12_324 (Nat.le_trans (by decide) hF) (Nat.le_trans (by decide) hLo) h hl.1 ⟨Nat.zero_le _, Nat.zero_le _⟩ (Nat.le_of_ble_eq_true rfl) dX12_told_52 (fun H locs h => ?_)
      exact hret (so hf) rfl rfl dX12_told_55 h
  · have hf := if_f hf c2
    refine lv_aload_n (pc := 14) hx hb dX12_told_14 rfl (lv_at hl 0 rfl) ?_
    refine lv_iload_n (pc := 15) hx hb dX12_told_15 rfl (lv_at hl 1 rfl) ?_
    refine lv_bipush (pc := 16) (v := 100) hx hb dX12_told_16 (by decide) ?_
    obtain ⟨hne, hf⟩ := ck_e hf
    refine lv_idiv (pc := 18) hx hb dX12_told_18 hne ?_
    refine lv_iconst (pc := 19) (v := 1) hx hb dX12_told_19 (by decide) ?_
    refine lv_isub (pc := 20) hx hb dX12_told_20 ?_
    refine lv_iload_n (pc := 21) hx hb dX12_told_21 rfl (lv_at hl 1 rfl) ?_
    refine lv_bipush (pc := 22) (v := 100) hx hb dX12_told_22 (by decide) ?_
    obtain ⟨hne, hf⟩ := ck_e hf
    refine lv_irem (pc := 24) hx hb dX12_told_24 hne ?_
    obtain ⟨x16, hc, hf⟩ := b1_e hf
    refine k_X12_toldOfBarrel (pc := 25) hx hb hml hown hts hK hN hc ml_X12_319 (Nat.le_trans (by decide) hF) (Nat.le_trans (by decide) hLo) h hl.1 ⟨Nat.zero_le _, Nat.zero_le _⟩ (Nat.le_of_ble_eq_true rfl) dX12_told_25 (fun H locs h => ?_)
    exact hret (so hf) rfl rfl dX12_told_28 h
theorem k_X12_told {p : Program} {l : Launch} {e : Env} {R : Room} {s : State} {m : MethodId} {args : Array Value} {below : List Frame} {meth : Method} {c : Code} {H : Heap} {locs : List Loc} {cells slots : Nat} {Q : State → Prop} {pc : Nat} {ls : Array Slot} {rest : List Value} {cc : ByteArray} {D : va_G} {cI cZ : ClassId} {a : Nat → Nat} {u : St} {own : String} {index nL : Nat} {p1 : Int32} {rr : Int32} (hx : p.tables.exec = Jvm.exec) (hb : c.code = cc) (hml : c.maxLocals = nL) (hown : s.vm.findClass own = some m.cls) (hts : ∀ w ∈ Gd, w.before args s = true) (hK : va_K D vwCl (tyM cI cZ) s) (hN : NB s) (hc : f_X12_told u p1 = some rr) (hlk : Cond.methodLink own index yX12_told ∈ Gd) (hF : 5 ≤ R.frames) (hLo : 109 ≤ R.locals) (h : Hh D (AB 21 a s.heap.size) (wX 21 a (EM a cI cZ) u) s.heap H locs) (hsize : ls.size = nL) (hcs : cells ≤ R.cells ∧ slots ≤ R.slots) (hr : (rest.map fun v => v.category).sum ≤ 8) (hdg : decode cc pc = .ok (.invokevirtual index, 3)) (kk : ∀ (H1 : Heap) (locs1 : List Loc), Hh D (AB 21 a s.heap.size) (wX 21 a (EM a cI cZ) u) s.heap H1 locs1 → W p l e R s m args below meth c H1 locs1 cells slots Q (F0 m (pc + 3) ls (.int rr :: rest))) : W p l e R s m args below meth c H locs cells slots Q (F0 m pc ls (.int p1 :: .ref (a 0) :: rest)) :=
  cVi (n := 1) hx hb hml hown hts hK hN (c_X12_told hc) (gdV hlk im_X12_told se_X12_told in_X12 co_X12_told) rfl (by decide +kernel) rfl hF hLo h hsize hcs (by decide) rfl rfl rfl hr hdg kk
