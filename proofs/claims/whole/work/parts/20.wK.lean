def B_X12_banquet_20 (u : St) (k6 : Int32 → Int32 → Option (Int32)) (rec10 : Int32 → Int32 → Int32 → Option (Int32)) (x3 : Int32) (x4 : Int32) (x5 : Int32) : Option (Int32) := if 100 ≤ x5 then k6 x3 x4 else b1 (f_X12_valueOfAll u x5) (fun (x12 : Int32) => jq_1 (fun (x14 : Int32) => if x12 ≤ x4 then rec10 x14 x4 (x5 + 1) else rec10 x14 x12 (x5 + 1)) (fun (k13 : Int32 → Option (Int32)) => if x12 ≤ x4 then k13 x3 else k13 x5))
def f_X12_banquet (u : St) (p1 : Int32) : Option (Int32) := b1 (f_X12_in u (Int32.toInt64 p1) 0 1) (fun (x1 : Int32) => if x1 = 0 then some ((-2)) else jq_2 (fun (x7 : Int32) (x8 : Int32) => if p1 = 0 then some x7 else some x8) (fun (k6 : Int32 → Int32 → Option (Int32)) => lq_3 (B_X12_banquet_20 u k6) FU 0 ((-1)) 0))
set_option maxRecDepth 100000 in
set_option maxHeartbeats 4000000 in
theorem c_X12_banquet {l : Launch} {D : va_G} {cI cZ : ClassId} {a : Nat → Nat} {u : St} {p1 : Int32} {rr : Int32} (hf : f_X12_banquet u p1 = some rr) : Ci l yX12_banquet cX12_banquet 6 (some .int) 7 164 D (tyM cI cZ) 21 a (EM a cI cZ) [.ref (a 0), .int p1] u rr u := by
  refine metI (by decide +kernel) (Nat.le_of_ble_eq_true rfl) ?_
  intro p e s m args below meth c R Q hx hb hml hown hts hF hLo hret hK hN h ls hl
  have hown : s.vm.findClass RX12 = some m.cls := hown
  have hl : lv_has ls 6 [(0, .ref (a 0)), (1, .int p1)] := hl
  unfold f_X12_banquet at hf
  refine lv_iload_n (pc := 0) hx hb dX12_banquet_0 rfl (lv_at hl 1 rfl) ?_
  refine lv_i2l (pc := 1) (v := Int32.toInt64 p1) hx hb dX12_banquet_1 rfl ?_
  refine lv_lconst (pc := 2) (v := 0) hx hb dX12_banquet_2 (by decide) ?_
  refine lv_lconst (pc := 3) (v := 1) hx hb dX12_banquet_3 (by decide) ?_
  obtain ⟨x1, hc, hf⟩ := b1_e hf
  refine kS_X12_in (pc := 4) hx hb hml hown hts hK hN hc ml_X12_97 (Nat.le_trans (by decide) hF) (Nat.le_trans (by decide) hLo) h hl.1 ⟨Nat.zero_le _, Nat.zero_le _⟩ (Nat.le_of_ble_eq_true rfl) dX12_banquet_4 (fun H locs h => ?_)
  refine lv_if_ne (pc := 7) (tgt := 13) hx hb dX12_banquet_7 (by decide) (fun c2 => ?_) (fun c2 => ?_)
  · have hf := if_f hf c2
    refine lv_iconst (pc := 13) (v := 0) hx hb dX12_banquet_13 (by decide) ?_
    refine lv_istore_n (pc := 14) (lv' := [(2, .int 0), (0, .ref (a 0)), (1, .int p1)]) hx hb dX12_banquet_14 rfl hl (by decide) rfl (fun ls hl => ?_)
    refine lv_iconst (pc := 15) (v := (-1)) hx hb dX12_banquet_15 (by decide) ?_
    refine lv_istore_n (pc := 16) (lv' := [(3, .int ((-1))), (2, .int 0), (0, .ref (a 0)), (1, .int p1)]) hx hb dX12_banquet_16 rfl hl (by decide) rfl (fun ls hl => ?_)
    refine lv_iconst (pc := 17) (v := 0) hx hb dX12_banquet_17 (by decide) ?_
    refine lv_istore (pc := 18) (lv' := [(4, .int 0), (3, .int ((-1))), (2, .int 0), (0, .ref (a 0)), (1, .int p1)]) hx hb dX12_banquet_18 hl (by decide) rfl (fun ls hl => ?_)
    obtain ⟨k6, hk6, hf⟩ := jq_2_e hf
    have jk6 : ∀ (x7 : Int32) (x8 : Int32), k6 x7 x8 = some rr → ∀ (H : Heap) (locs : List Loc) (ls : Array Slot), Hh D (AB 21 a s.heap.size) (wX 21 a (EM a cI cZ) u) s.heap H locs → lv_has ls 6 [(1, .int p1), (2, .int x7), (3, .int x8)] → W p l e R s m args below meth c H locs 0 0 Q (F0 m 67 ls []) := by
      intro x7 x8 hf H locs ls h hl
      rw [hk6] at hf
      refine lv_iload_n (pc := 67) hx hb dX12_banquet_67 rfl (lv_at hl 0 rfl) ?_
      refine lv_if_ne (pc := 68) (tgt := 75) hx hb dX12_banquet_68 (by decide) (fun c9 => ?_) (fun c9 => ?_)
      · have hf := if_f hf c9
        refine lv_iload_n (pc := 75) hx hb dX12_banquet_75 rfl (lv_at hl 2 rfl) ?_
        exact hret (so hf) rfl rfl dX12_banquet_76 h
      · have hf := if_t hf c9
        refine lv_iload_n (pc := 71) hx hb dX12_banquet_71 rfl (lv_at hl 1 rfl) ?_
        refine lv_goto (pc := 72) (tgt := 76) hx hb dX12_banquet_72 (by decide) ?_
        exact hret (so hf) rfl rfl dX12_banquet_76 h
    refine lq_3_e (P := fun (x3 : Int32) (x4 : Int32) (x5 : Int32) => ∀ (H : Heap) (locs : List Loc) (ls : Array Slot), Hh D (AB 21 a s.heap.size) (wX 21 a (EM a cI cZ) u) s.heap H locs → lv_has ls 6 [(0, .ref (a 0)), (1, .int p1), (2, .int x3), (3, .int x4), (4, .int x5)] → W p l e R s m args below meth c H locs 0 0 Q (F0 m 20 ls [])) ?_ FU _ _ _ hf _ _ _ h (lv_sub hl [3, 4, 2, 1, 0] rfl)
    intro rec10 irec10 x3 x4 x5 hf H locs ls h hl
    unfold B_X12_banquet_20 at hf
    refine lv_iload (pc := 20) hx hb dX12_banquet_20 (lv_at hl 4 rfl) ?_
    refine lv_bipush (pc := 22) (v := 100) hx hb dX12_banquet_22 (by decide) ?_
    refine lv_icmp_ge (pc := 24) (tgt := 67) hx hb dX12_banquet_24 (by decide) (fun c11 => ?_) (fun c11 => ?_)
    · have hf := if_t hf c11
      exact jk6 _ _ hf _ _ _ h (lv_sub hl [1, 2, 3] rfl)
    · have hf := if_f hf c11
      refine lv_aload_n (pc := 27) hx hb dX12_banquet_27 rfl (lv_at hl 0 rfl) ?_
      refine lv_iload (pc := 28) hx hb dX12_banquet_28 (lv_at hl 4 rfl) ?_
      obtain ⟨x12, hc, hf⟩ := b1_e hf
      refine k_X12_valueOfAll (pc := 30) hx hb hml hown hts hK hN hc ml_X12_243 (Nat.le_trans (by decide) hF) (Nat.le_trans (by decide) hLo) h hl.1 ⟨Nat.zero_le _, Nat.zero_le _⟩ (Nat.le_of_ble_eq_true rfl) dX12_banquet_30 (fun H locs h => ?_)
      refine lv_istore (pc := 33) (lv' := [(5, .int x12), (0, .ref (a 0)), (1, .int p1), (2, .int x3), (3, .int x4), (4, .int x5)]) hx hb dX12_banquet_33 hl (by decide) rfl (fun ls hl => ?_)
      refine lv_iload (pc := 35) hx hb dX12_banquet_35 (lv_at hl 0 rfl) ?_
      refine lv_iload_n (pc := 37) hx hb dX12_banquet_37 rfl (lv_at hl 4 rfl) ?_
      obtain ⟨k13, hk13, hf⟩ := jq_1_e hf
      have jk13 : ∀ (x14 : Int32), k13 x14 = some rr → ∀ (H : Heap) (locs : List Loc) (ls : Array Slot), Hh D (AB 21 a s.heap.size) (wX 21 a (EM a cI cZ) u) s.heap H locs → lv_has ls 6 [(0, .ref (a 0)), (1, .int p1), (3, .int x4), (4, .int x5), (5, .int x12)] → W p l e R s m args below meth c H locs 0 0 Q (F0 m 47 ls [.int x14]) := by
        intro x14 hf H locs ls h hl
        rw [hk13] at hf
        refine lv_istore_n (pc := 47) (lv' := [(2, .int x14), (0, .ref (a 0)), (1, .int p1), (3, .int x4), (4, .int x5), (5, .int x12)]) hx hb dX12_banquet_47 rfl hl (by decide) rfl (fun ls hl => ?_)
        refine lv_iload (pc := 48) hx hb dX12_banquet_48 (lv_at hl 5 rfl) ?_
        refine lv_iload_n (pc := 50) hx hb dX12_banquet_50 rfl (lv_at hl 3 rfl) ?_
        refine lv_icmp_le (pc := 51) (tgt := 59) hx hb dX12_banquet_51 (by decide) (fun c15 => ?_) (fun c15 => ?_)
        · have hf := if_t hf c15
          refine lv_iload_n (pc := 59) hx hb dX12_banquet_59 rfl (lv_at hl 3 rfl) ?_
          refine lv_istore_n (pc := 60) (lv' := [(3, .int x4), (2, .int x14), (0, .ref (a 0)), (1, .int p1), (4, .int x5), (5, .int x12)]) hx hb dX12_banquet_60 rfl hl (by decide) rfl (fun ls hl => ?_)
          refine lv_iinc (pc := 61) (v := x5 + 1) (lv' := [(4, .int (x5 + 1)), (3, .int x4), (2, .int x14), (0, .ref (a 0)), (1, .int p1), (5, .int x12)]) hx hb dX12_banquet_61 hl (k := 4) rfl rfl (by decide) rfl (fun ls hl => ?_)
          refine lv_goto (pc := 64) (tgt := 20) hx hb dX12_banquet_64 (by decide) ?_
          exact irec10 _ _ _ hf _ _ _ h (lv_sub hl [3, 4, 2, 1, 0] rfl)
        · have hf := if_f hf c15
          refine lv_iload (pc := 54) hx hb dX12_banquet_54 (lv_at hl 5 rfl) ?_
          refine lv_goto (pc := 56) (tgt := 60) hx hb dX12_banquet_56 (by decide) ?_
          refine lv_istore_n (pc := 60) (lv' := [(3, .int x12), (2, .int x14), (0, .ref (a 0)), (1, .int p1), (4, .int x5), (5, .int x12)]) hx hb dX12_banquet_60 rfl hl (by decide) rfl (fun ls hl => ?_)
          refine lv_iinc (pc := 61) (v := x5 + 1) (lv' := [(4, .int (x5 + 1)), (3, .int x12), (2, .int x14), (0, .ref (a 0)), (1, .int p1), (5, .int x12)]) hx hb dX12_banquet_61 hl (k := 4) rfl rfl (by decide) rfl (fun ls hl => ?_)
          refine lv_goto (pc := 64) (tgt := 20) hx hb dX12_banquet_64 (by decide) ?_
          exact irec10 _ _ _ hf _ _ _ h (lv_sub hl [3, 4, 2, 1, 0] rfl)
      refine lv_icmp_le (pc := 38) (tgt := 46) hx hb dX12_banquet_38 (by decide) (fun c16 => ?_) (fun c16 => ?_)
      · have hf := if_t hf c16
        refine lv_iload_n (pc := 46) hx hb dX12_banquet_46 rfl (lv_at hl 3 rfl) ?_
        exact jk13 _ hf _ _ _ h (lv_sub hl [1, 2, 4, 5, 0] rfl)
      · have hf := if_f hf c16
        refine lv_iload (pc := 41) hx hb dX12_banquet_41 (lv_at hl 5 rfl) ?_
        refine lv_goto (pc := 43) (tgt := 47) hx hb dX12_banquet_43 (by decide) ?_
        exact jk13 _ hf _ _ _ h (lv_sub hl [1, 2, 4, 5, 0] rfl)
  · have hf := if_t hf c2
    refine lv_bipush (pc := 10) (v := (-2)) hx hb dX12_banquet_10 (by decide) ?_
    exact hret (so hf) rfl rfl dX12_banquet_12 h
theorem k_X12_banquet {p : Program} {l : Launch} {e : Env} {R : Room} {s : State} {m : MethodId} {args : Array Value} {below : List Frame} {meth : Method} {c : Code} {H : Heap} {locs : List Loc} {cells slots : Nat} {Q : State → Prop} {pc : Nat} {ls : Array Slot} {rest : List Value} {cc : ByteArray} {D : va_G} {cI cZ : ClassId} {a : Nat → Nat} {u : St} {own : String} {index nL : Nat} {p1 : Int32} {rr : Int32} (hx : p.tables.exec = Jvm.exec) (hb : c.code = cc) (hml : c.maxLocals = nL) (hown : s.vm.findClass own = some m.cls) (hts : ∀ w ∈ Gd, w.before args s = true) (hK : va_K D vwCl (tyM cI cZ) s) (hN : NB s) (hc : f_X12_banquet u p1 = some rr) (hlk : Cond.methodLink own index yX12_banquet ∈ Gd) (hF : 8 ≤ R.frames) (hLo : 189 ≤ R.locals) (h : Hh D (AB 21 a s.heap.size) (wX 21 a (EM a cI cZ) u) s.heap H locs) (hsize : ls.size = nL) (hcs : cells ≤ R.cells ∧ slots ≤ R.slots) (hr : (rest.map fun v => v.category).sum ≤ 8) (hdg : decode cc pc = .ok (.invokevirtual index, 3)) (kk : ∀ (H1 : Heap) (locs1 : List Loc), Hh D (AB 21 a s.heap.size) (wX 21 a (EM a cI cZ) u) s.heap H1 locs1 → W p l e R s m args below meth c H1 locs1 cells slots Q (F0 m (pc + 3) ls (.int rr :: rest))) : W p l e R s m args below meth c H locs cells slots Q (F0 m pc ls (.int p1 :: .ref (a 0) :: rest)) :=
  cVi (n := 1) hx hb hml hown hts hK hN (c_X12_banquet hc) (gdV hlk im_X12_banquet se_X12_banquet in_X12 co_X12_banquet) rfl (by decide +kernel) rfl hF hLo h hsize hcs (by decide) rfl rfl rfl hr hdg kk
def f_X12_given (u : St) (p1 : Int32) (p2 : Int32) : Option (Int32) := if p1 = p2 then cki p1 8 (if (u.1 18 (ix p1)) < (u.1 0 11) then cki p1 8 (some (u.1 4 (ix p1))) else some 0) else cki p1 8 (cki p2 8 (bs ((u.1 4 (ix p1)) + (u.1 4 (ix p2))) (fun x2 : Int32 => cki p1 8 (cki p1 8 (cki p2 8 (cki p2 8 (ck (¬ x2 = 0) (bs ((((u.1 4 (ix p1)) * (u.1 18 (ix p1))) + ((u.1 4 (ix p2)) * (u.1 18 (ix p2)))) / x2) (fun x3 : Int32 => if x3 < (u.1 0 11) then cki p1 8 (cki p2 8 (if (u.1 6 (ix p1)) = (u.1 6 (ix p2)) then some (x2 - (0 : Int32)) else some (x2 - (1 : Int32)))) else some 0)))))))))
set_option maxRecDepth 100000 in
set_option maxHeartbeats 4000000 in
theorem c_X12_given {l : Launch} {D : va_G} {cI cZ : ClassId} {a : Nat → Nat} {u : St} {p1 : Int32} {p2 : Int32} {rr : Int32} (hf : f_X12_given u p1 p2 = some rr) : Ci l yX12_given cX12_given 5 (some .int) 0 0 D (tyM cI cZ) 21 a (EM a cI cZ) [.ref (a 0), .int p1, .int p2] u rr u := by
  refine metI (by decide +kernel) (Nat.le_of_ble_eq_true rfl) ?_
  intro p e s m args below meth c R Q hx hb hml hown hts hF hLo hret hK hN h ls hl
  have hown : s.vm.findClass RX12 = some m.cls := hown
  have hl : lv_has ls 5 [(0, .ref (a 0)), (1, .int p1), (2, .int p2)] := hl
  unfold f_X12_given at hf
  refine lv_iload_n (pc := 0) hx hb dX12_given_0 rfl (lv_at hl 1 rfl) ?_
  refine lv_iload_n (pc := 1) hx hb dX12_given_1 rfl (lv_at hl 2 rfl) ?_
  refine lv_icmp_ne (pc := 2) (tgt := 29) hx hb dX12_given_2 (by decide) (fun c1 => ?_) (fun c1 => ?_)
  · have hf := if_f hf c1
    refine lv_aload_n (pc := 29) hx hb dX12_given_29 rfl (lv_at hl 0 rfl) ?_
    refine gM_0_6 (pc := 30) hx hb hts hown hK h fl_X12_19 dX12_given_30 ?_
    refine lv_iload_n (pc := 33) hx hb dX12_given_33 rfl (lv_at hl 1 rfl) ?_
    obtain ⟨hin, hf⟩ := cki_e hf
    refine gM_4 (pc := 34) hx hb hK h hin dX12_given_34 ?_
    refine lv_aload_n (pc := 35) hx hb dX12_given_35 rfl (lv_at hl 0 rfl) ?_
    refine gM_0_6 (pc := 36) hx hb hts hown hK h fl_X12_19 dX12_given_36 ?_
    refine lv_iload_n (pc := 39) hx hb dX12_given_39 rfl (lv_at hl 2 rfl) ?_
    obtain ⟨hin, hf⟩ := cki_e hf
    refine gM_4 (pc := 40) hx hb hK h hin dX12_given_40 ?_
    refine lv_iadd (pc := 41) hx hb dX12_given_41 ?_
    obtain ⟨x2, ex2, hf⟩ := bs_e hf
    refine rTop ex2 ?_
    refine lv_istore_n (pc := 42) (lv' := [(3, .int x2), (0, .ref (a 0)), (1, .int p1), (2, .int p2)]) hx hb dX12_given_42 rfl hl (by decide) rfl (fun ls hl => ?_)
    refine lv_aload_n (pc := 43) hx hb dX12_given_43 rfl (lv_at hl 1 rfl) ?_
    refine gM_0_6 (pc := 44) hx hb hts hown hK h fl_X12_19 dX12_given_44 ?_
    refine lv_iload_n (pc := 47) hx hb dX12_given_47 rfl (lv_at hl 2 rfl) ?_
    obtain ⟨hin, hf⟩ := cki_e hf
    refine gM_4 (pc := 48) hx hb hK h hin dX12_given_48 ?_
    refine lv_aload_n (pc := 49) hx hb dX12_given_49 rfl (lv_at hl 1 rfl) ?_
    refine gM_0_35 (pc := 50) hx hb hts hown hK h fl_X12_61 dX12_given_50 ?_
    refine lv_iload_n (pc := 53) hx hb dX12_given_53 rfl (lv_at hl 2 rfl) ?_
    obtain ⟨hin, hf⟩ := cki_e hf
    refine gM_18 (pc := 54) hx hb hK h hin dX12_given_54 ?_
    refine lv_imul (pc := 55) hx hb dX12_given_55 ?_
    refine lv_aload_n (pc := 56) hx hb dX12_given_56 rfl (lv_at hl 1 rfl) ?_
    refine gM_0_6 (pc := 57) hx hb hts hown hK h fl_X12_19 dX12_given_57 ?_
    refine lv_iload_n (pc := 60) hx hb dX12_given_60 rfl (lv_at hl 3 rfl) ?_
    obtain ⟨hin, hf⟩ := cki_e hf
    refine gM_4 (pc := 61) hx hb hK h hin dX12_given_61 ?_
    refine lv_aload_n (pc := 62) hx hb dX12_given_62 rfl (lv_at hl 1 rfl) ?_
    refine gM_0_35 (pc := 63) hx hb hts hown hK h fl_X12_61 dX12_given_63 ?_
    refine lv_iload_n (pc := 66) hx hb dX12_given_66 rfl (lv_at hl 3 rfl) ?_
    obtain ⟨hin, hf⟩ := cki_e hf
    refine gM_18 (pc := 67) hx hb hK h hin dX12_given_67 ?_
    refine lv_imul (pc := 68) hx hb dX12_given_68 ?_
    refine lv_iadd (pc := 69) hx hb dX12_given_69 ?_
    refine lv_iload_n (pc := 70) hx hb dX12_given_70 rfl (lv_at hl 0 rfl) ?_
    obtain ⟨hne, hf⟩ := ck_e hf
    refine lv_idiv (pc := 71) hx hb dX12_given_71 hne ?_
    obtain ⟨x3, ex3, hf⟩ := bs_e hf
    refine rTop ex3 ?_
    refine lv_istore (pc := 72) (lv' := [(4, .int x3), (3, .int x2), (0, .ref (a 0)), (1, .int p1), (2, .int p2)]) hx hb dX12_given_72 hl (by decide) rfl (fun ls hl => ?_)
    refine lv_iload (pc := 74) hx hb dX12_given_74 (lv_at hl 0 rfl) ?_
    refine lv_aload_n (pc := 76) hx hb dX12_given_76 rfl (lv_at hl 2 rfl) ?_
    refine gM_0_11 (pc := 77) hx hb hts hown hK h fl_X12_71 dX12_given_77 ?_
    refine lv_icmp_lt (pc := 80) (tgt := 87) hx hb dX12_given_80 (by decide) (fun c4 => ?_) (fun c4 => ?_)
    · have hf := if_t hf c4
      refine lv_iload_n (pc := 87) hx hb dX12_given_87 rfl (lv_at hl 1 rfl) ?_
      refine lv_aload_n (pc := 88) hx hb dX12_given_88 rfl (lv_at hl 2 rfl) ?_
      refine gM_0_8 (pc := 89) hx hb hts hown hK h fl_X12_25 dX12_given_89 ?_
      refine lv_iload_n (pc := 92) hx hb dX12_given_92 rfl (lv_at hl 3 rfl) ?_
      obtain ⟨hin, hf⟩ := cki_e hf
      refine gM_6 (pc := 93) hx hb hK h hin dX12_given_93 ?_
      refine lv_aload_n (pc := 94) hx hb dX12_given_94 rfl (lv_at hl 2 rfl) ?_
      refine gM_0_8 (pc := 95) hx hb hts hown hK h fl_X12_25 dX12_given_95 ?_
      refine lv_iload_n (pc := 98) hx hb dX12_given_98 rfl (lv_at hl 4 rfl) ?_
      obtain ⟨hin, hf⟩ := cki_e hf
      refine gM_6 (pc := 99) hx hb hK h hin dX12_given_99 ?_
      refine lv_icmp_ne (pc := 100) (tgt := 107) hx hb dX12_given_100 (by decide) (fun c5 => ?_) (fun c5 => ?_)
      · have hf := if_f hf c5
        refine lv_iconst (pc := 107) (v := 1) hx hb dX12_given_107 (by decide) ?_
        refine lv_isub (pc := 108) hx hb dX12_given_108 ?_
        exact hret (so hf) rfl rfl dX12_given_109 h
      · have hf := if_t hf c5
        refine lv_iconst (pc := 103) (v := 0) hx hb dX12_given_103 (by decide) ?_
        refine lv_goto (pc := 104) (tgt := 108) hx hb dX12_given_104 (by decide) ?_
        refine lv_isub (pc := 108) hx hb dX12_given_108 ?_
        exact hret (so hf) rfl rfl dX12_given_109 h
    · have hf := if_f hf c4
      refine lv_iconst (pc := 83) (v := 0) hx hb dX12_given_83 (by decide) ?_
      refine lv_goto (pc := 84) (tgt := 109) hx hb dX12_given_84 (by decide) ?_
      exact hret (so hf) rfl rfl dX12_given_109 h
  · have hf := if_t hf c1
    refine lv_aload_n (pc := 5) hx hb dX12_given_5 rfl (lv_at hl 0 rfl) ?_
    refine gM_0_35 (pc := 6) hx hb hts hown hK h fl_X12_61 dX12_given_6 ?_
    refine lv_iload_n (pc := 9) hx hb dX12_given_9 rfl (lv_at hl 1 rfl) ?_
    obtain ⟨hin, hf⟩ := cki_e hf
    refine gM_18 (pc := 10) hx hb hK h hin dX12_given_10 ?_
    refine lv_aload_n (pc := 11) hx hb dX12_given_11 rfl (lv_at hl 0 rfl) ?_
    refine gM_0_11 (pc := 12) hx hb hts hown hK h fl_X12_71 dX12_given_12 ?_
    refine lv_icmp_lt (pc := 15) (tgt := 22) hx hb dX12_given_15 (by decide) (fun c6 => ?_) (fun c6 => ?_)
    · have hf := if_t hf c6
      refine lv_aload_n (pc := 22) hx hb dX12_given_22 rfl (lv_at hl 0 rfl) ?_
      refine gM_0_6 (pc := 23) hx hb hts hown hK h fl_X12_19 dX12_given_23 ?_
      refine lv_iload_n (pc := 26) hx hb dX12_given_26 rfl (lv_at hl 1 rfl) ?_
      obtain ⟨hin, hf⟩ := cki_e hf
      refine gM_4 (pc := 27) hx hb hK h hin dX12_given_27 ?_
      exact hret (so hf) rfl rfl dX12_given_28 h
    · have hf := if_f hf c6
      refine lv_iconst (pc := 18) (v := 0) hx hb dX12_given_18 (by decide) ?_
      refine lv_goto (pc := 19) (tgt := 28) hx hb dX12_given_19 (by decide) ?_
      exact hret (so hf) rfl rfl dX12_given_28 h
theorem k_X12_given {p : Program} {l : Launch} {e : Env} {R : Room} {s : State} {m : MethodId} {args : Array Value} {below : List Frame} {meth : Method} {c : Code} {H : Heap} {locs : List Loc} {cells slots : Nat} {Q : State → Prop} {pc : Nat} {ls : Array Slot} {rest : List Value} {cc : ByteArray} {D : va_G} {cI cZ : ClassId} {a : Nat → Nat} {u : St} {own : String} {index nL : Nat} {p1 : Int32} {p2 : Int32} {rr : Int32} (hx : p.tables.exec = Jvm.exec) (hb : c.code = cc) (hml : c.maxLocals = nL) (hown : s.vm.findClass own = some m.cls) (hts : ∀ w ∈ Gd, w.before args s = true) (hK : va_K D vwCl (tyM cI cZ) s) (hN : NB s) (hc : f_X12_given u p1 p2 = some rr) (hlk : Cond.methodLink own index yX12_given ∈ Gd) (hF : 1 ≤ R.frames) (hLo : 24 ≤ R.locals) (h : Hh D (AB 21 a s.heap.size) (wX 21 a (EM a cI cZ) u) s.heap H locs) (hsize : ls.size = nL) (hcs : cells ≤ R.cells ∧ slots ≤ R.slots) (hr : (rest.map fun v => v.category).sum ≤ 8) (hdg : decode cc pc = .ok (.invokevirtual index, 3)) (kk : ∀ (H1 : Heap) (locs1 : List Loc), Hh D (AB 21 a s.heap.size) (wX 21 a (EM a cI cZ) u) s.heap H1 locs1 → W p l e R s m args below meth c H1 locs1 cells slots Q (F0 m (pc + 3) ls (.int rr :: rest))) : W p l e R s m args below meth c H locs cells slots Q (F0 m pc ls (.int p2 :: .int p1 :: .ref (a 0) :: rest)) :=
  cVi (n := 2) hx hb hml hown hts hK hN (c_X12_given hc) (gdV hlk im_X12_given se_X12_given in_X12 co_X12_given) rfl (by decide +kernel) rfl hF hLo h hsize hcs (by decide) rfl rfl rfl hr hdg kk
def B_X12_leastOf_2 (p1 : Int32) (k2 : Int32 → Option (Int32)) (rec4 : Int32 → Option (Int32)) (x1 : Int32) : Option (Int32) := if ((p1 >>> (x1 &&& 31)) &&& (1 : Int32)) = 0 then rec4 (x1 + 1) else k2 x1
def f_X12_leastOf (u : St) (p1 : Int32) : Option (Int32) := jq_1 (fun (x3 : Int32) => some x3) (fun (k2 : Int32 → Option (Int32)) => lq_1 (B_X12_leastOf_2 p1 k2) FU 0)
set_option maxRecDepth 100000 in
set_option maxHeartbeats 4000000 in
theorem c_X12_leastOf {l : Launch} {D : va_G} {cI cZ : ClassId} {a : Nat → Nat} {u : St} {p1 : Int32} {rr : Int32} (hf : f_X12_leastOf u p1 = some rr) : Ci l yX12_leastOf cX12_leastOf 2 (some .int) 0 0 D (tyM cI cZ) 21 a (EM a cI cZ) [.int p1] u rr u := by
  refine metI (by decide +kernel) (Nat.le_of_ble_eq_true rfl) ?_
  intro p e s m args below meth c R Q hx hb hml hown hts hF hLo hret hK hN h ls hl
  have hown : s.vm.findClass RX12 = some m.cls := hown
  have hl : lv_has ls 2 [(0, .int p1)] := hl
  unfold f_X12_leastOf at hf
  refine lv_iconst (pc := 0) (v := 0) hx hb dX12_leastOf_0 (by decide) ?_
  refine lv_istore_n (pc := 1) (lv' := [(1, .int 0), (0, .int p1)]) hx hb dX12_leastOf_1 rfl hl (by decide) rfl (fun ls hl => ?_)
  obtain ⟨k2, hk2, hf⟩ := jq_1_e hf
  have jk2 : ∀ (x3 : Int32), k2 x3 = some rr → ∀ (H : Heap) (locs : List Loc) (ls : Array Slot), Hh D (AB 21 a s.heap.size) (wX 21 a (EM a cI cZ) u) s.heap H locs → lv_has ls 2 [(1, .int x3)] → W p l e R s m args below meth c H locs 0 0 Q (F0 m 16 ls []) := by
    intro x3 hf H locs ls h hl
    rw [hk2] at hf
    refine lv_iload_n (pc := 16) hx hb dX12_leastOf_16 rfl (lv_at hl 0 rfl) ?_
    exact hret (so hf) rfl rfl dX12_leastOf_17 h
  refine lq_1_e (P := fun (x1 : Int32) => ∀ (H : Heap) (locs : List Loc) (ls : Array Slot), Hh D (AB 21 a s.heap.size) (wX 21 a (EM a cI cZ) u) s.heap H locs → lv_has ls 2 [(0, .int p1), (1, .int x1)] → W p l e R s m args below meth c H locs 0 0 Q (F0 m 2 ls [])) ?_ FU _ hf _ _ _ h (lv_sub hl [1, 0] rfl)
  intro rec4 irec4 x1 hf H locs ls h hl
  unfold B_X12_leastOf_2 at hf
  refine lv_iload_n (pc := 2) hx hb dX12_leastOf_2 rfl (lv_at hl 0 rfl) ?_
  refine lv_iload_n (pc := 3) hx hb dX12_leastOf_3 rfl (lv_at hl 1 rfl) ?_
  refine lv_ishr (pc := 4) hx hb dX12_leastOf_4 ?_
  refine lv_iconst (pc := 5) (v := 1) hx hb dX12_leastOf_5 (by decide) ?_
  refine lv_iand (pc := 6) hx hb dX12_leastOf_6 ?_
  refine lv_if_ne (pc := 7) (tgt := 16) hx hb dX12_leastOf_7 (by decide) (fun c5 => ?_) (fun c5 => ?_)
  · have hf := if_f hf c5
    exact jk2 _ hf _ _ _ h (lv_sub hl [1] rfl)
  · have hf := if_t hf c5
    refine lv_iinc (pc := 10) (v := x1 + 1) (lv' := [(1, .int (x1 + 1)), (0, .int p1)]) hx hb dX12_leastOf_10 hl (k := 1) rfl rfl (by decide) rfl (fun ls hl => ?_)
    refine lv_goto (pc := 13) (tgt := 2) hx hb dX12_leastOf_13 (by decide) ?_
    exact irec4 _ hf _ _ _ h (lv_sub hl [1, 0] rfl)
theorem kS_X12_leastOf {p : Program} {l : Launch} {e : Env} {R : Room} {s : State} {m : MethodId} {args : Array Value} {below : List Frame} {meth : Method} {c : Code} {H : Heap} {locs : List Loc} {cells slots : Nat} {Q : State → Prop} {pc : Nat} {ls : Array Slot} {rest : List Value} {cc : ByteArray} {D : va_G} {cI cZ : ClassId} {a : Nat → Nat} {u : St} {own : String} {index nL : Nat} {p1 : Int32} {rr : Int32} (hx : p.tables.exec = Jvm.exec) (hb : c.code = cc) (hml : c.maxLocals = nL) (hown : s.vm.findClass own = some m.cls) (hts : ∀ w ∈ Gd, w.before args s = true) (hK : va_K D vwCl (tyM cI cZ) s) (hN : NB s) (hc : f_X12_leastOf u p1 = some rr) (hlk : Cond.methodLink own index yX12_leastOf ∈ Gd) (hF : 1 ≤ R.frames) (hLo : 21 ≤ R.locals) (h : Hh D (AB 21 a s.heap.size) (wX 21 a (EM a cI cZ) u) s.heap H locs) (hsize : ls.size = nL) (hcs : cells ≤ R.cells ∧ slots ≤ R.slots) (hr : (rest.map fun v => v.category).sum ≤ 8) (hdg : decode cc pc = .ok (.invokestatic index, 3)) (kk : ∀ (H1 : Heap) (locs1 : List Loc), Hh D (AB 21 a s.heap.size) (wX 21 a (EM a cI cZ) u) s.heap H1 locs1 → W p l e R s m args below meth c H1 locs1 cells slots Q (F0 m (pc + 3) ls (.int rr :: rest))) : W p l e R s m args below meth c H locs cells slots Q (F0 m pc ls (.int p1 :: rest)) :=
  cSi (n := 1) hx hb hml hown hts hK hN (c_X12_leastOf hc) (gdS hlk sm_X12_leastOf in_X12 co_X12_leastOf) (by decide +kernel) rfl hF hLo h hsize hcs rfl hr hdg kk
def f_X12_without (u : St) (p1 : Int32) (p2 : Int32) (p3 : Int32) : Option (Int32) := some ((p1 &&& (((1 : Int32) <<< (p2 &&& 31)) ^^^ (-1 : Int32))) &&& (((1 : Int32) <<< (p3 &&& 31)) ^^^ (-1 : Int32)))
set_option maxRecDepth 100000 in
set_option maxHeartbeats 4000000 in
theorem c_X12_without {l : Launch} {D : va_G} {cI cZ : ClassId} {a : Nat → Nat} {u : St} {p1 : Int32} {p2 : Int32} {p3 : Int32} {rr : Int32} (hf : f_X12_without u p1 p2 p3 = some rr) : Ci l yX12_without cX12_without 4 (some .int) 0 0 D (tyM cI cZ) 21 a (EM a cI cZ) [.ref (a 0), .int p1, .int p2, .int p3] u rr u := by
  refine metI (by decide +kernel) (Nat.le_of_ble_eq_true rfl) ?_
  intro p e s m args below meth c R Q hx hb hml hown hts hF hLo hret hK hN h ls hl
  have hown : s.vm.findClass RX12 = some m.cls := hown
  have hl : lv_has ls 4 [(0, .ref (a 0)), (1, .int p1), (2, .int p2), (3, .int p3)] := hl
  unfold f_X12_without at hf
  refine lv_iload_n (pc := 0) hx hb dX12_without_0 rfl (lv_at hl 1 rfl) ?_
  refine lv_iconst (pc := 1) (v := 1) hx hb dX12_without_1 (by decide) ?_
  refine lv_iload_n (pc := 2) hx hb dX12_without_2 rfl (lv_at hl 2 rfl) ?_
  refine lv_ishl (pc := 3) hx hb dX12_without_3 ?_
  refine lv_iconst (pc := 4) (v := (-1)) hx hb dX12_without_4 (by decide) ?_
  refine lv_ixor (pc := 5) hx hb dX12_without_5 ?_
  refine lv_iand (pc := 6) hx hb dX12_without_6 ?_
  refine lv_iconst (pc := 7) (v := 1) hx hb dX12_without_7 (by decide) ?_
  refine lv_iload_n (pc := 8) hx hb dX12_without_8 rfl (lv_at hl 3 rfl) ?_
  refine lv_ishl (pc := 9) hx hb dX12_without_9 ?_
  refine lv_iconst (pc := 10) (v := (-1)) hx hb dX12_without_10 (by decide) ?_
  refine lv_ixor (pc := 11) hx hb dX12_without_11 ?_
  refine lv_iand (pc := 12) hx hb dX12_without_12 ?_
  exact hret (so hf) rfl rfl dX12_without_13 h
theorem k_X12_without {p : Program} {l : Launch} {e : Env} {R : Room} {s : State} {m : MethodId} {args : Array Value} {below : List Frame} {meth : Method} {c : Code} {H : Heap} {locs : List Loc} {cells slots : Nat} {Q : State → Prop} {pc : Nat} {ls : Array Slot} {rest : List Value} {cc : ByteArray} {D : va_G} {cI cZ : ClassId} {a : Nat → Nat} {u : St} {own : String} {index nL : Nat} {p1 : Int32} {p2 : Int32} {p3 : Int32} {rr : Int32} (hx : p.tables.exec = Jvm.exec) (hb : c.code = cc) (hml : c.maxLocals = nL) (hown : s.vm.findClass own = some m.cls) (hts : ∀ w ∈ Gd, w.before args s = true) (hK : va_K D vwCl (tyM cI cZ) s) (hN : NB s) (hc : f_X12_without u p1 p2 p3 = some rr) (hlk : Cond.methodLink own index yX12_without ∈ Gd) (hF : 1 ≤ R.frames) (hLo : 23 ≤ R.locals) (h : Hh D (AB 21 a s.heap.size) (wX 21 a (EM a cI cZ) u) s.heap H locs) (hsize : ls.size = nL) (hcs : cells ≤ R.cells ∧ slots ≤ R.slots) (hr : (rest.map fun v => v.category).sum ≤ 8) (hdg : decode cc pc = .ok (.invokevirtual index, 3)) (kk : ∀ (H1 : Heap) (locs1 : List Loc), Hh D (AB 21 a s.heap.size) (wX 21 a (EM a cI cZ) u) s.heap H1 locs1 → W p l e R s m args below meth c H1 locs1 cells slots Q (F0 m (pc + 3) ls (.int rr :: rest))) : W p l e R s m args below meth c H locs cells slots Q (F0 m pc ls (.int p3 :: .int p2 :: .int p1 :: .ref (a 0) :: rest)) :=
  cVi (n := 3) hx hb hml hown hts hK hN (c_X12_without hc) (gdV hlk im_X12_without se_X12_without in_X12 co_X12_without) rfl (by decide +kernel) rfl hF hLo h hsize hcs (by decide) rfl rfl rfl hr hdg kk
def B_X12_findMost_30 (x3 : Int32) (x9 : Int32) (k12 : St → Option (St)) (rec14 : St → Int32 → Option (St)) (u10 : St) (x11 : Int32) : Option (St) := if 8 ≤ x11 then k12 u10 else if (x3 &&& ((u10.1 0 4) ^^^ (-1 : Int32))) = 0 then jq_1 (fun (x18 : Int32) => cki x3 256 (if x18 ≤ (u10.1 17 (ix x3)) then cki x3 256 (cki x3 256 (bs (sI u10 17 (ix x3) (u10.1 17 (ix x3))) (fun u20 : St => rec14 u20 (x11 + 1)))) else cki x3 256 (bs (sI u10 17 (ix x3) x18) (fun u21 : St => rec14 u21 (x11 + 1))))) (fun (k17 : Int32 → Option (St)) => if ((x3 >>> (x11 &&& 31)) &&& (1 : Int32)) = 1 then b1 (f_X12_given u10 x9 x11) (fun (x23 : Int32) => b1 (f_X12_without u10 x3 x9 x11) (fun (x24 : Int32) => cki x24 256 (k17 (x23 + (u10.1 17 (ix x24)))))) else k17 0) else k12 u10
def B_X12_findMost_9 (k4 : St → Option (St)) (rec6 : St → Int32 → Option (St)) (u2 : St) (x3 : Int32) : Option (St) := if 256 ≤ x3 then k4 u2 else cki x3 256 (bs (sI u2 17 (ix x3) 0) (fun u8 : St => b1 (f_X12_leastOf u8 x3) (fun (x9 : Int32) => jq_1 (fun (u13 : St) => rec6 u13 (x3 + 1)) (fun (k12 : St → Option (St)) => lq_2 (B_X12_findMost_30 x3 x9 k12) FU u8 x9))))
def f_X12_findMost (u : St) : Option (St) := cki 0 256 (bs (sI u 17 (ix 0) 0) (fun u1 : St => jq_1 (fun (u5 : St) => some u5) (fun (k4 : St → Option (St)) => lq_2 (B_X12_findMost_9 k4) FU u1 1)))
set_option maxRecDepth 100000 in
set_option maxHeartbeats 4000000 in
theorem c_X12_findMost {l : Launch} {D : va_G} {cI cZ : ClassId} {a : Nat → Nat} {u : St} {uu : St} (hf : f_X12_findMost u = some uu) : Cv l yX12_findMost cX12_findMost 5 none 1 24 D (tyM cI cZ) 21 a (EM a cI cZ) [.ref (a 0)] u uu := by
  refine metV (by decide +kernel) (Nat.le_of_ble_eq_true rfl) ?_
  intro p e s m args below meth c R Q hx hb hml hown hts hF hLo hret hK hN h ls hl
  have hown : s.vm.findClass RX12 = some m.cls := hown
  have hl : lv_has ls 5 [(0, .ref (a 0))] := hl
  unfold f_X12_findMost at hf
  refine lv_aload_n (pc := 0) hx hb dX12_findMost_0 rfl (lv_at hl 0 rfl) ?_
  refine gM_0_34 (pc := 1) hx hb hts hown hK h fl_X12_58 dX12_findMost_1 ?_
  refine lv_iconst (pc := 4) (v := 0) hx hb dX12_findMost_4 (by decide) ?_
  refine lv_iconst (pc := 5) (v := 0) hx hb dX12_findMost_5 (by decide) ?_
  obtain ⟨hin, hf⟩ := cki_e hf
  refine pM_17 (pc := 6) hx hb hK h hin dX12_findMost_6 (fun H locs h => ?_)
  obtain ⟨u1, eu1, hf⟩ := bs_e hf
  rw [← eu1] at h
  refine lv_iconst (pc := 7) (v := 1) hx hb dX12_findMost_7 (by decide) ?_
  refine lv_istore_n (pc := 8) (lv' := [(1, .int 1), (0, .ref (a 0))]) hx hb dX12_findMost_8 rfl hl (by decide) rfl (fun ls hl => ?_)
  obtain ⟨k4, hk4, hf⟩ := jq_1_e hf
  have jk4 : ∀ (u5 : St), k4 u5 = some uu → ∀ (H : Heap) (locs : List Loc) (ls : Array Slot), Hh D (AB 21 a s.heap.size) (wX 21 a (EM a cI cZ) u5) s.heap H locs → lv_has ls 5 [] → W p l e R s m args below meth c H locs 0 0 Q (F0 m 121 ls []) := by
    intro u5 hf H locs ls h hl
    rw [hk4] at hf
    exact hret (so hf) dX12_findMost_121 h
  refine lq_2_e (P := fun (u2 : St) (x3 : Int32) => ∀ (H : Heap) (locs : List Loc) (ls : Array Slot), Hh D (AB 21 a s.heap.size) (wX 21 a (EM a cI cZ) u2) s.heap H locs → lv_has ls 5 [(0, .ref (a 0)), (1, .int x3)] → W p l e R s m args below meth c H locs 0 0 Q (F0 m 9 ls [])) ?_ FU _ _ hf _ _ _ h (lv_sub hl [1, 0] rfl)
  intro rec6 irec6 u2 x3 hf H locs ls h hl
  unfold B_X12_findMost_9 at hf
  refine lv_iload_n (pc := 9) hx hb dX12_findMost_9 rfl (lv_at hl 1 rfl) ?_
  refine lv_sipush (pc := 10) (v := 256) hx hb dX12_findMost_10 (by decide) ?_
  refine lv_icmp_ge (pc := 13) (tgt := 121) hx hb dX12_findMost_13 (by decide) (fun c7 => ?_) (fun c7 => ?_)
  · have hf := if_t hf c7
    exact jk4 _ hf _ _ _ h (lv_sub hl [] rfl)
  · have hf := if_f hf c7
    refine lv_aload_n (pc := 16) hx hb dX12_findMost_16 rfl (lv_at hl 0 rfl) ?_
    refine gM_0_34 (pc := 17) hx hb hts hown hK h fl_X12_58 dX12_findMost_17 ?_
    refine lv_iload_n (pc := 20) hx hb dX12_findMost_20 rfl (lv_at hl 1 rfl) ?_
    refine lv_iconst (pc := 21) (v := 0) hx hb dX12_findMost_21 (by decide) ?_
    obtain ⟨hin, hf⟩ := cki_e hf
    refine pM_17 (pc := 22) hx hb hK h hin dX12_findMost_22 (fun H locs h => ?_)
    obtain ⟨u8, eu8, hf⟩ := bs_e hf
    rw [← eu8] at h
    refine lv_iload_n (pc := 23) hx hb dX12_findMost_23 rfl (lv_at hl 1 rfl) ?_
    obtain ⟨x9, hc, hf⟩ := b1_e hf
    refine kS_X12_leastOf (pc := 24) hx hb hml hown hts hK hN hc ml_X12_246 (Nat.le_trans (by decide) hF) (Nat.le_trans (by decide) hLo) h hl.1 ⟨Nat.zero_le _, Nat.zero_le _⟩ (Nat.le_of_ble_eq_true rfl) dX12_findMost_24 (fun H locs h => ?_)
    refine lv_istore_n (pc := 27) (lv' := [(2, .int x9), (0, .ref (a 0)), (1, .int x3)]) hx hb dX12_findMost_27 rfl hl (by decide) rfl (fun ls hl => ?_)
    refine lv_iload_n (pc := 28) hx hb dX12_findMost_28 rfl (lv_at hl 0 rfl) ?_
    refine lv_istore_n (pc := 29) (lv' := [(3, .int x9), (2, .int x9), (0, .ref (a 0)), (1, .int x3)]) hx hb dX12_findMost_29 rfl hl (by decide) rfl (fun ls hl => ?_)
    obtain ⟨k12, hk12, hf⟩ := jq_1_e hf
    have jk12 : ∀ (u13 : St), k12 u13 = some uu → ∀ (H : Heap) (locs : List Loc) (ls : Array Slot), Hh D (AB 21 a s.heap.size) (wX 21 a (EM a cI cZ) u13) s.heap H locs → lv_has ls 5 [(0, .ref (a 0)), (1, .int x3)] → W p l e R s m args below meth c H locs 0 0 Q (F0 m 115 ls []) := by
      intro u13 hf H locs ls h hl
      rw [hk12] at hf
      refine lv_iinc (pc := 115) (v := x3 + 1) (lv' := [(1, .int (x3 + 1)), (0, .ref (a 0))]) hx hb dX12_findMost_115 hl (k := 1) rfl rfl (by decide) rfl (fun ls hl => ?_)
      refine lv_goto (pc := 118) (tgt := 9) hx hb dX12_findMost_118 (by decide) ?_
      exact irec6 _ _ hf _ _ _ h (lv_sub hl [1, 0] rfl)
    refine lq_2_e (P := fun (u10 : St) (x11 : Int32) => ∀ (H : Heap) (locs : List Loc) (ls : Array Slot), Hh D (AB 21 a s.heap.size) (wX 21 a (EM a cI cZ) u10) s.heap H locs → lv_has ls 5 [(0, .ref (a 0)), (1, .int x3), (2, .int x9), (3, .int x11)] → W p l e R s m args below meth c H locs 0 0 Q (F0 m 30 ls [])) ?_ FU _ _ hf _ _ _ h (lv_sub hl [2, 3, 1, 0] rfl)
    intro rec14 irec14 u10 x11 hf H locs ls h hl
    unfold B_X12_findMost_30 at hf
    refine lv_iload_n (pc := 30) hx hb dX12_findMost_30 rfl (lv_at hl 3 rfl) ?_
    refine lv_bipush (pc := 31) (v := 8) hx hb dX12_findMost_31 (by decide) ?_
    refine lv_icmp_ge (pc := 33) (tgt := 115) hx hb dX12_findMost_33 (by decide) (fun c15 => ?_) (fun c15 => ?_)
    · have hf := if_t hf c15
      exact jk12 _ hf _ _ _ h (lv_sub hl [0, 1] rfl)
    · have hf := if_f hf c15
      refine lv_iload_n (pc := 36) hx hb dX12_findMost_36 rfl (lv_at hl 1 rfl) ?_
      refine lv_aload_n (pc := 37) hx hb dX12_findMost_37 rfl (lv_at hl 0 rfl) ?_
      refine gM_0_4 (pc := 38) hx hb hts hown hK h fl_X12_91 dX12_findMost_38 ?_
      refine lv_iconst (pc := 41) (v := (-1)) hx hb dX12_findMost_41 (by decide) ?_
      refine lv_ixor (pc := 42) hx hb dX12_findMost_42 ?_
      refine lv_iand (pc := 43) hx hb dX12_findMost_43 ?_
      refine lv_if_ne (pc := 44) (tgt := 115) hx hb dX12_findMost_44 (by decide) (fun c16 => ?_) (fun c16 => ?_)
      · have hf := if_f hf c16
        exact jk12 _ hf _ _ _ h (lv_sub hl [0, 1] rfl)
      · have hf := if_t hf c16
        refine lv_iload_n (pc := 47) hx hb dX12_findMost_47 rfl (lv_at hl 1 rfl) ?_
        refine lv_iload_n (pc := 48) hx hb dX12_findMost_48 rfl (lv_at hl 3 rfl) ?_
        refine lv_ishr (pc := 49) hx hb dX12_findMost_49 ?_
        refine lv_iconst (pc := 50) (v := 1) hx hb dX12_findMost_50 (by decide) ?_
        refine lv_iand (pc := 51) hx hb dX12_findMost_51 ?_
        refine lv_iconst (pc := 52) (v := 1) hx hb dX12_findMost_52 (by decide) ?_
        obtain ⟨k17, hk17, hf⟩ := jq_1_e hf
        have jk17 : ∀ (x18 : Int32), k17 x18 = some uu → ∀ (H : Heap) (locs : List Loc) (ls : Array Slot), Hh D (AB 21 a s.heap.size) (wX 21 a (EM a cI cZ) u10) s.heap H locs → lv_has ls 5 [(0, .ref (a 0)), (1, .int x3), (2, .int x9), (3, .int x11)] → W p l e R s m args below meth c H locs 0 0 Q (F0 m 79 ls [.int x18]) := by
          intro x18 hf H locs ls h hl
          rw [hk17] at hf
          refine lv_istore (pc := 79) (lv' := [(4, .int x18), (0, .ref (a 0)), (1, .int x3), (2, .int x9), (3, .int x11)]) hx hb dX12_findMost_79 hl (by decide) rfl (fun ls hl => ?_)
          refine lv_aload_n (pc := 81) hx hb dX12_findMost_81 rfl (lv_at hl 1 rfl) ?_
          refine gM_0_34 (pc := 82) hx hb hts hown hK h fl_X12_58 dX12_findMost_82 ?_
          refine lv_iload_n (pc := 85) hx hb dX12_findMost_85 rfl (lv_at hl 2 rfl) ?_
          refine lv_iload (pc := 86) hx hb dX12_findMost_86 (lv_at hl 0 rfl) ?_
          refine lv_aload_n (pc := 88) hx hb dX12_findMost_88 rfl (lv_at hl 1 rfl) ?_
          refine gM_0_34 (pc := 89) hx hb hts hown hK h fl_X12_58 dX12_findMost_89 ?_
          refine lv_iload_n (pc := 92) hx hb dX12_findMost_92 rfl (lv_at hl 2 rfl) ?_
          obtain ⟨hin, hf⟩ := cki_e hf
          refine gM_17 (pc := 93) hx hb hK h hin dX12_findMost_93 ?_
          refine lv_icmp_le (pc := 94) (tgt := 102) hx hb dX12_findMost_94 (by decide) (fun c19 => ?_) (fun c19 => ?_)
          · have hf := if_t hf c19
            refine lv_aload_n (pc := 102) hx hb dX12_findMost_102 rfl (lv_at hl 1 rfl) ?_
            refine gM_0_34 (pc := 103) hx hb hts hown hK h fl_X12_58 dX12_findMost_103 ?_
            refine lv_iload_n (pc := 106) hx hb dX12_findMost_106 rfl (lv_at hl 2 rfl) ?_
            obtain ⟨hin, hf⟩ := cki_e hf
            refine gM_17 (pc := 107) hx hb hK h hin dX12_findMost_107 ?_
            obtain ⟨hin, hf⟩ := cki_e hf
            refine pM_17 (pc := 108) hx hb hK h hin dX12_findMost_108 (fun H locs h => ?_)
            obtain ⟨u20, eu20, hf⟩ := bs_e hf
            rw [← eu20] at h
            refine lv_iinc (pc := 109) (v := x11 + 1) (lv' := [(3, .int (x11 + 1)), (4, .int x18), (0, .ref (a 0)), (1, .int x3), (2, .int x9)]) hx hb dX12_findMost_109 hl (k := 4) rfl rfl (by decide) rfl (fun ls hl => ?_)
            refine lv_goto (pc := 112) (tgt := 30) hx hb dX12_findMost_112 (by decide) ?_
            exact irec14 _ _ hf _ _ _ h (lv_sub hl [2, 3, 4, 0] rfl)
          · have hf := if_f hf c19
            refine lv_iload (pc := 97) hx hb dX12_findMost_97 (lv_at hl 0 rfl) ?_
            refine lv_goto (pc := 99) (tgt := 108) hx hb dX12_findMost_99 (by decide) ?_
            obtain ⟨hin, hf⟩ := cki_e hf
            refine pM_17 (pc := 108) hx hb hK h hin dX12_findMost_108 (fun H locs h => ?_)
            obtain ⟨u21, eu21, hf⟩ := bs_e hf
            rw [← eu21] at h
            refine lv_iinc (pc := 109) (v := x11 + 1) (lv' := [(3, .int (x11 + 1)), (4, .int x18), (0, .ref (a 0)), (1, .int x3), (2, .int x9)]) hx hb dX12_findMost_109 hl (k := 4) rfl rfl (by decide) rfl (fun ls hl => ?_)
            refine lv_goto (pc := 112) (tgt := 30) hx hb dX12_findMost_112 (by decide) ?_
            exact irec14 _ _ hf _ _ _ h (lv_sub hl [2, 3, 4, 0] rfl)
        refine lv_icmp_ne (pc := 53) (tgt := 78) hx hb dX12_findMost_53 (by decide) (fun c22 => ?_) (fun c22 => ?_)
        · have hf := if_f hf c22
          refine lv_iconst (pc := 78) (v := 0) hx hb dX12_findMost_78 (by decide) ?_
          exact jk17 _ hf _ _ _ h (lv_sub hl [0, 1, 2, 3] rfl)
        · have hf := if_t hf c22
          refine lv_aload_n (pc := 56) hx hb dX12_findMost_56 rfl (lv_at hl 0 rfl) ?_
          refine lv_iload_n (pc := 57) hx hb dX12_findMost_57 rfl (lv_at hl 2 rfl) ?_
          refine lv_iload_n (pc := 58) hx hb dX12_findMost_58 rfl (lv_at hl 3 rfl) ?_
          obtain ⟨x23, hc, hf⟩ := b1_e hf
          refine k_X12_given (pc := 59) hx hb hml hown hts hK hN hc ml_X12_249 (Nat.le_trans (by decide) hF) (Nat.le_trans (by decide) hLo) h hl.1 ⟨Nat.zero_le _, Nat.zero_le _⟩ (Nat.le_of_ble_eq_true rfl) dX12_findMost_59 (fun H locs h => ?_)
          refine lv_aload_n (pc := 62) hx hb dX12_findMost_62 rfl (lv_at hl 0 rfl) ?_
          refine gM_0_34 (pc := 63) hx hb hts hown hK h fl_X12_58 dX12_findMost_63 ?_
          refine lv_aload_n (pc := 66) hx hb dX12_findMost_66 rfl (lv_at hl 0 rfl) ?_
          refine lv_iload_n (pc := 67) hx hb dX12_findMost_67 rfl (lv_at hl 1 rfl) ?_
          refine lv_iload_n (pc := 68) hx hb dX12_findMost_68 rfl (lv_at hl 2 rfl) ?_
          refine lv_iload_n (pc := 69) hx hb dX12_findMost_69 rfl (lv_at hl 3 rfl) ?_
          obtain ⟨x24, hc, hf⟩ := b1_e hf
          refine k_X12_without (pc := 70) hx hb hml hown hts hK hN hc ml_X12_252 (Nat.le_trans (by decide) hF) (Nat.le_trans (by decide) hLo) h hl.1 ⟨Nat.zero_le _, Nat.zero_le _⟩ (Nat.le_of_ble_eq_true rfl) dX12_findMost_70 (fun H locs h => ?_)
          obtain ⟨hin, hf⟩ := cki_e hf
          refine gM_17 (pc := 73) hx hb hK h hin dX12_findMost_73 ?_
          refine lv_iadd (pc := 74) hx hb dX12_findMost_74 ?_
          refine lv_goto (pc := 75) (tgt := 79) hx hb dX12_findMost_75 (by decide) ?_
          exact jk17 _ hf _ _ _ h (lv_sub hl [0, 1, 2, 3] rfl)
theorem k_X12_findMost {p : Program} {l : Launch} {e : Env} {R : Room} {s : State} {m : MethodId} {args : Array Value} {below : List Frame} {meth : Method} {c : Code} {H : Heap} {locs : List Loc} {cells slots : Nat} {Q : State → Prop} {pc : Nat} {ls : Array Slot} {rest : List Value} {cc : ByteArray} {D : va_G} {cI cZ : ClassId} {a : Nat → Nat} {u : St} {own : String} {index nL : Nat} {uu : St} (hx : p.tables.exec = Jvm.exec) (hb : c.code = cc) (hml : c.maxLocals = nL) (hown : s.vm.findClass own = some m.cls) (hts : ∀ w ∈ Gd, w.before args s = true) (hK : va_K D vwCl (tyM cI cZ) s) (hN : NB s) (hc : f_X12_findMost u = some uu) (hlk : Cond.methodLink own index yX12_findMost ∈ Gd) (hF : 2 ≤ R.frames) (hLo : 48 ≤ R.locals) (h : Hh D (AB 21 a s.heap.size) (wX 21 a (EM a cI cZ) u) s.heap H locs) (hsize : ls.size = nL) (hcs : cells ≤ R.cells ∧ slots ≤ R.slots) (hr : (rest.map fun v => v.category).sum ≤ 8) (hdg : decode cc pc = .ok (.invokevirtual index, 3)) (kk : ∀ (H1 : Heap) (locs1 : List Loc), Hh D (AB 21 a s.heap.size) (wX 21 a (EM a cI cZ) uu) s.heap H1 locs1 → W p l e R s m args below meth c H1 locs1 cells slots Q (F0 m (pc + 3) ls (rest))) : W p l e R s m args below meth c H locs cells slots Q (F0 m pc ls (.ref (a 0) :: rest)) :=
  cVv (n := 0) hx hb hml hown hts hK hN (c_X12_findMost hc) (gdV hlk im_X12_findMost se_X12_findMost in_X12 co_X12_findMost) rfl (by decide +kernel) rfl hF hLo h hsize hcs (by decide) rfl rfl rfl hr hdg kk
def B_X12_findPartners_16 (u1 : St) (x2 : Int32) (x7 : Int32) (k9 : Int32 → Option (St)) (rec14 : Int32 → Option (St)) (x8 : Int32) : Option (St) := if ((x2 >>> (x8 &&& 31)) &&& (1 : Int32)) = 0 then rec14 (x8 + 1) else b1 (f_X12_given u1 x7 x8) (fun (x16 : Int32) => b1 (f_X12_without u1 x2 x7 x8) (fun (x17 : Int32) => cki x17 256 (cki x2 256 (if (u1.1 17 (ix x2)) ≤ (x16 + (u1.1 17 (ix x17))) then k9 x8 else rec14 (x8 + 1)))))
def B_X12_findPartners_5 (k3 : St → Option (St)) (rec5 : St → Int32 → Option (St)) (u1 : St) (x2 : Int32) : Option (St) := if x2 = 0 then k3 u1 else b1 (f_X12_leastOf u1 x2) (fun (x7 : Int32) => jq_1 (fun (x10 : Int32) => cki x7 8 (bs (sI u1 16 (ix x7) x10) (fun u11 : St => cki x10 8 (bs (sI u11 16 (ix x10) x7) (fun u12 : St => b1 (f_X12_without u12 x2 x7 x10) (fun (x13 : Int32) => rec5 u12 x13)))))) (fun (k9 : Int32 → Option (St)) => lq_1 (B_X12_findPartners_16 u1 x2 x7 k9) FU x7))
def f_X12_findPartners (u : St) : Option (St) := jq_1 (fun (u4 : St) => some u4) (fun (k3 : St → Option (St)) => lq_2 (B_X12_findPartners_5 k3) FU u (u.1 0 4))
set_option maxRecDepth 100000 in
set_option maxHeartbeats 4000000 in
theorem c_X12_findPartners {l : Launch} {D : va_G} {cI cZ : ClassId} {a : Nat → Nat} {u : St} {uu : St} (hf : f_X12_findPartners u = some uu) : Cv l yX12_findPartners cX12_findPartners 4 none 1 24 D (tyM cI cZ) 21 a (EM a cI cZ) [.ref (a 0)] u uu := by
  refine metV (by decide +kernel) (Nat.le_of_ble_eq_true rfl) ?_
  intro p e s m args below meth c R Q hx hb hml hown hts hF hLo hret hK hN h ls hl
  have hown : s.vm.findClass RX12 = some m.cls := hown
  have hl : lv_has ls 4 [(0, .ref (a 0))] := hl
  unfold f_X12_findPartners at hf
  refine lv_aload_n (pc := 0) hx hb dX12_findPartners_0 rfl (lv_at hl 0 rfl) ?_
  refine gM_0_4 (pc := 1) hx hb hts hown hK h fl_X12_91 dX12_findPartners_1 ?_
  refine lv_istore_n (pc := 4) (lv' := [(1, .int (u.1 0 4)), (0, .ref (a 0))]) hx hb dX12_findPartners_4 rfl hl (by decide) rfl (fun ls hl => ?_)
  obtain ⟨k3, hk3, hf⟩ := jq_1_e hf
  have jk3 : ∀ (u4 : St), k3 u4 = some uu → ∀ (H : Heap) (locs : List Loc) (ls : Array Slot), Hh D (AB 21 a s.heap.size) (wX 21 a (EM a cI cZ) u4) s.heap H locs → lv_has ls 4 [] → W p l e R s m args below meth c H locs 0 0 Q (F0 m 83 ls []) := by
    intro u4 hf H locs ls h hl
    rw [hk3] at hf
    exact hret (so hf) dX12_findPartners_83 h
  refine lq_2_e (P := fun (u1 : St) (x2 : Int32) => ∀ (H : Heap) (locs : List Loc) (ls : Array Slot), Hh D (AB 21 a s.heap.size) (wX 21 a (EM a cI cZ) u1) s.heap H locs → lv_has ls 4 [(0, .ref (a 0)), (1, .int x2)] → W p l e R s m args below meth c H locs 0 0 Q (F0 m 5 ls [])) ?_ FU _ _ hf _ _ _ h (lv_sub hl [1, 0] rfl)
  intro rec5 irec5 u1 x2 hf H locs ls h hl
  unfold B_X12_findPartners_5 at hf
  refine lv_iload_n (pc := 5) hx hb dX12_findPartners_5 rfl (lv_at hl 1 rfl) ?_
  refine lv_if_eq (pc := 6) (tgt := 83) hx hb dX12_findPartners_6 (by decide) (fun c6 => ?_) (fun c6 => ?_)
  · have hf := if_t hf c6
    exact jk3 _ hf _ _ _ h (lv_sub hl [] rfl)
  · have hf := if_f hf c6
    refine lv_iload_n (pc := 9) hx hb dX12_findPartners_9 rfl (lv_at hl 1 rfl) ?_
    obtain ⟨x7, hc, hf⟩ := b1_e hf
    refine kS_X12_leastOf (pc := 10) hx hb hml hown hts hK hN hc ml_X12_246 (Nat.le_trans (by decide) hF) (Nat.le_trans (by decide) hLo) h hl.1 ⟨Nat.zero_le _, Nat.zero_le _⟩ (Nat.le_of_ble_eq_true rfl) dX12_findPartners_10 (fun H locs h => ?_)
    refine lv_istore_n (pc := 13) (lv' := [(2, .int x7), (0, .ref (a 0)), (1, .int x2)]) hx hb dX12_findPartners_13 rfl hl (by decide) rfl (fun ls hl => ?_)
    refine lv_iload_n (pc := 14) hx hb dX12_findPartners_14 rfl (lv_at hl 0 rfl) ?_
    refine lv_istore_n (pc := 15) (lv' := [(3, .int x7), (2, .int x7), (0, .ref (a 0)), (1, .int x2)]) hx hb dX12_findPartners_15 rfl hl (by decide) rfl (fun ls hl => ?_)
    obtain ⟨k9, hk9, hf⟩ := jq_1_e hf
    have jk9 : ∀ (x10 : Int32), k9 x10 = some uu → ∀ (H : Heap) (locs : List Loc) (ls : Array Slot), Hh D (AB 21 a s.heap.size) (wX 21 a (EM a cI cZ) u1) s.heap H locs → lv_has ls 4 [(0, .ref (a 0)), (1, .int x2), (2, .int x7), (3, .int x10)] → W p l e R s m args below meth c H locs 0 0 Q (F0 m 58 ls []) := by
      intro x10 hf H locs ls h hl
      rw [hk9] at hf
      refine lv_aload_n (pc := 58) hx hb dX12_findPartners_58 rfl (lv_at hl 0 rfl) ?_
      refine gM_0_33 (pc := 59) hx hb hts hown hK h fl_X12_55 dX12_findPartners_59 ?_
      refine lv_iload_n (pc := 62) hx hb dX12_findPartners_62 rfl (lv_at hl 2 rfl) ?_
      refine lv_iload_n (pc := 63) hx hb dX12_findPartners_63 rfl (lv_at hl 3 rfl) ?_
      obtain ⟨hin, hf⟩ := cki_e hf
      refine pM_16 (pc := 64) hx hb hK h hin dX12_findPartners_64 (fun H locs h => ?_)
      obtain ⟨u11, eu11, hf⟩ := bs_e hf
      rw [← eu11] at h
      refine lv_aload_n (pc := 65) hx hb dX12_findPartners_65 rfl (lv_at hl 0 rfl) ?_
      refine gM_0_33 (pc := 66) hx hb hts hown hK h fl_X12_55 dX12_findPartners_66 ?_
      refine lv_iload_n (pc := 69) hx hb dX12_findPartners_69 rfl (lv_at hl 3 rfl) ?_
      refine lv_iload_n (pc := 70) hx hb dX12_findPartners_70 rfl (lv_at hl 2 rfl) ?_
      obtain ⟨hin, hf⟩ := cki_e hf
      refine pM_16 (pc := 71) hx hb hK h hin dX12_findPartners_71 (fun H locs h => ?_)
      obtain ⟨u12, eu12, hf⟩ := bs_e hf
      rw [← eu12] at h
      refine lv_aload_n (pc := 72) hx hb dX12_findPartners_72 rfl (lv_at hl 0 rfl) ?_
      refine lv_iload_n (pc := 73) hx hb dX12_findPartners_73 rfl (lv_at hl 1 rfl) ?_
      refine lv_iload_n (pc := 74) hx hb dX12_findPartners_74 rfl (lv_at hl 2 rfl) ?_
      refine lv_iload_n (pc := 75) hx hb dX12_findPartners_75 rfl (lv_at hl 3 rfl) ?_
      obtain ⟨x13, hc, hf⟩ := b1_e hf
      refine k_X12_without (pc := 76) hx hb hml hown hts hK hN hc ml_X12_252 (Nat.le_trans (by decide) hF) (Nat.le_trans (by decide) hLo) h hl.1 ⟨Nat.zero_le _, Nat.zero_le _⟩ (Nat.le_of_ble_eq_true rfl) dX12_findPartners_76 (fun H locs h => ?_)
      refine lv_istore_n (pc := 79) (lv' := [(1, .int x13), (0, .ref (a 0)), (2, .int x7), (3, .int x10)]) hx hb dX12_findPartners_79 rfl hl (by decide) rfl (fun ls hl => ?_)
      refine lv_goto (pc := 80) (tgt := 5) hx hb dX12_findPartners_80 (by decide) ?_
      exact irec5 _ _ hf _ _ _ h (lv_sub hl [1, 0] rfl)
    refine lq_1_e (P := fun (x8 : Int32) => ∀ (H : Heap) (locs : List Loc) (ls : Array Slot), Hh D (AB 21 a s.heap.size) (wX 21 a (EM a cI cZ) u1) s.heap H locs → lv_has ls 4 [(0, .ref (a 0)), (1, .int x2), (2, .int x7), (3, .int x8)] → W p l e R s m args below meth c H locs 0 0 Q (F0 m 16 ls [])) ?_ FU _ hf _ _ _ h (lv_sub hl [2, 3, 1, 0] rfl)
    intro rec14 irec14 x8 hf H locs ls h hl
    unfold B_X12_findPartners_16 at hf
    refine lv_iload_n (pc := 16) hx hb dX12_findPartners_16 rfl (lv_at hl 1 rfl) ?_
    refine lv_iload_n (pc := 17) hx hb dX12_findPartners_17 rfl (lv_at hl 3 rfl) ?_
    refine lv_ishr (pc := 18) hx hb dX12_findPartners_18 ?_
    refine lv_iconst (pc := 19) (v := 1) hx hb dX12_findPartners_19 (by decide) ?_
    refine lv_iand (pc := 20) hx hb dX12_findPartners_20 ?_
    refine lv_if_eq (pc := 21) (tgt := 52) hx hb dX12_findPartners_21 (by decide) (fun c15 => ?_) (fun c15 => ?_)
    · have hf := if_t hf c15
      refine lv_iinc (pc := 52) (v := x8 + 1) (lv' := [(3, .int (x8 + 1)), (0, .ref (a 0)), (1, .int x2), (2, .int x7)]) hx hb dX12_findPartners_52 hl (k := 3) rfl rfl (by decide) rfl (fun ls hl => ?_)
      refine lv_goto (pc := 55) (tgt := 16) hx hb dX12_findPartners_55 (by decide) ?_
      exact irec14 _ hf _ _ _ h (lv_sub hl [1, 2, 3, 0] rfl)
    · have hf := if_f hf c15
      refine lv_aload_n (pc := 24) hx hb dX12_findPartners_24 rfl (lv_at hl 0 rfl) ?_
      refine lv_iload_n (pc := 25) hx hb dX12_findPartners_25 rfl (lv_at hl 2 rfl) ?_
      refine lv_iload_n (pc := 26) hx hb dX12_findPartners_26 rfl (lv_at hl 3 rfl) ?_
      obtain ⟨x16, hc, hf⟩ := b1_e hf
      refine k_X12_given (pc := 27) hx hb hml hown hts hK hN hc ml_X12_249 (Nat.le_trans (by decide) hF) (Nat.le_trans (by decide) hLo) h hl.1 ⟨Nat.zero_le _, Nat.zero_le _⟩ (Nat.le_of_ble_eq_true rfl) dX12_findPartners_27 (fun H locs h => ?_)
      refine lv_aload_n (pc := 30) hx hb dX12_findPartners_30 rfl (lv_at hl 0 rfl) ?_
      refine gM_0_34 (pc := 31) hx hb hts hown hK h fl_X12_58 dX12_findPartners_31 ?_
      refine lv_aload_n (pc := 34) hx hb dX12_findPartners_34 rfl (lv_at hl 0 rfl) ?_
      refine lv_iload_n (pc := 35) hx hb dX12_findPartners_35 rfl (lv_at hl 1 rfl) ?_
      refine lv_iload_n (pc := 36) hx hb dX12_findPartners_36 rfl (lv_at hl 2 rfl) ?_
      refine lv_iload_n (pc := 37) hx hb dX12_findPartners_37 rfl (lv_at hl 3 rfl) ?_
      obtain ⟨x17, hc, hf⟩ := b1_e hf
      refine k_X12_without (pc := 38) hx hb hml hown hts hK hN hc ml_X12_252 (Nat.le_trans (by decide) hF) (Nat.le_trans (by decide) hLo) h hl.1 ⟨Nat.zero_le _, Nat.zero_le _⟩ (Nat.le_of_ble_eq_true rfl) dX12_findPartners_38 (fun H locs h => ?_)
      obtain ⟨hin, hf⟩ := cki_e hf
      refine gM_17 (pc := 41) hx hb hK h hin dX12_findPartners_41 ?_
      refine lv_iadd (pc := 42) hx hb dX12_findPartners_42 ?_
      refine lv_aload_n (pc := 43) hx hb dX12_findPartners_43 rfl (lv_at hl 0 rfl) ?_
      refine gM_0_34 (pc := 44) hx hb hts hown hK h fl_X12_58 dX12_findPartners_44 ?_
      refine lv_iload_n (pc := 47) hx hb dX12_findPartners_47 rfl (lv_at hl 1 rfl) ?_
      obtain ⟨hin, hf⟩ := cki_e hf
      refine gM_17 (pc := 48) hx hb hK h hin dX12_findPartners_48 ?_
      refine lv_icmp_ge (pc := 49) (tgt := 58) hx hb dX12_findPartners_49 (by decide) (fun c18 => ?_) (fun c18 => ?_)
      · have hf := if_t hf c18
        exact jk9 _ hf _ _ _ h (lv_sub hl [0, 1, 2, 3] rfl)
      · have hf := if_f hf c18
        refine lv_iinc (pc := 52) (v := x8 + 1) (lv' := [(3, .int (x8 + 1)), (0, .ref (a 0)), (1, .int x2), (2, .int x7)]) hx hb dX12_findPartners_52 hl (k := 3) rfl rfl (by decide) rfl (fun ls hl => ?_)
        refine lv_goto (pc := 55) (tgt := 16) hx hb dX12_findPartners_55 (by decide) ?_
        exact irec14 _ hf _ _ _ h (lv_sub hl [1, 2, 3, 0] rfl)
theorem k_X12_findPartners {p : Program} {l : Launch} {e : Env} {R : Room} {s : State} {m : MethodId} {args : Array Value} {below : List Frame} {meth : Method} {c : Code} {H : Heap} {locs : List Loc} {cells slots : Nat} {Q : State → Prop} {pc : Nat} {ls : Array Slot} {rest : List Value} {cc : ByteArray} {D : va_G} {cI cZ : ClassId} {a : Nat → Nat} {u : St} {own : String} {index nL : Nat} {uu : St} (hx : p.tables.exec = Jvm.exec) (hb : c.code = cc) (hml : c.maxLocals = nL) (hown : s.vm.findClass own = some m.cls) (hts : ∀ w ∈ Gd, w.before args s = true) (hK : va_K D vwCl (tyM cI cZ) s) (hN : NB s) (hc : f_X12_findPartners u = some uu) (hlk : Cond.methodLink own index yX12_findPartners ∈ Gd) (hF : 2 ≤ R.frames) (hLo : 47 ≤ R.locals) (h : Hh D (AB 21 a s.heap.size) (wX 21 a (EM a cI cZ) u) s.heap H locs) (hsize : ls.size = nL) (hcs : cells ≤ R.cells ∧ slots ≤ R.slots) (hr : (rest.map fun v => v.category).sum ≤ 8) (hdg : decode cc pc = .ok (.invokevirtual index, 3)) (kk : ∀ (H1 : Heap) (locs1 : List Loc), Hh D (AB 21 a s.heap.size) (wX 21 a (EM a cI cZ) uu) s.heap H1 locs1 → W p l e R s m args below meth c H1 locs1 cells slots Q (F0 m (pc + 3) ls (rest))) : W p l e R s m args below meth c H locs cells slots Q (F0 m pc ls (.ref (a 0) :: rest)) :=
  cVv (n := 0) hx hb hml hown hts hK hN (c_X12_findPartners hc) (gdV hlk im_X12_findPartners se_X12_findPartners in_X12 co_X12_findPartners) rfl (by decide +kernel) rfl hF hLo h hsize hcs (by decide) rfl rfl rfl hr hdg kk
def B_X12_poured_27 (p1 : Int32) (k6 : St → Option (Int32 × St)) (rec11 : St → Int32 → Option (Int32 × St)) (u4 : St) (x5 : Int32) : Option (Int32 × St) := if 8 ≤ x5 then k6 u4 else b1 (f_X12_isBarrel u4 x5) (fun (x13 : Int32) => if x13 = 0 then cki x5 8 (bs (sI u4 18 (ix x5) 0) (fun u15 : St => rec11 u15 (x5 + 1))) else b1 (f_X12_acidBehind u4 x5 p1) (fun (x16 : Int32) => cki x5 8 (bs (sI u4 18 (ix x5) x16) (fun u17 : St => rec11 u17 (x5 + 1)))))
def f_X12_poured (u : St) (p1 : Int32) (p2 : Int32) : Option (Int32 × St) := jq_0 (b1 (f_X12_isDays u p1) (fun (x2 : Int32) => if x2 = 0 then some ((-2), u) else jq_1 (fun (u7 : St) => b1 (f_X12_findMost u7) (fun (u8 : St) => b1 (f_X12_findPartners u8) (fun (u9 : St) => if p2 = ((-1)) then cki (u9.1 0 4) 256 (some (u9.1 17 (ix (u9.1 0 4)), u9)) else cki p2 8 (some (u9.1 16 (ix p2), u9))))) (fun (k6 : St → Option (Int32 × St)) => lq_2 (B_X12_poured_27 p1 k6) FU u 0))) (fun (k1 : Option (Int32 × St)) => if p2 = ((-1)) then k1 else b1 (f_X12_isBarrel u p2) (fun (x19 : Int32) => if x19 = 0 then some ((-1), u) else k1))
set_option maxRecDepth 100000 in
set_option maxHeartbeats 4000000 in
theorem c_X12_poured {l : Launch} {D : va_G} {cI cZ : ClassId} {a : Nat → Nat} {u : St} {p1 : Int32} {p2 : Int32} {rr : Int32} {uu : St} (hf : f_X12_poured u p1 p2 = some (rr, uu)) : Ci l yX12_poured cX12_poured 4 (some .int) 5 116 D (tyM cI cZ) 21 a (EM a cI cZ) [.ref (a 0), .int p1, .int p2] u rr uu := by
  refine metI (by decide +kernel) (Nat.le_of_ble_eq_true rfl) ?_
  intro p e s m args below meth c R Q hx hb hml hown hts hF hLo hret hK hN h ls hl
  have hown : s.vm.findClass RX12 = some m.cls := hown
  have hl : lv_has ls 4 [(0, .ref (a 0)), (1, .int p1), (2, .int p2)] := hl
  unfold f_X12_poured at hf
  refine lv_iload_n (pc := 0) hx hb dX12_poured_0 rfl (lv_at hl 2 rfl) ?_
  refine lv_iconst (pc := 1) (v := (-1)) hx hb dX12_poured_1 (by decide) ?_
  obtain ⟨k1, hk1, hf⟩ := jq_0_e hf
  have jk1 : k1 = some (rr, uu) → ∀ (H : Heap) (locs : List Loc) (ls : Array Slot), Hh D (AB 21 a s.heap.size) (wX 21 a (EM a cI cZ) u) s.heap H locs → lv_has ls 4 [(0, .ref (a 0)), (1, .int p1), (2, .int p2)] → W p l e R s m args below meth c H locs 0 0 Q (F0 m 15 ls []) := by
    intro hf H locs ls h hl
    rw [hk1] at hf
    refine lv_iload_n (pc := 15) hx hb dX12_poured_15 rfl (lv_at hl 1 rfl) ?_
    obtain ⟨x2, hc, hf⟩ := b1_e hf
    refine kS_X12_isDays (pc := 16) hx hb hml hown hts hK hN hc ml_X12_177 (Nat.le_trans (by decide) hF) (Nat.le_trans (by decide) hLo) h hl.1 ⟨Nat.zero_le _, Nat.zero_le _⟩ (Nat.le_of_ble_eq_true rfl) dX12_poured_16 (fun H locs h => ?_)
    refine lv_if_ne (pc := 19) (tgt := 25) hx hb dX12_poured_19 (by decide) (fun c3 => ?_) (fun c3 => ?_)
    · have hf := if_f hf c3
      refine lv_iconst (pc := 25) (v := 0) hx hb dX12_poured_25 (by decide) ?_
      refine lv_istore_n (pc := 26) (lv' := [(3, .int 0), (0, .ref (a 0)), (1, .int p1), (2, .int p2)]) hx hb dX12_poured_26 rfl hl (by decide) rfl (fun ls hl => ?_)
      obtain ⟨k6, hk6, hf⟩ := jq_1_e hf
      have jk6 : ∀ (u7 : St), k6 u7 = some (rr, uu) → ∀ (H : Heap) (locs : List Loc) (ls : Array Slot), Hh D (AB 21 a s.heap.size) (wX 21 a (EM a cI cZ) u7) s.heap H locs → lv_has ls 4 [(0, .ref (a 0)), (2, .int p2)] → W p l e R s m args below meth c H locs 0 0 Q (F0 m 63 ls []) := by
        intro u7 hf H locs ls h hl
        rw [hk6] at hf
        refine lv_aload_n (pc := 63) hx hb dX12_poured_63 rfl (lv_at hl 0 rfl) ?_
        obtain ⟨u8, hc, hf⟩ := b1_e hf
        refine k_X12_findMost (pc := 64) hx hb hml hown hts hK hN hc ml_X12_255 (Nat.le_trans (by decide) hF) (Nat.le_trans (by decide) hLo) h hl.1 ⟨Nat.zero_le _, Nat.zero_le _⟩ (Nat.le_of_ble_eq_true rfl) dX12_poured_64 (fun H locs h => ?_)
        refine lv_aload_n (pc := 67) hx hb dX12_poured_67 rfl (lv_at hl 0 rfl) ?_
        obtain ⟨u9, hc, hf⟩ := b1_e hf
        refine k_X12_findPartners (pc := 68) hx hb hml hown hts hK hN hc ml_X12_258 (Nat.le_trans (by decide) hF) (Nat.le_trans (by decide) hLo) h hl.1 ⟨Nat.zero_le _, Nat.zero_le _⟩ (Nat.le_of_ble_eq_true rfl) dX12_poured_68 (fun H locs h => ?_)
        refine lv_iload_n (pc := 71) hx hb dX12_poured_71 rfl (lv_at hl 1 rfl) ?_
        refine lv_iconst (pc := 72) (v := (-1)) hx hb dX12_poured_72 (by decide) ?_
        refine lv_icmp_ne (pc := 73) (tgt := 88) hx hb dX12_poured_73 (by decide) (fun c10 => ?_) (fun c10 => ?_)
        · have hf := if_f hf c10
          refine lv_aload_n (pc := 88) hx hb dX12_poured_88 rfl (lv_at hl 0 rfl) ?_
          refine gM_0_33 (pc := 89) hx hb hts hown hK h fl_X12_55 dX12_poured_89 ?_
          refine lv_iload_n (pc := 92) hx hb dX12_poured_92 rfl (lv_at hl 1 rfl) ?_
          obtain ⟨hin, hf⟩ := cki_e hf
          refine gM_16 (pc := 93) hx hb hK h hin dX12_poured_93 ?_
          exact hret (so1 hf) rfl (so2 hf) dX12_poured_94 h
        · have hf := if_t hf c10
          refine lv_aload_n (pc := 76) hx hb dX12_poured_76 rfl (lv_at hl 0 rfl) ?_
          refine gM_0_34 (pc := 77) hx hb hts hown hK h fl_X12_58 dX12_poured_77 ?_
          refine lv_aload_n (pc := 80) hx hb dX12_poured_80 rfl (lv_at hl 0 rfl) ?_
          refine gM_0_4 (pc := 81) hx hb hts hown hK h fl_X12_91 dX12_poured_81 ?_
          obtain ⟨hin, hf⟩ := cki_e hf
          refine gM_17 (pc := 84) hx hb hK h hin dX12_poured_84 ?_
          refine lv_goto (pc := 85) (tgt := 94) hx hb dX12_poured_85 (by decide) ?_
          exact hret (so1 hf) rfl (so2 hf) dX12_poured_94 h
      refine lq_2_e (P := fun (u4 : St) (x5 : Int32) => ∀ (H : Heap) (locs : List Loc) (ls : Array Slot), Hh D (AB 21 a s.heap.size) (wX 21 a (EM a cI cZ) u4) s.heap H locs → lv_has ls 4 [(0, .ref (a 0)), (1, .int p1), (2, .int p2), (3, .int x5)] → W p l e R s m args below meth c H locs 0 0 Q (F0 m 27 ls [])) ?_ FU _ _ hf _ _ _ h (lv_sub hl [1, 2, 3, 0] rfl)
      intro rec11 irec11 u4 x5 hf H locs ls h hl
      unfold B_X12_poured_27 at hf
      refine lv_iload_n (pc := 27) hx hb dX12_poured_27 rfl (lv_at hl 3 rfl) ?_
      refine lv_bipush (pc := 28) (v := 8) hx hb dX12_poured_28 (by decide) ?_
      refine lv_icmp_ge (pc := 30) (tgt := 63) hx hb dX12_poured_30 (by decide) (fun c12 => ?_) (fun c12 => ?_)
      · have hf := if_t hf c12
        exact jk6 _ hf _ _ _ h (lv_sub hl [0, 2] rfl)
      · have hf := if_f hf c12
        refine lv_aload_n (pc := 33) hx hb dX12_poured_33 rfl (lv_at hl 0 rfl) ?_
        refine gM_0_35 (pc := 34) hx hb hts hown hK h fl_X12_61 dX12_poured_34 ?_
        refine lv_iload_n (pc := 37) hx hb dX12_poured_37 rfl (lv_at hl 3 rfl) ?_
        refine lv_aload_n (pc := 38) hx hb dX12_poured_38 rfl (lv_at hl 0 rfl) ?_
        refine lv_iload_n (pc := 39) hx hb dX12_poured_39 rfl (lv_at hl 3 rfl) ?_
        obtain ⟨x13, hc, hf⟩ := b1_e hf
        refine k_X12_isBarrel (pc := 40) hx hb hml hown hts hK hN hc ml_X12_107 (Nat.le_trans (by decide) hF) (Nat.le_trans (by decide) hLo) h hl.1 ⟨Nat.zero_le _, Nat.zero_le _⟩ (Nat.le_of_ble_eq_true rfl) dX12_poured_40 (fun H locs h => ?_)
        refine lv_if_eq (pc := 43) (tgt := 55) hx hb dX12_poured_43 (by decide) (fun c14 => ?_) (fun c14 => ?_)
        · have hf := if_t hf c14
          refine lv_iconst (pc := 55) (v := 0) hx hb dX12_poured_55 (by decide) ?_
          obtain ⟨hin, hf⟩ := cki_e hf
          refine pM_18 (pc := 56) hx hb hK h hin dX12_poured_56 (fun H locs h => ?_)
          obtain ⟨u15, eu15, hf⟩ := bs_e hf
          rw [← eu15] at h
          refine lv_iinc (pc := 57) (v := x5 + 1) (lv' := [(3, .int (x5 + 1)), (0, .ref (a 0)), (1, .int p1), (2, .int p2)]) hx hb dX12_poured_57 hl (k := 3) rfl rfl (by decide) rfl (fun ls hl => ?_)
          refine lv_goto (pc := 60) (tgt := 27) hx hb dX12_poured_60 (by decide) ?_
          exact irec11 _ _ hf _ _ _ h (lv_sub hl [1, 2, 3, 0] rfl)
        · have hf := if_f hf c14
          refine lv_aload_n (pc := 46) hx hb dX12_poured_46 rfl (lv_at hl 0 rfl) ?_
          refine lv_iload_n (pc := 47) hx hb dX12_poured_47 rfl (lv_at hl 3 rfl) ?_
          refine lv_iload_n (pc := 48) hx hb dX12_poured_48 rfl (lv_at hl 1 rfl) ?_
          obtain ⟨x16, hc, hf⟩ := b1_e hf
          refine k_X12_acidBehind (pc := 49) hx hb hml hown hts hK hN hc ml_X12_217 (Nat.le_trans (by decide) hF) (Nat.le_trans (by decide) hLo) h hl.1 ⟨Nat.zero_le _, Nat.zero_le _⟩ (Nat.le_of_ble_eq_true rfl) dX12_poured_49 (fun H locs h => ?_)
          refine lv_goto (pc := 52) (tgt := 56) hx hb dX12_poured_52 (by decide) ?_
          obtain ⟨hin, hf⟩ := cki_e hf
          refine pM_18 (pc := 56) hx hb hK h hin dX12_poured_56 (fun H locs h => ?_)
          obtain ⟨u17, eu17, hf⟩ := bs_e hf
          rw [← eu17] at h
          refine lv_iinc (pc := 57) (v := x5 + 1) (lv' := [(3, .int (x5 + 1)), (0, .ref (a 0)), (1, .int p1), (2, .int p2)]) hx hb dX12_poured_57 hl (k := 3) rfl rfl (by decide) rfl (fun ls hl => ?_)
          refine lv_goto (pc := 60) (tgt := 27) hx hb dX12_poured_60 (by decide) ?_
          exact irec11 _ _ hf _ _ _ h (lv_sub hl [1, 2, 3, 0] rfl)
    · have hf := if_t hf c3
      refine lv_bipush (pc := 22) (v := (-2)) hx hb dX12_poured_22 (by decide) ?_
      exact hret (so1 hf) rfl (so2 hf) dX12_poured_24 h
  refine lv_icmp_eq (pc := 2) (tgt := 15) hx hb dX12_poured_2 (by decide) (fun c18 => ?_) (fun c18 => ?_)
  · have hf := if_t hf c18
    exact jk1 hf _ _ _ h (lv_sub hl [0, 1, 2] rfl)
  · have hf := if_f hf c18
    refine lv_aload_n (pc := 5) hx hb dX12_poured_5 rfl (lv_at hl 0 rfl) ?_
    refine lv_iload_n (pc := 6) hx hb dX12_poured_6 rfl (lv_at hl 2 rfl) ?_
    obtain ⟨x19, hc, hf⟩ := b1_e hf
    refine k_X12_isBarrel (pc := 7) hx hb hml hown hts hK hN hc ml_X12_107 (Nat.le_trans (by decide) hF) (Nat.le_trans (by decide) hLo) h hl.1 ⟨Nat.zero_le _, Nat.zero_le _⟩ (Nat.le_of_ble_eq_true rfl) dX12_poured_7 (fun H locs h => ?_)
    refine lv_if_ne (pc := 10) (tgt := 15) hx hb dX12_poured_10 (by decide) (fun c20 => ?_) (fun c20 => ?_)
    · have hf := if_f hf c20
      exact jk1 hf _ _ _ h (lv_sub hl [0, 1, 2] rfl)
    · have hf := if_t hf c20
      refine lv_iconst (pc := 13) (v := (-1)) hx hb dX12_poured_13 (by decide) ?_
      exact hret (so1 hf) rfl (so2 hf) dX12_poured_14 h
theorem k_X12_poured {p : Program} {l : Launch} {e : Env} {R : Room} {s : State} {m : MethodId} {args : Array Value} {below : List Frame} {meth : Method} {c : Code} {H : Heap} {locs : List Loc} {cells slots : Nat} {Q : State → Prop} {pc : Nat} {ls : Array Slot} {rest : List Value} {cc : ByteArray} {D : va_G} {cI cZ : ClassId} {a : Nat → Nat} {u : St} {own : String} {index nL : Nat} {p1 : Int32} {p2 : Int32} {rr : Int32} {uu : St} (hx : p.tables.exec = Jvm.exec) (hb : c.code = cc) (hml : c.maxLocals = nL) (hown : s.vm.findClass own = some m.cls) (hts : ∀ w ∈ Gd, w.before args s = true) (hK : va_K D vwCl (tyM cI cZ) s) (hN : NB s) (hc : f_X12_poured u p1 p2 = some (rr, uu)) (hlk : Cond.methodLink own index yX12_poured ∈ Gd) (hF : 6 ≤ R.frames) (hLo : 139 ≤ R.locals) (h : Hh D (AB 21 a s.heap.size) (wX 21 a (EM a cI cZ) u) s.heap H locs) (hsize : ls.size = nL) (hcs : cells ≤ R.cells ∧ slots ≤ R.slots) (hr : (rest.map fun v => v.category).sum ≤ 8) (hdg : decode cc pc = .ok (.invokevirtual index, 3)) (kk : ∀ (H1 : Heap) (locs1 : List Loc), Hh D (AB 21 a s.heap.size) (wX 21 a (EM a cI cZ) uu) s.heap H1 locs1 → W p l e R s m args below meth c H1 locs1 cells slots Q (F0 m (pc + 3) ls (.int rr :: rest))) : W p l e R s m args below meth c H locs cells slots Q (F0 m pc ls (.int p2 :: .int p1 :: .ref (a 0) :: rest)) :=
  cVi (n := 2) hx hb hml hown hts hK hN (c_X12_poured hc) (gdV hlk im_X12_poured se_X12_poured in_X12 co_X12_poured) rfl (by decide +kernel) rfl hF hLo h hsize hcs (by decide) rfl rfl rfl hr hdg kk
def B_X12_lowest_6 (k3 : Int64 → Option (Int64)) (rec6 : Int64 → Int64 → Option (Int64)) (x1 : Int64) (x2 : Int64) : Option (Int64) := if (lg_cmp x2 0) = 0 then k3 x1 else ck (¬ x2 = 0) (rec6 x2 (x1 - x1 / x2 * x2))
def f_X12_lowest (u : St) (p1 : Int64) (p2 : Int64) (p3 : Int32) : Option (Int64) := jq_1 (fun (x4 : Int64) => if p3 = 0 then ck (¬ x4 = 0) (some (p1 / x4)) else ck (¬ x4 = 0) (some (p2 / x4))) (fun (k3 : Int64 → Option (Int64)) => lq_2 (B_X12_lowest_6 k3) FU p2 p1)
set_option maxRecDepth 100000 in
set_option maxHeartbeats 4000000 in
theorem c_X12_lowest {l : Launch} {D : va_G} {cI cZ : ClassId} {a : Nat → Nat} {u : St} {p1 : Int64} {p2 : Int64} {p3 : Int32} {rr : Int64} (hf : f_X12_lowest u p1 p2 p3 = some rr) : Cl l yX12_lowest cX12_lowest 11 (some .long) 0 0 D (tyM cI cZ) 21 a (EM a cI cZ) [.long p1, .long p2, .int p3] u rr u := by
  refine metL (by decide +kernel) (Nat.le_of_ble_eq_true rfl) ?_
  intro p e s m args below meth c R Q hx hb hml hown hts hF hLo hret hK hN h ls hl
  have hown : s.vm.findClass RX12 = some m.cls := hown
  have hl : lv_has ls 11 [(0, .long p1), (2, .long p2), (4, .int p3)] := hl
  unfold f_X12_lowest at hf
  refine lv_lload_n (pc := 0) hx hb dX12_lowest_0 rfl (lv_at hl 1 rfl) ?_
  refine lv_lstore (pc := 1) (lv' := [(5, .long p2), (0, .long p1), (2, .long p2), (4, .int p3)]) hx hb dX12_lowest_1 hl (by decide) rfl (fun ls hl => ?_)
  refine lv_lload_n (pc := 3) hx hb dX12_lowest_3 rfl (lv_at hl 1 rfl) ?_
  refine lv_lstore (pc := 4) (lv' := [(7, .long p1), (5, .long p2), (0, .long p1), (2, .long p2), (4, .int p3)]) hx hb dX12_lowest_4 hl (by decide) rfl (fun ls hl => ?_)
  obtain ⟨k3, hk3, hf⟩ := jq_1_e hf
  have jk3 : ∀ (x4 : Int64), k3 x4 = some rr → ∀ (H : Heap) (locs : List Loc) (ls : Array Slot), Hh D (AB 21 a s.heap.size) (wX 21 a (EM a cI cZ) u) s.heap H locs → lv_has ls 11 [(0, .long p1), (2, .long p2), (4, .int p3), (5, .long x4)] → W p l e R s m args below meth c H locs 0 0 Q (F0 m 31 ls []) := by
    intro x4 hf H locs ls h hl
    rw [hk3] at hf
    refine lv_iload (pc := 31) hx hb dX12_lowest_31 (lv_at hl 2 rfl) ?_
    refine lv_if_ne (pc := 33) (tgt := 43) hx hb dX12_lowest_33 (by decide) (fun c5 => ?_) (fun c5 => ?_)
    · have hf := if_f hf c5
      refine lv_lload_n (pc := 43) hx hb dX12_lowest_43 rfl (lv_at hl 1 rfl) ?_
      refine lv_lload (pc := 44) hx hb dX12_lowest_44 (lv_at hl 3 rfl) ?_
      obtain ⟨hne, hf⟩ := ck_e hf
      refine lv_ldiv (pc := 46) hx hb dX12_lowest_46 hne ?_
      exact hret (so hf) rfl dX12_lowest_47 h
    · have hf := if_t hf c5
      refine lv_lload_n (pc := 36) hx hb dX12_lowest_36 rfl (lv_at hl 0 rfl) ?_
      refine lv_lload (pc := 37) hx hb dX12_lowest_37 (lv_at hl 3 rfl) ?_
      obtain ⟨hne, hf⟩ := ck_e hf
      refine lv_ldiv (pc := 39) hx hb dX12_lowest_39 hne ?_
      refine lv_goto (pc := 40) (tgt := 47) hx hb dX12_lowest_40 (by decide) ?_
      exact hret (so hf) rfl dX12_lowest_47 h
  refine lq_2_e (P := fun (x1 : Int64) (x2 : Int64) => ∀ (H : Heap) (locs : List Loc) (ls : Array Slot), Hh D (AB 21 a s.heap.size) (wX 21 a (EM a cI cZ) u) s.heap H locs → lv_has ls 11 [(0, .long p1), (2, .long p2), (4, .int p3), (5, .long x1), (7, .long x2)] → W p l e R s m args below meth c H locs 0 0 Q (F0 m 6 ls [])) ?_ FU _ _ hf _ _ _ h (lv_sub hl [2, 3, 4, 1, 0] rfl)
  intro rec6 irec6 x1 x2 hf H locs ls h hl
  unfold B_X12_lowest_6 at hf
  refine lv_lload (pc := 6) hx hb dX12_lowest_6 (lv_at hl 4 rfl) ?_
  refine lv_lconst (pc := 8) (v := 0) hx hb dX12_lowest_8 (by decide) ?_
  refine W.lcmp (pc := 9) hx hb dX12_lowest_9 ?_
  refine lv_if_eq (pc := 10) (tgt := 31) hx hb dX12_lowest_10 (by decide) (fun c7 => ?_) (fun c7 => ?_)
  · have hf := if_t hf c7
    exact jk3 _ hf _ _ _ h (lv_sub hl [0, 1, 2, 3] rfl)
  · have hf := if_f hf c7
    refine lv_lload (pc := 13) hx hb dX12_lowest_13 (lv_at hl 3 rfl) ?_
    refine lv_lload (pc := 15) hx hb dX12_lowest_15 (lv_at hl 4 rfl) ?_
    obtain ⟨hne, hf⟩ := ck_e hf
    refine lv_lrem (pc := 17) hx hb dX12_lowest_17 hne ?_
    refine lv_lstore (pc := 18) (lv' := [(9, .long (x1 - x1 / x2 * x2)), (0, .long p1), (2, .long p2), (4, .int p3), (5, .long x1), (7, .long x2)]) hx hb dX12_lowest_18 hl (by decide) rfl (fun ls hl => ?_)
    refine lv_lload (pc := 20) hx hb dX12_lowest_20 (lv_at hl 5 rfl) ?_
    refine lv_lstore (pc := 22) (lv' := [(5, .long x2), (9, .long (x1 - x1 / x2 * x2)), (0, .long p1), (2, .long p2), (4, .int p3), (7, .long x2)]) hx hb dX12_lowest_22 hl (by decide) rfl (fun ls hl => ?_)
    refine lv_lload (pc := 24) hx hb dX12_lowest_24 (lv_at hl 1 rfl) ?_
    refine lv_lstore (pc := 26) (lv' := [(7, .long (x1 - x1 / x2 * x2)), (5, .long x2), (9, .long (x1 - x1 / x2 * x2)), (0, .long p1), (2, .long p2), (4, .int p3)]) hx hb dX12_lowest_26 hl (by decide) rfl (fun ls hl => ?_)
    refine lv_goto (pc := 28) (tgt := 6) hx hb dX12_lowest_28 (by decide) ?_
    exact irec6 _ _ hf _ _ _ h (lv_sub hl [3, 4, 5, 1, 0] rfl)
theorem kS_X12_lowest {p : Program} {l : Launch} {e : Env} {R : Room} {s : State} {m : MethodId} {args : Array Value} {below : List Frame} {meth : Method} {c : Code} {H : Heap} {locs : List Loc} {cells slots : Nat} {Q : State → Prop} {pc : Nat} {ls : Array Slot} {rest : List Value} {cc : ByteArray} {D : va_G} {cI cZ : ClassId} {a : Nat → Nat} {u : St} {own : String} {index nL : Nat} {p1 : Int64} {p2 : Int64} {p3 : Int32} {rr : Int64} (hx : p.tables.exec = Jvm.exec) (hb : c.code = cc) (hml : c.maxLocals = nL) (hown : s.vm.findClass own = some m.cls) (hts : ∀ w ∈ Gd, w.before args s = true) (hK : va_K D vwCl (tyM cI cZ) s) (hN : NB s) (hc : f_X12_lowest u p1 p2 p3 = some rr) (hlk : Cond.methodLink own index yX12_lowest ∈ Gd) (hF : 1 ≤ R.frames) (hLo : 30 ≤ R.locals) (h : Hh D (AB 21 a s.heap.size) (wX 21 a (EM a cI cZ) u) s.heap H locs) (hsize : ls.size = nL) (hcs : cells ≤ R.cells ∧ slots ≤ R.slots) (hr : (rest.map fun v => v.category).sum ≤ 8) (hdg : decode cc pc = .ok (.invokestatic index, 3)) (kk : ∀ (H1 : Heap) (locs1 : List Loc), Hh D (AB 21 a s.heap.size) (wX 21 a (EM a cI cZ) u) s.heap H1 locs1 → W p l e R s m args below meth c H1 locs1 cells slots Q (F0 m (pc + 3) ls (.long rr :: rest))) : W p l e R s m args below meth c H locs cells slots Q (F0 m pc ls (.int p3 :: .long p2 :: .long p1 :: rest)) :=
  cSl (n := 3) hx hb hml hown hts hK hN (c_X12_lowest hc) (gdS hlk sm_X12_lowest in_X12 co_X12_lowest) (by decide +kernel) rfl hF hLo h hsize hcs rfl hr hdg kk
def B_X12_weightOf_5 (p1 : Int32) (p2 : Int32) (p3 : Int32) (k3 : Int64 → Option (Int64)) (rec5 : Int64 → Int32 → Option (Int64)) (x1 : Int64) (x2 : Int32) : Option (Int64) := if p2 ≤ x2 then k3 x1 else if ((p1 >>> (x2 &&& 31)) &&& (1 : Int32)) = 1 then rec5 (x1 * (Int32.toInt64 p3)) (x2 + 1) else rec5 (x1 * (Int32.toInt64 ((10 : Int32) - p3))) (x2 + 1)
def f_X12_weightOf (u : St) (p1 : Int32) (p2 : Int32) (p3 : Int32) : Option (Int64) := jq_1 (fun (x4 : Int64) => some x4) (fun (k3 : Int64 → Option (Int64)) => lq_2 (B_X12_weightOf_5 p1 p2 p3 k3) FU 1 0)
set_option maxRecDepth 100000 in
set_option maxHeartbeats 4000000 in
theorem c_X12_weightOf {l : Launch} {D : va_G} {cI cZ : ClassId} {a : Nat → Nat} {u : St} {p1 : Int32} {p2 : Int32} {p3 : Int32} {rr : Int64} (hf : f_X12_weightOf u p1 p2 p3 = some rr) : Cl l yX12_weightOf cX12_weightOf 6 (some .long) 0 0 D (tyM cI cZ) 21 a (EM a cI cZ) [.int p1, .int p2, .int p3] u rr u := by
  refine metL (by decide +kernel) (Nat.le_of_ble_eq_true rfl) ?_
  intro p e s m args below meth c R Q hx hb hml hown hts hF hLo hret hK hN h ls hl
  have hown : s.vm.findClass RX12 = some m.cls := hown
  have hl : lv_has ls 6 [(0, .int p1), (1, .int p2), (2, .int p3)] := hl
  unfold f_X12_weightOf at hf
  refine lv_lconst (pc := 0) (v := 1) hx hb dX12_weightOf_0 (by decide) ?_
  refine lv_lstore_n (pc := 1) (lv' := [(3, .long 1), (0, .int p1), (1, .int p2), (2, .int p3)]) hx hb dX12_weightOf_1 rfl hl (by decide) rfl (fun ls hl => ?_)
  refine lv_iconst (pc := 2) (v := 0) hx hb dX12_weightOf_2 (by decide) ?_
  refine lv_istore (pc := 3) (lv' := [(5, .int 0), (3, .long 1), (0, .int p1), (1, .int p2), (2, .int p3)]) hx hb dX12_weightOf_3 hl (by decide) rfl (fun ls hl => ?_)
  obtain ⟨k3, hk3, hf⟩ := jq_1_e hf
  have jk3 : ∀ (x4 : Int64), k3 x4 = some rr → ∀ (H : Heap) (locs : List Loc) (ls : Array Slot), Hh D (AB 21 a s.heap.size) (wX 21 a (EM a cI cZ) u) s.heap H locs → lv_has ls 6 [(3, .long x4)] → W p l e R s m args below meth c H locs 0 0 Q (F0 m 40 ls []) := by
    intro x4 hf H locs ls h hl
    rw [hk3] at hf
    refine lv_lload_n (pc := 40) hx hb dX12_weightOf_40 rfl (lv_at hl 0 rfl) ?_
    exact hret (so hf) rfl dX12_weightOf_41 h
  refine lq_2_e (P := fun (x1 : Int64) (x2 : Int32) => ∀ (H : Heap) (locs : List Loc) (ls : Array Slot), Hh D (AB 21 a s.heap.size) (wX 21 a (EM a cI cZ) u) s.heap H locs → lv_has ls 6 [(0, .int p1), (1, .int p2), (2, .int p3), (3, .long x1), (5, .int x2)] → W p l e R s m args below meth c H locs 0 0 Q (F0 m 5 ls [])) ?_ FU _ _ hf _ _ _ h (lv_sub hl [2, 3, 4, 1, 0] rfl)
  intro rec5 irec5 x1 x2 hf H locs ls h hl
  unfold B_X12_weightOf_5 at hf
  refine lv_iload (pc := 5) hx hb dX12_weightOf_5 (lv_at hl 4 rfl) ?_
  refine lv_iload_n (pc := 7) hx hb dX12_weightOf_7 rfl (lv_at hl 1 rfl) ?_
  refine lv_icmp_ge (pc := 8) (tgt := 40) hx hb dX12_weightOf_8 (by decide) (fun c6 => ?_) (fun c6 => ?_)
  · have hf := if_t hf c6
    exact jk3 _ hf _ _ _ h (lv_sub hl [3] rfl)
  · have hf := if_f hf c6
    refine lv_lload_n (pc := 11) hx hb dX12_weightOf_11 rfl (lv_at hl 3 rfl) ?_
    refine lv_iload_n (pc := 12) hx hb dX12_weightOf_12 rfl (lv_at hl 0 rfl) ?_
    refine lv_iload (pc := 13) hx hb dX12_weightOf_13 (lv_at hl 4 rfl) ?_
    refine lv_ishr (pc := 15) hx hb dX12_weightOf_15 ?_
    refine lv_iconst (pc := 16) (v := 1) hx hb dX12_weightOf_16 (by decide) ?_
    refine lv_iand (pc := 17) hx hb dX12_weightOf_17 ?_
    refine lv_iconst (pc := 18) (v := 1) hx hb dX12_weightOf_18 (by decide) ?_
    refine lv_icmp_ne (pc := 19) (tgt := 27) hx hb dX12_weightOf_19 (by decide) (fun c7 => ?_) (fun c7 => ?_)
    · have hf := if_f hf c7
      refine lv_bipush (pc := 27) (v := 10) hx hb dX12_weightOf_27 (by decide) ?_
      refine lv_iload_n (pc := 29) hx hb dX12_weightOf_29 rfl (lv_at hl 2 rfl) ?_
      refine lv_isub (pc := 30) hx hb dX12_weightOf_30 ?_
      refine lv_i2l (pc := 31) (v := Int32.toInt64 ((10 : Int32) - p3)) hx hb dX12_weightOf_31 rfl ?_
      refine lv_lmul (pc := 32) hx hb dX12_weightOf_32 ?_
      refine lv_lstore_n (pc := 33) (lv' := [(3, .long (x1 * (Int32.toInt64 ((10 : Int32) - p3)))), (0, .int p1), (1, .int p2), (2, .int p3), (5, .int x2)]) hx hb dX12_weightOf_33 rfl hl (by decide) rfl (fun ls hl => ?_)
      refine lv_iinc (pc := 34) (v := x2 + 1) (lv' := [(5, .int (x2 + 1)), (3, .long (x1 * (Int32.toInt64 ((10 : Int32) - p3)))), (0, .int p1), (1, .int p2), (2, .int p3)]) hx hb dX12_weightOf_34 hl (k := 4) rfl rfl (by decide) rfl (fun ls hl => ?_)
      refine lv_goto (pc := 37) (tgt := 5) hx hb dX12_weightOf_37 (by decide) ?_
      exact irec5 _ _ hf _ _ _ h (lv_sub hl [2, 3, 4, 1, 0] rfl)
    · have hf := if_t hf c7
      refine lv_iload_n (pc := 22) hx hb dX12_weightOf_22 rfl (lv_at hl 2 rfl) ?_
      refine lv_i2l (pc := 23) (v := Int32.toInt64 p3) hx hb dX12_weightOf_23 rfl ?_
      refine lv_goto (pc := 24) (tgt := 32) hx hb dX12_weightOf_24 (by decide) ?_
      refine lv_lmul (pc := 32) hx hb dX12_weightOf_32 ?_
      refine lv_lstore_n (pc := 33) (lv' := [(3, .long (x1 * (Int32.toInt64 p3))), (0, .int p1), (1, .int p2), (2, .int p3), (5, .int x2)]) hx hb dX12_weightOf_33 rfl hl (by decide) rfl (fun ls hl => ?_)
      refine lv_iinc (pc := 34) (v := x2 + 1) (lv' := [(5, .int (x2 + 1)), (3, .long (x1 * (Int32.toInt64 p3))), (0, .int p1), (1, .int p2), (2, .int p3)]) hx hb dX12_weightOf_34 hl (k := 4) rfl rfl (by decide) rfl (fun ls hl => ?_)
      refine lv_goto (pc := 37) (tgt := 5) hx hb dX12_weightOf_37 (by decide) ?_
      exact irec5 _ _ hf _ _ _ h (lv_sub hl [2, 3, 4, 1, 0] rfl)
theorem kS_X12_weightOf {p : Program} {l : Launch} {e : Env} {R : Room} {s : State} {m : MethodId} {args : Array Value} {below : List Frame} {meth : Method} {c : Code} {H : Heap} {locs : List Loc} {cells slots : Nat} {Q : State → Prop} {pc : Nat} {ls : Array Slot} {rest : List Value} {cc : ByteArray} {D : va_G} {cI cZ : ClassId} {a : Nat → Nat} {u : St} {own : String} {index nL : Nat} {p1 : Int32} {p2 : Int32} {p3 : Int32} {rr : Int64} (hx : p.tables.exec = Jvm.exec) (hb : c.code = cc) (hml : c.maxLocals = nL) (hown : s.vm.findClass own = some m.cls) (hts : ∀ w ∈ Gd, w.before args s = true) (hK : va_K D vwCl (tyM cI cZ) s) (hN : NB s) (hc : f_X12_weightOf u p1 p2 p3 = some rr) (hlk : Cond.methodLink own index yX12_weightOf ∈ Gd) (hF : 1 ≤ R.frames) (hLo : 25 ≤ R.locals) (h : Hh D (AB 21 a s.heap.size) (wX 21 a (EM a cI cZ) u) s.heap H locs) (hsize : ls.size = nL) (hcs : cells ≤ R.cells ∧ slots ≤ R.slots) (hr : (rest.map fun v => v.category).sum ≤ 8) (hdg : decode cc pc = .ok (.invokestatic index, 3)) (kk : ∀ (H1 : Heap) (locs1 : List Loc), Hh D (AB 21 a s.heap.size) (wX 21 a (EM a cI cZ) u) s.heap H1 locs1 → W p l e R s m args below meth c H1 locs1 cells slots Q (F0 m (pc + 3) ls (.long rr :: rest))) : W p l e R s m args below meth c H locs cells slots Q (F0 m pc ls (.int p3 :: .int p2 :: .int p1 :: rest)) :=
  cSl (n := 3) hx hb hml hown hts hK hN (c_X12_weightOf hc) (gdS hlk sm_X12_weightOf in_X12 co_X12_weightOf) (by decide +kernel) rfl hF hLo h hsize hcs rfl hr hdg kk
def B_X12_allWays_4 (p1 : Int32) (k3 : Int64 → Option (Int64)) (rec5 : Int64 → Int32 → Option (Int64)) (x1 : Int64) (x2 : Int32) : Option (Int64) := if p1 ≤ x2 then k3 x1 else rec5 (x1 * (10 : Int64)) (x2 + 1)
def f_X12_allWays (u : St) (p1 : Int32) : Option (Int64) := jq_1 (fun (x4 : Int64) => some x4) (fun (k3 : Int64 → Option (Int64)) => lq_2 (B_X12_allWays_4 p1 k3) FU 1 0)
set_option maxRecDepth 100000 in
set_option maxHeartbeats 4000000 in
theorem c_X12_allWays {l : Launch} {D : va_G} {cI cZ : ClassId} {a : Nat → Nat} {u : St} {p1 : Int32} {rr : Int64} (hf : f_X12_allWays u p1 = some rr) : Cl l yX12_allWays cX12_allWays 4 (some .long) 0 0 D (tyM cI cZ) 21 a (EM a cI cZ) [.int p1] u rr u := by
  refine metL (by decide +kernel) (Nat.le_of_ble_eq_true rfl) ?_
  intro p e s m args below meth c R Q hx hb hml hown hts hF hLo hret hK hN h ls hl
  have hown : s.vm.findClass RX12 = some m.cls := hown
  have hl : lv_has ls 4 [(0, .int p1)] := hl
  unfold f_X12_allWays at hf
  refine lv_lconst (pc := 0) (v := 1) hx hb dX12_allWays_0 (by decide) ?_
  refine lv_lstore_n (pc := 1) (lv' := [(1, .long 1), (0, .int p1)]) hx hb dX12_allWays_1 rfl hl (by decide) rfl (fun ls hl => ?_)
  refine lv_iconst (pc := 2) (v := 0) hx hb dX12_allWays_2 (by decide) ?_
  refine lv_istore_n (pc := 3) (lv' := [(3, .int 0), (1, .long 1), (0, .int p1)]) hx hb dX12_allWays_3 rfl hl (by decide) rfl (fun ls hl => ?_)
  obtain ⟨k3, hk3, hf⟩ := jq_1_e hf
  have jk3 : ∀ (x4 : Int64), k3 x4 = some rr → ∀ (H : Heap) (locs : List Loc) (ls : Array Slot), Hh D (AB 21 a s.heap.size) (wX 21 a (EM a cI cZ) u) s.heap H locs → lv_has ls 4 [(1, .long x4)] → W p l e R s m args below meth c H locs 0 0 Q (F0 m 21 ls []) := by
    intro x4 hf H locs ls h hl
    rw [hk3] at hf
    refine lv_lload_n (pc := 21) hx hb dX12_allWays_21 rfl (lv_at hl 0 rfl) ?_
    exact hret (so hf) rfl dX12_allWays_22 h
  refine lq_2_e (P := fun (x1 : Int64) (x2 : Int32) => ∀ (H : Heap) (locs : List Loc) (ls : Array Slot), Hh D (AB 21 a s.heap.size) (wX 21 a (EM a cI cZ) u) s.heap H locs → lv_has ls 4 [(0, .int p1), (1, .long x1), (3, .int x2)] → W p l e R s m args below meth c H locs 0 0 Q (F0 m 4 ls [])) ?_ FU _ _ hf _ _ _ h (lv_sub hl [2, 1, 0] rfl)
  intro rec5 irec5 x1 x2 hf H locs ls h hl
  unfold B_X12_allWays_4 at hf
  refine lv_iload_n (pc := 4) hx hb dX12_allWays_4 rfl (lv_at hl 2 rfl) ?_
  refine lv_iload_n (pc := 5) hx hb dX12_allWays_5 rfl (lv_at hl 0 rfl) ?_
  refine lv_icmp_ge (pc := 6) (tgt := 21) hx hb dX12_allWays_6 (by decide) (fun c6 => ?_) (fun c6 => ?_)
  · have hf := if_t hf c6
    exact jk3 _ hf _ _ _ h (lv_sub hl [1] rfl)
  · have hf := if_f hf c6
    refine lv_lload_n (pc := 9) hx hb dX12_allWays_9 rfl (lv_at hl 1 rfl) ?_
    refine lv_ldc2 (pc := 10) hx hb hown (hts _ ctl_X12_261) dX12_allWays_10 ?_
    refine lv_lmul (pc := 13) hx hb dX12_allWays_13 ?_
    refine lv_lstore_n (pc := 14) (lv' := [(1, .long (x1 * (10 : Int64))), (0, .int p1), (3, .int x2)]) hx hb dX12_allWays_14 rfl hl (by decide) rfl (fun ls hl => ?_)
    refine lv_iinc (pc := 15) (v := x2 + 1) (lv' := [(3, .int (x2 + 1)), (1, .long (x1 * (10 : Int64))), (0, .int p1)]) hx hb dX12_allWays_15 hl (k := 2) rfl rfl (by decide) rfl (fun ls hl => ?_)
    refine lv_goto (pc := 18) (tgt := 4) hx hb dX12_allWays_18 (by decide) ?_
    exact irec5 _ _ hf _ _ _ h (lv_sub hl [2, 1, 0] rfl)
theorem kS_X12_allWays {p : Program} {l : Launch} {e : Env} {R : Room} {s : State} {m : MethodId} {args : Array Value} {below : List Frame} {meth : Method} {c : Code} {H : Heap} {locs : List Loc} {cells slots : Nat} {Q : State → Prop} {pc : Nat} {ls : Array Slot} {rest : List Value} {cc : ByteArray} {D : va_G} {cI cZ : ClassId} {a : Nat → Nat} {u : St} {own : String} {index nL : Nat} {p1 : Int32} {rr : Int64} (hx : p.tables.exec = Jvm.exec) (hb : c.code = cc) (hml : c.maxLocals = nL) (hown : s.vm.findClass own = some m.cls) (hts : ∀ w ∈ Gd, w.before args s = true) (hK : va_K D vwCl (tyM cI cZ) s) (hN : NB s) (hc : f_X12_allWays u p1 = some rr) (hlk : Cond.methodLink own index yX12_allWays ∈ Gd) (hF : 1 ≤ R.frames) (hLo : 23 ≤ R.locals) (h : Hh D (AB 21 a s.heap.size) (wX 21 a (EM a cI cZ) u) s.heap H locs) (hsize : ls.size = nL) (hcs : cells ≤ R.cells ∧ slots ≤ R.slots) (hr : (rest.map fun v => v.category).sum ≤ 8) (hdg : decode cc pc = .ok (.invokestatic index, 3)) (kk : ∀ (H1 : Heap) (locs1 : List Loc), Hh D (AB 21 a s.heap.size) (wX 21 a (EM a cI cZ) u) s.heap H1 locs1 → W p l e R s m args below meth c H1 locs1 cells slots Q (F0 m (pc + 3) ls (.long rr :: rest))) : W p l e R s m args below meth c H locs cells slots Q (F0 m pc ls (.int p1 :: rest)) :=
  cSl (n := 1) hx hb hml hown hts hK hN (c_X12_allWays hc) (gdS hlk sm_X12_allWays in_X12 co_X12_allWays) (by decide +kernel) rfl hF hLo h hsize hcs rfl hr hdg kk
def f_X12_areDoors (u : St) (p1 : Int32) (p2 : Int32) (p3 : Int32) : Option (Int32) := b1 (f_X12_in u (Int32.toInt64 p1) 0 10) (fun (x1 : Int32) => if x1 = 0 then some 0 else b1 (f_X12_in u (Int32.toInt64 p2) 0 10) (fun (x3 : Int32) => if x3 = 0 then some 0 else b1 (f_X12_in u (Int32.toInt64 p3) 0 1) (fun (x5 : Int32) => if x5 = 0 then some 0 else some 1)))
set_option maxRecDepth 100000 in
set_option maxHeartbeats 4000000 in
theorem c_X12_areDoors {l : Launch} {D : va_G} {cI cZ : ClassId} {a : Nat → Nat} {u : St} {p1 : Int32} {p2 : Int32} {p3 : Int32} {rr : Int32} (hf : f_X12_areDoors u p1 p2 p3 = some rr) : Ci l yX12_areDoors cX12_areDoors 3 (some .boolean) 1 25 D (tyM cI cZ) 21 a (EM a cI cZ) [.int p1, .int p2, .int p3] u rr u := by
  refine metI (by decide +kernel) (Nat.le_of_ble_eq_true rfl) ?_
  intro p e s m args below meth c R Q hx hb hml hown hts hF hLo hret hK hN h ls hl
  have hown : s.vm.findClass RX12 = some m.cls := hown
  have hl : lv_has ls 3 [(0, .int p1), (1, .int p2), (2, .int p3)] := hl
  unfold f_X12_areDoors at hf
  refine lv_iload_n (pc := 0) hx hb dX12_areDoors_0 rfl (lv_at hl 0 rfl) ?_
  refine lv_i2l (pc := 1) (v := Int32.toInt64 p1) hx hb dX12_areDoors_1 rfl ?_
  refine lv_lconst (pc := 2) (v := 0) hx hb dX12_areDoors_2 (by decide) ?_
  refine lv_ldc2 (pc := 3) hx hb hown (hts _ ctl_X12_261) dX12_areDoors_3 ?_
  obtain ⟨x1, hc, hf⟩ := b1_e hf
  refine kS_X12_in (pc := 6) hx hb hml hown hts hK hN hc ml_X12_97 (Nat.le_trans (by decide) hF) (Nat.le_trans (by decide) hLo) h hl.1 ⟨Nat.zero_le _, Nat.zero_le _⟩ (Nat.le_of_ble_eq_true rfl) dX12_areDoors_6 (fun H locs h => ?_)
  refine lv_if_eq (pc := 9) (tgt := 38) hx hb dX12_areDoors_9 (by decide) (fun c2 => ?_) (fun c2 => ?_)
  · have hf := if_t hf c2
    refine lv_iconst (pc := 38) (v := 0) hx hb dX12_areDoors_38 (by decide) ?_
    exact hret (so hf) rfl rfl dX12_areDoors_39 h
  · have hf := if_f hf c2
    refine lv_iload_n (pc := 12) hx hb dX12_areDoors_12 rfl (lv_at hl 1 rfl) ?_
    refine lv_i2l (pc := 13) (v := Int32.toInt64 p2) hx hb dX12_areDoors_13 rfl ?_
    refine lv_lconst (pc := 14) (v := 0) hx hb dX12_areDoors_14 (by decide) ?_
    refine lv_ldc2 (pc := 15) hx hb hown (hts _ ctl_X12_261) dX12_areDoors_15 ?_
    obtain ⟨x3, hc, hf⟩ := b1_e hf
    refine kS_X12_in (pc := 18) hx hb hml hown hts hK hN hc ml_X12_97 (Nat.le_trans (by decide) hF) (Nat.le_trans (by decide) hLo) h hl.1 ⟨Nat.zero_le _, Nat.zero_le _⟩ (Nat.le_of_ble_eq_true rfl) dX12_areDoors_18 (fun H locs h => ?_)
    refine lv_if_eq (pc := 21) (tgt := 38) hx hb dX12_areDoors_21 (by decide) (fun c4 => ?_) (fun c4 => ?_)
    · have hf := if_t hf c4
      refine lv_iconst (pc := 38) (v := 0) hx hb dX12_areDoors_38 (by decide) ?_
      exact hret (so hf) rfl rfl dX12_areDoors_39 h
    · have hf := if_f hf c4
      refine lv_iload_n (pc := 24) hx hb dX12_areDoors_24 rfl (lv_at hl 2 rfl) ?_
      refine lv_i2l (pc := 25) (v := Int32.toInt64 p3) hx hb dX12_areDoors_25 rfl ?_
      refine lv_lconst (pc := 26) (v := 0) hx hb dX12_areDoors_26 (by decide) ?_
      refine lv_lconst (pc := 27) (v := 1) hx hb dX12_areDoors_27 (by decide) ?_
      obtain ⟨x5, hc, hf⟩ := b1_e hf
      refine kS_X12_in (pc := 28) hx hb hml hown hts hK hN hc ml_X12_97 (Nat.le_trans (by decide) hF) (Nat.le_trans (by decide) hLo) h hl.1 ⟨Nat.zero_le _, Nat.zero_le _⟩ (Nat.le_of_ble_eq_true rfl) dX12_areDoors_28 (fun H locs h => ?_)
      refine lv_if_eq (pc := 31) (tgt := 38) hx hb dX12_areDoors_31 (by decide) (fun c6 => ?_) (fun c6 => ?_)
      · have hf := if_t hf c6
        refine lv_iconst (pc := 38) (v := 0) hx hb dX12_areDoors_38 (by decide) ?_
        exact hret (so hf) rfl rfl dX12_areDoors_39 h
      · have hf := if_f hf c6
        refine lv_iconst (pc := 34) (v := 1) hx hb dX12_areDoors_34 (by decide) ?_
        refine lv_goto (pc := 35) (tgt := 39) hx hb dX12_areDoors_35 (by decide) ?_
        exact hret (so hf) rfl rfl dX12_areDoors_39 h
theorem kS_X12_areDoors {p : Program} {l : Launch} {e : Env} {R : Room} {s : State} {m : MethodId} {args : Array Value} {below : List Frame} {meth : Method} {c : Code} {H : Heap} {locs : List Loc} {cells slots : Nat} {Q : State → Prop} {pc : Nat} {ls : Array Slot} {rest : List Value} {cc : ByteArray} {D : va_G} {cI cZ : ClassId} {a : Nat → Nat} {u : St} {own : String} {index nL : Nat} {p1 : Int32} {p2 : Int32} {p3 : Int32} {rr : Int32} (hx : p.tables.exec = Jvm.exec) (hb : c.code = cc) (hml : c.maxLocals = nL) (hown : s.vm.findClass own = some m.cls) (hts : ∀ w ∈ Gd, w.before args s = true) (hK : va_K D vwCl (tyM cI cZ) s) (hN : NB s) (hc : f_X12_areDoors u p1 p2 p3 = some rr) (hlk : Cond.methodLink own index yX12_areDoors ∈ Gd) (hF : 2 ≤ R.frames) (hLo : 47 ≤ R.locals) (h : Hh D (AB 21 a s.heap.size) (wX 21 a (EM a cI cZ) u) s.heap H locs) (hsize : ls.size = nL) (hcs : cells ≤ R.cells ∧ slots ≤ R.slots) (hr : (rest.map fun v => v.category).sum ≤ 8) (hdg : decode cc pc = .ok (.invokestatic index, 3)) (kk : ∀ (H1 : Heap) (locs1 : List Loc), Hh D (AB 21 a s.heap.size) (wX 21 a (EM a cI cZ) u) s.heap H1 locs1 → W p l e R s m args below meth c H1 locs1 cells slots Q (F0 m (pc + 3) ls (.int rr :: rest))) : W p l e R s m args below meth c H locs cells slots Q (F0 m pc ls (.int p3 :: .int p2 :: .int p1 :: rest)) :=
  cSi (n := 3) hx hb hml hown hts hK hN (c_X12_areDoors hc) (gdS hlk sm_X12_areDoors in_X12 co_X12_areDoors) (by decide +kernel) rfl hF hLo h hsize hcs rfl hr hdg kk
def B_X12_likely_32 (p1 : Int32) (p2 : Int32) (p3 : Int32) (k8 : St → Int64 → Option (Int64 × St)) (rec14 : St → Int64 → Int32 → Option (Int64 × St)) (u5 : St) (x6 : Int64) (x7 : Int32) : Option (Int64 × St) := if ((1 : Int32) <<< (p2 &&& 31)) ≤ x7 then k8 u5 x6 else bs (sL u5 0 21 (Int32.toInt64 x7)) (fun u16 : St => b1 (f_X12_acidBehind u16 p1 p2) (fun (x17 : Int32) => if x17 < (u16.1 0 11) then rec14 u16 (x6 + (0 : Int64)) (x7 + 1) else b1 (f_X12_weightOf u16 x7 p2 p3) (fun (x19 : Int64) => rec14 u16 (x6 + x19) (x7 + 1))))
def f_X12_likely (u : St) (p1 : Int32) (p2 : Int32) (p3 : Int32) (p4 : Int32) : Option (Int64 × St) := b1 (f_X12_isBarrel u p1) (fun (x1 : Int32) => if x1 = 0 then some ((-1000000000000000001), u) else b1 (f_X12_areDoors u p2 p3 p4) (fun (x3 : Int32) => if x3 = 0 then some ((-1000000000000000002), u) else jq_2 (fun (u9 : St) (x10 : Int64) => bs (sL u9 0 21 0) (fun u11 : St => b1 (f_X12_allWays u11 p2) (fun (x12 : Int64) => b1 (f_X12_lowest u11 x10 x12 p4) (fun (x13 : Int64) => some (x13, u11))))) (fun (k8 : St → Int64 → Option (Int64 × St)) => lq_3 (B_X12_likely_32 p1 p2 p3 k8) FU u 0 0)))
set_option maxRecDepth 100000 in
set_option maxHeartbeats 4000000 in
theorem c_X12_likely {l : Launch} {D : va_G} {cI cZ : ClassId} {a : Nat → Nat} {u : St} {p1 : Int32} {p2 : Int32} {p3 : Int32} {p4 : Int32} {rr : Int64} {uu : St} (hf : f_X12_likely u p1 p2 p3 p4 = some (rr, uu)) : Cl l yX12_likely cX12_likely 8 (some .long) 5 116 D (tyM cI cZ) 21 a (EM a cI cZ) [.ref (a 0), .int p1, .int p2, .int p3, .int p4] u rr uu := by
  refine metL (by decide +kernel) (Nat.le_of_ble_eq_true rfl) ?_
  intro p e s m args below meth c R Q hx hb hml hown hts hF hLo hret hK hN h ls hl
  have hown : s.vm.findClass RX12 = some m.cls := hown
  have hl : lv_has ls 8 [(0, .ref (a 0)), (1, .int p1), (2, .int p2), (3, .int p3), (4, .int p4)] := hl
  unfold f_X12_likely at hf
  refine lv_aload_n (pc := 0) hx hb dX12_likely_0 rfl (lv_at hl 0 rfl) ?_
  refine lv_iload_n (pc := 1) hx hb dX12_likely_1 rfl (lv_at hl 1 rfl) ?_
  obtain ⟨x1, hc, hf⟩ := b1_e hf
  refine k_X12_isBarrel (pc := 2) hx hb hml hown hts hK hN hc ml_X12_107 (Nat.le_trans (by decide) hF) (Nat.le_trans (by decide) hLo) h hl.1 ⟨Nat.zero_le _, Nat.zero_le _⟩ (Nat.le_of_ble_eq_true rfl) dX12_likely_2 (fun H locs h => ?_)
  refine lv_if_ne (pc := 5) (tgt := 12) hx hb dX12_likely_5 (by decide) (fun c2 => ?_) (fun c2 => ?_)
  · have hf := if_f hf c2
    refine lv_iload_n (pc := 12) hx hb dX12_likely_12 rfl (lv_at hl 2 rfl) ?_
    refine lv_iload_n (pc := 13) hx hb dX12_likely_13 rfl (lv_at hl 3 rfl) ?_
    refine lv_iload (pc := 14) hx hb dX12_likely_14 (lv_at hl 4 rfl) ?_
    obtain ⟨x3, hc, hf⟩ := b1_e hf
    refine kS_X12_areDoors (pc := 16) hx hb hml hown hts hK hN hc ml_X12_265 (Nat.le_trans (by decide) hF) (Nat.le_trans (by decide) hLo) h hl.1 ⟨Nat.zero_le _, Nat.zero_le _⟩ (Nat.le_of_ble_eq_true rfl) dX12_likely_16 (fun H locs h => ?_)
    refine lv_if_ne (pc := 19) (tgt := 26) hx hb dX12_likely_19 (by decide) (fun c4 => ?_) (fun c4 => ?_)
    · have hf := if_f hf c4
      refine lv_lconst (pc := 26) (v := 0) hx hb dX12_likely_26 (by decide) ?_
      refine lv_lstore (pc := 27) (lv' := [(5, .long 0), (0, .ref (a 0)), (1, .int p1), (2, .int p2), (3, .int p3), (4, .int p4)]) hx hb dX12_likely_27 hl (by decide) rfl (fun ls hl => ?_)
      refine lv_iconst (pc := 29) (v := 0) hx hb dX12_likely_29 (by decide) ?_
      refine lv_istore (pc := 30) (lv' := [(7, .int 0), (5, .long 0), (0, .ref (a 0)), (1, .int p1), (2, .int p2), (3, .int p3), (4, .int p4)]) hx hb dX12_likely_30 hl (by decide) rfl (fun ls hl => ?_)
      obtain ⟨k8, hk8, hf⟩ := jq_2_e hf
      have jk8 : ∀ (u9 : St) (x10 : Int64), k8 u9 x10 = some (rr, uu) → ∀ (H : Heap) (locs : List Loc) (ls : Array Slot), Hh D (AB 21 a s.heap.size) (wX 21 a (EM a cI cZ) u9) s.heap H locs → lv_has ls 8 [(0, .ref (a 0)), (2, .int p2), (4, .int p4), (5, .long x10)] → W p l e R s m args below meth c H locs 0 0 Q (F0 m 82 ls []) := by
        intro u9 x10 hf H locs ls h hl
        rw [hk8] at hf
        refine lv_aload_n (pc := 82) hx hb dX12_likely_82 rfl (lv_at hl 0 rfl) ?_
        refine lv_lconst (pc := 83) (v := 0) hx hb dX12_likely_83 (by decide) ?_
        refine pM_0_21 (pc := 84) hx hb hts hown hK h fl_X12_151 dX12_likely_84 (fun H locs h => ?_)
        obtain ⟨u11, eu11, hf⟩ := bs_e hf
        rw [← eu11] at h
        refine lv_lload (pc := 87) hx hb dX12_likely_87 (lv_at hl 3 rfl) ?_
        refine lv_iload_n (pc := 89) hx hb dX12_likely_89 rfl (lv_at hl 1 rfl) ?_
        obtain ⟨x12, hc, hf⟩ := b1_e hf
        refine kS_X12_allWays (pc := 90) hx hb hml hown hts hK hN hc ml_X12_275 (Nat.le_trans (by decide) hF) (Nat.le_trans (by decide) hLo) h hl.1 ⟨Nat.zero_le _, Nat.zero_le _⟩ (Nat.le_of_ble_eq_true rfl) dX12_likely_90 (fun H locs h => ?_)
        refine lv_iload (pc := 93) hx hb dX12_likely_93 (lv_at hl 2 rfl) ?_
        obtain ⟨x13, hc, hf⟩ := b1_e hf
        refine kS_X12_lowest (pc := 95) hx hb hml hown hts hK hN hc ml_X12_279 (Nat.le_trans (by decide) hF) (Nat.le_trans (by decide) hLo) h hl.1 ⟨Nat.zero_le _, Nat.zero_le _⟩ (Nat.le_of_ble_eq_true rfl) dX12_likely_95 (fun H locs h => ?_)
        exact hret (so1 hf) (so2 hf) dX12_likely_98 h
      refine lq_3_e (P := fun (u5 : St) (x6 : Int64) (x7 : Int32) => ∀ (H : Heap) (locs : List Loc) (ls : Array Slot), Hh D (AB 21 a s.heap.size) (wX 21 a (EM a cI cZ) u5) s.heap H locs → lv_has ls 8 [(0, .ref (a 0)), (1, .int p1), (2, .int p2), (3, .int p3), (4, .int p4), (5, .long x6), (7, .int x7)] → W p l e R s m args below meth c H locs 0 0 Q (F0 m 32 ls [])) ?_ FU _ _ _ hf _ _ _ h (lv_sub hl [2, 3, 4, 5, 6, 1, 0] rfl)
      intro rec14 irec14 u5 x6 x7 hf H locs ls h hl
      unfold B_X12_likely_32 at hf
      refine lv_iload (pc := 32) hx hb dX12_likely_32 (lv_at hl 6 rfl) ?_
      refine lv_iconst (pc := 34) (v := 1) hx hb dX12_likely_34 (by decide) ?_
      refine lv_iload_n (pc := 35) hx hb dX12_likely_35 rfl (lv_at hl 2 rfl) ?_
      refine lv_ishl (pc := 36) hx hb dX12_likely_36 ?_
      refine lv_icmp_ge (pc := 37) (tgt := 82) hx hb dX12_likely_37 (by decide) (fun c15 => ?_) (fun c15 => ?_)
      · have hf := if_t hf c15
        exact jk8 _ _ hf _ _ _ h (lv_sub hl [0, 2, 4, 5] rfl)
      · have hf := if_f hf c15
        refine lv_aload_n (pc := 40) hx hb dX12_likely_40 rfl (lv_at hl 0 rfl) ?_
        refine lv_iload (pc := 41) hx hb dX12_likely_41 (lv_at hl 6 rfl) ?_
        refine lv_i2l (pc := 43) (v := Int32.toInt64 x7) hx hb dX12_likely_43 rfl ?_
        refine pM_0_21 (pc := 44) hx hb hts hown hK h fl_X12_151 dX12_likely_44 (fun H locs h => ?_)
        obtain ⟨u16, eu16, hf⟩ := bs_e hf
        rw [← eu16] at h
        refine lv_lload (pc := 47) hx hb dX12_likely_47 (lv_at hl 5 rfl) ?_
        refine lv_aload_n (pc := 49) hx hb dX12_likely_49 rfl (lv_at hl 0 rfl) ?_
        refine lv_iload_n (pc := 50) hx hb dX12_likely_50 rfl (lv_at hl 1 rfl) ?_
        refine lv_iload_n (pc := 51) hx hb dX12_likely_51 rfl (lv_at hl 2 rfl) ?_
        obtain ⟨x17, hc, hf⟩ := b1_e hf
        refine k_X12_acidBehind (pc := 52) hx hb hml hown hts hK hN hc ml_X12_217 (Nat.le_trans (by decide) hF) (Nat.le_trans (by decide) hLo) h hl.1 ⟨Nat.zero_le _, Nat.zero_le _⟩ (Nat.le_of_ble_eq_true rfl) dX12_likely_52 (fun H locs h => ?_)
        refine lv_aload_n (pc := 55) hx hb dX12_likely_55 rfl (lv_at hl 0 rfl) ?_
        refine gM_0_11 (pc := 56) hx hb hts hown hK h fl_X12_71 dX12_likely_56 ?_
        refine lv_icmp_lt (pc := 59) (tgt := 72) hx hb dX12_likely_59 (by decide) (fun c18 => ?_) (fun c18 => ?_)
        · have hf := if_t hf c18
          refine lv_lconst (pc := 72) (v := 0) hx hb dX12_likely_72 (by decide) ?_
          refine lv_ladd (pc := 73) hx hb dX12_likely_73 ?_
          refine lv_lstore (pc := 74) (lv' := [(5, .long (x6 + (0 : Int64))), (0, .ref (a 0)), (1, .int p1), (2, .int p2), (3, .int p3), (4, .int p4), (7, .int x7)]) hx hb dX12_likely_74 hl (by decide) rfl (fun ls hl => ?_)
          refine lv_iinc (pc := 76) (v := x7 + 1) (lv' := [(7, .int (x7 + 1)), (5, .long (x6 + (0 : Int64))), (0, .ref (a 0)), (1, .int p1), (2, .int p2), (3, .int p3), (4, .int p4)]) hx hb dX12_likely_76 hl (k := 6) rfl rfl (by decide) rfl (fun ls hl => ?_)
          refine lv_goto (pc := 79) (tgt := 32) hx hb dX12_likely_79 (by decide) ?_
          exact irec14 _ _ _ hf _ _ _ h (lv_sub hl [2, 3, 4, 5, 6, 1, 0] rfl)
        · have hf := if_f hf c18
          refine lv_iload (pc := 62) hx hb dX12_likely_62 (lv_at hl 6 rfl) ?_
          refine lv_iload_n (pc := 64) hx hb dX12_likely_64 rfl (lv_at hl 2 rfl) ?_
          refine lv_iload_n (pc := 65) hx hb dX12_likely_65 rfl (lv_at hl 3 rfl) ?_
          obtain ⟨x19, hc, hf⟩ := b1_e hf
          refine kS_X12_weightOf (pc := 66) hx hb hml hown hts hK hN hc ml_X12_271 (Nat.le_trans (by decide) hF) (Nat.le_trans (by decide) hLo) h hl.1 ⟨Nat.zero_le _, Nat.zero_le _⟩ (Nat.le_of_ble_eq_true rfl) dX12_likely_66 (fun H locs h => ?_)
          refine lv_goto (pc := 69) (tgt := 73) hx hb dX12_likely_69 (by decide) ?_
          refine lv_ladd (pc := 73) hx hb dX12_likely_73 ?_
          refine lv_lstore (pc := 74) (lv' := [(5, .long (x6 + x19)), (0, .ref (a 0)), (1, .int p1), (2, .int p2), (3, .int p3), (4, .int p4), (7, .int x7)]) hx hb dX12_likely_74 hl (by decide) rfl (fun ls hl => ?_)
          refine lv_iinc (pc := 76) (v := x7 + 1) (lv' := [(7, .int (x7 + 1)), (5, .long (x6 + x19)), (0, .ref (a 0)), (1, .int p1), (2, .int p2), (3, .int p3), (4, .int p4)]) hx hb dX12_likely_76 hl (k := 6) rfl rfl (by decide) rfl (fun ls hl => ?_)
          refine lv_goto (pc := 79) (tgt := 32) hx hb dX12_likely_79 (by decide) ?_
          exact irec14 _ _ _ hf _ _ _ h (lv_sub hl [2, 3, 4, 5, 6, 1, 0] rfl)
    · have hf := if_t hf c4
      refine lv_ldc2 (pc := 22) hx hb hown (hts _ ctl_X12_269) dX12_likely_22 ?_
      exact hret (so1 hf) (so2 hf) dX12_likely_25 h
  · have hf := if_t hf c2
    refine lv_ldc2 (pc := 8) hx hb hown (hts _ ctl_X12_263) dX12_likely_8 ?_
    exact hret (so1 hf) (so2 hf) dX12_likely_11 h
theorem k_X12_likely {p : Program} {l : Launch} {e : Env} {R : Room} {s : State} {m : MethodId} {args : Array Value} {below : List Frame} {meth : Method} {c : Code} {H : Heap} {locs : List Loc} {cells slots : Nat} {Q : State → Prop} {pc : Nat} {ls : Array Slot} {rest : List Value} {cc : ByteArray} {D : va_G} {cI cZ : ClassId} {a : Nat → Nat} {u : St} {own : String} {index nL : Nat} {p1 : Int32} {p2 : Int32} {p3 : Int32} {p4 : Int32} {rr : Int64} {uu : St} (hx : p.tables.exec = Jvm.exec) (hb : c.code = cc) (hml : c.maxLocals = nL) (hown : s.vm.findClass own = some m.cls) (hts : ∀ w ∈ Gd, w.before args s = true) (hK : va_K D vwCl (tyM cI cZ) s) (hN : NB s) (hc : f_X12_likely u p1 p2 p3 p4 = some (rr, uu)) (hlk : Cond.methodLink own index yX12_likely ∈ Gd) (hF : 6 ≤ R.frames) (hLo : 143 ≤ R.locals) (h : Hh D (AB 21 a s.heap.size) (wX 21 a (EM a cI cZ) u) s.heap H locs) (hsize : ls.size = nL) (hcs : cells ≤ R.cells ∧ slots ≤ R.slots) (hr : (rest.map fun v => v.category).sum ≤ 8) (hdg : decode cc pc = .ok (.invokevirtual index, 3)) (kk : ∀ (H1 : Heap) (locs1 : List Loc), Hh D (AB 21 a s.heap.size) (wX 21 a (EM a cI cZ) uu) s.heap H1 locs1 → W p l e R s m args below meth c H1 locs1 cells slots Q (F0 m (pc + 3) ls (.long rr :: rest))) : W p l e R s m args below meth c H locs cells slots Q (F0 m pc ls (.int p4 :: .int p3 :: .int p2 :: .int p1 :: .ref (a 0) :: rest)) :=
  cVl (n := 4) hx hb hml hown hts hK hN (c_X12_likely hc) (gdV hlk im_X12_likely se_X12_likely in_X12 co_X12_likely) rfl (by decide +kernel) rfl hF hLo h hsize hcs (by decide) rfl rfl rfl hr hdg kk
def B_X12_mean_19 (p1 : Int32) (p2 : Int32) (k6 : St → Int64 → Option (Int64 × St)) (rec12 : St → Int64 → Int32 → Option (Int64 × St)) (u3 : St) (x4 : Int64) (x5 : Int32) : Option (Int64 × St) := if ((1 : Int32) <<< (p1 &&& 31)) ≤ x5 then k6 u3 x4 else bs (sL u3 0 21 (Int32.toInt64 x5)) (fun u14 : St => b1 (f_X12_weightOf u14 x5 p1 p2) (fun (x15 : Int64) => b1 (f_X12_lostBehind u14 p1) (fun (x16 : Int32) => rec12 u14 (x4 + (x15 * (Int32.toInt64 x16))) (x5 + 1))))
def f_X12_mean (u : St) (p1 : Int32) (p2 : Int32) (p3 : Int32) : Option (Int64 × St) := b1 (f_X12_areDoors u p1 p2 p3) (fun (x1 : Int32) => if x1 = 0 then some ((-1000000000000000002), u) else jq_2 (fun (u7 : St) (x8 : Int64) => bs (sL u7 0 21 0) (fun u9 : St => b1 (f_X12_allWays u9 p1) (fun (x10 : Int64) => b1 (f_X12_lowest u9 x8 x10 p3) (fun (x11 : Int64) => some (x11, u9))))) (fun (k6 : St → Int64 → Option (Int64 × St)) => lq_3 (B_X12_mean_19 p1 p2 k6) FU u 0 0))
set_option maxRecDepth 100000 in
set_option maxHeartbeats 4000000 in
theorem c_X12_mean {l : Launch} {D : va_G} {cI cZ : ClassId} {a : Nat → Nat} {u : St} {p1 : Int32} {p2 : Int32} {p3 : Int32} {rr : Int64} {uu : St} (hf : f_X12_mean u p1 p2 p3 = some (rr, uu)) : Cl l yX12_mean cX12_mean 7 (some .long) 6 139 D (tyM cI cZ) 21 a (EM a cI cZ) [.ref (a 0), .int p1, .int p2, .int p3] u rr uu := by
  refine metL (by decide +kernel) (Nat.le_of_ble_eq_true rfl) ?_
  intro p e s m args below meth c R Q hx hb hml hown hts hF hLo hret hK hN h ls hl
  have hown : s.vm.findClass RX12 = some m.cls := hown
  have hl : lv_has ls 7 [(0, .ref (a 0)), (1, .int p1), (2, .int p2), (3, .int p3)] := hl
  unfold f_X12_mean at hf
  refine lv_iload_n (pc := 0) hx hb dX12_mean_0 rfl (lv_at hl 1 rfl) ?_
  refine lv_iload_n (pc := 1) hx hb dX12_mean_1 rfl (lv_at hl 2 rfl) ?_
  refine lv_iload_n (pc := 2) hx hb dX12_mean_2 rfl (lv_at hl 3 rfl) ?_
  obtain ⟨x1, hc, hf⟩ := b1_e hf
  refine kS_X12_areDoors (pc := 3) hx hb hml hown hts hK hN hc ml_X12_265 (Nat.le_trans (by decide) hF) (Nat.le_trans (by decide) hLo) h hl.1 ⟨Nat.zero_le _, Nat.zero_le _⟩ (Nat.le_of_ble_eq_true rfl) dX12_mean_3 (fun H locs h => ?_)
  refine lv_if_ne (pc := 6) (tgt := 13) hx hb dX12_mean_6 (by decide) (fun c2 => ?_) (fun c2 => ?_)
  · have hf := if_f hf c2
    refine lv_lconst (pc := 13) (v := 0) hx hb dX12_mean_13 (by decide) ?_
    refine lv_lstore (pc := 14) (lv' := [(4, .long 0), (0, .ref (a 0)), (1, .int p1), (2, .int p2), (3, .int p3)]) hx hb dX12_mean_14 hl (by decide) rfl (fun ls hl => ?_)
    refine lv_iconst (pc := 16) (v := 0) hx hb dX12_mean_16 (by decide) ?_
    refine lv_istore (pc := 17) (lv' := [(6, .int 0), (4, .long 0), (0, .ref (a 0)), (1, .int p1), (2, .int p2), (3, .int p3)]) hx hb dX12_mean_17 hl (by decide) rfl (fun ls hl => ?_)
    obtain ⟨k6, hk6, hf⟩ := jq_2_e hf
    have jk6 : ∀ (u7 : St) (x8 : Int64), k6 u7 x8 = some (rr, uu) → ∀ (H : Heap) (locs : List Loc) (ls : Array Slot), Hh D (AB 21 a s.heap.size) (wX 21 a (EM a cI cZ) u7) s.heap H locs → lv_has ls 7 [(0, .ref (a 0)), (1, .int p1), (3, .int p3), (4, .long x8)] → W p l e R s m args below meth c H locs 0 0 Q (F0 m 59 ls []) := by
      intro u7 x8 hf H locs ls h hl
      rw [hk6] at hf
      refine lv_aload_n (pc := 59) hx hb dX12_mean_59 rfl (lv_at hl 0 rfl) ?_
      refine lv_lconst (pc := 60) (v := 0) hx hb dX12_mean_60 (by decide) ?_
      refine pM_0_21 (pc := 61) hx hb hts hown hK h fl_X12_151 dX12_mean_61 (fun H locs h => ?_)
      obtain ⟨u9, eu9, hf⟩ := bs_e hf
      rw [← eu9] at h
      refine lv_lload (pc := 64) hx hb dX12_mean_64 (lv_at hl 3 rfl) ?_
      refine lv_iload_n (pc := 66) hx hb dX12_mean_66 rfl (lv_at hl 1 rfl) ?_
      obtain ⟨x10, hc, hf⟩ := b1_e hf
      refine kS_X12_allWays (pc := 67) hx hb hml hown hts hK hN hc ml_X12_275 (Nat.le_trans (by decide) hF) (Nat.le_trans (by decide) hLo) h hl.1 ⟨Nat.zero_le _, Nat.zero_le _⟩ (Nat.le_of_ble_eq_true rfl) dX12_mean_67 (fun H locs h => ?_)
      refine lv_iload_n (pc := 70) hx hb dX12_mean_70 rfl (lv_at hl 2 rfl) ?_
      obtain ⟨x11, hc, hf⟩ := b1_e hf
      refine kS_X12_lowest (pc := 71) hx hb hml hown hts hK hN hc ml_X12_279 (Nat.le_trans (by decide) hF) (Nat.le_trans (by decide) hLo) h hl.1 ⟨Nat.zero_le _, Nat.zero_le _⟩ (Nat.le_of_ble_eq_true rfl) dX12_mean_71 (fun H locs h => ?_)
      exact hret (so1 hf) (so2 hf) dX12_mean_74 h
    refine lq_3_e (P := fun (u3 : St) (x4 : Int64) (x5 : Int32) => ∀ (H : Heap) (locs : List Loc) (ls : Array Slot), Hh D (AB 21 a s.heap.size) (wX 21 a (EM a cI cZ) u3) s.heap H locs → lv_has ls 7 [(0, .ref (a 0)), (1, .int p1), (2, .int p2), (3, .int p3), (4, .long x4), (6, .int x5)] → W p l e R s m args below meth c H locs 0 0 Q (F0 m 19 ls [])) ?_ FU _ _ _ hf _ _ _ h (lv_sub hl [2, 3, 4, 5, 1, 0] rfl)
    intro rec12 irec12 u3 x4 x5 hf H locs ls h hl
    unfold B_X12_mean_19 at hf
    refine lv_iload (pc := 19) hx hb dX12_mean_19 (lv_at hl 5 rfl) ?_
    refine lv_iconst (pc := 21) (v := 1) hx hb dX12_mean_21 (by decide) ?_
    refine lv_iload_n (pc := 22) hx hb dX12_mean_22 rfl (lv_at hl 1 rfl) ?_
    refine lv_ishl (pc := 23) hx hb dX12_mean_23 ?_
    refine lv_icmp_ge (pc := 24) (tgt := 59) hx hb dX12_mean_24 (by decide) (fun c13 => ?_) (fun c13 => ?_)
    · have hf := if_t hf c13
      exact jk6 _ _ hf _ _ _ h (lv_sub hl [0, 1, 3, 4] rfl)
    · have hf := if_f hf c13
      refine lv_aload_n (pc := 27) hx hb dX12_mean_27 rfl (lv_at hl 0 rfl) ?_
      refine lv_iload (pc := 28) hx hb dX12_mean_28 (lv_at hl 5 rfl) ?_
      refine lv_i2l (pc := 30) (v := Int32.toInt64 x5) hx hb dX12_mean_30 rfl ?_
      refine pM_0_21 (pc := 31) hx hb hts hown hK h fl_X12_151 dX12_mean_31 (fun H locs h => ?_)
      obtain ⟨u14, eu14, hf⟩ := bs_e hf
      rw [← eu14] at h
      refine lv_lload (pc := 34) hx hb dX12_mean_34 (lv_at hl 4 rfl) ?_
      refine lv_iload (pc := 36) hx hb dX12_mean_36 (lv_at hl 5 rfl) ?_
      refine lv_iload_n (pc := 38) hx hb dX12_mean_38 rfl (lv_at hl 1 rfl) ?_
      refine lv_iload_n (pc := 39) hx hb dX12_mean_39 rfl (lv_at hl 2 rfl) ?_
      obtain ⟨x15, hc, hf⟩ := b1_e hf
      refine kS_X12_weightOf (pc := 40) hx hb hml hown hts hK hN hc ml_X12_271 (Nat.le_trans (by decide) hF) (Nat.le_trans (by decide) hLo) h hl.1 ⟨Nat.zero_le _, Nat.zero_le _⟩ (Nat.le_of_ble_eq_true rfl) dX12_mean_40 (fun H locs h => ?_)
      refine lv_aload_n (pc := 43) hx hb dX12_mean_43 rfl (lv_at hl 0 rfl) ?_
      refine lv_iload_n (pc := 44) hx hb dX12_mean_44 rfl (lv_at hl 1 rfl) ?_
      obtain ⟨x16, hc, hf⟩ := b1_e hf
      refine k_X12_lostBehind (pc := 45) hx hb hml hown hts hK hN hc ml_X12_220 (Nat.le_trans (by decide) hF) (Nat.le_trans (by decide) hLo) h hl.1 ⟨Nat.zero_le _, Nat.zero_le _⟩ (Nat.le_of_ble_eq_true rfl) dX12_mean_45 (fun H locs h => ?_)
      refine lv_i2l (pc := 48) (v := Int32.toInt64 x16) hx hb dX12_mean_48 rfl ?_
      refine lv_lmul (pc := 49) hx hb dX12_mean_49 ?_
      refine lv_ladd (pc := 50) hx hb dX12_mean_50 ?_
      refine lv_lstore (pc := 51) (lv' := [(4, .long (x4 + (x15 * (Int32.toInt64 x16)))), (0, .ref (a 0)), (1, .int p1), (2, .int p2), (3, .int p3), (6, .int x5)]) hx hb dX12_mean_51 hl (by decide) rfl (fun ls hl => ?_)
      refine lv_iinc (pc := 53) (v := x5 + 1) (lv' := [(6, .int (x5 + 1)), (4, .long (x4 + (x15 * (Int32.toInt64 x16)))), (0, .ref (a 0)), (1, .int p1), (2, .int p2), (3, .int p3)]) hx hb dX12_mean_53 hl (k := 5) rfl rfl (by decide) rfl (fun ls hl => ?_)
      refine lv_goto (pc := 56) (tgt := 19) hx hb dX12_mean_56 (by decide) ?_
      exact irec12 _ _ _ hf _ _ _ h (lv_sub hl [2, 3, 4, 5, 1, 0] rfl)
  · have hf := if_t hf c2
    refine lv_ldc2 (pc := 9) hx hb hown (hts _ ctl_X12_269) dX12_mean_9 ?_
    exact hret (so1 hf) (so2 hf) dX12_mean_12 h
theorem k_X12_mean {p : Program} {l : Launch} {e : Env} {R : Room} {s : State} {m : MethodId} {args : Array Value} {below : List Frame} {meth : Method} {c : Code} {H : Heap} {locs : List Loc} {cells slots : Nat} {Q : State → Prop} {pc : Nat} {ls : Array Slot} {rest : List Value} {cc : ByteArray} {D : va_G} {cI cZ : ClassId} {a : Nat → Nat} {u : St} {own : String} {index nL : Nat} {p1 : Int32} {p2 : Int32} {p3 : Int32} {rr : Int64} {uu : St} (hx : p.tables.exec = Jvm.exec) (hb : c.code = cc) (hml : c.maxLocals = nL) (hown : s.vm.findClass own = some m.cls) (hts : ∀ w ∈ Gd, w.before args s = true) (hK : va_K D vwCl (tyM cI cZ) s) (hN : NB s) (hc : f_X12_mean u p1 p2 p3 = some (rr, uu)) (hlk : Cond.methodLink own index yX12_mean ∈ Gd) (hF : 7 ≤ R.frames) (hLo : 165 ≤ R.locals) (h : Hh D (AB 21 a s.heap.size) (wX 21 a (EM a cI cZ) u) s.heap H locs) (hsize : ls.size = nL) (hcs : cells ≤ R.cells ∧ slots ≤ R.slots) (hr : (rest.map fun v => v.category).sum ≤ 8) (hdg : decode cc pc = .ok (.invokevirtual index, 3)) (kk : ∀ (H1 : Heap) (locs1 : List Loc), Hh D (AB 21 a s.heap.size) (wX 21 a (EM a cI cZ) uu) s.heap H1 locs1 → W p l e R s m args below meth c H1 locs1 cells slots Q (F0 m (pc + 3) ls (.long rr :: rest))) : W p l e R s m args below meth c H locs cells slots Q (F0 m pc ls (.int p3 :: .int p2 :: .int p1 :: .ref (a 0) :: rest)) :=
  cVl (n := 3) hx hb hml hown hts hK hN (c_X12_mean hc) (gdV hlk im_X12_mean se_X12_mean in_X12 co_X12_mean) rfl (by decide +kernel) rfl hF hLo h hsize hcs (by decide) rfl rfl rfl hr hdg kk
def f_X12_seen (u : St) (p1 : Int32) (p2 : Int32) (p3 : Int32) : Option (Int32 × St) := b1 (f_X12_isBarrel u p1) (fun (x1 : Int32) => if x1 = 0 then some ((-1), u) else b1 (f_X12_in u (Int32.toInt64 p2) 0 30) (fun (x3 : Int32) => if x3 = 0 then some ((-2), u) else b1 (f_X12_in u (Int32.toInt64 p3) 0 99) (fun (x5 : Int32) => if x5 = 0 then some ((-2), u) else if (u.1 0 18) = 6 then some ((-4), u) else cki (u.1 0 18) 6 (bs (sI u 9 (ix (u.1 0 18)) p1) (fun u8 : St => cki (u8.1 0 18) 6 (bs (sI u8 10 (ix (u8.1 0 18)) p2) (fun u9 : St => cki (u9.1 0 18) 6 (bs (sI u9 11 (ix (u9.1 0 18)) p3) (fun u10 : St => bs (sI u10 0 18 ((u10.1 0 18) + (1 : Int32))) (fun u11 : St => some (u11.1 0 18, u11)))))))))))
set_option maxRecDepth 100000 in
set_option maxHeartbeats 4000000 in
theorem c_X12_seen {l : Launch} {D : va_G} {cI cZ : ClassId} {a : Nat → Nat} {u : St} {p1 : Int32} {p2 : Int32} {p3 : Int32} {rr : Int32} {uu : St} (hf : f_X12_seen u p1 p2 p3 = some (rr, uu)) : Ci l yX12_seen cX12_seen 4 (some .int) 3 66 D (tyM cI cZ) 21 a (EM a cI cZ) [.ref (a 0), .int p1, .int p2, .int p3] u rr uu := by
  refine metI (by decide +kernel) (Nat.le_of_ble_eq_true rfl) ?_
  intro p e s m args below meth c R Q hx hb hml hown hts hF hLo hret hK hN h ls hl
  have hown : s.vm.findClass RX12 = some m.cls := hown
  have hl : lv_has ls 4 [(0, .ref (a 0)), (1, .int p1), (2, .int p2), (3, .int p3)] := hl
  unfold f_X12_seen at hf
  refine lv_aload_n (pc := 0) hx hb dX12_seen_0 rfl (lv_at hl 0 rfl) ?_
  refine lv_iload_n (pc := 1) hx hb dX12_seen_1 rfl (lv_at hl 1 rfl) ?_
  obtain ⟨x1, hc, hf⟩ := b1_e hf
  refine k_X12_isBarrel (pc := 2) hx hb hml hown hts hK hN hc ml_X12_107 (Nat.le_trans (by decide) hF) (Nat.le_trans (by decide) hLo) h hl.1 ⟨Nat.zero_le _, Nat.zero_le _⟩ (Nat.le_of_ble_eq_true rfl) dX12_seen_2 (fun H locs h => ?_)
  refine lv_if_ne (pc := 5) (tgt := 10) hx hb dX12_seen_5 (by decide) (fun c2 => ?_) (fun c2 => ?_)
  · have hf := if_f hf c2
    refine lv_iload_n (pc := 10) hx hb dX12_seen_10 rfl (lv_at hl 2 rfl) ?_
    refine lv_i2l (pc := 11) (v := Int32.toInt64 p2) hx hb dX12_seen_11 rfl ?_
    refine lv_lconst (pc := 12) (v := 0) hx hb dX12_seen_12 (by decide) ?_
    refine lv_ldc2 (pc := 13) hx hb hown (hts _ ctl_X12_283) dX12_seen_13 ?_
    obtain ⟨x3, hc, hf⟩ := b1_e hf
    refine kS_X12_in (pc := 16) hx hb hml hown hts hK hN hc ml_X12_97 (Nat.le_trans (by decide) hF) (Nat.le_trans (by decide) hLo) h hl.1 ⟨Nat.zero_le _, Nat.zero_le _⟩ (Nat.le_of_ble_eq_true rfl) dX12_seen_16 (fun H locs h => ?_)
    refine lv_if_eq (pc := 19) (tgt := 34) hx hb dX12_seen_19 (by decide) (fun c4 => ?_) (fun c4 => ?_)
    · have hf := if_t hf c4
      refine lv_bipush (pc := 34) (v := (-2)) hx hb dX12_seen_34 (by decide) ?_
      exact hret (so1 hf) rfl (so2 hf) dX12_seen_36 h
    · have hf := if_f hf c4
      refine lv_iload_n (pc := 22) hx hb dX12_seen_22 rfl (lv_at hl 3 rfl) ?_
      refine lv_i2l (pc := 23) (v := Int32.toInt64 p3) hx hb dX12_seen_23 rfl ?_
      refine lv_lconst (pc := 24) (v := 0) hx hb dX12_seen_24 (by decide) ?_
      refine lv_ldc2 (pc := 25) hx hb hown (hts _ ctl_X12_238) dX12_seen_25 ?_
      obtain ⟨x5, hc, hf⟩ := b1_e hf
      refine kS_X12_in (pc := 28) hx hb hml hown hts hK hN hc ml_X12_97 (Nat.le_trans (by decide) hF) (Nat.le_trans (by decide) hLo) h hl.1 ⟨Nat.zero_le _, Nat.zero_le _⟩ (Nat.le_of_ble_eq_true rfl) dX12_seen_28 (fun H locs h => ?_)
      refine lv_if_ne (pc := 31) (tgt := 37) hx hb dX12_seen_31 (by decide) (fun c6 => ?_) (fun c6 => ?_)
      · have hf := if_f hf c6
        refine lv_aload_n (pc := 37) hx hb dX12_seen_37 rfl (lv_at hl 0 rfl) ?_
        refine gM_0_18 (pc := 38) hx hb hts hown hK h fl_X12_94 dX12_seen_38 ?_
        refine lv_bipush (pc := 41) (v := 6) hx hb dX12_seen_41 (by decide) ?_
        refine lv_icmp_ne (pc := 43) (tgt := 49) hx hb dX12_seen_43 (by decide) (fun c7 => ?_) (fun c7 => ?_)
        · have hf := if_f hf c7
          refine lv_aload_n (pc := 49) hx hb dX12_seen_49 rfl (lv_at hl 0 rfl) ?_
          refine gM_0_15 (pc := 50) hx hb hts hown hK h fl_X12_34 dX12_seen_50 ?_
          refine lv_aload_n (pc := 53) hx hb dX12_seen_53 rfl (lv_at hl 0 rfl) ?_
          refine gM_0_18 (pc := 54) hx hb hts hown hK h fl_X12_94 dX12_seen_54 ?_
          refine lv_iload_n (pc := 57) hx hb dX12_seen_57 rfl (lv_at hl 1 rfl) ?_
          obtain ⟨hin, hf⟩ := cki_e hf
          refine pM_9 (pc := 58) hx hb hK h hin dX12_seen_58 (fun H locs h => ?_)
          obtain ⟨u8, eu8, hf⟩ := bs_e hf
          rw [← eu8] at h
          refine lv_aload_n (pc := 59) hx hb dX12_seen_59 rfl (lv_at hl 0 rfl) ?_
          refine gM_0_16 (pc := 60) hx hb hts hown hK h fl_X12_37 dX12_seen_60 ?_
          refine lv_aload_n (pc := 63) hx hb dX12_seen_63 rfl (lv_at hl 0 rfl) ?_
          refine gM_0_18 (pc := 64) hx hb hts hown hK h fl_X12_94 dX12_seen_64 ?_
          refine lv_iload_n (pc := 67) hx hb dX12_seen_67 rfl (lv_at hl 2 rfl) ?_
          obtain ⟨hin, hf⟩ := cki_e hf
          refine pM_10 (pc := 68) hx hb hK h hin dX12_seen_68 (fun H locs h => ?_)
          obtain ⟨u9, eu9, hf⟩ := bs_e hf
          rw [← eu9] at h
          refine lv_aload_n (pc := 69) hx hb dX12_seen_69 rfl (lv_at hl 0 rfl) ?_
          refine gM_0_17 (pc := 70) hx hb hts hown hK h fl_X12_40 dX12_seen_70 ?_
          refine lv_aload_n (pc := 73) hx hb dX12_seen_73 rfl (lv_at hl 0 rfl) ?_
          refine gM_0_18 (pc := 74) hx hb hts hown hK h fl_X12_94 dX12_seen_74 ?_
          refine lv_iload_n (pc := 77) hx hb dX12_seen_77 rfl (lv_at hl 3 rfl) ?_
          obtain ⟨hin, hf⟩ := cki_e hf
          refine pM_11 (pc := 78) hx hb hK h hin dX12_seen_78 (fun H locs h => ?_)
          obtain ⟨u10, eu10, hf⟩ := bs_e hf
          rw [← eu10] at h
          refine lv_aload_n (pc := 79) hx hb dX12_seen_79 rfl (lv_at hl 0 rfl) ?_
          refine lv_dup (pc := 80) hx hb dX12_seen_80 rfl ?_
          refine gM_0_18 (pc := 81) hx hb hts hown hK h fl_X12_94 dX12_seen_81 ?_
          refine lv_iconst (pc := 84) (v := 1) hx hb dX12_seen_84 (by decide) ?_
          refine lv_iadd (pc := 85) hx hb dX12_seen_85 ?_
          refine pM_0_18 (pc := 86) hx hb hts hown hK h fl_X12_94 dX12_seen_86 (fun H locs h => ?_)
          obtain ⟨u11, eu11, hf⟩ := bs_e hf
          rw [← eu11] at h
          refine lv_aload_n (pc := 89) hx hb dX12_seen_89 rfl (lv_at hl 0 rfl) ?_
          refine gM_0_18 (pc := 90) hx hb hts hown hK h fl_X12_94 dX12_seen_90 ?_
          exact hret (so1 hf) rfl (so2 hf) dX12_seen_93 h
        · have hf := if_t hf c7
          refine lv_bipush (pc := 46) (v := (-4)) hx hb dX12_seen_46 (by decide) ?_
          exact hret (so1 hf) rfl (so2 hf) dX12_seen_48 h
      · have hf := if_t hf c6
        refine lv_bipush (pc := 34) (v := (-2)) hx hb dX12_seen_34 (by decide) ?_
        exact hret (so1 hf) rfl (so2 hf) dX12_seen_36 h
  · have hf := if_t hf c2
    refine lv_iconst (pc := 8) (v := (-1)) hx hb dX12_seen_8 (by decide) ?_
    exact hret (so1 hf) rfl (so2 hf) dX12_seen_9 h
theorem k_X12_seen {p : Program} {l : Launch} {e : Env} {R : Room} {s : State} {m : MethodId} {args : Array Value} {below : List Frame} {meth : Method} {c : Code} {H : Heap} {locs : List Loc} {cells slots : Nat} {Q : State → Prop} {pc : Nat} {ls : Array Slot} {rest : List Value} {cc : ByteArray} {D : va_G} {cI cZ : ClassId} {a : Nat → Nat} {u : St} {own : String} {index nL : Nat} {p1 : Int32} {p2 : Int32} {p3 : Int32} {rr : Int32} {uu : St} (hx : p.tables.exec = Jvm.exec) (hb : c.code = cc) (hml : c.maxLocals = nL) (hown : s.vm.findClass own = some m.cls) (hts : ∀ w ∈ Gd, w.before args s = true) (hK : va_K D vwCl (tyM cI cZ) s) (hN : NB s) (hc : f_X12_seen u p1 p2 p3 = some (rr, uu)) (hlk : Cond.methodLink own index yX12_seen ∈ Gd) (hF : 4 ≤ R.frames) (hLo : 89 ≤ R.locals) (h : Hh D (AB 21 a s.heap.size) (wX 21 a (EM a cI cZ) u) s.heap H locs) (hsize : ls.size = nL) (hcs : cells ≤ R.cells ∧ slots ≤ R.slots) (hr : (rest.map fun v => v.category).sum ≤ 8) (hdg : decode cc pc = .ok (.invokevirtual index, 3)) (kk : ∀ (H1 : Heap) (locs1 : List Loc), Hh D (AB 21 a s.heap.size) (wX 21 a (EM a cI cZ) uu) s.heap H1 locs1 → W p l e R s m args below meth c H1 locs1 cells slots Q (F0 m (pc + 3) ls (.int rr :: rest))) : W p l e R s m args below meth c H locs cells slots Q (F0 m pc ls (.int p3 :: .int p2 :: .int p1 :: .ref (a 0) :: rest)) :=
  cVi (n := 3) hx hb hml hown hts hK hN (c_X12_seen hc) (gdV hlk im_X12_seen se_X12_seen in_X12 co_X12_seen) rfl (by decide +kernel) rfl hF hLo h hsize hcs (by decide) rfl rfl rfl hr hdg kk
