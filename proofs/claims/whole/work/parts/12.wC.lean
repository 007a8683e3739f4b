def B_X4_spread_25 (u : St) (k4 : St → Option (St)) (rec6 : St → Int32 → Int32 → Option (St)) (u1 : St) (x2 : Int32) (x3 : Int32) : Option (St) := if x3 < 0 then k4 u1 else ck (¬ (mxI 1 (u.1 2 2)) = 0) (cki x3 4 (bs (sI u1 28 (ix x3) (x2 - x2 / (mxI 1 (u.1 2 2)) * (mxI 1 (u.1 2 2)))) (fun u8 : St => ck (¬ (mxI 1 (u.1 2 2)) = 0) (bs (x2 / (mxI 1 (u.1 2 2))) (fun x9 : Int32 => rec6 u8 x9 (x3 + (-1)))))))
def f_X4_spread (u : St) (p1 : Int32) : Option (St) := jq_1 (fun (u5 : St) => some u5) (fun (k4 : St → Option (St)) => lq_3 (B_X4_spread_25 u k4) FU u p1 ((u.1 25 7) - (1 : Int32)))
set_option maxRecDepth 100000 in
set_option maxHeartbeats 4000000 in
theorem c_X4_spread {l : Launch} {D : va_G} {cI cJ cR : ClassId} {a : Nat → Nat} {u : St} {N : Nat} (hNN : 38 ≤ N) {p1 : Int32} {uu : St} (hf : f_X4_spread u p1 = some uu) : Cv l yX4_spread cX4_spread 5 none 1 21 D (tyB cI cJ cR) N a (EB a cI cJ cR) [.ref (a 25), .int p1] u uu := by
  refine metV (by decide +kernel) (Nat.le_of_ble_eq_true rfl) ?_
  intro p e s m args below meth c R Q hx hb hml hown hts hF hLo hret hK hN h ls hl
  have hown : s.vm.findClass RX4 = some m.cls := hown
  have hl : lv_has ls 5 [(0, .ref (a 25)), (1, .int p1)] := hl
  unfold f_X4_spread at hf
  refine lv_iconst (pc := 0) (v := 1) hx hb dX4_spread_0 (by decide) ?_
  refine lv_aload_n (pc := 1) hx hb dX4_spread_1 rfl (lv_at hl 0 rfl) ?_
  refine gB_25_0 (pc := 2) hNN hx hb hts hown hK h fl_X4_27 dX4_spread_2 ?_
  refine gB_1_0 (pc := 5) hNN hx hb hts hown hK h fl_X4_59 dX4_spread_5 ?_
  refine gB_2_2 (pc := 8) hNN hx hb hts hown hK h fl_X4_71 dX4_spread_8 ?_
  refine rMmax (pc := 11) hx hb (hml.trans hl.1.symm) hown hts ml_X4_102 (Nat.le_trans (by decide) hF) (Nat.le_trans (by decide) hLo) (Nat.le_of_ble_eq_true rfl) ⟨Nat.zero_le _, Nat.zero_le _⟩ dX4_spread_11 ?_
  refine lv_istore_n (pc := 14) (lv' := [(2, .int (mxI 1 (u.1 2 2))), (0, .ref (a 25)), (1, .int p1)]) hx hb dX4_spread_14 rfl hl (by decide) rfl (fun ls hl => ?_)
  refine lv_iload_n (pc := 15) hx hb dX4_spread_15 rfl (lv_at hl 2 rfl) ?_
  refine lv_istore_n (pc := 16) (lv' := [(3, .int p1), (2, .int (mxI 1 (u.1 2 2))), (0, .ref (a 25)), (1, .int p1)]) hx hb dX4_spread_16 rfl hl (by decide) rfl (fun ls hl => ?_)
  refine lv_aload_n (pc := 17) hx hb dX4_spread_17 rfl (lv_at hl 2 rfl) ?_
  refine gB_25_7 (pc := 18) hNN hx hb hts hown hK h fl_X4_35 dX4_spread_18 ?_
  refine lv_iconst (pc := 21) (v := 1) hx hb dX4_spread_21 (by decide) ?_
  refine lv_isub (pc := 22) hx hb dX4_spread_22 ?_
  refine lv_istore (pc := 23) (lv' := [(4, .int ((u.1 25 7) - (1 : Int32))), (3, .int p1), (2, .int (mxI 1 (u.1 2 2))), (0, .ref (a 25)), (1, .int p1)]) hx hb dX4_spread_23 hl (by decide) rfl (fun ls hl => ?_)
  obtain ⟨k4, hk4, hf⟩ := jq_1_e hf
  have jk4 : ∀ (u5 : St), k4 u5 = some uu → ∀ (H : Heap) (locs : List Loc) (ls : Array Slot), Hh D (AB N a s.heap.size) (wX N a (EB a cI cJ cR) u5) s.heap H locs → lv_has ls 5 [] → W p l e R s m args below meth c H locs 0 0 Q (F0 m 50 ls []) := by
    intro u5 hf H locs ls h hl
    rw [hk4] at hf
    exact hret (so hf) dX4_spread_50 h
  refine lq_3_e (P := fun (u1 : St) (x2 : Int32) (x3 : Int32) => ∀ (H : Heap) (locs : List Loc) (ls : Array Slot), Hh D (AB N a s.heap.size) (wX N a (EB a cI cJ cR) u1) s.heap H locs → lv_has ls 5 [(0, .ref (a 25)), (2, .int (mxI 1 (u.1 2 2))), (3, .int x2), (4, .int x3)] → W p l e R s m args below meth c H locs 0 0 Q (F0 m 25 ls [])) ?_ FU _ _ _ hf _ _ _ h (lv_sub hl [3, 2, 1, 0] rfl)
  intro rec6 irec6 u1 x2 x3 hf H locs ls h hl
  unfold B_X4_spread_25 at hf
  refine lv_iload (pc := 25) hx hb dX4_spread_25 (lv_at hl 3 rfl) ?_
  refine lv_if_lt (pc := 27) (tgt := 50) hx hb dX4_spread_27 (by decide) (fun c7 => ?_) (fun c7 => ?_)
  · have hf := if_t hf c7
    exact jk4 _ hf _ _ _ h (lv_sub hl [] rfl)
  · have hf := if_f hf c7
    refine lv_aload_n (pc := 30) hx hb dX4_spread_30 rfl (lv_at hl 0 rfl) ?_
    refine gB_25_4 (pc := 31) hNN hx hb hts hown hK h fl_X4_18 dX4_spread_31 ?_
    refine lv_iload (pc := 34) hx hb dX4_spread_34 (lv_at hl 3 rfl) ?_
    refine lv_iload_n (pc := 36) hx hb dX4_spread_36 rfl (lv_at hl 2 rfl) ?_
    refine lv_iload_n (pc := 37) hx hb dX4_spread_37 rfl (lv_at hl 1 rfl) ?_
    obtain ⟨hne, hf⟩ := ck_e hf
    refine lv_irem (pc := 38) hx hb dX4_spread_38 hne ?_
    obtain ⟨hin, hf⟩ := cki_e hf
    refine pB_28 (pc := 39) hNN hx hb hK h hin dX4_spread_39 (fun H locs h => ?_)
    obtain ⟨u8, eu8, hf⟩ := bs_e hf
    rw [← eu8] at h
    refine lv_iload_n (pc := 40) hx hb dX4_spread_40 rfl (lv_at hl 2 rfl) ?_
    refine lv_iload_n (pc := 41) hx hb dX4_spread_41 rfl (lv_at hl 1 rfl) ?_
    obtain ⟨hne, hf⟩ := ck_e hf
    refine lv_idiv (pc := 42) hx hb dX4_spread_42 hne ?_
    obtain ⟨x9, ex9, hf⟩ := bs_e hf
    refine rTop ex9 ?_
    refine lv_istore_n (pc := 43) (lv' := [(3, .int x9), (0, .ref (a 25)), (2, .int (mxI 1 (u.1 2 2))), (4, .int x3)]) hx hb dX4_spread_43 rfl hl (by decide) rfl (fun ls hl => ?_)
    refine lv_iinc (pc := 44) (v := x3 + (-1)) (lv' := [(4, .int (x3 + (-1))), (3, .int x9), (0, .ref (a 25)), (2, .int (mxI 1 (u.1 2 2)))]) hx hb dX4_spread_44 hl (k := 3) rfl rfl (by decide) rfl (fun ls hl => ?_)
    refine lv_goto (pc := 47) (tgt := 25) hx hb dX4_spread_47 (by decide) ?_
    exact irec6 _ _ _ hf _ _ _ h (lv_sub hl [2, 3, 1, 0] rfl)
theorem k_X4_spread {p : Program} {l : Launch} {e : Env} {R : Room} {s : State} {m : MethodId} {args : Array Value} {below : List Frame} {meth : Method} {c : Code} {H : Heap} {locs : List Loc} {cells slots : Nat} {Q : State → Prop} {pc : Nat} {ls : Array Slot} {rest : List Value} {cc : ByteArray} {D : va_G} {cI cJ cR : ClassId} {a : Nat → Nat} {u : St} {own : String} {index nL : Nat} {N : Nat} (hNN : 38 ≤ N) {p1 : Int32} {uu : St} (hx : p.tables.exec = Jvm.exec) (hb : c.code = cc) (hml : c.maxLocals = nL) (hown : s.vm.findClass own = some m.cls) (hts : ∀ w ∈ Gd, w.before args s = true) (hK : va_K D vwCl (tyB cI cJ cR) s) (hN : NB s) (hc : f_X4_spread u p1 = some uu) (hlk : Cond.methodLink own index yX4_spread ∈ Gd) (hF : 2 ≤ R.frames) (hLo : 45 ≤ R.locals) (h : Hh D (AB N a s.heap.size) (wX N a (EB a cI cJ cR) u) s.heap H locs) (hsize : ls.size = nL) (hcs : cells ≤ R.cells ∧ slots ≤ R.slots) (hr : (rest.map fun v => v.category).sum ≤ 8) (hdg : decode cc pc = .ok (.invokevirtual index, 3)) (kk : ∀ (H1 : Heap) (locs1 : List Loc), Hh D (AB N a s.heap.size) (wX N a (EB a cI cJ cR) uu) s.heap H1 locs1 → W p l e R s m args below meth c H1 locs1 cells slots Q (F0 m (pc + 3) ls (rest))) : W p l e R s m args below meth c H locs cells slots Q (F0 m pc ls (.int p1 :: .ref (a 25) :: rest)) :=
  cVv (n := 1) hx hb hml hown hts hK hN (c_X4_spread hNN hc) (gdV hlk im_X4_spread se_X4_spread in_X4 co_X4_spread) rfl (by decide +kernel) rfl hF hLo h hsize hcs (Nat.lt_of_lt_of_le (by decide) hNN) rfl rfl rfl hr hdg kk
def B_X4_canBe_14 (u : St) (x1 : Int32) (k7 : Int32 → Option (Int32)) (rec12 : Int32 → Int32 → Option (Int32)) (x5 : Int32) (x6 : Int32) : Option (Int32) := if (u.1 25 7) ≤ x6 then k7 x5 else cki x6 4 (cki x1 4 (if (u.1 28 (ix x6)) = (u.1 28 (ix x1)) then rec12 (x5 + (1 : Int32)) (x6 + 1) else rec12 (x5 + (0 : Int32)) (x6 + 1)))
def B_X4_canBe_2 (u : St) (k2 : Option (Int32)) (rec3 : Int32 → Option (Int32)) (x1 : Int32) : Option (Int32) := if (u.1 25 7) ≤ x1 then k2 else jq_1 (fun (x8 : Int32) => cki x1 4 (cki x1 4 (b1 (f_X11_hasBit u (u.1 27 (ix x1)) (u.1 28 (ix x1))) (fun (x9 : Int32) => if x9 = 0 then some 0 else cki x1 4 (cki (u.1 28 (ix x1)) 6 (if x8 ≤ (u.1 30 (ix (u.1 28 (ix x1)))) then rec3 (x1 + 1) else some 0)))))) (fun (k7 : Int32 → Option (Int32)) => lq_2 (B_X4_canBe_14 u x1 k7) FU 0 0)
def f_X4_canBe (u : St) : Option (Int32) := jq_0 (some 1) (fun (k2 : Option (Int32)) => lq_1 (B_X4_canBe_2 u k2) FU 0)
set_option maxRecDepth 100000 in
set_option maxHeartbeats 4000000 in
theorem c_X4_canBe {l : Launch} {D : va_G} {cI cJ cR : ClassId} {a : Nat → Nat} {u : St} {N : Nat} (hNN : 38 ≤ N) {rr : Int32} (hf : f_X4_canBe u = some rr) : Ci l yX4_canBe cX4_canBe 4 (some .boolean) 1 21 D (tyB cI cJ cR) N a (EB a cI cJ cR) [.ref (a 25)] u rr u := by
  refine metI (by decide +kernel) (Nat.le_of_ble_eq_true rfl) ?_
  intro p e s m args below meth c R Q hx hb hml hown hts hF hLo hret hK hN h ls hl
  have hown : s.vm.findClass RX4 = some m.cls := hown
  have hl : lv_has ls 4 [(0, .ref (a 25))] := hl
  unfold f_X4_canBe at hf
  refine lv_iconst (pc := 0) (v := 0) hx hb dX4_canBe_0 (by decide) ?_
  refine lv_istore_n (pc := 1) (lv' := [(1, .int 0), (0, .ref (a 25))]) hx hb dX4_canBe_1 rfl hl (by decide) rfl (fun ls hl => ?_)
  obtain ⟨k2, hk2, hf⟩ := jq_0_e hf
  have jk2 : k2 = some rr → ∀ (H : Heap) (locs : List Loc) (ls : Array Slot), Hh D (AB N a s.heap.size) (wX N a (EB a cI cJ cR) u) s.heap H locs → lv_has ls 4 [] → W p l e R s m args below meth c H locs 0 0 Q (F0 m 92 ls []) := by
    intro hf H locs ls h hl
    rw [hk2] at hf
    refine lv_iconst (pc := 92) (v := 1) hx hb dX4_canBe_92 (by decide) ?_
    exact hret (so hf) rfl rfl dX4_canBe_93 h
  refine lq_1_e (P := fun (x1 : Int32) => ∀ (H : Heap) (locs : List Loc) (ls : Array Slot), Hh D (AB N a s.heap.size) (wX N a (EB a cI cJ cR) u) s.heap H locs → lv_has ls 4 [(0, .ref (a 25)), (1, .int x1)] → W p l e R s m args below meth c H locs 0 0 Q (F0 m 2 ls [])) ?_ FU _ hf _ _ _ h (lv_sub hl [1, 0] rfl)
  intro rec3 irec3 x1 hf H locs ls h hl
  unfold B_X4_canBe_2 at hf
  refine lv_iload_n (pc := 2) hx hb dX4_canBe_2 rfl (lv_at hl 1 rfl) ?_
  refine lv_aload_n (pc := 3) hx hb dX4_canBe_3 rfl (lv_at hl 0 rfl) ?_
  refine gB_25_7 (pc := 4) hNN hx hb hts hown hK h fl_X4_35 dX4_canBe_4 ?_
  refine lv_icmp_ge (pc := 7) (tgt := 92) hx hb dX4_canBe_7 (by decide) (fun c4 => ?_) (fun c4 => ?_)
  · have hf := if_t hf c4
    exact jk2 hf _ _ _ h (lv_sub hl [] rfl)
  · have hf := if_f hf c4
    refine lv_iconst (pc := 10) (v := 0) hx hb dX4_canBe_10 (by decide) ?_
    refine lv_istore_n (pc := 11) (lv' := [(2, .int 0), (0, .ref (a 25)), (1, .int x1)]) hx hb dX4_canBe_11 rfl hl (by decide) rfl (fun ls hl => ?_)
    refine lv_iconst (pc := 12) (v := 0) hx hb dX4_canBe_12 (by decide) ?_
    refine lv_istore_n (pc := 13) (lv' := [(3, .int 0), (2, .int 0), (0, .ref (a 25)), (1, .int x1)]) hx hb dX4_canBe_13 rfl hl (by decide) rfl (fun ls hl => ?_)
    obtain ⟨k7, hk7, hf⟩ := jq_1_e hf
    have jk7 : ∀ (x8 : Int32), k7 x8 = some rr → ∀ (H : Heap) (locs : List Loc) (ls : Array Slot), Hh D (AB N a s.heap.size) (wX N a (EB a cI cJ cR) u) s.heap H locs → lv_has ls 4 [(0, .ref (a 25)), (1, .int x1), (2, .int x8)] → W p l e R s m args below meth c H locs 0 0 Q (F0 m 51 ls []) := by
      intro x8 hf H locs ls h hl
      rw [hk7] at hf
      refine lv_aload_n (pc := 51) hx hb dX4_canBe_51 rfl (lv_at hl 0 rfl) ?_
      refine gB_25_3 (pc := 52) hNN hx hb hts hown hK h fl_X4_15 dX4_canBe_52 ?_
      refine lv_iload_n (pc := 55) hx hb dX4_canBe_55 rfl (lv_at hl 1 rfl) ?_
      obtain ⟨hin, hf⟩ := cki_e hf
      refine gB_27 (pc := 56) hNN hx hb hK h hin dX4_canBe_56 ?_
      refine lv_aload_n (pc := 57) hx hb dX4_canBe_57 rfl (lv_at hl 0 rfl) ?_
      refine gB_25_4 (pc := 58) hNN hx hb hts hown hK h fl_X4_18 dX4_canBe_58 ?_
      refine lv_iload_n (pc := 61) hx hb dX4_canBe_61 rfl (lv_at hl 1 rfl) ?_
      obtain ⟨hin, hf⟩ := cki_e hf
      refine gB_28 (pc := 62) hNN hx hb hK h hin dX4_canBe_62 ?_
      obtain ⟨x9, hc, hf⟩ := b1_e hf
      refine kN_X11_hasBit (pc := 63) hNN hx hb hml hown hts hK hN hc (nl_X4_51 hN) (Nat.le_trans (by decide) hF) (Nat.le_trans (by decide) hLo) h hl.1 ⟨Nat.zero_le _, Nat.zero_le _⟩ (Nat.le_of_ble_eq_true rfl) dX4_canBe_63 (fun H locs h => ?_)
      refine lv_if_eq (pc := 66) (tgt := 84) hx hb dX4_canBe_66 (by decide) (fun c10 => ?_) (fun c10 => ?_)
      · have hf := if_t hf c10
        refine lv_iconst (pc := 84) (v := 0) hx hb dX4_canBe_84 (by decide) ?_
        exact hret (so hf) rfl rfl dX4_canBe_85 h
      · have hf := if_f hf c10
        refine lv_iload_n (pc := 69) hx hb dX4_canBe_69 rfl (lv_at hl 2 rfl) ?_
        refine lv_aload_n (pc := 70) hx hb dX4_canBe_70 rfl (lv_at hl 0 rfl) ?_
        refine gB_25_6 (pc := 71) hNN hx hb hts hown hK h fl_X4_24 dX4_canBe_71 ?_
        refine lv_aload_n (pc := 74) hx hb dX4_canBe_74 rfl (lv_at hl 0 rfl) ?_
        refine gB_25_4 (pc := 75) hNN hx hb hts hown hK h fl_X4_18 dX4_canBe_75 ?_
        refine lv_iload_n (pc := 78) hx hb dX4_canBe_78 rfl (lv_at hl 1 rfl) ?_
        obtain ⟨hin, hf⟩ := cki_e hf
        refine gB_28 (pc := 79) hNN hx hb hK h hin dX4_canBe_79 ?_
        obtain ⟨hin, hf⟩ := cki_e hf
        refine gB_30 (pc := 80) hNN hx hb hK h hin dX4_canBe_80 ?_
        refine lv_icmp_le (pc := 81) (tgt := 86) hx hb dX4_canBe_81 (by decide) (fun c11 => ?_) (fun c11 => ?_)
        · have hf := if_t hf c11
          refine lv_iinc (pc := 86) (v := x1 + 1) (lv' := [(1, .int (x1 + 1)), (0, .ref (a 25)), (2, .int x8)]) hx hb dX4_canBe_86 hl (k := 1) rfl rfl (by decide) rfl (fun ls hl => ?_)
          refine lv_goto (pc := 89) (tgt := 2) hx hb dX4_canBe_89 (by decide) ?_
          exact irec3 _ hf _ _ _ h (lv_sub hl [1, 0] rfl)
        · have hf := if_f hf c11
          refine lv_iconst (pc := 84) (v := 0) hx hb dX4_canBe_84 (by decide) ?_
          exact hret (so hf) rfl rfl dX4_canBe_85 h
    refine lq_2_e (P := fun (x5 : Int32) (x6 : Int32) => ∀ (H : Heap) (locs : List Loc) (ls : Array Slot), Hh D (AB N a s.heap.size) (wX N a (EB a cI cJ cR) u) s.heap H locs → lv_has ls 4 [(0, .ref (a 25)), (1, .int x1), (2, .int x5), (3, .int x6)] → W p l e R s m args below meth c H locs 0 0 Q (F0 m 14 ls [])) ?_ FU _ _ hf _ _ _ h (lv_sub hl [2, 3, 1, 0] rfl)
    intro rec12 irec12 x5 x6 hf H locs ls h hl
    unfold B_X4_canBe_14 at hf
    refine lv_iload_n (pc := 14) hx hb dX4_canBe_14 rfl (lv_at hl 3 rfl) ?_
    refine lv_aload_n (pc := 15) hx hb dX4_canBe_15 rfl (lv_at hl 0 rfl) ?_
    refine gB_25_7 (pc := 16) hNN hx hb hts hown hK h fl_X4_35 dX4_canBe_16 ?_
    refine lv_icmp_ge (pc := 19) (tgt := 51) hx hb dX4_canBe_19 (by decide) (fun c13 => ?_) (fun c13 => ?_)
    · have hf := if_t hf c13
      exact jk7 _ hf _ _ _ h (lv_sub hl [0, 1, 2] rfl)
    · have hf := if_f hf c13
      refine lv_iload_n (pc := 22) hx hb dX4_canBe_22 rfl (lv_at hl 2 rfl) ?_
      refine lv_aload_n (pc := 23) hx hb dX4_canBe_23 rfl (lv_at hl 0 rfl) ?_
      refine gB_25_4 (pc := 24) hNN hx hb hts hown hK h fl_X4_18 dX4_canBe_24 ?_
      refine lv_iload_n (pc := 27) hx hb dX4_canBe_27 rfl (lv_at hl 3 rfl) ?_
      obtain ⟨hin, hf⟩ := cki_e hf
      refine gB_28 (pc := 28) hNN hx hb hK h hin dX4_canBe_28 ?_
      refine lv_aload_n (pc := 29) hx hb dX4_canBe_29 rfl (lv_at hl 0 rfl) ?_
      refine gB_25_4 (pc := 30) hNN hx hb hts hown hK h fl_X4_18 dX4_canBe_30 ?_
      refine lv_iload_n (pc := 33) hx hb dX4_canBe_33 rfl (lv_at hl 1 rfl) ?_
      obtain ⟨hin, hf⟩ := cki_e hf
      refine gB_28 (pc := 34) hNN hx hb hK h hin dX4_canBe_34 ?_
      refine lv_icmp_ne (pc := 35) (tgt := 42) hx hb dX4_canBe_35 (by decide) (fun c14 => ?_) (fun c14 => ?_)
      · have hf := if_f hf c14
        refine lv_iconst (pc := 42) (v := 0) hx hb dX4_canBe_42 (by decide) ?_
        refine lv_iadd (pc := 43) hx hb dX4_canBe_43 ?_
        refine lv_istore_n (pc := 44) (lv' := [(2, .int (x5 + (0 : Int32))), (0, .ref (a 25)), (1, .int x1), (3, .int x6)]) hx hb dX4_canBe_44 rfl hl (by decide) rfl (fun ls hl => ?_)
        refine lv_iinc (pc := 45) (v := x6 + 1) (lv' := [(3, .int (x6 + 1)), (2, .int (x5 + (0 : Int32))), (0, .ref (a 25)), (1, .int x1)]) hx hb dX4_canBe_45 hl (k := 3) rfl rfl (by decide) rfl (fun ls hl => ?_)
        refine lv_goto (pc := 48) (tgt := 14) hx hb dX4_canBe_48 (by decide) ?_
        exact irec12 _ _ hf _ _ _ h (lv_sub hl [2, 3, 1, 0] rfl)
      · have hf := if_t hf c14
        refine lv_iconst (pc := 38) (v := 1) hx hb dX4_canBe_38 (by decide) ?_
        refine lv_goto (pc := 39) (tgt := 43) hx hb dX4_canBe_39 (by decide) ?_
        refine lv_iadd (pc := 43) hx hb dX4_canBe_43 ?_
        refine lv_istore_n (pc := 44) (lv' := [(2, .int (x5 + (1 : Int32))), (0, .ref (a 25)), (1, .int x1), (3, .int x6)]) hx hb dX4_canBe_44 rfl hl (by decide) rfl (fun ls hl => ?_)
        refine lv_iinc (pc := 45) (v := x6 + 1) (lv' := [(3, .int (x6 + 1)), (2, .int (x5 + (1 : Int32))), (0, .ref (a 25)), (1, .int x1)]) hx hb dX4_canBe_45 hl (k := 3) rfl rfl (by decide) rfl (fun ls hl => ?_)
        refine lv_goto (pc := 48) (tgt := 14) hx hb dX4_canBe_48 (by decide) ?_
        exact irec12 _ _ hf _ _ _ h (lv_sub hl [2, 3, 1, 0] rfl)
theorem k_X4_canBe {p : Program} {l : Launch} {e : Env} {R : Room} {s : State} {m : MethodId} {args : Array Value} {below : List Frame} {meth : Method} {c : Code} {H : Heap} {locs : List Loc} {cells slots : Nat} {Q : State → Prop} {pc : Nat} {ls : Array Slot} {rest : List Value} {cc : ByteArray} {D : va_G} {cI cJ cR : ClassId} {a : Nat → Nat} {u : St} {own : String} {index nL : Nat} {N : Nat} (hNN : 38 ≤ N) {rr : Int32} (hx : p.tables.exec = Jvm.exec) (hb : c.code = cc) (hml : c.maxLocals = nL) (hown : s.vm.findClass own = some m.cls) (hts : ∀ w ∈ Gd, w.before args s = true) (hK : va_K D vwCl (tyB cI cJ cR) s) (hN : NB s) (hc : f_X4_canBe u = some rr) (hlk : Cond.methodLink own index yX4_canBe ∈ Gd) (hF : 2 ≤ R.frames) (hLo : 44 ≤ R.locals) (h : Hh D (AB N a s.heap.size) (wX N a (EB a cI cJ cR) u) s.heap H locs) (hsize : ls.size = nL) (hcs : cells ≤ R.cells ∧ slots ≤ R.slots) (hr : (rest.map fun v => v.category).sum ≤ 8) (hdg : decode cc pc = .ok (.invokevirtual index, 3)) (kk : ∀ (H1 : Heap) (locs1 : List Loc), Hh D (AB N a s.heap.size) (wX N a (EB a cI cJ cR) u) s.heap H1 locs1 → W p l e R s m args below meth c H1 locs1 cells slots Q (F0 m (pc + 3) ls (.int rr :: rest))) : W p l e R s m args below meth c H locs cells slots Q (F0 m pc ls (.ref (a 25) :: rest)) :=
  cVi (n := 0) hx hb hml hown hts hK hN (c_X4_canBe hNN hc) (gdV hlk im_X4_canBe se_X4_canBe in_X4 co_X4_canBe) rfl (by decide +kernel) rfl hF hLo h hsize hcs (Nat.lt_of_lt_of_le (by decide) hNN) rfl rfl rfl hr hdg kk
def B_X4_workOfAll_4 (u : St) (k3 : Int32 → Option (Int32)) (rec5 : Int32 → Int32 → Option (Int32)) (x1 : Int32) (x2 : Int32) : Option (Int32) := if (u.1 25 7) ≤ x2 then k3 x1 else cki x2 4 (cki (u.1 26 (ix x2)) 8 (bs (u.1 6 (ix (u.1 26 (ix x2)))) (fun x7 : Int32 => cki x2 4 (if x7 = (u.1 28 (ix x2)) then rec5 (x1 + (0 : Int32)) (x2 + 1) else cki x2 4 (cki x2 4 (b1 (f_X9_workOf u (u.1 26 (ix x2)) x7 (u.1 28 (ix x2))) (fun (x9 : Int32) => rec5 (x1 + x9) (x2 + 1))))))))
def f_X4_workOfAll (u : St) : Option (Int32) := jq_1 (fun (x4 : Int32) => some x4) (fun (k3 : Int32 → Option (Int32)) => lq_2 (B_X4_workOfAll_4 u k3) FU 0 0)
set_option maxRecDepth 100000 in
set_option maxHeartbeats 4000000 in
theorem c_X4_workOfAll {l : Launch} {D : va_G} {cI cJ cR : ClassId} {a : Nat → Nat} {u : St} {N : Nat} (hNN : 38 ≤ N) {rr : Int32} (hf : f_X4_workOfAll u = some rr) : Ci l yX4_workOfAll cX4_workOfAll 4 (some .int) 2 45 D (tyB cI cJ cR) N a (EB a cI cJ cR) [.ref (a 25)] u rr u := by
  refine metI (by decide +kernel) (Nat.le_of_ble_eq_true rfl) ?_
  intro p e s m args below meth c R Q hx hb hml hown hts hF hLo hret hK hN h ls hl
  have hown : s.vm.findClass RX4 = some m.cls := hown
  have hl : lv_has ls 4 [(0, .ref (a 25))] := hl
  unfold f_X4_workOfAll at hf
  refine lv_iconst (pc := 0) (v := 0) hx hb dX4_workOfAll_0 (by decide) ?_
  refine lv_istore_n (pc := 1) (lv' := [(1, .int 0), (0, .ref (a 25))]) hx hb dX4_workOfAll_1 rfl hl (by decide) rfl (fun ls hl => ?_)
  refine lv_iconst (pc := 2) (v := 0) hx hb dX4_workOfAll_2 (by decide) ?_
  refine lv_istore_n (pc := 3) (lv' := [(2, .int 0), (1, .int 0), (0, .ref (a 25))]) hx hb dX4_workOfAll_3 rfl hl (by decide) rfl (fun ls hl => ?_)
  obtain ⟨k3, hk3, hf⟩ := jq_1_e hf
  have jk3 : ∀ (x4 : Int32), k3 x4 = some rr → ∀ (H : Heap) (locs : List Loc) (ls : Array Slot), Hh D (AB N a s.heap.size) (wX N a (EB a cI cJ cR) u) s.heap H locs → lv_has ls 4 [(1, .int x4)] → W p l e R s m args below meth c H locs 0 0 Q (F0 m 73 ls []) := by
    intro x4 hf H locs ls h hl
    rw [hk3] at hf
    refine lv_iload_n (pc := 73) hx hb dX4_workOfAll_73 rfl (lv_at hl 0 rfl) ?_
    exact hret (so hf) rfl rfl dX4_workOfAll_74 h
  refine lq_2_e (P := fun (x1 : Int32) (x2 : Int32) => ∀ (H : Heap) (locs : List Loc) (ls : Array Slot), Hh D (AB N a s.heap.size) (wX N a (EB a cI cJ cR) u) s.heap H locs → lv_has ls 4 [(0, .ref (a 25)), (1, .int x1), (2, .int x2)] → W p l e R s m args below meth c H locs 0 0 Q (F0 m 4 ls [])) ?_ FU _ _ hf _ _ _ h (lv_sub hl [2, 1, 0] rfl)
  intro rec5 irec5 x1 x2 hf H locs ls h hl
  unfold B_X4_workOfAll_4 at hf
  refine lv_iload_n (pc := 4) hx hb dX4_workOfAll_4 rfl (lv_at hl 2 rfl) ?_
  refine lv_aload_n (pc := 5) hx hb dX4_workOfAll_5 rfl (lv_at hl 0 rfl) ?_
  refine gB_25_7 (pc := 6) hNN hx hb hts hown hK h fl_X4_35 dX4_workOfAll_6 ?_
  refine lv_icmp_ge (pc := 9) (tgt := 73) hx hb dX4_workOfAll_9 (by decide) (fun c6 => ?_) (fun c6 => ?_)
  · have hf := if_t hf c6
    exact jk3 _ hf _ _ _ h (lv_sub hl [1] rfl)
  · have hf := if_f hf c6
    refine lv_aload_n (pc := 12) hx hb dX4_workOfAll_12 rfl (lv_at hl 0 rfl) ?_
    refine gB_25_0 (pc := 13) hNN hx hb hts hown hK h fl_X4_27 dX4_workOfAll_13 ?_
    refine gB_1_1 (pc := 16) hNN hx hb hts hown hK h fl_X4_39 dX4_workOfAll_16 ?_
    refine gB_5_0 (pc := 19) hNN hx hb hts hown hK h fl_X4_107 dX4_workOfAll_19 ?_
    refine lv_aload_n (pc := 22) hx hb dX4_workOfAll_22 rfl (lv_at hl 0 rfl) ?_
    refine gB_25_2 (pc := 23) hNN hx hb hts hown hK h fl_X4_9 dX4_workOfAll_23 ?_
    refine lv_iload_n (pc := 26) hx hb dX4_workOfAll_26 rfl (lv_at hl 2 rfl) ?_
    obtain ⟨hin, hf⟩ := cki_e hf
    refine gB_26 (pc := 27) hNN hx hb hK h hin dX4_workOfAll_27 ?_
    obtain ⟨hin, hf⟩ := cki_e hf
    refine gB_6 (pc := 28) hNN hx hb hK h hin dX4_workOfAll_28 ?_
    obtain ⟨x7, ex7, hf⟩ := bs_e hf
    refine rTop ex7 ?_
    refine lv_istore_n (pc := 29) (lv' := [(3, .int x7), (0, .ref (a 25)), (1, .int x1), (2, .int x2)]) hx hb dX4_workOfAll_29 rfl hl (by decide) rfl (fun ls hl => ?_)
    refine lv_iload_n (pc := 30) hx hb dX4_workOfAll_30 rfl (lv_at hl 2 rfl) ?_
    refine lv_iload_n (pc := 31) hx hb dX4_workOfAll_31 rfl (lv_at hl 0 rfl) ?_
    refine lv_aload_n (pc := 32) hx hb dX4_workOfAll_32 rfl (lv_at hl 1 rfl) ?_
    refine gB_25_4 (pc := 33) hNN hx hb hts hown hK h fl_X4_18 dX4_workOfAll_33 ?_
    refine lv_iload_n (pc := 36) hx hb dX4_workOfAll_36 rfl (lv_at hl 3 rfl) ?_
    obtain ⟨hin, hf⟩ := cki_e hf
    refine gB_28 (pc := 37) hNN hx hb hK h hin dX4_workOfAll_37 ?_
    refine lv_icmp_ne (pc := 38) (tgt := 45) hx hb dX4_workOfAll_38 (by decide) (fun c8 => ?_) (fun c8 => ?_)
    · have hf := if_f hf c8
      refine lv_aload_n (pc := 45) hx hb dX4_workOfAll_45 rfl (lv_at hl 1 rfl) ?_
      refine gB_25_0 (pc := 46) hNN hx hb hts hown hK h fl_X4_27 dX4_workOfAll_46 ?_
      refine lv_aload_n (pc := 49) hx hb dX4_workOfAll_49 rfl (lv_at hl 1 rfl) ?_
      refine gB_25_2 (pc := 50) hNN hx hb hts hown hK h fl_X4_9 dX4_workOfAll_50 ?_
      refine lv_iload_n (pc := 53) hx hb dX4_workOfAll_53 rfl (lv_at hl 3 rfl) ?_
      obtain ⟨hin, hf⟩ := cki_e hf
      refine gB_26 (pc := 54) hNN hx hb hK h hin dX4_workOfAll_54 ?_
      refine lv_iload_n (pc := 55) hx hb dX4_workOfAll_55 rfl (lv_at hl 0 rfl) ?_
      refine lv_aload_n (pc := 56) hx hb dX4_workOfAll_56 rfl (lv_at hl 1 rfl) ?_
      refine gB_25_4 (pc := 57) hNN hx hb hts hown hK h fl_X4_18 dX4_workOfAll_57 ?_
      refine lv_iload_n (pc := 60) hx hb dX4_workOfAll_60 rfl (lv_at hl 3 rfl) ?_
      obtain ⟨hin, hf⟩ := cki_e hf
      refine gB_28 (pc := 61) hNN hx hb hK h hin dX4_workOfAll_61 ?_
      obtain ⟨x9, hc, hf⟩ := b1_e hf
      refine k_X9_workOf (pc := 62) hNN hx hb hml hown hts hK hN hc ml_X4_110 (Nat.le_trans (by decide) hF) (Nat.le_trans (by decide) hLo) h hl.1 ⟨Nat.zero_le _, Nat.zero_le _⟩ (Nat.le_of_ble_eq_true rfl) dX4_workOfAll_62 (fun H locs h => ?_)
      refine lv_iadd (pc := 65) hx hb dX4_workOfAll_65 ?_
      refine lv_istore_n (pc := 66) (lv' := [(1, .int (x1 + x9)), (3, .int x7), (0, .ref (a 25)), (2, .int x2)]) hx hb dX4_workOfAll_66 rfl hl (by decide) rfl (fun ls hl => ?_)
      refine lv_iinc (pc := 67) (v := x2 + 1) (lv' := [(2, .int (x2 + 1)), (1, .int (x1 + x9)), (3, .int x7), (0, .ref (a 25))]) hx hb dX4_workOfAll_67 hl (k := 3) rfl rfl (by decide) rfl (fun ls hl => ?_)
      refine lv_goto (pc := 70) (tgt := 4) hx hb dX4_workOfAll_70 (by decide) ?_
      exact irec5 _ _ hf _ _ _ h (lv_sub hl [3, 1, 0] rfl)
    · have hf := if_t hf c8
      refine lv_iconst (pc := 41) (v := 0) hx hb dX4_workOfAll_41 (by decide) ?_
      refine lv_goto (pc := 42) (tgt := 65) hx hb dX4_workOfAll_42 (by decide) ?_
      refine lv_iadd (pc := 65) hx hb dX4_workOfAll_65 ?_
      refine lv_istore_n (pc := 66) (lv' := [(1, .int (x1 + (0 : Int32))), (3, .int x7), (0, .ref (a 25)), (2, .int x2)]) hx hb dX4_workOfAll_66 rfl hl (by decide) rfl (fun ls hl => ?_)
      refine lv_iinc (pc := 67) (v := x2 + 1) (lv' := [(2, .int (x2 + 1)), (1, .int (x1 + (0 : Int32))), (3, .int x7), (0, .ref (a 25))]) hx hb dX4_workOfAll_67 hl (k := 3) rfl rfl (by decide) rfl (fun ls hl => ?_)
      refine lv_goto (pc := 70) (tgt := 4) hx hb dX4_workOfAll_70 (by decide) ?_
      exact irec5 _ _ hf _ _ _ h (lv_sub hl [3, 1, 0] rfl)
theorem k_X4_workOfAll {p : Program} {l : Launch} {e : Env} {R : Room} {s : State} {m : MethodId} {args : Array Value} {below : List Frame} {meth : Method} {c : Code} {H : Heap} {locs : List Loc} {cells slots : Nat} {Q : State → Prop} {pc : Nat} {ls : Array Slot} {rest : List Value} {cc : ByteArray} {D : va_G} {cI cJ cR : ClassId} {a : Nat → Nat} {u : St} {own : String} {index nL : Nat} {N : Nat} (hNN : 38 ≤ N) {rr : Int32} (hx : p.tables.exec = Jvm.exec) (hb : c.code = cc) (hml : c.maxLocals = nL) (hown : s.vm.findClass own = some m.cls) (hts : ∀ w ∈ Gd, w.before args s = true) (hK : va_K D vwCl (tyB cI cJ cR) s) (hN : NB s) (hc : f_X4_workOfAll u = some rr) (hlk : Cond.methodLink own index yX4_workOfAll ∈ Gd) (hF : 3 ≤ R.frames) (hLo : 68 ≤ R.locals) (h : Hh D (AB N a s.heap.size) (wX N a (EB a cI cJ cR) u) s.heap H locs) (hsize : ls.size = nL) (hcs : cells ≤ R.cells ∧ slots ≤ R.slots) (hr : (rest.map fun v => v.category).sum ≤ 8) (hdg : decode cc pc = .ok (.invokevirtual index, 3)) (kk : ∀ (H1 : Heap) (locs1 : List Loc), Hh D (AB N a s.heap.size) (wX N a (EB a cI cJ cR) u) s.heap H1 locs1 → W p l e R s m args below meth c H1 locs1 cells slots Q (F0 m (pc + 3) ls (.int rr :: rest))) : W p l e R s m args below meth c H locs cells slots Q (F0 m pc ls (.ref (a 25) :: rest)) :=
  cVi (n := 0) hx hb hml hown hts hK hN (c_X4_workOfAll hNN hc) (gdV hlk im_X4_workOfAll se_X4_workOfAll in_X4 co_X4_workOfAll) rfl (by decide +kernel) rfl hF hLo h hsize hcs (Nat.lt_of_lt_of_le (by decide) hNN) rfl rfl rfl hr hdg kk
def B_X4_search_36 (x4 : Int32) (k8 : St → Int32 → Option (Int32 × St)) (rec11 : St → Int32 → Int32 → Option (Int32 × St)) (u5 : St) (x6 : Int32) (x7 : Int32) : Option (Int32 × St) := if x4 ≤ x7 then k8 u5 x6 else b1 (f_X4_spread u5 x7) (fun (u13 : St) => b1 (f_X4_canBe u13) (fun (x14 : Int32) => jq_1 (fun (x16 : Int32) => if x16 = ((-6)) then rec11 u13 x6 (x7 + 1) else if x6 = ((-6)) then bs (sA u13 29 (va_cpy (u13.1 28) (u13.1 29) 0 0 (Int32.toNatClampNeg 4))) (fun u19 : St => rec11 u19 x16 (x7 + 1)) else if x6 ≤ x16 then rec11 u13 x6 (x7 + 1) else bs (sA u13 29 (va_cpy (u13.1 28) (u13.1 29) 0 0 (Int32.toNatClampNeg 4))) (fun u21 : St => rec11 u21 x16 (x7 + 1))) (fun (k15 : Int32 → Option (Int32 × St)) => if x14 = 0 then k15 ((-6)) else b1 (f_X4_workOfAll u13) (fun (x23 : Int32) => k15 x23))))
def B_X4_search_7 (u : St) (k3 : Int32 → Option (Int32 × St)) (rec24 : Int32 → Int32 → Option (Int32 × St)) (x1 : Int32) (x2 : Int32) : Option (Int32 × St) := if (u.1 25 7) ≤ x2 then k3 x1 else rec24 (x1 * (u.1 2 2)) (x2 + 1)
def f_X4_search (u : St) : Option (Int32 × St) := jq_1 (fun (x4 : Int32) => jq_2 (fun (u9 : St) (x10 : Int32) => some (x10, u9)) (fun (k8 : St → Int32 → Option (Int32 × St)) => lq_3 (B_X4_search_36 x4 k8) FU u ((-6)) 0)) (fun (k3 : Int32 → Option (Int32 × St)) => lq_2 (B_X4_search_7 u k3) FU 1 0)
set_option maxRecDepth 100000 in
set_option maxHeartbeats 4000000 in
theorem c_X4_search {l : Launch} {D : va_G} {cI cJ cR : ClassId} {a : Nat → Nat} {u : St} {N : Nat} (hNN : 38 ≤ N) {rr : Int32} {uu : St} (hf : f_X4_search u = some (rr, uu)) : Ci l yX4_search cX4_search 5 (some .int) 3 68 D (tyB cI cJ cR) N a (EB a cI cJ cR) [.ref (a 25)] u rr uu := by
  refine metI (by decide +kernel) (Nat.le_of_ble_eq_true rfl) ?_
  intro p e s m args below meth c R Q hx hb hml hown hts hF hLo hret hK hN h ls hl
  have hown : s.vm.findClass RX4 = some m.cls := hown
  have hl : lv_has ls 5 [(0, .ref (a 25))] := hl
  unfold f_X4_search at hf
  refine lv_bipush (pc := 0) (v := (-6)) hx hb dX4_search_0 (by decide) ?_
  refine lv_istore_n (pc := 2) (lv' := [(1, .int ((-6))), (0, .ref (a 25))]) hx hb dX4_search_2 rfl hl (by decide) rfl (fun ls hl => ?_)
  refine lv_iconst (pc := 3) (v := 1) hx hb dX4_search_3 (by decide) ?_
  refine lv_istore_n (pc := 4) (lv' := [(2, .int 1), (1, .int ((-6))), (0, .ref (a 25))]) hx hb dX4_search_4 rfl hl (by decide) rfl (fun ls hl => ?_)
  refine lv_iconst (pc := 5) (v := 0) hx hb dX4_search_5 (by decide) ?_
  refine lv_istore_n (pc := 6) (lv' := [(3, .int 0), (2, .int 1), (1, .int ((-6))), (0, .ref (a 25))]) hx hb dX4_search_6 rfl hl (by decide) rfl (fun ls hl => ?_)
  obtain ⟨k3, hk3, hf⟩ := jq_1_e hf
  have jk3 : ∀ (x4 : Int32), k3 x4 = some (rr, uu) → ∀ (H : Heap) (locs : List Loc) (ls : Array Slot), Hh D (AB N a s.heap.size) (wX N a (EB a cI cJ cR) u) s.heap H locs → lv_has ls 5 [(0, .ref (a 25)), (1, .int ((-6))), (2, .int x4)] → W p l e R s m args below meth c H locs 0 0 Q (F0 m 34 ls []) := by
    intro x4 hf H locs ls h hl
    rw [hk3] at hf
    refine lv_iconst (pc := 34) (v := 0) hx hb dX4_search_34 (by decide) ?_
    refine lv_istore_n (pc := 35) (lv' := [(3, .int 0), (0, .ref (a 25)), (1, .int ((-6))), (2, .int x4)]) hx hb dX4_search_35 rfl hl (by decide) rfl (fun ls hl => ?_)
    obtain ⟨k8, hk8, hf⟩ := jq_2_e hf
    have jk8 : ∀ (u9 : St) (x10 : Int32), k8 u9 x10 = some (rr, uu) → ∀ (H : Heap) (locs : List Loc) (ls : Array Slot), Hh D (AB N a s.heap.size) (wX N a (EB a cI cJ cR) u9) s.heap H locs → lv_has ls 5 [(1, .int x10)] → W p l e R s m args below meth c H locs 0 0 Q (F0 m 106 ls []) := by
      intro u9 x10 hf H locs ls h hl
      rw [hk8] at hf
      refine lv_iload_n (pc := 106) hx hb dX4_search_106 rfl (lv_at hl 0 rfl) ?_
      exact hret (so1 hf) rfl (so2 hf) dX4_search_107 h
    refine lq_3_e (P := fun (u5 : St) (x6 : Int32) (x7 : Int32) => ∀ (H : Heap) (locs : List Loc) (ls : Array Slot), Hh D (AB N a s.heap.size) (wX N a (EB a cI cJ cR) u5) s.heap H locs → lv_has ls 5 [(0, .ref (a 25)), (1, .int x6), (2, .int x4), (3, .int x7)] → W p l e R s m args below meth c H locs 0 0 Q (F0 m 36 ls [])) ?_ FU _ _ _ hf _ _ _ h (lv_sub hl [1, 2, 3, 0] rfl)
    intro rec11 irec11 u5 x6 x7 hf H locs ls h hl
    unfold B_X4_search_36 at hf
    refine lv_iload_n (pc := 36) hx hb dX4_search_36 rfl (lv_at hl 3 rfl) ?_
    refine lv_iload_n (pc := 37) hx hb dX4_search_37 rfl (lv_at hl 2 rfl) ?_
    refine lv_icmp_ge (pc := 38) (tgt := 106) hx hb dX4_search_38 (by decide) (fun c12 => ?_) (fun c12 => ?_)
    · have hf := if_t hf c12
      exact jk8 _ _ hf _ _ _ h (lv_sub hl [1] rfl)
    · have hf := if_f hf c12
      refine lv_aload_n (pc := 41) hx hb dX4_search_41 rfl (lv_at hl 0 rfl) ?_
      refine lv_iload_n (pc := 42) hx hb dX4_search_42 rfl (lv_at hl 3 rfl) ?_
      obtain ⟨u13, hc, hf⟩ := b1_e hf
      refine k_X4_spread (pc := 43) hNN hx hb hml hown hts hK hN hc ml_X4_72 (Nat.le_trans (by decide) hF) (Nat.le_trans (by decide) hLo) h hl.1 ⟨Nat.zero_le _, Nat.zero_le _⟩ (Nat.le_of_ble_eq_true rfl) dX4_search_43 (fun H locs h => ?_)
      refine lv_aload_n (pc := 46) hx hb dX4_search_46 rfl (lv_at hl 0 rfl) ?_
      obtain ⟨x14, hc, hf⟩ := b1_e hf
      refine k_X4_canBe (pc := 47) hNN hx hb hml hown hts hK hN hc ml_X4_76 (Nat.le_trans (by decide) hF) (Nat.le_trans (by decide) hLo) h hl.1 ⟨Nat.zero_le _, Nat.zero_le _⟩ (Nat.le_of_ble_eq_true rfl) dX4_search_47 (fun H locs h => ?_)
      obtain ⟨k15, hk15, hf⟩ := jq_1_e hf
      have jk15 : ∀ (x16 : Int32), k15 x16 = some (rr, uu) → ∀ (H : Heap) (locs : List Loc) (ls : Array Slot), Hh D (AB N a s.heap.size) (wX N a (EB a cI cJ cR) u13) s.heap H locs → lv_has ls 5 [(0, .ref (a 25)), (1, .int x6), (2, .int x4), (3, .int x7)] → W p l e R s m args below meth c H locs 0 0 Q (F0 m 62 ls [.int x16]) := by
        intro x16 hf H locs ls h hl
        rw [hk15] at hf
        refine lv_istore (pc := 62) (lv' := [(4, .int x16), (0, .ref (a 25)), (1, .int x6), (2, .int x4), (3, .int x7)]) hx hb dX4_search_62 hl (by decide) rfl (fun ls hl => ?_)
        refine lv_iload (pc := 64) hx hb dX4_search_64 (lv_at hl 0 rfl) ?_
        refine lv_bipush (pc := 66) (v := (-6)) hx hb dX4_search_66 (by decide) ?_
        refine lv_icmp_eq (pc := 68) (tgt := 100) hx hb dX4_search_68 (by decide) (fun c17 => ?_) (fun c17 => ?_)
        · have hf := if_t hf c17
          refine lv_iinc (pc := 100) (v := x7 + 1) (lv' := [(3, .int (x7 + 1)), (4, .int x16), (0, .ref (a 25)), (1, .int x6), (2, .int x4)]) hx hb dX4_search_100 hl (k := 4) rfl rfl (by decide) rfl (fun ls hl => ?_)
          refine lv_goto (pc := 103) (tgt := 36) hx hb dX4_search_103 (by decide) ?_
          exact irec11 _ _ _ hf _ _ _ h (lv_sub hl [2, 3, 4, 0] rfl)
        · have hf := if_f hf c17
          refine lv_iload_n (pc := 71) hx hb dX4_search_71 rfl (lv_at hl 2 rfl) ?_
          refine lv_bipush (pc := 72) (v := (-6)) hx hb dX4_search_72 (by decide) ?_
          refine lv_icmp_eq (pc := 74) (tgt := 83) hx hb dX4_search_74 (by decide) (fun c18 => ?_) (fun c18 => ?_)
          · have hf := if_t hf c18
            refine lv_iload (pc := 83) hx hb dX4_search_83 (lv_at hl 0 rfl) ?_
            refine lv_istore_n (pc := 85) (lv' := [(1, .int x16), (4, .int x16), (0, .ref (a 25)), (2, .int x4), (3, .int x7)]) hx hb dX4_search_85 rfl hl (by decide) rfl (fun ls hl => ?_)
            refine lv_aload_n (pc := 86) hx hb dX4_search_86 rfl (lv_at hl 2 rfl) ?_
            refine gB_25_4 (pc := 87) hNN hx hb hts hown hK h fl_X4_18 dX4_search_87 ?_
            refine lv_iconst (pc := 90) (v := 0) hx hb dX4_search_90 (by decide) ?_
            refine lv_aload_n (pc := 91) hx hb dX4_search_91 rfl (lv_at hl 2 rfl) ?_
            refine gB_25_5 (pc := 92) hNN hx hb hts hown hK h fl_X4_21 dX4_search_92 ?_
            refine lv_iconst (pc := 95) (v := 0) hx hb dX4_search_95 (by decide) ?_
            refine lv_iconst (pc := 96) (v := 4) hx hb dX4_search_96 (by decide) ?_
            refine rCpyI (pc := 97)  hx hb (hml.trans hl.1.symm) hown hts ml_X4_84 hK h 28 29 (Nat.lt_of_lt_of_le (by decide) hNN) (Nat.lt_of_lt_of_le (by decide) hNN) 0 (fun _ => rfl) (fun _ => rfl) rfl (by decide) (by decide) (by decide) (Nat.le_trans (by decide) hF) (Nat.le_trans (by decide) hLo) (Nat.le_of_ble_eq_true rfl) dX4_search_97 (fun H locs h => ?_)
            obtain ⟨u19, eu19, hf⟩ := bs_e hf
            rw [← eu19] at h
            refine lv_iinc (pc := 100) (v := x7 + 1) (lv' := [(3, .int (x7 + 1)), (1, .int x16), (4, .int x16), (0, .ref (a 25)), (2, .int x4)]) hx hb dX4_search_100 hl (k := 4) rfl rfl (by decide) rfl (fun ls hl => ?_)
            refine lv_goto (pc := 103) (tgt := 36) hx hb dX4_search_103 (by decide) ?_
            exact irec11 _ _ _ hf _ _ _ h (lv_sub hl [3, 1, 4, 0] rfl)
          · have hf := if_f hf c18
            refine lv_iload (pc := 77) hx hb dX4_search_77 (lv_at hl 0 rfl) ?_
            refine lv_iload_n (pc := 79) hx hb dX4_search_79 rfl (lv_at hl 2 rfl) ?_
            refine lv_icmp_ge (pc := 80) (tgt := 100) hx hb dX4_search_80 (by decide) (fun c20 => ?_) (fun c20 => ?_)
            · have hf := if_t hf c20
              refine lv_iinc (pc := 100) (v := x7 + 1) (lv' := [(3, .int (x7 + 1)), (4, .int x16), (0, .ref (a 25)), (1, .int x6), (2, .int x4)]) hx hb dX4_search_100 hl (k := 4) rfl rfl (by decide) rfl (fun ls hl => ?_)
              refine lv_goto (pc := 103) (tgt := 36) hx hb dX4_search_103 (by decide) ?_
              exact irec11 _ _ _ hf _ _ _ h (lv_sub hl [2, 3, 4, 0] rfl)
            · have hf := if_f hf c20
              refine lv_iload (pc := 83) hx hb dX4_search_83 (lv_at hl 0 rfl) ?_
              refine lv_istore_n (pc := 85) (lv' := [(1, .int x16), (4, .int x16), (0, .ref (a 25)), (2, .int x4), (3, .int x7)]) hx hb dX4_search_85 rfl hl (by decide) rfl (fun ls hl => ?_)
              refine lv_aload_n (pc := 86) hx hb dX4_search_86 rfl (lv_at hl 2 rfl) ?_
              refine gB_25_4 (pc := 87) hNN hx hb hts hown hK h fl_X4_18 dX4_search_87 ?_
              refine lv_iconst (pc := 90) (v := 0) hx hb dX4_search_90 (by decide) ?_
              refine lv_aload_n (pc := 91) hx hb dX4_search_91 rfl (lv_at hl 2 rfl) ?_
              refine gB_25_5 (pc := 92) hNN hx hb hts hown hK h fl_X4_21 dX4_search_92 ?_
              refine lv_iconst (pc := 95) (v := 0) hx hb dX4_search_95 (by decide) ?_
              refine lv_iconst (pc := 96) (v := 4) hx hb dX4_search_96 (by decide) ?_
              refine rCpyI (pc := 97)  hx hb (hml.trans hl.1.symm) hown hts ml_X4_84 hK h 28 29 (Nat.lt_of_lt_of_le (by decide) hNN) (Nat.lt_of_lt_of_le (by decide) hNN) 0 (fun _ => rfl) (fun _ => rfl) rfl (by decide) (by decide) (by decide) (Nat.le_trans (by decide) hF) (Nat.le_trans (by decide) hLo) (Nat.le_of_ble_eq_true rfl) dX4_search_97 (fun H locs h => ?_)
              obtain ⟨u21, eu21, hf⟩ := bs_e hf
              rw [← eu21] at h
              refine lv_iinc (pc := 100) (v := x7 + 1) (lv' := [(3, .int (x7 + 1)), (1, .int x16), (4, .int x16), (0, .ref (a 25)), (2, .int x4)]) hx hb dX4_search_100 hl (k := 4) rfl rfl (by decide) rfl (fun ls hl => ?_)
              refine lv_goto (pc := 103) (tgt := 36) hx hb dX4_search_103 (by decide) ?_
              exact irec11 _ _ _ hf _ _ _ h (lv_sub hl [3, 1, 4, 0] rfl)
      refine lv_if_eq (pc := 50) (tgt := 60) hx hb dX4_search_50 (by decide) (fun c22 => ?_) (fun c22 => ?_)
      · have hf := if_t hf c22
        refine lv_bipush (pc := 60) (v := (-6)) hx hb dX4_search_60 (by decide) ?_
        exact jk15 _ hf _ _ _ h (lv_sub hl [0, 1, 2, 3] rfl)
      · have hf := if_f hf c22
        refine lv_aload_n (pc := 53) hx hb dX4_search_53 rfl (lv_at hl 0 rfl) ?_
        obtain ⟨x23, hc, hf⟩ := b1_e hf
        refine k_X4_workOfAll (pc := 54) hNN hx hb hml hown hts hK hN hc ml_X4_80 (Nat.le_trans (by decide) hF) (Nat.le_trans (by decide) hLo) h hl.1 ⟨Nat.zero_le _, Nat.zero_le _⟩ (Nat.le_of_ble_eq_true rfl) dX4_search_54 (fun H locs h => ?_)
        refine lv_goto (pc := 57) (tgt := 62) hx hb dX4_search_57 (by decide) ?_
        exact jk15 _ hf _ _ _ h (lv_sub hl [0, 1, 2, 3] rfl)
  refine lq_2_e (P := fun (x1 : Int32) (x2 : Int32) => ∀ (H : Heap) (locs : List Loc) (ls : Array Slot), Hh D (AB N a s.heap.size) (wX N a (EB a cI cJ cR) u) s.heap H locs → lv_has ls 5 [(0, .ref (a 25)), (1, .int ((-6))), (2, .int x1), (3, .int x2)] → W p l e R s m args below meth c H locs 0 0 Q (F0 m 7 ls [])) ?_ FU _ _ hf _ _ _ h (lv_sub hl [3, 2, 1, 0] rfl)
  intro rec24 irec24 x1 x2 hf H locs ls h hl
  unfold B_X4_search_7 at hf
  refine lv_iload_n (pc := 7) hx hb dX4_search_7 rfl (lv_at hl 3 rfl) ?_
  refine lv_aload_n (pc := 8) hx hb dX4_search_8 rfl (lv_at hl 0 rfl) ?_
  refine gB_25_7 (pc := 9) hNN hx hb hts hown hK h fl_X4_35 dX4_search_9 ?_
  refine lv_icmp_ge (pc := 12) (tgt := 34) hx hb dX4_search_12 (by decide) (fun c25 => ?_) (fun c25 => ?_)
  · have hf := if_t hf c25
    exact jk3 _ hf _ _ _ h (lv_sub hl [0, 1, 2] rfl)
  · have hf := if_f hf c25
    refine lv_iload_n (pc := 15) hx hb dX4_search_15 rfl (lv_at hl 2 rfl) ?_
    refine lv_aload_n (pc := 16) hx hb dX4_search_16 rfl (lv_at hl 0 rfl) ?_
    refine gB_25_0 (pc := 17) hNN hx hb hts hown hK h fl_X4_27 dX4_search_17 ?_
    refine gB_1_0 (pc := 20) hNN hx hb hts hown hK h fl_X4_59 dX4_search_20 ?_
    refine gB_2_2 (pc := 23) hNN hx hb hts hown hK h fl_X4_71 dX4_search_23 ?_
    refine lv_imul (pc := 26) hx hb dX4_search_26 ?_
    refine lv_istore_n (pc := 27) (lv' := [(2, .int (x1 * (u.1 2 2))), (0, .ref (a 25)), (1, .int ((-6))), (3, .int x2)]) hx hb dX4_search_27 rfl hl (by decide) rfl (fun ls hl => ?_)
    refine lv_iinc (pc := 28) (v := x2 + 1) (lv' := [(3, .int (x2 + 1)), (2, .int (x1 * (u.1 2 2))), (0, .ref (a 25)), (1, .int ((-6)))]) hx hb dX4_search_28 hl (k := 3) rfl rfl (by decide) rfl (fun ls hl => ?_)
    refine lv_goto (pc := 31) (tgt := 7) hx hb dX4_search_31 (by decide) ?_
    exact irec24 _ _ hf _ _ _ h (lv_sub hl [2, 3, 1, 0] rfl)
theorem k_X4_search {p : Program} {l : Launch} {e : Env} {R : Room} {s : State} {m : MethodId} {args : Array Value} {below : List Frame} {meth : Method} {c : Code} {H : Heap} {locs : List Loc} {cells slots : Nat} {Q : State → Prop} {pc : Nat} {ls : Array Slot} {rest : List Value} {cc : ByteArray} {D : va_G} {cI cJ cR : ClassId} {a : Nat → Nat} {u : St} {own : String} {index nL : Nat} {N : Nat} (hNN : 38 ≤ N) {rr : Int32} {uu : St} (hx : p.tables.exec = Jvm.exec) (hb : c.code = cc) (hml : c.maxLocals = nL) (hown : s.vm.findClass own = some m.cls) (hts : ∀ w ∈ Gd, w.before args s = true) (hK : va_K D vwCl (tyB cI cJ cR) s) (hN : NB s) (hc : f_X4_search u = some (rr, uu)) (hlk : Cond.methodLink own index yX4_search ∈ Gd) (hF : 4 ≤ R.frames) (hLo : 92 ≤ R.locals) (h : Hh D (AB N a s.heap.size) (wX N a (EB a cI cJ cR) u) s.heap H locs) (hsize : ls.size = nL) (hcs : cells ≤ R.cells ∧ slots ≤ R.slots) (hr : (rest.map fun v => v.category).sum ≤ 8) (hdg : decode cc pc = .ok (.invokevirtual index, 3)) (kk : ∀ (H1 : Heap) (locs1 : List Loc), Hh D (AB N a s.heap.size) (wX N a (EB a cI cJ cR) uu) s.heap H1 locs1 → W p l e R s m args below meth c H1 locs1 cells slots Q (F0 m (pc + 3) ls (.int rr :: rest))) : W p l e R s m args below meth c H locs cells slots Q (F0 m pc ls (.ref (a 25) :: rest)) :=
  cVi (n := 0) hx hb hml hown hts hK hN (c_X4_search hNN hc) (gdV hlk im_X4_search se_X4_search in_X4 co_X4_search) rfl (by decide +kernel) rfl hF hLo h hsize hcs (Nat.lt_of_lt_of_le (by decide) hNN) rfl rfl rfl hr hdg kk
def B_X4_cellarOf_2 (p1 : Int32) (u : St) (k2 : Option (Int32)) (rec3 : Int32 → Option (Int32)) (x1 : Int32) : Option (Int32) := if (u.1 25 7) ≤ x1 then k2 else cki x1 4 (if (u.1 26 (ix x1)) = p1 then cki x1 4 (some (u.1 29 (ix x1))) else rec3 (x1 + 1))
def f_X4_cellarOf (u : St) (p1 : Int32) : Option (Int32) := jq_0 (some ((-1))) (fun (k2 : Option (Int32)) => lq_1 (B_X4_cellarOf_2 p1 u k2) FU 0)
set_option maxRecDepth 100000 in
set_option maxHeartbeats 4000000 in
theorem c_X4_cellarOf {l : Launch} {D : va_G} {cI cJ cR : ClassId} {a : Nat → Nat} {u : St} {N : Nat} (hNN : 38 ≤ N) {p1 : Int32} {rr : Int32} (hf : f_X4_cellarOf u p1 = some rr) : Ci l yX4_cellarOf cX4_cellarOf 3 (some .int) 0 0 D (tyB cI cJ cR) N a (EB a cI cJ cR) [.ref (a 25), .int p1] u rr u := by
  refine metI (by decide +kernel) (Nat.le_of_ble_eq_true rfl) ?_
  intro p e s m args below meth c R Q hx hb hml hown hts hF hLo hret hK hN h ls hl
  have hown : s.vm.findClass RX4 = some m.cls := hown
  have hl : lv_has ls 3 [(0, .ref (a 25)), (1, .int p1)] := hl
  unfold f_X4_cellarOf at hf
  refine lv_iconst (pc := 0) (v := 0) hx hb dX4_cellarOf_0 (by decide) ?_
  refine lv_istore_n (pc := 1) (lv' := [(2, .int 0), (0, .ref (a 25)), (1, .int p1)]) hx hb dX4_cellarOf_1 rfl hl (by decide) rfl (fun ls hl => ?_)
  obtain ⟨k2, hk2, hf⟩ := jq_0_e hf
  have jk2 : k2 = some rr → ∀ (H : Heap) (locs : List Loc) (ls : Array Slot), Hh D (AB N a s.heap.size) (wX N a (EB a cI cJ cR) u) s.heap H locs → lv_has ls 3 [] → W p l e R s m args below meth c H locs 0 0 Q (F0 m 33 ls []) := by
    intro hf H locs ls h hl
    rw [hk2] at hf
    refine lv_iconst (pc := 33) (v := (-1)) hx hb dX4_cellarOf_33 (by decide) ?_
    exact hret (so hf) rfl rfl dX4_cellarOf_34 h
  refine lq_1_e (P := fun (x1 : Int32) => ∀ (H : Heap) (locs : List Loc) (ls : Array Slot), Hh D (AB N a s.heap.size) (wX N a (EB a cI cJ cR) u) s.heap H locs → lv_has ls 3 [(0, .ref (a 25)), (1, .int p1), (2, .int x1)] → W p l e R s m args below meth c H locs 0 0 Q (F0 m 2 ls [])) ?_ FU _ hf _ _ _ h (lv_sub hl [1, 2, 0] rfl)
  intro rec3 irec3 x1 hf H locs ls h hl
  unfold B_X4_cellarOf_2 at hf
  refine lv_iload_n (pc := 2) hx hb dX4_cellarOf_2 rfl (lv_at hl 2 rfl) ?_
  refine lv_aload_n (pc := 3) hx hb dX4_cellarOf_3 rfl (lv_at hl 0 rfl) ?_
  refine gB_25_7 (pc := 4) hNN hx hb hts hown hK h fl_X4_35 dX4_cellarOf_4 ?_
  refine lv_icmp_ge (pc := 7) (tgt := 33) hx hb dX4_cellarOf_7 (by decide) (fun c4 => ?_) (fun c4 => ?_)
  · have hf := if_t hf c4
    exact jk2 hf _ _ _ h (lv_sub hl [] rfl)
  · have hf := if_f hf c4
    refine lv_aload_n (pc := 10) hx hb dX4_cellarOf_10 rfl (lv_at hl 0 rfl) ?_
    refine gB_25_2 (pc := 11) hNN hx hb hts hown hK h fl_X4_9 dX4_cellarOf_11 ?_
    refine lv_iload_n (pc := 14) hx hb dX4_cellarOf_14 rfl (lv_at hl 2 rfl) ?_
    obtain ⟨hin, hf⟩ := cki_e hf
    refine gB_26 (pc := 15) hNN hx hb hK h hin dX4_cellarOf_15 ?_
    refine lv_iload_n (pc := 16) hx hb dX4_cellarOf_16 rfl (lv_at hl 1 rfl) ?_
    refine lv_icmp_ne (pc := 17) (tgt := 27) hx hb dX4_cellarOf_17 (by decide) (fun c5 => ?_) (fun c5 => ?_)
    · have hf := if_f hf c5
      refine lv_iinc (pc := 27) (v := x1 + 1) (lv' := [(2, .int (x1 + 1)), (0, .ref (a 25)), (1, .int p1)]) hx hb dX4_cellarOf_27 hl (k := 2) rfl rfl (by decide) rfl (fun ls hl => ?_)
      refine lv_goto (pc := 30) (tgt := 2) hx hb dX4_cellarOf_30 (by decide) ?_
      exact irec3 _ hf _ _ _ h (lv_sub hl [1, 2, 0] rfl)
    · have hf := if_t hf c5
      refine lv_aload_n (pc := 20) hx hb dX4_cellarOf_20 rfl (lv_at hl 0 rfl) ?_
      refine gB_25_5 (pc := 21) hNN hx hb hts hown hK h fl_X4_21 dX4_cellarOf_21 ?_
      refine lv_iload_n (pc := 24) hx hb dX4_cellarOf_24 rfl (lv_at hl 2 rfl) ?_
      obtain ⟨hin, hf⟩ := cki_e hf
      refine gB_29 (pc := 25) hNN hx hb hK h hin dX4_cellarOf_25 ?_
      exact hret (so hf) rfl rfl dX4_cellarOf_26 h
theorem k_X4_cellarOf {p : Program} {l : Launch} {e : Env} {R : Room} {s : State} {m : MethodId} {args : Array Value} {below : List Frame} {meth : Method} {c : Code} {H : Heap} {locs : List Loc} {cells slots : Nat} {Q : State → Prop} {pc : Nat} {ls : Array Slot} {rest : List Value} {cc : ByteArray} {D : va_G} {cI cJ cR : ClassId} {a : Nat → Nat} {u : St} {own : String} {index nL : Nat} {N : Nat} (hNN : 38 ≤ N) {p1 : Int32} {rr : Int32} (hx : p.tables.exec = Jvm.exec) (hb : c.code = cc) (hml : c.maxLocals = nL) (hown : s.vm.findClass own = some m.cls) (hts : ∀ w ∈ Gd, w.before args s = true) (hK : va_K D vwCl (tyB cI cJ cR) s) (hN : NB s) (hc : f_X4_cellarOf u p1 = some rr) (hlk : Cond.methodLink own index yX4_cellarOf ∈ Gd) (hF : 1 ≤ R.frames) (hLo : 22 ≤ R.locals) (h : Hh D (AB N a s.heap.size) (wX N a (EB a cI cJ cR) u) s.heap H locs) (hsize : ls.size = nL) (hcs : cells ≤ R.cells ∧ slots ≤ R.slots) (hr : (rest.map fun v => v.category).sum ≤ 8) (hdg : decode cc pc = .ok (.invokevirtual index, 3)) (kk : ∀ (H1 : Heap) (locs1 : List Loc), Hh D (AB N a s.heap.size) (wX N a (EB a cI cJ cR) u) s.heap H1 locs1 → W p l e R s m args below meth c H1 locs1 cells slots Q (F0 m (pc + 3) ls (.int rr :: rest))) : W p l e R s m args below meth c H locs cells slots Q (F0 m pc ls (.int p1 :: .ref (a 25) :: rest)) :=
  cVi (n := 1) hx hb hml hown hts hK hN (c_X4_cellarOf hNN hc) (gdV hlk im_X4_cellarOf se_X4_cellarOf in_X4 co_X4_cellarOf) rfl (by decide +kernel) rfl hF hLo h hsize hcs (Nat.lt_of_lt_of_le (by decide) hNN) rfl rfl rfl hr hdg kk
def f_X7_hasAll (u : St) (p1 : Int32) : Option (Int32) := if (p1 &&& ((u.1 5 4) ^^^ (-1 : Int32))) = 0 then some 1 else some 0
set_option maxRecDepth 100000 in
set_option maxHeartbeats 4000000 in
theorem c_X7_hasAll {l : Launch} {D : va_G} {cI cJ cR : ClassId} {a : Nat → Nat} {u : St} {N : Nat} (hNN : 38 ≤ N) {p1 : Int32} {rr : Int32} (hf : f_X7_hasAll u p1 = some rr) : Ci l yX7_hasAll cX7_hasAll 2 (some .boolean) 0 0 D (tyB cI cJ cR) N a (EB a cI cJ cR) [.ref (a 5), .int p1] u rr u := by
  refine metI (by decide +kernel) (Nat.le_of_ble_eq_true rfl) ?_
  intro p e s m args below meth c R Q hx hb hml hown hts hF hLo hret hK hN h ls hl
  have hown : s.vm.findClass RX7 = some m.cls := hown
  have hl : lv_has ls 2 [(0, .ref (a 5)), (1, .int p1)] := hl
  unfold f_X7_hasAll at hf
  refine lv_iload_n (pc := 0) hx hb dX7_hasAll_0 rfl (lv_at hl 1 rfl) ?_
  refine lv_aload_n (pc := 1) hx hb dX7_hasAll_1 rfl (lv_at hl 0 rfl) ?_
  refine gB_5_4 (pc := 2) hNN hx hb hts hown hK h fl_X7_24 dX7_hasAll_2 ?_
  refine lv_iconst (pc := 5) (v := (-1)) hx hb dX7_hasAll_5 (by decide) ?_
  refine lv_ixor (pc := 6) hx hb dX7_hasAll_6 ?_
  refine lv_iand (pc := 7) hx hb dX7_hasAll_7 ?_
  refine lv_if_ne (pc := 8) (tgt := 15) hx hb dX7_hasAll_8 (by decide) (fun c1 => ?_) (fun c1 => ?_)
  · have hf := if_f hf c1
    refine lv_iconst (pc := 15) (v := 0) hx hb dX7_hasAll_15 (by decide) ?_
    exact hret (so hf) rfl rfl dX7_hasAll_16 h
  · have hf := if_t hf c1
    refine lv_iconst (pc := 11) (v := 1) hx hb dX7_hasAll_11 (by decide) ?_
    refine lv_goto (pc := 12) (tgt := 16) hx hb dX7_hasAll_12 (by decide) ?_
    exact hret (so hf) rfl rfl dX7_hasAll_16 h
theorem k_X7_hasAll {p : Program} {l : Launch} {e : Env} {R : Room} {s : State} {m : MethodId} {args : Array Value} {below : List Frame} {meth : Method} {c : Code} {H : Heap} {locs : List Loc} {cells slots : Nat} {Q : State → Prop} {pc : Nat} {ls : Array Slot} {rest : List Value} {cc : ByteArray} {D : va_G} {cI cJ cR : ClassId} {a : Nat → Nat} {u : St} {own : String} {index nL : Nat} {N : Nat} (hNN : 38 ≤ N) {p1 : Int32} {rr : Int32} (hx : p.tables.exec = Jvm.exec) (hb : c.code = cc) (hml : c.maxLocals = nL) (hown : s.vm.findClass own = some m.cls) (hts : ∀ w ∈ Gd, w.before args s = true) (hK : va_K D vwCl (tyB cI cJ cR) s) (hN : NB s) (hc : f_X7_hasAll u p1 = some rr) (hlk : Cond.methodLink own index yX7_hasAll ∈ Gd) (hF : 1 ≤ R.frames) (hLo : 21 ≤ R.locals) (h : Hh D (AB N a s.heap.size) (wX N a (EB a cI cJ cR) u) s.heap H locs) (hsize : ls.size = nL) (hcs : cells ≤ R.cells ∧ slots ≤ R.slots) (hr : (rest.map fun v => v.category).sum ≤ 8) (hdg : decode cc pc = .ok (.invokevirtual index, 3)) (kk : ∀ (H1 : Heap) (locs1 : List Loc), Hh D (AB N a s.heap.size) (wX N a (EB a cI cJ cR) u) s.heap H1 locs1 → W p l e R s m args below meth c H1 locs1 cells slots Q (F0 m (pc + 3) ls (.int rr :: rest))) : W p l e R s m args below meth c H locs cells slots Q (F0 m pc ls (.int p1 :: .ref (a 5) :: rest)) :=
  cVi (n := 1) hx hb hml hown hts hK hN (c_X7_hasAll hNN hc) (gdV hlk im_X7_hasAll se_X7_hasAll in_X7 co_X7_hasAll) rfl (by decide +kernel) rfl hF hLo h hsize hcs (Nat.lt_of_lt_of_le (by decide) hNN) rfl rfl rfl hr hdg kk
def f_J6_numberOfTrailingZeros_0f7a4 (u : St) (p1 : Int32) : Option (Int32) := bs ((p1 ^^^ (-1 : Int32)) &&& (p1 - (1 : Int32))) (fun x1 : Int32 => if 0 < x1 then jq_2 (fun (x4 : Int32) (x5 : Int32) => jq_2 (fun (x7 : Int32) (x8 : Int32) => jq_2 (fun (x10 : Int32) (x11 : Int32) => if x10 ≤ 4 then some (x11 + (iusr x10 1)) else some ((x11 + 2) + (iusr (iusr x10 2) 1))) (fun (k9 : Int32 → Int32 → Option (Int32)) => if x7 ≤ 16 then k9 x7 x8 else k9 (iusr x7 4) (x8 + 4))) (fun (k6 : Int32 → Int32 → Option (Int32)) => if x4 ≤ 256 then k6 x4 x5 else k6 (iusr x4 8) (x5 + 8))) (fun (k3 : Int32 → Int32 → Option (Int32)) => if x1 ≤ 65536 then k3 x1 1 else k3 (iusr x1 16) (1 + 16)) else some (x1 &&& (32 : Int32)))
set_option maxRecDepth 100000 in
set_option maxHeartbeats 4000000 in
theorem c_J6_numberOfTrailingZeros_0f7a4 {l : Launch} {D : va_G} {cI cJ cR : ClassId} {a : Nat → Nat} {u : St} {N : Nat} (hNN : 38 ≤ N) {p1 : Int32} {rr : Int32} (hf : f_J6_numberOfTrailingZeros_0f7a4 u p1 = some rr) : Ci l yJ6_numberOfTrailingZeros_0f7a4 cJ6_numberOfTrailingZeros_0f7a4 2 (some .int) 0 0 D (tyB cI cJ cR) N a (EB a cI cJ cR) [.int p1] u rr u := by
  refine metI (by decide +kernel) (Nat.le_of_ble_eq_true rfl) ?_
  intro p e s m args below meth c R Q hx hb hml hown hts hF hLo hret hK hN h ls hl
  have hown : s.vm.findClass RJ6 = some m.cls := hown
  have hl : lv_has ls 2 [(0, .int p1)] := hl
  unfold f_J6_numberOfTrailingZeros_0f7a4 at hf
  refine lv_iload_n (pc := 0) hx hb dJ6_numberOfTrailingZeros_0f7a4_0 rfl (lv_at hl 0 rfl) ?_
  refine lv_iconst (pc := 1) (v := (-1)) hx hb dJ6_numberOfTrailingZeros_0f7a4_1 (by decide) ?_
  refine lv_ixor (pc := 2) hx hb dJ6_numberOfTrailingZeros_0f7a4_2 ?_
  refine lv_iload_n (pc := 3) hx hb dJ6_numberOfTrailingZeros_0f7a4_3 rfl (lv_at hl 0 rfl) ?_
  refine lv_iconst (pc := 4) (v := 1) hx hb dJ6_numberOfTrailingZeros_0f7a4_4 (by decide) ?_
  refine lv_isub (pc := 5) hx hb dJ6_numberOfTrailingZeros_0f7a4_5 ?_
  refine lv_iand (pc := 6) hx hb dJ6_numberOfTrailingZeros_0f7a4_6 ?_
  obtain ⟨x1, ex1, hf⟩ := bs_e hf
  refine rTop ex1 ?_
  refine lv_istore_n (pc := 7) (lv' := [(0, .int x1)]) hx hb dJ6_numberOfTrailingZeros_0f7a4_7 rfl hl (by decide) rfl (fun ls hl => ?_)
  refine lv_iload_n (pc := 8) hx hb dJ6_numberOfTrailingZeros_0f7a4_8 rfl (lv_at hl 0 rfl) ?_
  refine lv_if_gt (pc := 9) (tgt := 17) hx hb dJ6_numberOfTrailingZeros_0f7a4_9 (by decide) (fun c2 => ?_) (fun c2 => ?_)
  · have hf := if_t hf c2
    refine lv_iconst (pc := 17) (v := 1) hx hb dJ6_numberOfTrailingZeros_0f7a4_17 (by decide) ?_
    refine lv_istore_n (pc := 18) (lv' := [(1, .int 1), (0, .int x1)]) hx hb dJ6_numberOfTrailingZeros_0f7a4_18 rfl hl (by decide) rfl (fun ls hl => ?_)
    refine lv_iload_n (pc := 19) hx hb dJ6_numberOfTrailingZeros_0f7a4_19 rfl (lv_at hl 1 rfl) ?_
    refine lv_ldcw (pc := 20) hx hb hown (hts _ ct_J6_264) dJ6_numberOfTrailingZeros_0f7a4_20 ?_
    obtain ⟨k3, hk3, hf⟩ := jq_2_e hf
    have jk3 : ∀ (x4 : Int32) (x5 : Int32), k3 x4 x5 = some rr → ∀ (H : Heap) (locs : List Loc) (ls : Array Slot), Hh D (AB N a s.heap.size) (wX N a (EB a cI cJ cR) u) s.heap H locs → lv_has ls 2 [(0, .int x4), (1, .int x5)] → W p l e R s m args below meth c H locs 0 0 Q (F0 m 34 ls []) := by
      intro x4 x5 hf H locs ls h hl
      rw [hk3] at hf
      refine lv_iload_n (pc := 34) hx hb dJ6_numberOfTrailingZeros_0f7a4_34 rfl (lv_at hl 0 rfl) ?_
      refine lv_sipush (pc := 35) (v := 256) hx hb dJ6_numberOfTrailingZeros_0f7a4_35 (by decide) ?_
      obtain ⟨k6, hk6, hf⟩ := jq_2_e hf
      have jk6 : ∀ (x7 : Int32) (x8 : Int32), k6 x7 x8 = some rr → ∀ (H : Heap) (locs : List Loc) (ls : Array Slot), Hh D (AB N a s.heap.size) (wX N a (EB a cI cJ cR) u) s.heap H locs → lv_has ls 2 [(0, .int x7), (1, .int x8)] → W p l e R s m args below meth c H locs 0 0 Q (F0 m 49 ls []) := by
        intro x7 x8 hf H locs ls h hl
        rw [hk6] at hf
        refine lv_iload_n (pc := 49) hx hb dJ6_numberOfTrailingZeros_0f7a4_49 rfl (lv_at hl 0 rfl) ?_
        refine lv_bipush (pc := 50) (v := 16) hx hb dJ6_numberOfTrailingZeros_0f7a4_50 (by decide) ?_
        obtain ⟨k9, hk9, hf⟩ := jq_2_e hf
        have jk9 : ∀ (x10 : Int32) (x11 : Int32), k9 x10 x11 = some rr → ∀ (H : Heap) (locs : List Loc) (ls : Array Slot), Hh D (AB N a s.heap.size) (wX N a (EB a cI cJ cR) u) s.heap H locs → lv_has ls 2 [(0, .int x10), (1, .int x11)] → W p l e R s m args below meth c H locs 0 0 Q (F0 m 62 ls []) := by
          intro x10 x11 hf H locs ls h hl
          rw [hk9] at hf
          refine lv_iload_n (pc := 62) hx hb dJ6_numberOfTrailingZeros_0f7a4_62 rfl (lv_at hl 0 rfl) ?_
          refine lv_iconst (pc := 63) (v := 4) hx hb dJ6_numberOfTrailingZeros_0f7a4_63 (by decide) ?_
          refine lv_icmp_le (pc := 64) (tgt := 74) hx hb dJ6_numberOfTrailingZeros_0f7a4_64 (by decide) (fun c12 => ?_) (fun c12 => ?_)
          · have hf := if_t hf c12
            refine lv_iload_n (pc := 74) hx hb dJ6_numberOfTrailingZeros_0f7a4_74 rfl (lv_at hl 1 rfl) ?_
            refine lv_iload_n (pc := 75) hx hb dJ6_numberOfTrailingZeros_0f7a4_75 rfl (lv_at hl 0 rfl) ?_
            refine lv_iconst (pc := 76) (v := 1) hx hb dJ6_numberOfTrailingZeros_0f7a4_76 (by decide) ?_
            refine lv_iushr (pc := 77) (v := iusr x10 1) hx hb dJ6_numberOfTrailingZeros_0f7a4_77 rfl ?_
            refine lv_iadd (pc := 78) hx hb dJ6_numberOfTrailingZeros_0f7a4_78 ?_
            exact hret (so hf) rfl rfl dJ6_numberOfTrailingZeros_0f7a4_79 h
          · have hf := if_f hf c12
            refine lv_iinc (pc := 67) (v := x11 + 2) (lv' := [(1, .int (x11 + 2)), (0, .int x10)]) hx hb dJ6_numberOfTrailingZeros_0f7a4_67 hl (k := 1) rfl rfl (by decide) rfl (fun ls hl => ?_)
            refine lv_iload_n (pc := 70) hx hb dJ6_numberOfTrailingZeros_0f7a4_70 rfl (lv_at hl 1 rfl) ?_
            refine lv_iconst (pc := 71) (v := 2) hx hb dJ6_numberOfTrailingZeros_0f7a4_71 (by decide) ?_
            refine lv_iushr (pc := 72) (v := iusr x10 2) hx hb dJ6_numberOfTrailingZeros_0f7a4_72 rfl ?_
            refine lv_istore_n (pc := 73) (lv' := [(0, .int (iusr x10 2)), (1, .int (x11 + 2))]) hx hb dJ6_numberOfTrailingZeros_0f7a4_73 rfl hl (by decide) rfl (fun ls hl => ?_)
            refine lv_iload_n (pc := 74) hx hb dJ6_numberOfTrailingZeros_0f7a4_74 rfl (lv_at hl 1 rfl) ?_
            refine lv_iload_n (pc := 75) hx hb dJ6_numberOfTrailingZeros_0f7a4_75 rfl (lv_at hl 0 rfl) ?_
            refine lv_iconst (pc := 76) (v := 1) hx hb dJ6_numberOfTrailingZeros_0f7a4_76 (by decide) ?_
            refine lv_iushr (pc := 77) (v := iusr (iusr x10 2) 1) hx hb dJ6_numberOfTrailingZeros_0f7a4_77 rfl ?_
            refine lv_iadd (pc := 78) hx hb dJ6_numberOfTrailingZeros_0f7a4_78 ?_
            exact hret (so hf) rfl rfl dJ6_numberOfTrailingZeros_0f7a4_79 h
        refine lv_icmp_le (pc := 52) (tgt := 62) hx hb dJ6_numberOfTrailingZeros_0f7a4_52 (by decide) (fun c13 => ?_) (fun c13 => ?_)
        · have hf := if_t hf c13
          exact jk9 _ _ hf _ _ _ h (lv_sub hl [0, 1] rfl)
        · have hf := if_f hf c13
          refine lv_iinc (pc := 55) (v := x8 + 4) (lv' := [(1, .int (x8 + 4)), (0, .int x7)]) hx hb dJ6_numberOfTrailingZeros_0f7a4_55 hl (k := 1) rfl rfl (by decide) rfl (fun ls hl => ?_)
          refine lv_iload_n (pc := 58) hx hb dJ6_numberOfTrailingZeros_0f7a4_58 rfl (lv_at hl 1 rfl) ?_
          refine lv_iconst (pc := 59) (v := 4) hx hb dJ6_numberOfTrailingZeros_0f7a4_59 (by decide) ?_
          refine lv_iushr (pc := 60) (v := iusr x7 4) hx hb dJ6_numberOfTrailingZeros_0f7a4_60 rfl ?_
          refine lv_istore_n (pc := 61) (lv' := [(0, .int (iusr x7 4)), (1, .int (x8 + 4))]) hx hb dJ6_numberOfTrailingZeros_0f7a4_61 rfl hl (by decide) rfl (fun ls hl => ?_)
          exact jk9 _ _ hf _ _ _ h (lv_sub hl [0, 1] rfl)
      refine lv_icmp_le (pc := 38) (tgt := 49) hx hb dJ6_numberOfTrailingZeros_0f7a4_38 (by decide) (fun c14 => ?_) (fun c14 => ?_)
      · have hf := if_t hf c14
        exact jk6 _ _ hf _ _ _ h (lv_sub hl [0, 1] rfl)
      · have hf := if_f hf c14
        refine lv_iinc (pc := 41) (v := x5 + 8) (lv' := [(1, .int (x5 + 8)), (0, .int x4)]) hx hb dJ6_numberOfTrailingZeros_0f7a4_41 hl (k := 1) rfl rfl (by decide) rfl (fun ls hl => ?_)
        refine lv_iload_n (pc := 44) hx hb dJ6_numberOfTrailingZeros_0f7a4_44 rfl (lv_at hl 1 rfl) ?_
        refine lv_bipush (pc := 45) (v := 8) hx hb dJ6_numberOfTrailingZeros_0f7a4_45 (by decide) ?_
        refine lv_iushr (pc := 47) (v := iusr x4 8) hx hb dJ6_numberOfTrailingZeros_0f7a4_47 rfl ?_
        refine lv_istore_n (pc := 48) (lv' := [(0, .int (iusr x4 8)), (1, .int (x5 + 8))]) hx hb dJ6_numberOfTrailingZeros_0f7a4_48 rfl hl (by decide) rfl (fun ls hl => ?_)
        exact jk6 _ _ hf _ _ _ h (lv_sub hl [0, 1] rfl)
    refine lv_icmp_le (pc := 23) (tgt := 34) hx hb dJ6_numberOfTrailingZeros_0f7a4_23 (by decide) (fun c15 => ?_) (fun c15 => ?_)
    · have hf := if_t hf c15
      exact jk3 _ _ hf _ _ _ h (lv_sub hl [1, 0] rfl)
    · have hf := if_f hf c15
      refine lv_iinc (pc := 26) (v := 1 + 16) (lv' := [(1, .int (1 + 16)), (0, .int x1)]) hx hb dJ6_numberOfTrailingZeros_0f7a4_26 hl (k := 0) rfl rfl (by decide) rfl (fun ls hl => ?_)
      refine lv_iload_n (pc := 29) hx hb dJ6_numberOfTrailingZeros_0f7a4_29 rfl (lv_at hl 1 rfl) ?_
      refine lv_bipush (pc := 30) (v := 16) hx hb dJ6_numberOfTrailingZeros_0f7a4_30 (by decide) ?_
      refine lv_iushr (pc := 32) (v := iusr x1 16) hx hb dJ6_numberOfTrailingZeros_0f7a4_32 rfl ?_
      refine lv_istore_n (pc := 33) (lv' := [(0, .int (iusr x1 16)), (1, .int (1 + 16))]) hx hb dJ6_numberOfTrailingZeros_0f7a4_33 rfl hl (by decide) rfl (fun ls hl => ?_)
      exact jk3 _ _ hf _ _ _ h (lv_sub hl [0, 1] rfl)
  · have hf := if_f hf c2
    refine lv_iload_n (pc := 12) hx hb dJ6_numberOfTrailingZeros_0f7a4_12 rfl (lv_at hl 0 rfl) ?_
    refine lv_bipush (pc := 13) (v := 32) hx hb dJ6_numberOfTrailingZeros_0f7a4_13 (by decide) ?_
    refine lv_iand (pc := 15) hx hb dJ6_numberOfTrailingZeros_0f7a4_15 ?_
    exact hret (so hf) rfl rfl dJ6_numberOfTrailingZeros_0f7a4_16 h
theorem kS_J6_numberOfTrailingZeros_0f7a4 {p : Program} {l : Launch} {e : Env} {R : Room} {s : State} {m : MethodId} {args : Array Value} {below : List Frame} {meth : Method} {c : Code} {H : Heap} {locs : List Loc} {cells slots : Nat} {Q : State → Prop} {pc : Nat} {ls : Array Slot} {rest : List Value} {cc : ByteArray} {D : va_G} {cI cJ cR : ClassId} {a : Nat → Nat} {u : St} {own : String} {index nL : Nat} {N : Nat} (hNN : 38 ≤ N) {p1 : Int32} {rr : Int32} (hx : p.tables.exec = Jvm.exec) (hb : c.code = cc) (hml : c.maxLocals = nL) (hown : s.vm.findClass own = some m.cls) (hts : ∀ w ∈ Gd, w.before args s = true) (hK : va_K D vwCl (tyB cI cJ cR) s) (hN : NB s) (hc : f_J6_numberOfTrailingZeros_0f7a4 u p1 = some rr) (hlk : Cond.methodLink own index yJ6_numberOfTrailingZeros_0f7a4 ∈ Gd) (hF : 1 ≤ R.frames) (hLo : 21 ≤ R.locals) (h : Hh D (AB N a s.heap.size) (wX N a (EB a cI cJ cR) u) s.heap H locs) (hsize : ls.size = nL) (hcs : cells ≤ R.cells ∧ slots ≤ R.slots) (hr : (rest.map fun v => v.category).sum ≤ 8) (hdg : decode cc pc = .ok (.invokestatic index, 3)) (kk : ∀ (H1 : Heap) (locs1 : List Loc), Hh D (AB N a s.heap.size) (wX N a (EB a cI cJ cR) u) s.heap H1 locs1 → W p l e R s m args below meth c H1 locs1 cells slots Q (F0 m (pc + 3) ls (.int rr :: rest))) : W p l e R s m args below meth c H locs cells slots Q (F0 m pc ls (.int p1 :: rest)) :=
  cSi (n := 1) hx hb hml hown hts hK hN (c_J6_numberOfTrailingZeros_0f7a4 hNN hc) (gdS hlk sm_J6_numberOfTrailingZeros_0f7a4 in_J6 co_J6_numberOfTrailingZeros_0f7a4) (by decide +kernel) rfl hF hLo h hsize hcs rfl hr hdg kk
def f_X5_leastOf (u : St) (p1 : Int32) : Option (Int32) := b1 (f_J6_numberOfTrailingZeros_0f7a4 u p1) (fun (x1 : Int32) => some (mnI x1 7))
set_option maxRecDepth 100000 in
set_option maxHeartbeats 4000000 in
theorem c_X5_leastOf {l : Launch} {D : va_G} {cI cJ cR : ClassId} {a : Nat → Nat} {u : St} {N : Nat} (hNN : 38 ≤ N) {p1 : Int32} {rr : Int32} (hf : f_X5_leastOf u p1 = some rr) : Ci l yX5_leastOf cX5_leastOf 2 (some .int) 1 21 D (tyB cI cJ cR) N a (EB a cI cJ cR) [.ref (a 31), .int p1] u rr u := by
  refine metI (by decide +kernel) (Nat.le_of_ble_eq_true rfl) ?_
  intro p e s m args below meth c R Q hx hb hml hown hts hF hLo hret hK hN h ls hl
  have hown : s.vm.findClass RX5 = some m.cls := hown
  have hl : lv_has ls 2 [(0, .ref (a 31)), (1, .int p1)] := hl
  unfold f_X5_leastOf at hf
  refine lv_iload_n (pc := 0) hx hb dX5_leastOf_0 rfl (lv_at hl 1 rfl) ?_
  obtain ⟨x1, hc, hf⟩ := b1_e hf
  refine kS_J6_numberOfTrailingZeros_0f7a4 (pc := 1) hNN hx hb hml hown hts hK hN hc ml_X5_83 (Nat.le_trans (by decide) hF) (Nat.le_trans (by decide) hLo) h hl.1 ⟨Nat.zero_le _, Nat.zero_le _⟩ (Nat.le_of_ble_eq_true rfl) dX5_leastOf_1 (fun H locs h => ?_)
  refine lv_bipush (pc := 4) (v := 7) hx hb dX5_leastOf_4 (by decide) ?_
  refine rMmin (pc := 6) hx hb (hml.trans hl.1.symm) hown hts ml_X5_88 (Nat.le_trans (by decide) hF) (Nat.le_trans (by decide) hLo) (Nat.le_of_ble_eq_true rfl) ⟨Nat.zero_le _, Nat.zero_le _⟩ dX5_leastOf_6 ?_
  exact hret (so hf) rfl rfl dX5_leastOf_9 h
theorem k_X5_leastOf {p : Program} {l : Launch} {e : Env} {R : Room} {s : State} {m : MethodId} {args : Array Value} {below : List Frame} {meth : Method} {c : Code} {H : Heap} {locs : List Loc} {cells slots : Nat} {Q : State → Prop} {pc : Nat} {ls : Array Slot} {rest : List Value} {cc : ByteArray} {D : va_G} {cI cJ cR : ClassId} {a : Nat → Nat} {u : St} {own : String} {index nL : Nat} {N : Nat} (hNN : 38 ≤ N) {p1 : Int32} {rr : Int32} (hx : p.tables.exec = Jvm.exec) (hb : c.code = cc) (hml : c.maxLocals = nL) (hown : s.vm.findClass own = some m.cls) (hts : ∀ w ∈ Gd, w.before args s = true) (hK : va_K D vwCl (tyB cI cJ cR) s) (hN : NB s) (hc : f_X5_leastOf u p1 = some rr) (hlk : Cond.methodLink own index yX5_leastOf ∈ Gd) (hF : 2 ≤ R.frames) (hLo : 42 ≤ R.locals) (h : Hh D (AB N a s.heap.size) (wX N a (EB a cI cJ cR) u) s.heap H locs) (hsize : ls.size = nL) (hcs : cells ≤ R.cells ∧ slots ≤ R.slots) (hr : (rest.map fun v => v.category).sum ≤ 8) (hdg : decode cc pc = .ok (.invokevirtual index, 3)) (kk : ∀ (H1 : Heap) (locs1 : List Loc), Hh D (AB N a s.heap.size) (wX N a (EB a cI cJ cR) u) s.heap H1 locs1 → W p l e R s m args below meth c H1 locs1 cells slots Q (F0 m (pc + 3) ls (.int rr :: rest))) : W p l e R s m args below meth c H locs cells slots Q (F0 m pc ls (.int p1 :: .ref (a 31) :: rest)) :=
  cVi (n := 1) hx hb hml hown hts hK hN (c_X5_leastOf hNN hc) (gdV hlk im_X5_leastOf se_X5_leastOf in_X5 co_X5_leastOf) rfl (by decide +kernel) rfl hF hLo h hsize hcs (Nat.lt_of_lt_of_le (by decide) hNN) rfl rfl rfl hr hdg kk
def f_X5_wineOf (u : St) (p1 : Int32) (p2 : Int32) : Option (Int32) := cki p1 8 (if p1 = p2 then cki p1 8 (b1 (f_X9_isVinegar u (u.1 32 (ix p1))) (fun (x8 : Int32) => if x8 = 0 then some (u.1 7 (ix p1)) else some 0)) else cki p2 8 (bs ((u.1 7 (ix p1)) + (u.1 7 (ix p2))) (fun x2 : Int32 => if 1 ≤ x2 then cki p1 8 (cki p2 8 (cki p2 8 (ck (¬ x2 = 0) (bs ((((u.1 7 (ix p1)) * (u.1 32 (ix p1))) + ((u.1 7 (ix p2)) * (u.1 32 (ix p2)))) / x2) (fun x4 : Int32 => b1 (f_X9_isVinegar u x4) (fun (x5 : Int32) => if x5 = 0 then cki p1 8 (cki p2 8 (if (u.1 9 (ix p1)) = (u.1 9 (ix p2)) then some x2 else some (x2 - (1 : Int32)))) else some 0)))))) else some 0)))
set_option maxRecDepth 100000 in
set_option maxHeartbeats 4000000 in
theorem c_X5_wineOf {l : Launch} {D : va_G} {cI cJ cR : ClassId} {a : Nat → Nat} {u : St} {N : Nat} (hNN : 38 ≤ N) {p1 : Int32} {p2 : Int32} {rr : Int32} (hf : f_X5_wineOf u p1 p2 = some rr) : Ci l yX5_wineOf cX5_wineOf 6 (some .int) 1 21 D (tyB cI cJ cR) N a (EB a cI cJ cR) [.ref (a 31), .int p1, .int p2] u rr u := by
  refine metI (by decide +kernel) (Nat.le_of_ble_eq_true rfl) ?_
  intro p e s m args below meth c R Q hx hb hml hown hts hF hLo hret hK hN h ls hl
  have hown : s.vm.findClass RX5 = some m.cls := hown
  have hl : lv_has ls 6 [(0, .ref (a 31)), (1, .int p1), (2, .int p2)] := hl
  unfold f_X5_wineOf at hf
  refine lv_aload_n (pc := 0) hx hb dX5_wineOf_0 rfl (lv_at hl 0 rfl) ?_
  refine gB_31_0 (pc := 1) hNN hx hb hts hown hK h fl_X5_18 dX5_wineOf_1 ?_
  refine gB_1_1 (pc := 4) hNN hx hb hts hown hK h fl_X5_32 dX5_wineOf_4 ?_
  refine gB_5_1 (pc := 7) hNN hx hb hts hown hK h fl_X5_71 dX5_wineOf_7 ?_
  refine lv_iload_n (pc := 10) hx hb dX5_wineOf_10 rfl (lv_at hl 1 rfl) ?_
  obtain ⟨hin, hf⟩ := cki_e hf
  refine gB_7 (pc := 11) hNN hx hb hK h hin dX5_wineOf_11 ?_
  refine lv_istore_n (pc := 12) (lv' := [(3, .int (u.1 7 (ix p1))), (0, .ref (a 31)), (1, .int p1), (2, .int p2)]) hx hb dX5_wineOf_12 rfl hl (by decide) rfl (fun ls hl => ?_)
  refine lv_iload_n (pc := 13) hx hb dX5_wineOf_13 rfl (lv_at hl 2 rfl) ?_
  refine lv_iload_n (pc := 14) hx hb dX5_wineOf_14 rfl (lv_at hl 3 rfl) ?_
  refine lv_icmp_ne (pc := 15) (tgt := 40) hx hb dX5_wineOf_15 (by decide) (fun c1 => ?_) (fun c1 => ?_)
  · have hf := if_f hf c1
    refine lv_iload_n (pc := 40) hx hb dX5_wineOf_40 rfl (lv_at hl 0 rfl) ?_
    refine lv_aload_n (pc := 41) hx hb dX5_wineOf_41 rfl (lv_at hl 1 rfl) ?_
    refine gB_31_0 (pc := 42) hNN hx hb hts hown hK h fl_X5_18 dX5_wineOf_42 ?_
    refine gB_1_1 (pc := 45) hNN hx hb hts hown hK h fl_X5_32 dX5_wineOf_45 ?_
    refine gB_5_1 (pc := 48) hNN hx hb hts hown hK h fl_X5_71 dX5_wineOf_48 ?_
    refine lv_iload_n (pc := 51) hx hb dX5_wineOf_51 rfl (lv_at hl 3 rfl) ?_
    obtain ⟨hin, hf⟩ := cki_e hf
    refine gB_7 (pc := 52) hNN hx hb hK h hin dX5_wineOf_52 ?_
    refine lv_iadd (pc := 53) hx hb dX5_wineOf_53 ?_
    obtain ⟨x2, ex2, hf⟩ := bs_e hf
    refine rTop ex2 ?_
    refine lv_istore (pc := 54) (lv' := [(4, .int x2), (3, .int (u.1 7 (ix p1))), (0, .ref (a 31)), (1, .int p1), (2, .int p2)]) hx hb dX5_wineOf_54 hl (by decide) rfl (fun ls hl => ?_)
    refine lv_iload (pc := 56) hx hb dX5_wineOf_56 (lv_at hl 0 rfl) ?_
    refine lv_iconst (pc := 58) (v := 1) hx hb dX5_wineOf_58 (by decide) ?_
    refine lv_icmp_ge (pc := 59) (tgt := 64) hx hb dX5_wineOf_59 (by decide) (fun c3 => ?_) (fun c3 => ?_)
    · have hf := if_t hf c3
      refine lv_iload_n (pc := 64) hx hb dX5_wineOf_64 rfl (lv_at hl 1 rfl) ?_
      refine lv_aload_n (pc := 65) hx hb dX5_wineOf_65 rfl (lv_at hl 2 rfl) ?_
      refine gB_31_2 (pc := 66) hNN hx hb hts hown hK h fl_X5_9 dX5_wineOf_66 ?_
      refine lv_iload_n (pc := 69) hx hb dX5_wineOf_69 rfl (lv_at hl 3 rfl) ?_
      obtain ⟨hin, hf⟩ := cki_e hf
      refine gB_32 (pc := 70) hNN hx hb hK h hin dX5_wineOf_70 ?_
      refine lv_imul (pc := 71) hx hb dX5_wineOf_71 ?_
      refine lv_aload_n (pc := 72) hx hb dX5_wineOf_72 rfl (lv_at hl 2 rfl) ?_
      refine gB_31_0 (pc := 73) hNN hx hb hts hown hK h fl_X5_18 dX5_wineOf_73 ?_
      refine gB_1_1 (pc := 76) hNN hx hb hts hown hK h fl_X5_32 dX5_wineOf_76 ?_
      refine gB_5_1 (pc := 79) hNN hx hb hts hown hK h fl_X5_71 dX5_wineOf_79 ?_
      refine lv_iload_n (pc := 82) hx hb dX5_wineOf_82 rfl (lv_at hl 4 rfl) ?_
      obtain ⟨hin, hf⟩ := cki_e hf
      refine gB_7 (pc := 83) hNN hx hb hK h hin dX5_wineOf_83 ?_
      refine lv_aload_n (pc := 84) hx hb dX5_wineOf_84 rfl (lv_at hl 2 rfl) ?_
      refine gB_31_2 (pc := 85) hNN hx hb hts hown hK h fl_X5_9 dX5_wineOf_85 ?_
      refine lv_iload_n (pc := 88) hx hb dX5_wineOf_88 rfl (lv_at hl 4 rfl) ?_
      obtain ⟨hin, hf⟩ := cki_e hf
      refine gB_32 (pc := 89) hNN hx hb hK h hin dX5_wineOf_89 ?_
      refine lv_imul (pc := 90) hx hb dX5_wineOf_90 ?_
      refine lv_iadd (pc := 91) hx hb dX5_wineOf_91 ?_
      refine lv_iload (pc := 92) hx hb dX5_wineOf_92 (lv_at hl 0 rfl) ?_
      obtain ⟨hne, hf⟩ := ck_e hf
      refine lv_idiv (pc := 94) hx hb dX5_wineOf_94 hne ?_
      obtain ⟨x4, ex4, hf⟩ := bs_e hf
      refine rTop ex4 ?_
      refine lv_istore (pc := 95) (lv' := [(5, .int x4), (4, .int x2), (3, .int (u.1 7 (ix p1))), (0, .ref (a 31)), (1, .int p1), (2, .int p2)]) hx hb dX5_wineOf_95 hl (by decide) rfl (fun ls hl => ?_)
      refine lv_aload_n (pc := 97) hx hb dX5_wineOf_97 rfl (lv_at hl 3 rfl) ?_
      refine gB_31_0 (pc := 98) hNN hx hb hts hown hK h fl_X5_18 dX5_wineOf_98 ?_
      refine lv_iload (pc := 101) hx hb dX5_wineOf_101 (lv_at hl 0 rfl) ?_
      obtain ⟨x5, hc, hf⟩ := b1_e hf
      refine k_X9_isVinegar (pc := 103) hNN hx hb hml hown hts hK hN hc ml_X5_74 (Nat.le_trans (by decide) hF) (Nat.le_trans (by decide) hLo) h hl.1 ⟨Nat.zero_le _, Nat.zero_le _⟩ (Nat.le_of_ble_eq_true rfl) dX5_wineOf_103 (fun H locs h => ?_)
      refine lv_if_eq (pc := 106) (tgt := 111) hx hb dX5_wineOf_106 (by decide) (fun c6 => ?_) (fun c6 => ?_)
      · have hf := if_t hf c6
        refine lv_aload_n (pc := 111) hx hb dX5_wineOf_111 rfl (lv_at hl 3 rfl) ?_
        refine gB_31_0 (pc := 112) hNN hx hb hts hown hK h fl_X5_18 dX5_wineOf_112 ?_
        refine gB_1_1 (pc := 115) hNN hx hb hts hown hK h fl_X5_32 dX5_wineOf_115 ?_
        refine gB_5_3 (pc := 118) hNN hx hb hts hown hK h fl_X5_77 dX5_wineOf_118 ?_
        refine lv_iload_n (pc := 121) hx hb dX5_wineOf_121 rfl (lv_at hl 4 rfl) ?_
        obtain ⟨hin, hf⟩ := cki_e hf
        refine gB_9 (pc := 122) hNN hx hb hK h hin dX5_wineOf_122 ?_
        refine lv_aload_n (pc := 123) hx hb dX5_wineOf_123 rfl (lv_at hl 3 rfl) ?_
        refine gB_31_0 (pc := 124) hNN hx hb hts hown hK h fl_X5_18 dX5_wineOf_124 ?_
        refine gB_1_1 (pc := 127) hNN hx hb hts hown hK h fl_X5_32 dX5_wineOf_127 ?_
        refine gB_5_3 (pc := 130) hNN hx hb hts hown hK h fl_X5_77 dX5_wineOf_130 ?_
        refine lv_iload_n (pc := 133) hx hb dX5_wineOf_133 rfl (lv_at hl 5 rfl) ?_
        obtain ⟨hin, hf⟩ := cki_e hf
        refine gB_9 (pc := 134) hNN hx hb hK h hin dX5_wineOf_134 ?_
        refine lv_icmp_ne (pc := 135) (tgt := 143) hx hb dX5_wineOf_135 (by decide) (fun c7 => ?_) (fun c7 => ?_)
        · have hf := if_f hf c7
          refine lv_iload (pc := 143) hx hb dX5_wineOf_143 (lv_at hl 1 rfl) ?_
          refine lv_iconst (pc := 145) (v := 1) hx hb dX5_wineOf_145 (by decide) ?_
          refine lv_isub (pc := 146) hx hb dX5_wineOf_146 ?_
          exact hret (so hf) rfl rfl dX5_wineOf_147 h
        · have hf := if_t hf c7
          refine lv_iload (pc := 138) hx hb dX5_wineOf_138 (lv_at hl 1 rfl) ?_
          refine lv_goto (pc := 140) (tgt := 147) hx hb dX5_wineOf_140 (by decide) ?_
          exact hret (so hf) rfl rfl dX5_wineOf_147 h
      · have hf := if_f hf c6
        refine lv_iconst (pc := 109) (v := 0) hx hb dX5_wineOf_109 (by decide) ?_
        exact hret (so hf) rfl rfl dX5_wineOf_110 h
    · have hf := if_f hf c3
      refine lv_iconst (pc := 62) (v := 0) hx hb dX5_wineOf_62 (by decide) ?_
      exact hret (so hf) rfl rfl dX5_wineOf_63 h
  · have hf := if_t hf c1
    refine lv_aload_n (pc := 18) hx hb dX5_wineOf_18 rfl (lv_at hl 1 rfl) ?_
    refine gB_31_0 (pc := 19) hNN hx hb hts hown hK h fl_X5_18 dX5_wineOf_19 ?_
    refine lv_aload_n (pc := 22) hx hb dX5_wineOf_22 rfl (lv_at hl 1 rfl) ?_
    refine gB_31_2 (pc := 23) hNN hx hb hts hown hK h fl_X5_9 dX5_wineOf_23 ?_
    refine lv_iload_n (pc := 26) hx hb dX5_wineOf_26 rfl (lv_at hl 2 rfl) ?_
    obtain ⟨hin, hf⟩ := cki_e hf
    refine gB_32 (pc := 27) hNN hx hb hK h hin dX5_wineOf_27 ?_
    obtain ⟨x8, hc, hf⟩ := b1_e hf
    refine k_X9_isVinegar (pc := 28) hNN hx hb hml hown hts hK hN hc ml_X5_74 (Nat.le_trans (by decide) hF) (Nat.le_trans (by decide) hLo) h hl.1 ⟨Nat.zero_le _, Nat.zero_le _⟩ (Nat.le_of_ble_eq_true rfl) dX5_wineOf_28 (fun H locs h => ?_)
    refine lv_if_eq (pc := 31) (tgt := 38) hx hb dX5_wineOf_31 (by decide) (fun c9 => ?_) (fun c9 => ?_)
    · have hf := if_t hf c9
      refine lv_iload_n (pc := 38) hx hb dX5_wineOf_38 rfl (lv_at hl 0 rfl) ?_
      exact hret (so hf) rfl rfl dX5_wineOf_39 h
    · have hf := if_f hf c9
      refine lv_iconst (pc := 34) (v := 0) hx hb dX5_wineOf_34 (by decide) ?_
      refine lv_goto (pc := 35) (tgt := 39) hx hb dX5_wineOf_35 (by decide) ?_
      exact hret (so hf) rfl rfl dX5_wineOf_39 h
theorem k_X5_wineOf {p : Program} {l : Launch} {e : Env} {R : Room} {s : State} {m : MethodId} {args : Array Value} {below : List Frame} {meth : Method} {c : Code} {H : Heap} {locs : List Loc} {cells slots : Nat} {Q : State → Prop} {pc : Nat} {ls : Array Slot} {rest : List Value} {cc : ByteArray} {D : va_G} {cI cJ cR : ClassId} {a : Nat → Nat} {u : St} {own : String} {index nL : Nat} {N : Nat} (hNN : 38 ≤ N) {p1 : Int32} {p2 : Int32} {rr : Int32} (hx : p.tables.exec = Jvm.exec) (hb : c.code = cc) (hml : c.maxLocals = nL) (hown : s.vm.findClass own = some m.cls) (hts : ∀ w ∈ Gd, w.before args s = true) (hK : va_K D vwCl (tyB cI cJ cR) s) (hN : NB s) (hc : f_X5_wineOf u p1 p2 = some rr) (hlk : Cond.methodLink own index yX5_wineOf ∈ Gd) (hF : 2 ≤ R.frames) (hLo : 46 ≤ R.locals) (h : Hh D (AB N a s.heap.size) (wX N a (EB a cI cJ cR) u) s.heap H locs) (hsize : ls.size = nL) (hcs : cells ≤ R.cells ∧ slots ≤ R.slots) (hr : (rest.map fun v => v.category).sum ≤ 8) (hdg : decode cc pc = .ok (.invokevirtual index, 3)) (kk : ∀ (H1 : Heap) (locs1 : List Loc), Hh D (AB N a s.heap.size) (wX N a (EB a cI cJ cR) u) s.heap H1 locs1 → W p l e R s m args below meth c H1 locs1 cells slots Q (F0 m (pc + 3) ls (.int rr :: rest))) : W p l e R s m args below meth c H locs cells slots Q (F0 m pc ls (.int p2 :: .int p1 :: .ref (a 31) :: rest)) :=
  cVi (n := 2) hx hb hml hown hts hK hN (c_X5_wineOf hNN hc) (gdV hlk im_X5_wineOf se_X5_wineOf in_X5 co_X5_wineOf) rfl (by decide +kernel) rfl hF hLo h hsize hcs (Nat.lt_of_lt_of_le (by decide) hNN) rfl rfl rfl hr hdg kk
def f_X5_withPartner (u : St) (p1 : Int32) (p2 : Int32) (p3 : Int32) : Option (Int32) := bs (((p1 &&& (255 : Int32)) &&& (((1 : Int32) <<< (p2 &&& 31)) ^^^ (-1 : Int32))) &&& (((1 : Int32) <<< (p3 &&& 31)) ^^^ (-1 : Int32))) (fun x1 : Int32 => b1 (f_X5_wineOf u p2 p3) (fun (x2 : Int32) => cki x1 256 (some (x2 + (u.1 33 (ix x1))))))
set_option maxRecDepth 100000 in
set_option maxHeartbeats 4000000 in
theorem c_X5_withPartner {l : Launch} {D : va_G} {cI cJ cR : ClassId} {a : Nat → Nat} {u : St} {N : Nat} (hNN : 38 ≤ N) {p1 : Int32} {p2 : Int32} {p3 : Int32} {rr : Int32} (hf : f_X5_withPartner u p1 p2 p3 = some rr) : Ci l yX5_withPartner cX5_withPartner 5 (some .int) 2 46 D (tyB cI cJ cR) N a (EB a cI cJ cR) [.ref (a 31), .int p1, .int p2, .int p3] u rr u := by
  refine metI (by decide +kernel) (Nat.le_of_ble_eq_true rfl) ?_
  intro p e s m args below meth c R Q hx hb hml hown hts hF hLo hret hK hN h ls hl
  have hown : s.vm.findClass RX5 = some m.cls := hown
  have hl : lv_has ls 5 [(0, .ref (a 31)), (1, .int p1), (2, .int p2), (3, .int p3)] := hl
  unfold f_X5_withPartner at hf
  refine lv_iload_n (pc := 0) hx hb dX5_withPartner_0 rfl (lv_at hl 1 rfl) ?_
  refine lv_sipush (pc := 1) (v := 255) hx hb dX5_withPartner_1 (by decide) ?_
  refine lv_iand (pc := 4) hx hb dX5_withPartner_4 ?_
  refine lv_iconst (pc := 5) (v := 1) hx hb dX5_withPartner_5 (by decide) ?_
  refine lv_iload_n (pc := 6) hx hb dX5_withPartner_6 rfl (lv_at hl 2 rfl) ?_
  refine lv_ishl (pc := 7) hx hb dX5_withPartner_7 ?_
  refine lv_iconst (pc := 8) (v := (-1)) hx hb dX5_withPartner_8 (by decide) ?_
  refine lv_ixor (pc := 9) hx hb dX5_withPartner_9 ?_
  refine lv_iand (pc := 10) hx hb dX5_withPartner_10 ?_
  refine lv_iconst (pc := 11) (v := 1) hx hb dX5_withPartner_11 (by decide) ?_
  refine lv_iload_n (pc := 12) hx hb dX5_withPartner_12 rfl (lv_at hl 3 rfl) ?_
  refine lv_ishl (pc := 13) hx hb dX5_withPartner_13 ?_
  refine lv_iconst (pc := 14) (v := (-1)) hx hb dX5_withPartner_14 (by decide) ?_
  refine lv_ixor (pc := 15) hx hb dX5_withPartner_15 ?_
  refine lv_iand (pc := 16) hx hb dX5_withPartner_16 ?_
  obtain ⟨x1, ex1, hf⟩ := bs_e hf
  refine rTop ex1 ?_
  refine lv_istore (pc := 17) (lv' := [(4, .int x1), (0, .ref (a 31)), (1, .int p1), (2, .int p2), (3, .int p3)]) hx hb dX5_withPartner_17 hl (by decide) rfl (fun ls hl => ?_)
  refine lv_aload_n (pc := 19) hx hb dX5_withPartner_19 rfl (lv_at hl 1 rfl) ?_
  refine lv_iload_n (pc := 20) hx hb dX5_withPartner_20 rfl (lv_at hl 3 rfl) ?_
  refine lv_iload_n (pc := 21) hx hb dX5_withPartner_21 rfl (lv_at hl 4 rfl) ?_
  obtain ⟨x2, hc, hf⟩ := b1_e hf
  refine k_X5_wineOf (pc := 22) hNN hx hb hml hown hts hK hN hc ml_X5_68 (Nat.le_trans (by decide) hF) (Nat.le_trans (by decide) hLo) h hl.1 ⟨Nat.zero_le _, Nat.zero_le _⟩ (Nat.le_of_ble_eq_true rfl) dX5_withPartner_22 (fun H locs h => ?_)
  refine lv_aload_n (pc := 25) hx hb dX5_withPartner_25 rfl (lv_at hl 1 rfl) ?_
  refine gB_31_3 (pc := 26) hNN hx hb hts hown hK h fl_X5_15 dX5_withPartner_26 ?_
  refine lv_iload (pc := 29) hx hb dX5_withPartner_29 (lv_at hl 0 rfl) ?_
  obtain ⟨hin, hf⟩ := cki_e hf
  refine gB_33 (pc := 31) hNN hx hb hK h hin dX5_withPartner_31 ?_
  refine lv_iadd (pc := 32) hx hb dX5_withPartner_32 ?_
  exact hret (so hf) rfl rfl dX5_withPartner_33 h
theorem k_X5_withPartner {p : Program} {l : Launch} {e : Env} {R : Room} {s : State} {m : MethodId} {args : Array Value} {below : List Frame} {meth : Method} {c : Code} {H : Heap} {locs : List Loc} {cells slots : Nat} {Q : State → Prop} {pc : Nat} {ls : Array Slot} {rest : List Value} {cc : ByteArray} {D : va_G} {cI cJ cR : ClassId} {a : Nat → Nat} {u : St} {own : String} {index nL : Nat} {N : Nat} (hNN : 38 ≤ N) {p1 : Int32} {p2 : Int32} {p3 : Int32} {rr : Int32} (hx : p.tables.exec = Jvm.exec) (hb : c.code = cc) (hml : c.maxLocals = nL) (hown : s.vm.findClass own = some m.cls) (hts : ∀ w ∈ Gd, w.before args s = true) (hK : va_K D vwCl (tyB cI cJ cR) s) (hN : NB s) (hc : f_X5_withPartner u p1 p2 p3 = some rr) (hlk : Cond.methodLink own index yX5_withPartner ∈ Gd) (hF : 3 ≤ R.frames) (hLo : 70 ≤ R.locals) (h : Hh D (AB N a s.heap.size) (wX N a (EB a cI cJ cR) u) s.heap H locs) (hsize : ls.size = nL) (hcs : cells ≤ R.cells ∧ slots ≤ R.slots) (hr : (rest.map fun v => v.category).sum ≤ 8) (hdg : decode cc pc = .ok (.invokevirtual index, 3)) (kk : ∀ (H1 : Heap) (locs1 : List Loc), Hh D (AB N a s.heap.size) (wX N a (EB a cI cJ cR) u) s.heap H1 locs1 → W p l e R s m args below meth c H1 locs1 cells slots Q (F0 m (pc + 3) ls (.int rr :: rest))) : W p l e R s m args below meth c H locs cells slots Q (F0 m pc ls (.int p3 :: .int p2 :: .int p1 :: .ref (a 31) :: rest)) :=
  cVi (n := 3) hx hb hml hown hts hK hN (c_X5_withPartner hNN hc) (gdV hlk im_X5_withPartner se_X5_withPartner in_X5 co_X5_withPartner) rfl (by decide +kernel) rfl hF hLo h hsize hcs (Nat.lt_of_lt_of_le (by decide) hNN) rfl rfl rfl hr hdg kk
def B_X5_mostOf_11 (p1 : Int32) (u : St) (x1 : Int32) (k4 : Int32 → Option (Int32)) (rec6 : Int32 → Int32 → Option (Int32)) (x2 : Int32) (x3 : Int32) : Option (Int32) := if 8 ≤ x3 then k4 x2 else b1 (f_X11_hasBit u p1 x3) (fun (x8 : Int32) => if x8 = 0 then rec6 x2 (x3 + 1) else b1 (f_X5_withPartner u p1 x1 x3) (fun (x10 : Int32) => rec6 (mxI x2 x10) (x3 + 1)))
def f_X5_mostOf (u : St) (p1 : Int32) : Option (Int32) := b1 (f_X5_leastOf u p1) (fun (x1 : Int32) => jq_1 (fun (x5 : Int32) => some x5) (fun (k4 : Int32 → Option (Int32)) => lq_2 (B_X5_mostOf_11 p1 u x1 k4) FU 0 x1))
set_option maxRecDepth 100000 in
set_option maxHeartbeats 4000000 in
theorem c_X5_mostOf {l : Launch} {D : va_G} {cI cJ cR : ClassId} {a : Nat → Nat} {u : St} {N : Nat} (hNN : 38 ≤ N) {p1 : Int32} {rr : Int32} (hf : f_X5_mostOf u p1 = some rr) : Ci l yX5_mostOf cX5_mostOf 5 (some .int) 3 70 D (tyB cI cJ cR) N a (EB a cI cJ cR) [.ref (a 31), .int p1] u rr u := by
  refine metI (by decide +kernel) (Nat.le_of_ble_eq_true rfl) ?_
  intro p e s m args below meth c R Q hx hb hml hown hts hF hLo hret hK hN h ls hl
  have hown : s.vm.findClass RX5 = some m.cls := hown
  have hl : lv_has ls 5 [(0, .ref (a 31)), (1, .int p1)] := hl
  unfold f_X5_mostOf at hf
  refine lv_aload_n (pc := 0) hx hb dX5_mostOf_0 rfl (lv_at hl 0 rfl) ?_
  refine lv_iload_n (pc := 1) hx hb dX5_mostOf_1 rfl (lv_at hl 1 rfl) ?_
  obtain ⟨x1, hc, hf⟩ := b1_e hf
  refine k_X5_leastOf (pc := 2) hNN hx hb hml hown hts hK hN hc ml_X5_52 (Nat.le_trans (by decide) hF) (Nat.le_trans (by decide) hLo) h hl.1 ⟨Nat.zero_le _, Nat.zero_le _⟩ (Nat.le_of_ble_eq_true rfl) dX5_mostOf_2 (fun H locs h => ?_)
  refine lv_istore_n (pc := 5) (lv' := [(2, .int x1), (0, .ref (a 31)), (1, .int p1)]) hx hb dX5_mostOf_5 rfl hl (by decide) rfl (fun ls hl => ?_)
  refine lv_iconst (pc := 6) (v := 0) hx hb dX5_mostOf_6 (by decide) ?_
  refine lv_istore_n (pc := 7) (lv' := [(3, .int 0), (2, .int x1), (0, .ref (a 31)), (1, .int p1)]) hx hb dX5_mostOf_7 rfl hl (by decide) rfl (fun ls hl => ?_)
  refine lv_iload_n (pc := 8) hx hb dX5_mostOf_8 rfl (lv_at hl 1 rfl) ?_
  refine lv_istore (pc := 9) (lv' := [(4, .int x1), (3, .int 0), (2, .int x1), (0, .ref (a 31)), (1, .int p1)]) hx hb dX5_mostOf_9 hl (by decide) rfl (fun ls hl => ?_)
  obtain ⟨k4, hk4, hf⟩ := jq_1_e hf
  have jk4 : ∀ (x5 : Int32), k4 x5 = some rr → ∀ (H : Heap) (locs : List Loc) (ls : Array Slot), Hh D (AB N a s.heap.size) (wX N a (EB a cI cJ cR) u) s.heap H locs → lv_has ls 5 [(3, .int x5)] → W p l e R s m args below meth c H locs 0 0 Q (F0 m 46 ls []) := by
    intro x5 hf H locs ls h hl
    rw [hk4] at hf
    refine lv_iload_n (pc := 46) hx hb dX5_mostOf_46 rfl (lv_at hl 0 rfl) ?_
    exact hret (so hf) rfl rfl dX5_mostOf_47 h
  refine lq_2_e (P := fun (x2 : Int32) (x3 : Int32) => ∀ (H : Heap) (locs : List Loc) (ls : Array Slot), Hh D (AB N a s.heap.size) (wX N a (EB a cI cJ cR) u) s.heap H locs → lv_has ls 5 [(0, .ref (a 31)), (1, .int p1), (2, .int x1), (3, .int x2), (4, .int x3)] → W p l e R s m args below meth c H locs 0 0 Q (F0 m 11 ls [])) ?_ FU _ _ hf _ _ _ h (lv_sub hl [3, 4, 2, 1, 0] rfl)
  intro rec6 irec6 x2 x3 hf H locs ls h hl
  unfold B_X5_mostOf_11 at hf
  refine lv_iload (pc := 11) hx hb dX5_mostOf_11 (lv_at hl 4 rfl) ?_
  refine lv_bipush (pc := 13) (v := 8) hx hb dX5_mostOf_13 (by decide) ?_
  refine lv_icmp_ge (pc := 15) (tgt := 46) hx hb dX5_mostOf_15 (by decide) (fun c7 => ?_) (fun c7 => ?_)
  · have hf := if_t hf c7
    exact jk4 _ hf _ _ _ h (lv_sub hl [3] rfl)
  · have hf := if_f hf c7
    refine lv_iload_n (pc := 18) hx hb dX5_mostOf_18 rfl (lv_at hl 1 rfl) ?_
    refine lv_iload (pc := 19) hx hb dX5_mostOf_19 (lv_at hl 4 rfl) ?_
    obtain ⟨x8, hc, hf⟩ := b1_e hf
    refine kN_X11_hasBit (pc := 21) hNN hx hb hml hown hts hK hN hc (nl_X5_55 hN) (Nat.le_trans (by decide) hF) (Nat.le_trans (by decide) hLo) h hl.1 ⟨Nat.zero_le _, Nat.zero_le _⟩ (Nat.le_of_ble_eq_true rfl) dX5_mostOf_21 (fun H locs h => ?_)
    refine lv_if_eq (pc := 24) (tgt := 40) hx hb dX5_mostOf_24 (by decide) (fun c9 => ?_) (fun c9 => ?_)
    · have hf := if_t hf c9
      refine lv_iinc (pc := 40) (v := x3 + 1) (lv' := [(4, .int (x3 + 1)), (0, .ref (a 31)), (1, .int p1), (2, .int x1), (3, .int x2)]) hx hb dX5_mostOf_40 hl (k := 4) rfl rfl (by decide) rfl (fun ls hl => ?_)
      refine lv_goto (pc := 43) (tgt := 11) hx hb dX5_mostOf_43 (by decide) ?_
      exact irec6 _ _ hf _ _ _ h (lv_sub hl [1, 2, 3, 4, 0] rfl)
    · have hf := if_f hf c9
      refine lv_iload_n (pc := 27) hx hb dX5_mostOf_27 rfl (lv_at hl 3 rfl) ?_
      refine lv_aload_n (pc := 28) hx hb dX5_mostOf_28 rfl (lv_at hl 0 rfl) ?_
      refine lv_iload_n (pc := 29) hx hb dX5_mostOf_29 rfl (lv_at hl 1 rfl) ?_
      refine lv_iload_n (pc := 30) hx hb dX5_mostOf_30 rfl (lv_at hl 2 rfl) ?_
      refine lv_iload (pc := 31) hx hb dX5_mostOf_31 (lv_at hl 4 rfl) ?_
      obtain ⟨x10, hc, hf⟩ := b1_e hf
      refine k_X5_withPartner (pc := 33) hNN hx hb hml hown hts hK hN hc ml_X5_59 (Nat.le_trans (by decide) hF) (Nat.le_trans (by decide) hLo) h hl.1 ⟨Nat.zero_le _, Nat.zero_le _⟩ (Nat.le_of_ble_eq_true rfl) dX5_mostOf_33 (fun H locs h => ?_)
      refine rMmax (pc := 36) hx hb (hml.trans hl.1.symm) hown hts ml_X5_63 (Nat.le_trans (by decide) hF) (Nat.le_trans (by decide) hLo) (Nat.le_of_ble_eq_true rfl) ⟨Nat.zero_le _, Nat.zero_le _⟩ dX5_mostOf_36 ?_
      refine lv_istore_n (pc := 39) (lv' := [(3, .int (mxI x2 x10)), (0, .ref (a 31)), (1, .int p1), (2, .int x1), (4, .int x3)]) hx hb dX5_mostOf_39 rfl hl (by decide) rfl (fun ls hl => ?_)
      refine lv_iinc (pc := 40) (v := x3 + 1) (lv' := [(4, .int (x3 + 1)), (3, .int (mxI x2 x10)), (0, .ref (a 31)), (1, .int p1), (2, .int x1)]) hx hb dX5_mostOf_40 hl (k := 4) rfl rfl (by decide) rfl (fun ls hl => ?_)
      refine lv_goto (pc := 43) (tgt := 11) hx hb dX5_mostOf_43 (by decide) ?_
      exact irec6 _ _ hf _ _ _ h (lv_sub hl [2, 3, 4, 1, 0] rfl)
theorem k_X5_mostOf {p : Program} {l : Launch} {e : Env} {R : Room} {s : State} {m : MethodId} {args : Array Value} {below : List Frame} {meth : Method} {c : Code} {H : Heap} {locs : List Loc} {cells slots : Nat} {Q : State → Prop} {pc : Nat} {ls : Array Slot} {rest : List Value} {cc : ByteArray} {D : va_G} {cI cJ cR : ClassId} {a : Nat → Nat} {u : St} {own : String} {index nL : Nat} {N : Nat} (hNN : 38 ≤ N) {p1 : Int32} {rr : Int32} (hx : p.tables.exec = Jvm.exec) (hb : c.code = cc) (hml : c.maxLocals = nL) (hown : s.vm.findClass own = some m.cls) (hts : ∀ w ∈ Gd, w.before args s = true) (hK : va_K D vwCl (tyB cI cJ cR) s) (hN : NB s) (hc : f_X5_mostOf u p1 = some rr) (hlk : Cond.methodLink own index yX5_mostOf ∈ Gd) (hF : 4 ≤ R.frames) (hLo : 94 ≤ R.locals) (h : Hh D (AB N a s.heap.size) (wX N a (EB a cI cJ cR) u) s.heap H locs) (hsize : ls.size = nL) (hcs : cells ≤ R.cells ∧ slots ≤ R.slots) (hr : (rest.map fun v => v.category).sum ≤ 8) (hdg : decode cc pc = .ok (.invokevirtual index, 3)) (kk : ∀ (H1 : Heap) (locs1 : List Loc), Hh D (AB N a s.heap.size) (wX N a (EB a cI cJ cR) u) s.heap H1 locs1 → W p l e R s m args below meth c H1 locs1 cells slots Q (F0 m (pc + 3) ls (.int rr :: rest))) : W p l e R s m args below meth c H locs cells slots Q (F0 m pc ls (.int p1 :: .ref (a 31) :: rest)) :=
  cVi (n := 1) hx hb hml hown hts hK hN (c_X5_mostOf hNN hc) (gdV hlk im_X5_mostOf se_X5_mostOf in_X5 co_X5_mostOf) rfl (by decide +kernel) rfl hF hLo h hsize hcs (Nat.lt_of_lt_of_le (by decide) hNN) rfl rfl rfl hr hdg kk
def B_X5_search_31 (k7 : St → Option (Int32 × St)) (rec9 : St → Int32 → Option (Int32 × St)) (u5 : St) (x6 : Int32) : Option (Int32 × St) := if 255 < x6 then k7 u5 else b1 (f_X7_hasAll u5 x6) (fun (x11 : Int32) => if x11 = 0 then rec9 u5 (x6 + 1) else b1 (f_X5_mostOf u5 x6) (fun (x13 : Int32) => cki x6 256 (bs (sI u5 33 (ix x6) x13) (fun u14 : St => rec9 u14 (x6 + 1)))))
def B_X5_search_2 (p1 : Int32) (k3 : St → Option (Int32 × St)) (rec15 : St → Int32 → Option (Int32 × St)) (u1 : St) (x2 : Int32) : Option (Int32 × St) := if 8 ≤ x2 then k3 u1 else b1 (f_X0_acidOf u1 x2 p1) (fun (x17 : Int32) => cki x2 8 (bs (sI u1 32 (ix x2) x17) (fun u18 : St => rec15 u18 (x2 + 1))))
def f_X5_search (u : St) (p1 : Int32) : Option (Int32 × St) := jq_1 (fun (u4 : St) => jq_1 (fun (u8 : St) => cki ((u8.1 5 4) &&& (255 : Int32)) 256 (some (u8.1 33 (ix ((u8.1 5 4) &&& (255 : Int32))), u8))) (fun (k7 : St → Option (Int32 × St)) => lq_2 (B_X5_search_31 k7) FU u4 1)) (fun (k3 : St → Option (Int32 × St)) => lq_2 (B_X5_search_2 p1 k3) FU u 0)
set_option maxRecDepth 100000 in
set_option maxHeartbeats 4000000 in
theorem c_X5_search {l : Launch} {D : va_G} {cI cJ cR : ClassId} {a : Nat → Nat} {u : St} {N : Nat} (hNN : 38 ≤ N) {p1 : Int32} {rr : Int32} {uu : St} (hf : f_X5_search u p1 = some (rr, uu)) : Ci l yX5_search cX5_search 3 (some .int) 5 115 D (tyB cI cJ cR) N a (EB a cI cJ cR) [.ref (a 31), .int p1] u rr uu := by
  refine metI (by decide +kernel) (Nat.le_of_ble_eq_true rfl) ?_
  intro p e s m args below meth c R Q hx hb hml hown hts hF hLo hret hK hN h ls hl
  have hown : s.vm.findClass RX5 = some m.cls := hown
  have hl : lv_has ls 3 [(0, .ref (a 31)), (1, .int p1)] := hl
  unfold f_X5_search at hf
  refine lv_iconst (pc := 0) (v := 0) hx hb dX5_search_0 (by decide) ?_
  refine lv_istore_n (pc := 1) (lv' := [(2, .int 0), (0, .ref (a 31)), (1, .int p1)]) hx hb dX5_search_1 rfl hl (by decide) rfl (fun ls hl => ?_)
  obtain ⟨k3, hk3, hf⟩ := jq_1_e hf
  have jk3 : ∀ (u4 : St), k3 u4 = some (rr, uu) → ∀ (H : Heap) (locs : List Loc) (ls : Array Slot), Hh D (AB N a s.heap.size) (wX N a (EB a cI cJ cR) u4) s.heap H locs → lv_has ls 3 [(0, .ref (a 31))] → W p l e R s m args below meth c H locs 0 0 Q (F0 m 29 ls []) := by
    intro u4 hf H locs ls h hl
    rw [hk3] at hf
    refine lv_iconst (pc := 29) (v := 1) hx hb dX5_search_29 (by decide) ?_
    refine lv_istore_n (pc := 30) (lv' := [(2, .int 1), (0, .ref (a 31))]) hx hb dX5_search_30 rfl hl (by decide) rfl (fun ls hl => ?_)
    obtain ⟨k7, hk7, hf⟩ := jq_1_e hf
    have jk7 : ∀ (u8 : St), k7 u8 = some (rr, uu) → ∀ (H : Heap) (locs : List Loc) (ls : Array Slot), Hh D (AB N a s.heap.size) (wX N a (EB a cI cJ cR) u8) s.heap H locs → lv_has ls 3 [(0, .ref (a 31))] → W p l e R s m args below meth c H locs 0 0 Q (F0 m 69 ls []) := by
      intro u8 hf H locs ls h hl
      rw [hk7] at hf
      refine lv_aload_n (pc := 69) hx hb dX5_search_69 rfl (lv_at hl 0 rfl) ?_
      refine gB_31_3 (pc := 70) hNN hx hb hts hown hK h fl_X5_15 dX5_search_70 ?_
      refine lv_aload_n (pc := 73) hx hb dX5_search_73 rfl (lv_at hl 0 rfl) ?_
      refine gB_31_0 (pc := 74) hNN hx hb hts hown hK h fl_X5_18 dX5_search_74 ?_
      refine gB_1_1 (pc := 77) hNN hx hb hts hown hK h fl_X5_32 dX5_search_77 ?_
      refine gB_5_4 (pc := 80) hNN hx hb hts hown hK h fl_X5_48 dX5_search_80 ?_
      refine lv_sipush (pc := 83) (v := 255) hx hb dX5_search_83 (by decide) ?_
      refine lv_iand (pc := 86) hx hb dX5_search_86 ?_
      obtain ⟨hin, hf⟩ := cki_e hf
      refine gB_33 (pc := 87) hNN hx hb hK h hin dX5_search_87 ?_
      exact hret (so1 hf) rfl (so2 hf) dX5_search_88 h
    refine lq_2_e (P := fun (u5 : St) (x6 : Int32) => ∀ (H : Heap) (locs : List Loc) (ls : Array Slot), Hh D (AB N a s.heap.size) (wX N a (EB a cI cJ cR) u5) s.heap H locs → lv_has ls 3 [(0, .ref (a 31)), (2, .int x6)] → W p l e R s m args below meth c H locs 0 0 Q (F0 m 31 ls [])) ?_ FU _ _ hf _ _ _ h (lv_sub hl [1, 0] rfl)
    intro rec9 irec9 u5 x6 hf H locs ls h hl
    unfold B_X5_search_31 at hf
    refine lv_iload_n (pc := 31) hx hb dX5_search_31 rfl (lv_at hl 1 rfl) ?_
    refine lv_sipush (pc := 32) (v := 255) hx hb dX5_search_32 (by decide) ?_
    refine lv_icmp_gt (pc := 35) (tgt := 69) hx hb dX5_search_35 (by decide) (fun c10 => ?_) (fun c10 => ?_)
    · have hf := if_t hf c10
      exact jk7 _ hf _ _ _ h (lv_sub hl [0] rfl)
    · have hf := if_f hf c10
      refine lv_aload_n (pc := 38) hx hb dX5_search_38 rfl (lv_at hl 0 rfl) ?_
      refine gB_31_0 (pc := 39) hNN hx hb hts hown hK h fl_X5_18 dX5_search_39 ?_
      refine gB_1_1 (pc := 42) hNN hx hb hts hown hK h fl_X5_32 dX5_search_42 ?_
      refine lv_iload_n (pc := 45) hx hb dX5_search_45 rfl (lv_at hl 1 rfl) ?_
      obtain ⟨x11, hc, hf⟩ := b1_e hf
      refine k_X7_hasAll (pc := 46) hNN hx hb hml hown hts hK hN hc ml_X5_38 (Nat.le_trans (by decide) hF) (Nat.le_trans (by decide) hLo) h hl.1 ⟨Nat.zero_le _, Nat.zero_le _⟩ (Nat.le_of_ble_eq_true rfl) dX5_search_46 (fun H locs h => ?_)
      refine lv_if_eq (pc := 49) (tgt := 63) hx hb dX5_search_49 (by decide) (fun c12 => ?_) (fun c12 => ?_)
      · have hf := if_t hf c12
        refine lv_iinc (pc := 63) (v := x6 + 1) (lv' := [(2, .int (x6 + 1)), (0, .ref (a 31))]) hx hb dX5_search_63 hl (k := 1) rfl rfl (by decide) rfl (fun ls hl => ?_)
        refine lv_goto (pc := 66) (tgt := 31) hx hb dX5_search_66 (by decide) ?_
        exact irec9 _ _ hf _ _ _ h (lv_sub hl [1, 0] rfl)
      · have hf := if_f hf c12
        refine lv_aload_n (pc := 52) hx hb dX5_search_52 rfl (lv_at hl 0 rfl) ?_
        refine gB_31_3 (pc := 53) hNN hx hb hts hown hK h fl_X5_15 dX5_search_53 ?_
        refine lv_iload_n (pc := 56) hx hb dX5_search_56 rfl (lv_at hl 1 rfl) ?_
        refine lv_aload_n (pc := 57) hx hb dX5_search_57 rfl (lv_at hl 0 rfl) ?_
        refine lv_iload_n (pc := 58) hx hb dX5_search_58 rfl (lv_at hl 1 rfl) ?_
        obtain ⟨x13, hc, hf⟩ := b1_e hf
        refine k_X5_mostOf (pc := 59) hNN hx hb hml hown hts hK hN hc ml_X5_44 (Nat.le_trans (by decide) hF) (Nat.le_trans (by decide) hLo) h hl.1 ⟨Nat.zero_le _, Nat.zero_le _⟩ (Nat.le_of_ble_eq_true rfl) dX5_search_59 (fun H locs h => ?_)
        obtain ⟨hin, hf⟩ := cki_e hf
        refine pB_33 (pc := 62) hNN hx hb hK h hin dX5_search_62 (fun H locs h => ?_)
        obtain ⟨u14, eu14, hf⟩ := bs_e hf
        rw [← eu14] at h
        refine lv_iinc (pc := 63) (v := x6 + 1) (lv' := [(2, .int (x6 + 1)), (0, .ref (a 31))]) hx hb dX5_search_63 hl (k := 1) rfl rfl (by decide) rfl (fun ls hl => ?_)
        refine lv_goto (pc := 66) (tgt := 31) hx hb dX5_search_66 (by decide) ?_
        exact irec9 _ _ hf _ _ _ h (lv_sub hl [1, 0] rfl)
  refine lq_2_e (P := fun (u1 : St) (x2 : Int32) => ∀ (H : Heap) (locs : List Loc) (ls : Array Slot), Hh D (AB N a s.heap.size) (wX N a (EB a cI cJ cR) u1) s.heap H locs → lv_has ls 3 [(0, .ref (a 31)), (1, .int p1), (2, .int x2)] → W p l e R s m args below meth c H locs 0 0 Q (F0 m 2 ls [])) ?_ FU _ _ hf _ _ _ h (lv_sub hl [1, 2, 0] rfl)
  intro rec15 irec15 u1 x2 hf H locs ls h hl
  unfold B_X5_search_2 at hf
  refine lv_iload_n (pc := 2) hx hb dX5_search_2 rfl (lv_at hl 2 rfl) ?_
  refine lv_bipush (pc := 3) (v := 8) hx hb dX5_search_3 (by decide) ?_
  refine lv_icmp_ge (pc := 5) (tgt := 29) hx hb dX5_search_5 (by decide) (fun c16 => ?_) (fun c16 => ?_)
  · have hf := if_t hf c16
    exact jk3 _ hf _ _ _ h (lv_sub hl [0] rfl)
  · have hf := if_f hf c16
    refine lv_aload_n (pc := 8) hx hb dX5_search_8 rfl (lv_at hl 0 rfl) ?_
    refine gB_31_2 (pc := 9) hNN hx hb hts hown hK h fl_X5_9 dX5_search_9 ?_
    refine lv_iload_n (pc := 12) hx hb dX5_search_12 rfl (lv_at hl 2 rfl) ?_
    refine lv_aload_n (pc := 13) hx hb dX5_search_13 rfl (lv_at hl 0 rfl) ?_
    refine gB_31_1 (pc := 14) hNN hx hb hts hown hK h fl_X5_22 dX5_search_14 ?_
    refine lv_iload_n (pc := 17) hx hb dX5_search_17 rfl (lv_at hl 2 rfl) ?_
    refine lv_iload_n (pc := 18) hx hb dX5_search_18 rfl (lv_at hl 1 rfl) ?_
    obtain ⟨x17, hc, hf⟩ := b1_e hf
    refine k_X0_acidOf (pc := 19) hNN hx hb hml hown hts hK hN hc ml_X5_26 (Nat.le_trans (by decide) hF) (Nat.le_trans (by decide) hLo) h hl.1 ⟨Nat.zero_le _, Nat.zero_le _⟩ (Nat.le_of_ble_eq_true rfl) dX5_search_19 (fun H locs h => ?_)
    obtain ⟨hin, hf⟩ := cki_e hf
    refine pB_32 (pc := 22) hNN hx hb hK h hin dX5_search_22 (fun H locs h => ?_)
    obtain ⟨u18, eu18, hf⟩ := bs_e hf
    rw [← eu18] at h
    refine lv_iinc (pc := 23) (v := x2 + 1) (lv' := [(2, .int (x2 + 1)), (0, .ref (a 31)), (1, .int p1)]) hx hb dX5_search_23 hl (k := 2) rfl rfl (by decide) rfl (fun ls hl => ?_)
    refine lv_goto (pc := 26) (tgt := 2) hx hb dX5_search_26 (by decide) ?_
    exact irec15 _ _ hf _ _ _ h (lv_sub hl [1, 2, 0] rfl)
theorem k_X5_search {p : Program} {l : Launch} {e : Env} {R : Room} {s : State} {m : MethodId} {args : Array Value} {below : List Frame} {meth : Method} {c : Code} {H : Heap} {locs : List Loc} {cells slots : Nat} {Q : State → Prop} {pc : Nat} {ls : Array Slot} {rest : List Value} {cc : ByteArray} {D : va_G} {cI cJ cR : ClassId} {a : Nat → Nat} {u : St} {own : String} {index nL : Nat} {N : Nat} (hNN : 38 ≤ N) {p1 : Int32} {rr : Int32} {uu : St} (hx : p.tables.exec = Jvm.exec) (hb : c.code = cc) (hml : c.maxLocals = nL) (hown : s.vm.findClass own = some m.cls) (hts : ∀ w ∈ Gd, w.before args s = true) (hK : va_K D vwCl (tyB cI cJ cR) s) (hN : NB s) (hc : f_X5_search u p1 = some (rr, uu)) (hlk : Cond.methodLink own index yX5_search ∈ Gd) (hF : 6 ≤ R.frames) (hLo : 137 ≤ R.locals) (h : Hh D (AB N a s.heap.size) (wX N a (EB a cI cJ cR) u) s.heap H locs) (hsize : ls.size = nL) (hcs : cells ≤ R.cells ∧ slots ≤ R.slots) (hr : (rest.map fun v => v.category).sum ≤ 8) (hdg : decode cc pc = .ok (.invokevirtual index, 3)) (kk : ∀ (H1 : Heap) (locs1 : List Loc), Hh D (AB N a s.heap.size) (wX N a (EB a cI cJ cR) uu) s.heap H1 locs1 → W p l e R s m args below meth c H1 locs1 cells slots Q (F0 m (pc + 3) ls (.int rr :: rest))) : W p l e R s m args below meth c H locs cells slots Q (F0 m pc ls (.int p1 :: .ref (a 31) :: rest)) :=
  cVi (n := 1) hx hb hml hown hts hK hN (c_X5_search hNN hc) (gdV hlk im_X5_search se_X5_search in_X5 co_X5_search) rfl (by decide +kernel) rfl hF hLo h hsize hcs (Nat.lt_of_lt_of_le (by decide) hNN) rfl rfl rfl hr hdg kk
def B_X5_firstPartner_2 (p1 : Int32) (p2 : Int32) (u : St) (k2 : Option (Int32)) (rec3 : Int32 → Option (Int32)) (x1 : Int32) : Option (Int32) := if 8 ≤ x1 then k2 else b1 (f_X11_hasBit u p1 x1) (fun (x5 : Int32) => if x5 = 0 then rec3 (x1 + 1) else b1 (f_X5_withPartner u p1 p2 x1) (fun (x7 : Int32) => cki p1 256 (if x7 = (u.1 33 (ix p1)) then some x1 else rec3 (x1 + 1))))
def f_X5_firstPartner (u : St) (p1 : Int32) (p2 : Int32) : Option (Int32) := jq_0 (some p2) (fun (k2 : Option (Int32)) => lq_1 (B_X5_firstPartner_2 p1 p2 u k2) FU p2)
set_option maxRecDepth 100000 in
set_option maxHeartbeats 4000000 in
theorem c_X5_firstPartner {l : Launch} {D : va_G} {cI cJ cR : ClassId} {a : Nat → Nat} {u : St} {N : Nat} (hNN : 38 ≤ N) {p1 : Int32} {p2 : Int32} {rr : Int32} (hf : f_X5_firstPartner u p1 p2 = some rr) : Ci l yX5_firstPartner cX5_firstPartner 4 (some .int) 3 70 D (tyB cI cJ cR) N a (EB a cI cJ cR) [.ref (a 31), .int p1, .int p2] u rr u := by
  refine metI (by decide +kernel) (Nat.le_of_ble_eq_true rfl) ?_
  intro p e s m args below meth c R Q hx hb hml hown hts hF hLo hret hK hN h ls hl
  have hown : s.vm.findClass RX5 = some m.cls := hown
  have hl : lv_has ls 4 [(0, .ref (a 31)), (1, .int p1), (2, .int p2)] := hl
  unfold f_X5_firstPartner at hf
  refine lv_iload_n (pc := 0) hx hb dX5_firstPartner_0 rfl (lv_at hl 2 rfl) ?_
  refine lv_istore_n (pc := 1) (lv' := [(3, .int p2), (0, .ref (a 31)), (1, .int p1), (2, .int p2)]) hx hb dX5_firstPartner_1 rfl hl (by decide) rfl (fun ls hl => ?_)
  obtain ⟨k2, hk2, hf⟩ := jq_0_e hf
  have jk2 : k2 = some rr → ∀ (H : Heap) (locs : List Loc) (ls : Array Slot), Hh D (AB N a s.heap.size) (wX N a (EB a cI cJ cR) u) s.heap H locs → lv_has ls 4 [(2, .int p2)] → W p l e R s m args below meth c H locs 0 0 Q (F0 m 40 ls []) := by
    intro hf H locs ls h hl
    rw [hk2] at hf
    refine lv_iload_n (pc := 40) hx hb dX5_firstPartner_40 rfl (lv_at hl 0 rfl) ?_
    exact hret (so hf) rfl rfl dX5_firstPartner_41 h
  refine lq_1_e (P := fun (x1 : Int32) => ∀ (H : Heap) (locs : List Loc) (ls : Array Slot), Hh D (AB N a s.heap.size) (wX N a (EB a cI cJ cR) u) s.heap H locs → lv_has ls 4 [(0, .ref (a 31)), (1, .int p1), (2, .int p2), (3, .int x1)] → W p l e R s m args below meth c H locs 0 0 Q (F0 m 2 ls [])) ?_ FU _ hf _ _ _ h (lv_sub hl [1, 2, 3, 0] rfl)
  intro rec3 irec3 x1 hf H locs ls h hl
  unfold B_X5_firstPartner_2 at hf
  refine lv_iload_n (pc := 2) hx hb dX5_firstPartner_2 rfl (lv_at hl 3 rfl) ?_
  refine lv_bipush (pc := 3) (v := 8) hx hb dX5_firstPartner_3 (by decide) ?_
  refine lv_icmp_ge (pc := 5) (tgt := 40) hx hb dX5_firstPartner_5 (by decide) (fun c4 => ?_) (fun c4 => ?_)
  · have hf := if_t hf c4
    exact jk2 hf _ _ _ h (lv_sub hl [2] rfl)
  · have hf := if_f hf c4
    refine lv_iload_n (pc := 8) hx hb dX5_firstPartner_8 rfl (lv_at hl 1 rfl) ?_
    refine lv_iload_n (pc := 9) hx hb dX5_firstPartner_9 rfl (lv_at hl 3 rfl) ?_
    obtain ⟨x5, hc, hf⟩ := b1_e hf
    refine kN_X11_hasBit (pc := 10) hNN hx hb hml hown hts hK hN hc (nl_X5_55 hN) (Nat.le_trans (by decide) hF) (Nat.le_trans (by decide) hLo) h hl.1 ⟨Nat.zero_le _, Nat.zero_le _⟩ (Nat.le_of_ble_eq_true rfl) dX5_firstPartner_10 (fun H locs h => ?_)
    refine lv_if_eq (pc := 13) (tgt := 34) hx hb dX5_firstPartner_13 (by decide) (fun c6 => ?_) (fun c6 => ?_)
    · have hf := if_t hf c6
      refine lv_iinc (pc := 34) (v := x1 + 1) (lv' := [(3, .int (x1 + 1)), (0, .ref (a 31)), (1, .int p1), (2, .int p2)]) hx hb dX5_firstPartner_34 hl (k := 3) rfl rfl (by decide) rfl (fun ls hl => ?_)
      refine lv_goto (pc := 37) (tgt := 2) hx hb dX5_firstPartner_37 (by decide) ?_
      exact irec3 _ hf _ _ _ h (lv_sub hl [1, 2, 3, 0] rfl)
    · have hf := if_f hf c6
      refine lv_aload_n (pc := 16) hx hb dX5_firstPartner_16 rfl (lv_at hl 0 rfl) ?_
      refine lv_iload_n (pc := 17) hx hb dX5_firstPartner_17 rfl (lv_at hl 1 rfl) ?_
      refine lv_iload_n (pc := 18) hx hb dX5_firstPartner_18 rfl (lv_at hl 2 rfl) ?_
      refine lv_iload_n (pc := 19) hx hb dX5_firstPartner_19 rfl (lv_at hl 3 rfl) ?_
      obtain ⟨x7, hc, hf⟩ := b1_e hf
      refine k_X5_withPartner (pc := 20) hNN hx hb hml hown hts hK hN hc ml_X5_59 (Nat.le_trans (by decide) hF) (Nat.le_trans (by decide) hLo) h hl.1 ⟨Nat.zero_le _, Nat.zero_le _⟩ (Nat.le_of_ble_eq_true rfl) dX5_firstPartner_20 (fun H locs h => ?_)
      refine lv_aload_n (pc := 23) hx hb dX5_firstPartner_23 rfl (lv_at hl 0 rfl) ?_
      refine gB_31_3 (pc := 24) hNN hx hb hts hown hK h fl_X5_15 dX5_firstPartner_24 ?_
      refine lv_iload_n (pc := 27) hx hb dX5_firstPartner_27 rfl (lv_at hl 1 rfl) ?_
      obtain ⟨hin, hf⟩ := cki_e hf
      refine gB_33 (pc := 28) hNN hx hb hK h hin dX5_firstPartner_28 ?_
      refine lv_icmp_ne (pc := 29) (tgt := 34) hx hb dX5_firstPartner_29 (by decide) (fun c8 => ?_) (fun c8 => ?_)
      · have hf := if_f hf c8
        refine lv_iinc (pc := 34) (v := x1 + 1) (lv' := [(3, .int (x1 + 1)), (0, .ref (a 31)), (1, .int p1), (2, .int p2)]) hx hb dX5_firstPartner_34 hl (k := 3) rfl rfl (by decide) rfl (fun ls hl => ?_)
        refine lv_goto (pc := 37) (tgt := 2) hx hb dX5_firstPartner_37 (by decide) ?_
        exact irec3 _ hf _ _ _ h (lv_sub hl [1, 2, 3, 0] rfl)
      · have hf := if_t hf c8
        refine lv_iload_n (pc := 32) hx hb dX5_firstPartner_32 rfl (lv_at hl 3 rfl) ?_
        exact hret (so hf) rfl rfl dX5_firstPartner_33 h
theorem k_X5_firstPartner {p : Program} {l : Launch} {e : Env} {R : Room} {s : State} {m : MethodId} {args : Array Value} {below : List Frame} {meth : Method} {c : Code} {H : Heap} {locs : List Loc} {cells slots : Nat} {Q : State → Prop} {pc : Nat} {ls : Array Slot} {rest : List Value} {cc : ByteArray} {D : va_G} {cI cJ cR : ClassId} {a : Nat → Nat} {u : St} {own : String} {index nL : Nat} {N : Nat} (hNN : 38 ≤ N) {p1 : Int32} {p2 : Int32} {rr : Int32} (hx : p.tables.exec = Jvm.exec) (hb : c.code = cc) (hml : c.maxLocals = nL) (hown : s.vm.findClass own = some m.cls) (hts : ∀ w ∈ Gd, w.before args s = true) (hK : va_K D vwCl (tyB cI cJ cR) s) (hN : NB s) (hc : f_X5_firstPartner u p1 p2 = some rr) (hlk : Cond.methodLink own index yX5_firstPartner ∈ Gd) (hF : 4 ≤ R.frames) (hLo : 93 ≤ R.locals) (h : Hh D (AB N a s.heap.size) (wX N a (EB a cI cJ cR) u) s.heap H locs) (hsize : ls.size = nL) (hcs : cells ≤ R.cells ∧ slots ≤ R.slots) (hr : (rest.map fun v => v.category).sum ≤ 8) (hdg : decode cc pc = .ok (.invokevirtual index, 3)) (kk : ∀ (H1 : Heap) (locs1 : List Loc), Hh D (AB N a s.heap.size) (wX N a (EB a cI cJ cR) u) s.heap H1 locs1 → W p l e R s m args below meth c H1 locs1 cells slots Q (F0 m (pc + 3) ls (.int rr :: rest))) : W p l e R s m args below meth c H locs cells slots Q (F0 m pc ls (.int p2 :: .int p1 :: .ref (a 31) :: rest)) :=
  cVi (n := 2) hx hb hml hown hts hK hN (c_X5_firstPartner hNN hc) (gdV hlk im_X5_firstPartner se_X5_firstPartner in_X5 co_X5_firstPartner) rfl (by decide +kernel) rfl hF hLo h hsize hcs (Nat.lt_of_lt_of_le (by decide) hNN) rfl rfl rfl hr hdg kk
def B_X5_partnerOf_17 (p1 : Int32) (u : St) (k3 : Option (Int32)) (rec4 : Int32 → Int32 → Option (Int32)) (x1 : Int32) (x2 : Int32) : Option (Int32) := if 8 ≤ x2 then k3 else if x1 = 0 then k3 else b1 (f_X5_leastOf u x1) (fun (x7 : Int32) => b1 (f_X5_firstPartner u x1 x7) (fun (x8 : Int32) => if x7 = p1 then some x8 else if x8 = p1 then some x7 else bs ((x1 &&& (((1 : Int32) <<< (x7 &&& 31)) ^^^ (-1 : Int32))) &&& (((1 : Int32) <<< (x8 &&& 31)) ^^^ (-1 : Int32))) (fun x11 : Int32 => rec4 x11 (x2 + 1))))
def f_X5_partnerOf (u : St) (p1 : Int32) : Option (Int32) := jq_0 (some p1) (fun (k3 : Option (Int32)) => lq_2 (B_X5_partnerOf_17 p1 u k3) FU ((u.1 5 4) &&& (255 : Int32)) 0)
set_option maxRecDepth 100000 in
set_option maxHeartbeats 4000000 in
theorem c_X5_partnerOf {l : Launch} {D : va_G} {cI cJ cR : ClassId} {a : Nat → Nat} {u : St} {N : Nat} (hNN : 38 ≤ N) {p1 : Int32} {rr : Int32} (hf : f_X5_partnerOf u p1 = some rr) : Ci l yX5_partnerOf cX5_partnerOf 6 (some .int) 4 93 D (tyB cI cJ cR) N a (EB a cI cJ cR) [.ref (a 31), .int p1] u rr u := by
  refine metI (by decide +kernel) (Nat.le_of_ble_eq_true rfl) ?_
  intro p e s m args below meth c R Q hx hb hml hown hts hF hLo hret hK hN h ls hl
  have hown : s.vm.findClass RX5 = some m.cls := hown
  have hl : lv_has ls 6 [(0, .ref (a 31)), (1, .int p1)] := hl
  unfold f_X5_partnerOf at hf
  refine lv_aload_n (pc := 0) hx hb dX5_partnerOf_0 rfl (lv_at hl 0 rfl) ?_
  refine gB_31_0 (pc := 1) hNN hx hb hts hown hK h fl_X5_18 dX5_partnerOf_1 ?_
  refine gB_1_1 (pc := 4) hNN hx hb hts hown hK h fl_X5_32 dX5_partnerOf_4 ?_
  refine gB_5_4 (pc := 7) hNN hx hb hts hown hK h fl_X5_48 dX5_partnerOf_7 ?_
  refine lv_sipush (pc := 10) (v := 255) hx hb dX5_partnerOf_10 (by decide) ?_
  refine lv_iand (pc := 13) hx hb dX5_partnerOf_13 ?_
  refine lv_istore_n (pc := 14) (lv' := [(2, .int ((u.1 5 4) &&& (255 : Int32))), (0, .ref (a 31)), (1, .int p1)]) hx hb dX5_partnerOf_14 rfl hl (by decide) rfl (fun ls hl => ?_)
  refine lv_iconst (pc := 15) (v := 0) hx hb dX5_partnerOf_15 (by decide) ?_
  refine lv_istore_n (pc := 16) (lv' := [(3, .int 0), (2, .int ((u.1 5 4) &&& (255 : Int32))), (0, .ref (a 31)), (1, .int p1)]) hx hb dX5_partnerOf_16 rfl hl (by decide) rfl (fun ls hl => ?_)
  obtain ⟨k3, hk3, hf⟩ := jq_0_e hf
  have jk3 : k3 = some rr → ∀ (H : Heap) (locs : List Loc) (ls : Array Slot), Hh D (AB N a s.heap.size) (wX N a (EB a cI cJ cR) u) s.heap H locs → lv_has ls 6 [(1, .int p1)] → W p l e R s m args below meth c H locs 0 0 Q (F0 m 83 ls []) := by
    intro hf H locs ls h hl
    rw [hk3] at hf
    refine lv_iload_n (pc := 83) hx hb dX5_partnerOf_83 rfl (lv_at hl 0 rfl) ?_
    exact hret (so hf) rfl rfl dX5_partnerOf_84 h
  refine lq_2_e (P := fun (x1 : Int32) (x2 : Int32) => ∀ (H : Heap) (locs : List Loc) (ls : Array Slot), Hh D (AB N a s.heap.size) (wX N a (EB a cI cJ cR) u) s.heap H locs → lv_has ls 6 [(0, .ref (a 31)), (1, .int p1), (2, .int x1), (3, .int x2)] → W p l e R s m args below meth c H locs 0 0 Q (F0 m 17 ls [])) ?_ FU _ _ hf _ _ _ h (lv_sub hl [2, 3, 1, 0] rfl)
  intro rec4 irec4 x1 x2 hf H locs ls h hl
  unfold B_X5_partnerOf_17 at hf
  refine lv_iload_n (pc := 17) hx hb dX5_partnerOf_17 rfl (lv_at hl 3 rfl) ?_
  refine lv_bipush (pc := 18) (v := 8) hx hb dX5_partnerOf_18 (by decide) ?_
  refine lv_icmp_ge (pc := 20) (tgt := 83) hx hb dX5_partnerOf_20 (by decide) (fun c5 => ?_) (fun c5 => ?_)
  · have hf := if_t hf c5
    exact jk3 hf _ _ _ h (lv_sub hl [1] rfl)
  · have hf := if_f hf c5
    refine lv_iload_n (pc := 23) hx hb dX5_partnerOf_23 rfl (lv_at hl 2 rfl) ?_
    refine lv_if_eq (pc := 24) (tgt := 83) hx hb dX5_partnerOf_24 (by decide) (fun c6 => ?_) (fun c6 => ?_)
    · have hf := if_t hf c6
      exact jk3 hf _ _ _ h (lv_sub hl [1] rfl)
    · have hf := if_f hf c6
      refine lv_aload_n (pc := 27) hx hb dX5_partnerOf_27 rfl (lv_at hl 0 rfl) ?_
      refine lv_iload_n (pc := 28) hx hb dX5_partnerOf_28 rfl (lv_at hl 2 rfl) ?_
      obtain ⟨x7, hc, hf⟩ := b1_e hf
      refine k_X5_leastOf (pc := 29) hNN hx hb hml hown hts hK hN hc ml_X5_52 (Nat.le_trans (by decide) hF) (Nat.le_trans (by decide) hLo) h hl.1 ⟨Nat.zero_le _, Nat.zero_le _⟩ (Nat.le_of_ble_eq_true rfl) dX5_partnerOf_29 (fun H locs h => ?_)
      refine lv_istore (pc := 32) (lv' := [(4, .int x7), (0, .ref (a 31)), (1, .int p1), (2, .int x1), (3, .int x2)]) hx hb dX5_partnerOf_32 hl (by decide) rfl (fun ls hl => ?_)
      refine lv_aload_n (pc := 34) hx hb dX5_partnerOf_34 rfl (lv_at hl 1 rfl) ?_
      refine lv_iload_n (pc := 35) hx hb dX5_partnerOf_35 rfl (lv_at hl 3 rfl) ?_
      refine lv_iload (pc := 36) hx hb dX5_partnerOf_36 (lv_at hl 0 rfl) ?_
      obtain ⟨x8, hc, hf⟩ := b1_e hf
      refine k_X5_firstPartner (pc := 38) hNN hx hb hml hown hts hK hN hc ml_X5_80 (Nat.le_trans (by decide) hF) (Nat.le_trans (by decide) hLo) h hl.1 ⟨Nat.zero_le _, Nat.zero_le _⟩ (Nat.le_of_ble_eq_true rfl) dX5_partnerOf_38 (fun H locs h => ?_)
      refine lv_istore (pc := 41) (lv' := [(5, .int x8), (4, .int x7), (0, .ref (a 31)), (1, .int p1), (2, .int x1), (3, .int x2)]) hx hb dX5_partnerOf_41 hl (by decide) rfl (fun ls hl => ?_)
      refine lv_iload (pc := 43) hx hb dX5_partnerOf_43 (lv_at hl 1 rfl) ?_
      refine lv_iload_n (pc := 45) hx hb dX5_partnerOf_45 rfl (lv_at hl 3 rfl) ?_
      refine lv_icmp_ne (pc := 46) (tgt := 52) hx hb dX5_partnerOf_46 (by decide) (fun c9 => ?_) (fun c9 => ?_)
      · have hf := if_f hf c9
        refine lv_iload (pc := 52) hx hb dX5_partnerOf_52 (lv_at hl 0 rfl) ?_
        refine lv_iload_n (pc := 54) hx hb dX5_partnerOf_54 rfl (lv_at hl 3 rfl) ?_
        refine lv_icmp_ne (pc := 55) (tgt := 61) hx hb dX5_partnerOf_55 (by decide) (fun c10 => ?_) (fun c10 => ?_)
        · have hf := if_f hf c10
          refine lv_iload_n (pc := 61) hx hb dX5_partnerOf_61 rfl (lv_at hl 4 rfl) ?_
          refine lv_iconst (pc := 62) (v := 1) hx hb dX5_partnerOf_62 (by decide) ?_
          refine lv_iload (pc := 63) hx hb dX5_partnerOf_63 (lv_at hl 1 rfl) ?_
          refine lv_ishl (pc := 65) hx hb dX5_partnerOf_65 ?_
          refine lv_iconst (pc := 66) (v := (-1)) hx hb dX5_partnerOf_66 (by decide) ?_
          refine lv_ixor (pc := 67) hx hb dX5_partnerOf_67 ?_
          refine lv_iand (pc := 68) hx hb dX5_partnerOf_68 ?_
          refine lv_iconst (pc := 69) (v := 1) hx hb dX5_partnerOf_69 (by decide) ?_
          refine lv_iload (pc := 70) hx hb dX5_partnerOf_70 (lv_at hl 0 rfl) ?_
          refine lv_ishl (pc := 72) hx hb dX5_partnerOf_72 ?_
          refine lv_iconst (pc := 73) (v := (-1)) hx hb dX5_partnerOf_73 (by decide) ?_
          refine lv_ixor (pc := 74) hx hb dX5_partnerOf_74 ?_
          refine lv_iand (pc := 75) hx hb dX5_partnerOf_75 ?_
          obtain ⟨x11, ex11, hf⟩ := bs_e hf
          refine rTop ex11 ?_
          refine lv_istore_n (pc := 76) (lv' := [(2, .int x11), (5, .int x8), (4, .int x7), (0, .ref (a 31)), (1, .int p1), (3, .int x2)]) hx hb dX5_partnerOf_76 rfl hl (by decide) rfl (fun ls hl => ?_)
          refine lv_iinc (pc := 77) (v := x2 + 1) (lv' := [(3, .int (x2 + 1)), (2, .int x11), (5, .int x8), (4, .int x7), (0, .ref (a 31)), (1, .int p1)]) hx hb dX5_partnerOf_77 hl (k := 5) rfl rfl (by decide) rfl (fun ls hl => ?_)
          refine lv_goto (pc := 80) (tgt := 17) hx hb dX5_partnerOf_80 (by decide) ?_
          exact irec4 _ _ hf _ _ _ h (lv_sub hl [4, 5, 1, 0] rfl)
        · have hf := if_t hf c10
          refine lv_iload (pc := 58) hx hb dX5_partnerOf_58 (lv_at hl 1 rfl) ?_
          exact hret (so hf) rfl rfl dX5_partnerOf_60 h
      · have hf := if_t hf c9
        refine lv_iload (pc := 49) hx hb dX5_partnerOf_49 (lv_at hl 0 rfl) ?_
        exact hret (so hf) rfl rfl dX5_partnerOf_51 h
theorem k_X5_partnerOf {p : Program} {l : Launch} {e : Env} {R : Room} {s : State} {m : MethodId} {args : Array Value} {below : List Frame} {meth : Method} {c : Code} {H : Heap} {locs : List Loc} {cells slots : Nat} {Q : State → Prop} {pc : Nat} {ls : Array Slot} {rest : List Value} {cc : ByteArray} {D : va_G} {cI cJ cR : ClassId} {a : Nat → Nat} {u : St} {own : String} {index nL : Nat} {N : Nat} (hNN : 38 ≤ N) {p1 : Int32} {rr : Int32} (hx : p.tables.exec = Jvm.exec) (hb : c.code = cc) (hml : c.maxLocals = nL) (hown : s.vm.findClass own = some m.cls) (hts : ∀ w ∈ Gd, w.before args s = true) (hK : va_K D vwCl (tyB cI cJ cR) s) (hN : NB s) (hc : f_X5_partnerOf u p1 = some rr) (hlk : Cond.methodLink own index yX5_partnerOf ∈ Gd) (hF : 5 ≤ R.frames) (hLo : 118 ≤ R.locals) (h : Hh D (AB N a s.heap.size) (wX N a (EB a cI cJ cR) u) s.heap H locs) (hsize : ls.size = nL) (hcs : cells ≤ R.cells ∧ slots ≤ R.slots) (hr : (rest.map fun v => v.category).sum ≤ 8) (hdg : decode cc pc = .ok (.invokevirtual index, 3)) (kk : ∀ (H1 : Heap) (locs1 : List Loc), Hh D (AB N a s.heap.size) (wX N a (EB a cI cJ cR) u) s.heap H1 locs1 → W p l e R s m args below meth c H1 locs1 cells slots Q (F0 m (pc + 3) ls (.int rr :: rest))) : W p l e R s m args below meth c H locs cells slots Q (F0 m pc ls (.int p1 :: .ref (a 31) :: rest)) :=
  cVi (n := 1) hx hb hml hown hts hK hN (c_X5_partnerOf hNN hc) (gdV hlk im_X5_partnerOf se_X5_partnerOf in_X5 co_X5_partnerOf) rfl (by decide +kernel) rfl hF hLo h hsize hcs (Nat.lt_of_lt_of_le (by decide) hNN) rfl rfl rfl hr hdg kk
