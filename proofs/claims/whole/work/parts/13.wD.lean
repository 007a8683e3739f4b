def f_X6_note (u : St) (p1 : Int32) (p2 : Int32) (p3 : Int32) : Option (St) := b1 (f_X11_within u (u.1 12 3) 0 5) (fun (x1 : Int32) => if x1 = 0 then some u else cki (u.1 12 3) 6 (bs (sI u 13 (ix (u.1 12 3)) p1) (fun u3 : St => cki (u3.1 12 3) 6 (bs (sI u3 14 (ix (u3.1 12 3)) p2) (fun u4 : St => cki (u4.1 12 3) 6 (bs (sI u4 15 (ix (u4.1 12 3)) p3) (fun u5 : St => bs (sI u5 12 3 ((u5.1 12 3) + (1 : Int32))) (fun u6 : St => some u6))))))))
set_option maxRecDepth 100000 in
set_option maxHeartbeats 4000000 in
theorem c_X6_note {l : Launch} {D : va_G} {cI cJ cR : ClassId} {a : Nat → Nat} {u : St} {N : Nat} (hNN : 38 ≤ N) {p1 : Int32} {p2 : Int32} {p3 : Int32} {uu : St} (hf : f_X6_note u p1 p2 p3 = some uu) : Cv l yX6_note cX6_note 4 none 1 22 D (tyB cI cJ cR) N a (EB a cI cJ cR) [.ref (a 12), .int p1, .int p2, .int p3] u uu := by
  refine metV (by decide +kernel) (Nat.le_of_ble_eq_true rfl) ?_
  intro p e s m args below meth c R Q hx hb hml hown hts hF hLo hret hK hN h ls hl
  have hown : s.vm.findClass RX6 = some m.cls := hown
  have hl : lv_has ls 4 [(0, .ref (a 12)), (1, .int p1), (2, .int p2), (3, .int p3)] := hl
  unfold f_X6_note at hf
  refine lv_aload_n (pc := 0) hx hb dX6_note_0 rfl (lv_at hl 0 rfl) ?_
  refine gB_12_3 (pc := 1) hNN hx hb hts hown hK h fl_X6_21 dX6_note_1 ?_
  refine lv_iconst (pc := 4) (v := 0) hx hb dX6_note_4 (by decide) ?_
  refine lv_iconst (pc := 5) (v := 5) hx hb dX6_note_5 (by decide) ?_
  obtain ⟨x1, hc, hf⟩ := b1_e hf
  refine kN_X11_within (pc := 6) hNN hx hb hml hown hts hK hN hc (nl_X6_25 hN) (Nat.le_trans (by decide) hF) (Nat.le_trans (by decide) hLo) h hl.1 ⟨Nat.zero_le _, Nat.zero_le _⟩ (Nat.le_of_ble_eq_true rfl) dX6_note_6 (fun H locs h => ?_)
  refine lv_if_ne (pc := 9) (tgt := 13) hx hb dX6_note_9 (by decide) (fun c2 => ?_) (fun c2 => ?_)
  · have hf := if_f hf c2
    refine lv_aload_n (pc := 13) hx hb dX6_note_13 rfl (lv_at hl 0 rfl) ?_
    refine gB_12_0 (pc := 14) hNN hx hb hts hown hK h fl_X6_9 dX6_note_14 ?_
    refine lv_aload_n (pc := 17) hx hb dX6_note_17 rfl (lv_at hl 0 rfl) ?_
    refine gB_12_3 (pc := 18) hNN hx hb hts hown hK h fl_X6_21 dX6_note_18 ?_
    refine lv_iload_n (pc := 21) hx hb dX6_note_21 rfl (lv_at hl 1 rfl) ?_
    obtain ⟨hin, hf⟩ := cki_e hf
    refine pB_13 (pc := 22) hNN hx hb hK h hin dX6_note_22 (fun H locs h => ?_)
    obtain ⟨u3, eu3, hf⟩ := bs_e hf
    rw [← eu3] at h
    refine lv_aload_n (pc := 23) hx hb dX6_note_23 rfl (lv_at hl 0 rfl) ?_
    refine gB_12_1 (pc := 24) hNN hx hb hts hown hK h fl_X6_15 dX6_note_24 ?_
    refine lv_aload_n (pc := 27) hx hb dX6_note_27 rfl (lv_at hl 0 rfl) ?_
    refine gB_12_3 (pc := 28) hNN hx hb hts hown hK h fl_X6_21 dX6_note_28 ?_
    refine lv_iload_n (pc := 31) hx hb dX6_note_31 rfl (lv_at hl 2 rfl) ?_
    obtain ⟨hin, hf⟩ := cki_e hf
    refine pB_14 (pc := 32) hNN hx hb hK h hin dX6_note_32 (fun H locs h => ?_)
    obtain ⟨u4, eu4, hf⟩ := bs_e hf
    rw [← eu4] at h
    refine lv_aload_n (pc := 33) hx hb dX6_note_33 rfl (lv_at hl 0 rfl) ?_
    refine gB_12_2 (pc := 34) hNN hx hb hts hown hK h fl_X6_18 dX6_note_34 ?_
    refine lv_aload_n (pc := 37) hx hb dX6_note_37 rfl (lv_at hl 0 rfl) ?_
    refine gB_12_3 (pc := 38) hNN hx hb hts hown hK h fl_X6_21 dX6_note_38 ?_
    refine lv_iload_n (pc := 41) hx hb dX6_note_41 rfl (lv_at hl 3 rfl) ?_
    obtain ⟨hin, hf⟩ := cki_e hf
    refine pB_15 (pc := 42) hNN hx hb hK h hin dX6_note_42 (fun H locs h => ?_)
    obtain ⟨u5, eu5, hf⟩ := bs_e hf
    rw [← eu5] at h
    refine lv_aload_n (pc := 43) hx hb dX6_note_43 rfl (lv_at hl 0 rfl) ?_
    refine lv_dup (pc := 44) hx hb dX6_note_44 rfl ?_
    refine gB_12_3 (pc := 45) hNN hx hb hts hown hK h fl_X6_21 dX6_note_45 ?_
    refine lv_iconst (pc := 48) (v := 1) hx hb dX6_note_48 (by decide) ?_
    refine lv_iadd (pc := 49) hx hb dX6_note_49 ?_
    refine pB_12_3 (pc := 50) hNN hx hb hts hown hK h fl_X6_21 dX6_note_50 (fun H locs h => ?_)
    obtain ⟨u6, eu6, hf⟩ := bs_e hf
    rw [← eu6] at h
    exact hret (so hf) dX6_note_53 h
  · have hf := if_t hf c2
    exact hret (so hf) dX6_note_12 h
theorem k_X6_note {p : Program} {l : Launch} {e : Env} {R : Room} {s : State} {m : MethodId} {args : Array Value} {below : List Frame} {meth : Method} {c : Code} {H : Heap} {locs : List Loc} {cells slots : Nat} {Q : State → Prop} {pc : Nat} {ls : Array Slot} {rest : List Value} {cc : ByteArray} {D : va_G} {cI cJ cR : ClassId} {a : Nat → Nat} {u : St} {own : String} {index nL : Nat} {N : Nat} (hNN : 38 ≤ N) {p1 : Int32} {p2 : Int32} {p3 : Int32} {uu : St} (hx : p.tables.exec = Jvm.exec) (hb : c.code = cc) (hml : c.maxLocals = nL) (hown : s.vm.findClass own = some m.cls) (hts : ∀ w ∈ Gd, w.before args s = true) (hK : va_K D vwCl (tyB cI cJ cR) s) (hN : NB s) (hc : f_X6_note u p1 p2 p3 = some uu) (hlk : Cond.methodLink own index yX6_note ∈ Gd) (hF : 2 ≤ R.frames) (hLo : 45 ≤ R.locals) (h : Hh D (AB N a s.heap.size) (wX N a (EB a cI cJ cR) u) s.heap H locs) (hsize : ls.size = nL) (hcs : cells ≤ R.cells ∧ slots ≤ R.slots) (hr : (rest.map fun v => v.category).sum ≤ 8) (hdg : decode cc pc = .ok (.invokevirtual index, 3)) (kk : ∀ (H1 : Heap) (locs1 : List Loc), Hh D (AB N a s.heap.size) (wX N a (EB a cI cJ cR) uu) s.heap H1 locs1 → W p l e R s m args below meth c H1 locs1 cells slots Q (F0 m (pc + 3) ls (rest))) : W p l e R s m args below meth c H locs cells slots Q (F0 m pc ls (.int p3 :: .int p2 :: .int p1 :: .ref (a 12) :: rest)) :=
  cVv (n := 3) hx hb hml hown hts hK hN (c_X6_note hNN hc) (gdV hlk im_X6_note se_X6_note in_X6 co_X6_note) rfl (by decide +kernel) rfl hF hLo h hsize hcs (Nat.lt_of_lt_of_le (by decide) hNN) rfl rfl rfl hr hdg kk
def B_X6_latestDay_4 (u : St) (k3 : Int32 → Option (Int32)) (rec5 : Int32 → Int32 → Option (Int32)) (x1 : Int32) (x2 : Int32) : Option (Int32) := if (u.1 12 3) ≤ x2 then k3 x1 else if 6 ≤ x2 then k3 x1 else cki x2 6 (bs (mxI x1 (u.1 14 (ix x2))) (fun x8 : Int32 => rec5 x8 (x2 + 1)))
def f_X6_latestDay (u : St) : Option (Int32) := jq_1 (fun (x4 : Int32) => some x4) (fun (k3 : Int32 → Option (Int32)) => lq_2 (B_X6_latestDay_4 u k3) FU 0 0)
set_option maxRecDepth 100000 in
set_option maxHeartbeats 4000000 in
theorem c_X6_latestDay {l : Launch} {D : va_G} {cI cJ cR : ClassId} {a : Nat → Nat} {u : St} {N : Nat} (hNN : 38 ≤ N) {rr : Int32} (hf : f_X6_latestDay u = some rr) : Ci l yX6_latestDay cX6_latestDay 3 (some .int) 1 21 D (tyB cI cJ cR) N a (EB a cI cJ cR) [.ref (a 12)] u rr u := by
  refine metI (by decide +kernel) (Nat.le_of_ble_eq_true rfl) ?_
  intro p e s m args below meth c R Q hx hb hml hown hts hF hLo hret hK hN h ls hl
  have hown : s.vm.findClass RX6 = some m.cls := hown
  have hl : lv_has ls 3 [(0, .ref (a 12))] := hl
  unfold f_X6_latestDay at hf
  refine lv_iconst (pc := 0) (v := 0) hx hb dX6_latestDay_0 (by decide) ?_
  refine lv_istore_n (pc := 1) (lv' := [(1, .int 0), (0, .ref (a 12))]) hx hb dX6_latestDay_1 rfl hl (by decide) rfl (fun ls hl => ?_)
  refine lv_iconst (pc := 2) (v := 0) hx hb dX6_latestDay_2 (by decide) ?_
  refine lv_istore_n (pc := 3) (lv' := [(2, .int 0), (1, .int 0), (0, .ref (a 12))]) hx hb dX6_latestDay_3 rfl hl (by decide) rfl (fun ls hl => ?_)
  obtain ⟨k3, hk3, hf⟩ := jq_1_e hf
  have jk3 : ∀ (x4 : Int32), k3 x4 = some rr → ∀ (H : Heap) (locs : List Loc) (ls : Array Slot), Hh D (AB N a s.heap.size) (wX N a (EB a cI cJ cR) u) s.heap H locs → lv_has ls 3 [(1, .int x4)] → W p l e R s m args below meth c H locs 0 0 Q (F0 m 35 ls []) := by
    intro x4 hf H locs ls h hl
    rw [hk3] at hf
    refine lv_iload_n (pc := 35) hx hb dX6_latestDay_35 rfl (lv_at hl 0 rfl) ?_
    exact hret (so hf) rfl rfl dX6_latestDay_36 h
  refine lq_2_e (P := fun (x1 : Int32) (x2 : Int32) => ∀ (H : Heap) (locs : List Loc) (ls : Array Slot), Hh D (AB N a s.heap.size) (wX N a (EB a cI cJ cR) u) s.heap H locs → lv_has ls 3 [(0, .ref (a 12)), (1, .int x1), (2, .int x2)] → W p l e R s m args below meth c H locs 0 0 Q (F0 m 4 ls [])) ?_ FU _ _ hf _ _ _ h (lv_sub hl [2, 1, 0] rfl)
  intro rec5 irec5 x1 x2 hf H locs ls h hl
  unfold B_X6_latestDay_4 at hf
  refine lv_iload_n (pc := 4) hx hb dX6_latestDay_4 rfl (lv_at hl 2 rfl) ?_
  refine lv_aload_n (pc := 5) hx hb dX6_latestDay_5 rfl (lv_at hl 0 rfl) ?_
  refine gB_12_3 (pc := 6) hNN hx hb hts hown hK h fl_X6_21 dX6_latestDay_6 ?_
  refine lv_icmp_ge (pc := 9) (tgt := 35) hx hb dX6_latestDay_9 (by decide) (fun c6 => ?_) (fun c6 => ?_)
  · have hf := if_t hf c6
    exact jk3 _ hf _ _ _ h (lv_sub hl [1] rfl)
  · have hf := if_f hf c6
    refine lv_iload_n (pc := 12) hx hb dX6_latestDay_12 rfl (lv_at hl 2 rfl) ?_
    refine lv_bipush (pc := 13) (v := 6) hx hb dX6_latestDay_13 (by decide) ?_
    refine lv_icmp_ge (pc := 15) (tgt := 35) hx hb dX6_latestDay_15 (by decide) (fun c7 => ?_) (fun c7 => ?_)
    · have hf := if_t hf c7
      exact jk3 _ hf _ _ _ h (lv_sub hl [1] rfl)
    · have hf := if_f hf c7
      refine lv_iload_n (pc := 18) hx hb dX6_latestDay_18 rfl (lv_at hl 1 rfl) ?_
      refine lv_aload_n (pc := 19) hx hb dX6_latestDay_19 rfl (lv_at hl 0 rfl) ?_
      refine gB_12_1 (pc := 20) hNN hx hb hts hown hK h fl_X6_15 dX6_latestDay_20 ?_
      refine lv_iload_n (pc := 23) hx hb dX6_latestDay_23 rfl (lv_at hl 2 rfl) ?_
      obtain ⟨hin, hf⟩ := cki_e hf
      refine gB_14 (pc := 24) hNN hx hb hK h hin dX6_latestDay_24 ?_
      refine rMmax (pc := 25) hx hb (hml.trans hl.1.symm) hown hts ml_X6_29 (Nat.le_trans (by decide) hF) (Nat.le_trans (by decide) hLo) (Nat.le_of_ble_eq_true rfl) ⟨Nat.zero_le _, Nat.zero_le _⟩ dX6_latestDay_25 ?_
      obtain ⟨x8, ex8, hf⟩ := bs_e hf
      refine rTop ex8 ?_
      refine lv_istore_n (pc := 28) (lv' := [(1, .int x8), (0, .ref (a 12)), (2, .int x2)]) hx hb dX6_latestDay_28 rfl hl (by decide) rfl (fun ls hl => ?_)
      refine lv_iinc (pc := 29) (v := x2 + 1) (lv' := [(2, .int (x2 + 1)), (1, .int x8), (0, .ref (a 12))]) hx hb dX6_latestDay_29 hl (k := 2) rfl rfl (by decide) rfl (fun ls hl => ?_)
      refine lv_goto (pc := 32) (tgt := 4) hx hb dX6_latestDay_32 (by decide) ?_
      exact irec5 _ _ hf _ _ _ h (lv_sub hl [2, 1, 0] rfl)
theorem k_X6_latestDay {p : Program} {l : Launch} {e : Env} {R : Room} {s : State} {m : MethodId} {args : Array Value} {below : List Frame} {meth : Method} {c : Code} {H : Heap} {locs : List Loc} {cells slots : Nat} {Q : State → Prop} {pc : Nat} {ls : Array Slot} {rest : List Value} {cc : ByteArray} {D : va_G} {cI cJ cR : ClassId} {a : Nat → Nat} {u : St} {own : String} {index nL : Nat} {N : Nat} (hNN : 38 ≤ N) {rr : Int32} (hx : p.tables.exec = Jvm.exec) (hb : c.code = cc) (hml : c.maxLocals = nL) (hown : s.vm.findClass own = some m.cls) (hts : ∀ w ∈ Gd, w.before args s = true) (hK : va_K D vwCl (tyB cI cJ cR) s) (hN : NB s) (hc : f_X6_latestDay u = some rr) (hlk : Cond.methodLink own index yX6_latestDay ∈ Gd) (hF : 2 ≤ R.frames) (hLo : 43 ≤ R.locals) (h : Hh D (AB N a s.heap.size) (wX N a (EB a cI cJ cR) u) s.heap H locs) (hsize : ls.size = nL) (hcs : cells ≤ R.cells ∧ slots ≤ R.slots) (hr : (rest.map fun v => v.category).sum ≤ 8) (hdg : decode cc pc = .ok (.invokevirtual index, 3)) (kk : ∀ (H1 : Heap) (locs1 : List Loc), Hh D (AB N a s.heap.size) (wX N a (EB a cI cJ cR) u) s.heap H1 locs1 → W p l e R s m args below meth c H1 locs1 cells slots Q (F0 m (pc + 3) ls (.int rr :: rest))) : W p l e R s m args below meth c H locs cells slots Q (F0 m pc ls (.ref (a 12) :: rest)) :=
  cVi (n := 0) hx hb hml hown hts hK hN (c_X6_latestDay hNN hc) (gdV hlk im_X6_latestDay se_X6_latestDay in_X6 co_X6_latestDay) rfl (by decide +kernel) rfl hF hLo h hsize hcs (Nat.lt_of_lt_of_le (by decide) hNN) rfl rfl rfl hr hdg kk
def f_X7_put (u : St) (p1 : Int32) (p2 : Int32) (p3 : Int32) (p4 : Int32) (p5 : Int32) : Option (St) := b1 (f_X11_within u p1 0 7) (fun (x1 : Int32) => if x1 = 0 then some u else bs (sI u 5 4 ((u.1 5 4) ||| ((1 : Int32) <<< (p1 &&& 31)))) (fun u3 : St => cki p1 8 (bs (sI u3 6 (ix p1) p2) (fun u4 : St => cki p1 8 (bs (sI u4 7 (ix p1) p3) (fun u5 : St => cki p1 8 (bs (sI u5 8 (ix p1) p4) (fun u6 : St => cki p1 8 (bs (sI u6 9 (ix p1) p5) (fun u7 : St => some u7))))))))))
set_option maxRecDepth 100000 in
set_option maxHeartbeats 4000000 in
theorem c_X7_put {l : Launch} {D : va_G} {cI cJ cR : ClassId} {a : Nat → Nat} {u : St} {N : Nat} (hNN : 38 ≤ N) {p1 : Int32} {p2 : Int32} {p3 : Int32} {p4 : Int32} {p5 : Int32} {uu : St} (hf : f_X7_put u p1 p2 p3 p4 p5 = some uu) : Cv l yX7_put cX7_put 6 none 1 22 D (tyB cI cJ cR) N a (EB a cI cJ cR) [.ref (a 5), .int p1, .int p2, .int p3, .int p4, .int p5] u uu := by
  refine metV (by decide +kernel) (Nat.le_of_ble_eq_true rfl) ?_
  intro p e s m args below meth c R Q hx hb hml hown hts hF hLo hret hK hN h ls hl
  have hown : s.vm.findClass RX7 = some m.cls := hown
  have hl : lv_has ls 6 [(0, .ref (a 5)), (1, .int p1), (2, .int p2), (3, .int p3), (4, .int p4), (5, .int p5)] := hl
  unfold f_X7_put at hf
  refine lv_iload_n (pc := 0) hx hb dX7_put_0 rfl (lv_at hl 1 rfl) ?_
  refine lv_iconst (pc := 1) (v := 0) hx hb dX7_put_1 (by decide) ?_
  refine lv_bipush (pc := 2) (v := 7) hx hb dX7_put_2 (by decide) ?_
  obtain ⟨x1, hc, hf⟩ := b1_e hf
  refine kN_X11_within (pc := 4) hNN hx hb hml hown hts hK hN hc (nl_X7_36 hN) (Nat.le_trans (by decide) hF) (Nat.le_trans (by decide) hLo) h hl.1 ⟨Nat.zero_le _, Nat.zero_le _⟩ (Nat.le_of_ble_eq_true rfl) dX7_put_4 (fun H locs h => ?_)
  refine lv_if_ne (pc := 7) (tgt := 11) hx hb dX7_put_7 (by decide) (fun c2 => ?_) (fun c2 => ?_)
  · have hf := if_f hf c2
    refine lv_aload_n (pc := 11) hx hb dX7_put_11 rfl (lv_at hl 0 rfl) ?_
    refine lv_dup (pc := 12) hx hb dX7_put_12 rfl ?_
    refine gB_5_4 (pc := 13) hNN hx hb hts hown hK h fl_X7_24 dX7_put_13 ?_
    refine lv_iconst (pc := 16) (v := 1) hx hb dX7_put_16 (by decide) ?_
    refine lv_iload_n (pc := 17) hx hb dX7_put_17 rfl (lv_at hl 1 rfl) ?_
    refine lv_ishl (pc := 18) hx hb dX7_put_18 ?_
    refine lv_ior (pc := 19) hx hb dX7_put_19 ?_
    refine pB_5_4 (pc := 20) hNN hx hb hts hown hK h fl_X7_24 dX7_put_20 (fun H locs h => ?_)
    obtain ⟨u3, eu3, hf⟩ := bs_e hf
    rw [← eu3] at h
    refine lv_aload_n (pc := 23) hx hb dX7_put_23 rfl (lv_at hl 0 rfl) ?_
    refine gB_5_0 (pc := 24) hNN hx hb hts hown hK h fl_X7_9 dX7_put_24 ?_
    refine lv_iload_n (pc := 27) hx hb dX7_put_27 rfl (lv_at hl 1 rfl) ?_
    refine lv_iload_n (pc := 28) hx hb dX7_put_28 rfl (lv_at hl 2 rfl) ?_
    obtain ⟨hin, hf⟩ := cki_e hf
    refine pB_6 (pc := 29) hNN hx hb hK h hin dX7_put_29 (fun H locs h => ?_)
    obtain ⟨u4, eu4, hf⟩ := bs_e hf
    rw [← eu4] at h
    refine lv_aload_n (pc := 30) hx hb dX7_put_30 rfl (lv_at hl 0 rfl) ?_
    refine gB_5_1 (pc := 31) hNN hx hb hts hown hK h fl_X7_15 dX7_put_31 ?_
    refine lv_iload_n (pc := 34) hx hb dX7_put_34 rfl (lv_at hl 1 rfl) ?_
    refine lv_iload_n (pc := 35) hx hb dX7_put_35 rfl (lv_at hl 3 rfl) ?_
    obtain ⟨hin, hf⟩ := cki_e hf
    refine pB_7 (pc := 36) hNN hx hb hK h hin dX7_put_36 (fun H locs h => ?_)
    obtain ⟨u5, eu5, hf⟩ := bs_e hf
    rw [← eu5] at h
    refine lv_aload_n (pc := 37) hx hb dX7_put_37 rfl (lv_at hl 0 rfl) ?_
    refine gB_5_2 (pc := 38) hNN hx hb hts hown hK h fl_X7_18 dX7_put_38 ?_
    refine lv_iload_n (pc := 41) hx hb dX7_put_41 rfl (lv_at hl 1 rfl) ?_
    refine lv_iload (pc := 42) hx hb dX7_put_42 (lv_at hl 4 rfl) ?_
    obtain ⟨hin, hf⟩ := cki_e hf
    refine pB_8 (pc := 44) hNN hx hb hK h hin dX7_put_44 (fun H locs h => ?_)
    obtain ⟨u6, eu6, hf⟩ := bs_e hf
    rw [← eu6] at h
    refine lv_aload_n (pc := 45) hx hb dX7_put_45 rfl (lv_at hl 0 rfl) ?_
    refine gB_5_3 (pc := 46) hNN hx hb hts hown hK h fl_X7_21 dX7_put_46 ?_
    refine lv_iload_n (pc := 49) hx hb dX7_put_49 rfl (lv_at hl 1 rfl) ?_
    refine lv_iload (pc := 50) hx hb dX7_put_50 (lv_at hl 5 rfl) ?_
    obtain ⟨hin, hf⟩ := cki_e hf
    refine pB_9 (pc := 52) hNN hx hb hK h hin dX7_put_52 (fun H locs h => ?_)
    obtain ⟨u7, eu7, hf⟩ := bs_e hf
    rw [← eu7] at h
    exact hret (so hf) dX7_put_53 h
  · have hf := if_t hf c2
    exact hret (so hf) dX7_put_10 h
theorem k_X7_put {p : Program} {l : Launch} {e : Env} {R : Room} {s : State} {m : MethodId} {args : Array Value} {below : List Frame} {meth : Method} {c : Code} {H : Heap} {locs : List Loc} {cells slots : Nat} {Q : State → Prop} {pc : Nat} {ls : Array Slot} {rest : List Value} {cc : ByteArray} {D : va_G} {cI cJ cR : ClassId} {a : Nat → Nat} {u : St} {own : String} {index nL : Nat} {N : Nat} (hNN : 38 ≤ N) {p1 : Int32} {p2 : Int32} {p3 : Int32} {p4 : Int32} {p5 : Int32} {uu : St} (hx : p.tables.exec = Jvm.exec) (hb : c.code = cc) (hml : c.maxLocals = nL) (hown : s.vm.findClass own = some m.cls) (hts : ∀ w ∈ Gd, w.before args s = true) (hK : va_K D vwCl (tyB cI cJ cR) s) (hN : NB s) (hc : f_X7_put u p1 p2 p3 p4 p5 = some uu) (hlk : Cond.methodLink own index yX7_put ∈ Gd) (hF : 2 ≤ R.frames) (hLo : 47 ≤ R.locals) (h : Hh D (AB N a s.heap.size) (wX N a (EB a cI cJ cR) u) s.heap H locs) (hsize : ls.size = nL) (hcs : cells ≤ R.cells ∧ slots ≤ R.slots) (hr : (rest.map fun v => v.category).sum ≤ 8) (hdg : decode cc pc = .ok (.invokevirtual index, 3)) (kk : ∀ (H1 : Heap) (locs1 : List Loc), Hh D (AB N a s.heap.size) (wX N a (EB a cI cJ cR) uu) s.heap H1 locs1 → W p l e R s m args below meth c H1 locs1 cells slots Q (F0 m (pc + 3) ls (rest))) : W p l e R s m args below meth c H locs cells slots Q (F0 m pc ls (.int p5 :: .int p4 :: .int p3 :: .int p2 :: .int p1 :: .ref (a 5) :: rest)) :=
  cVv (n := 5) hx hb hml hown hts hK hN (c_X7_put hNN hc) (gdV hlk im_X7_put se_X7_put in_X7 co_X7_put) rfl (by decide +kernel) rfl hF hLo h hsize hcs (Nat.lt_of_lt_of_le (by decide) hNN) rfl rfl rfl hr hdg kk
def B_X8_readFrom_15 (k4 : St → Option (St)) (rec6 : St → Int32 → Option (St)) (u2 : St) (x3 : Int32) : Option (St) := if (u2.1 10 1) ≤ x3 then k4 u2 else cki x3 60 (cki x3 30 (bs (sI u2 11 (ix x3) ((u2.1 19 (ix x3)) - (48 : Int32))) (fun u8 : St => rec6 u8 (x3 + 1))))
def f_X8_readFrom (u : St) : Option (St) := bs (sI u 10 1 (mnI (u.1 18 1) 30)) (fun u1 : St => jq_1 (fun (u5 : St) => some u5) (fun (k4 : St → Option (St)) => lq_2 (B_X8_readFrom_15 k4) FU u1 0))
set_option maxRecDepth 100000 in
set_option maxHeartbeats 4000000 in
theorem c_X8_readFrom {l : Launch} {D : va_G} {cI cJ cR : ClassId} {a : Nat → Nat} {u : St} {N : Nat} (hNN : 38 ≤ N) {uu : St} (hf : f_X8_readFrom u = some uu) : Cv l yX8_readFrom cX8_readFrom 3 none 1 21 D (tyB cI cJ cR) N a (EB a cI cJ cR) [.ref (a 10), .ref (a 18)] u uu := by
  refine metV (by decide +kernel) (Nat.le_of_ble_eq_true rfl) ?_
  intro p e s m args below meth c R Q hx hb hml hown hts hF hLo hret hK hN h ls hl
  have hown : s.vm.findClass RX8 = some m.cls := hown
  have hl : lv_has ls 3 [(0, .ref (a 10)), (1, .ref (a 18))] := hl
  unfold f_X8_readFrom at hf
  refine lv_aload_n (pc := 0) hx hb dX8_readFrom_0 rfl (lv_at hl 0 rfl) ?_
  refine lv_aload_n (pc := 1) hx hb dX8_readFrom_1 rfl (lv_at hl 1 rfl) ?_
  refine gB_18_1 (pc := 2) hNN hx hb hts hown hK h fl_X8_19 dX8_readFrom_2 ?_
  refine lv_bipush (pc := 5) (v := 30) hx hb dX8_readFrom_5 (by decide) ?_
  refine rMmin (pc := 7) hx hb (hml.trans hl.1.symm) hown hts ml_X8_24 (Nat.le_trans (by decide) hF) (Nat.le_trans (by decide) hLo) (Nat.le_of_ble_eq_true rfl) ⟨Nat.zero_le _, Nat.zero_le _⟩ dX8_readFrom_7 ?_
  refine pB_10_1 (pc := 10) hNN hx hb hts hown hK h fl_X8_15 dX8_readFrom_10 (fun H locs h => ?_)
  obtain ⟨u1, eu1, hf⟩ := bs_e hf
  rw [← eu1] at h
  refine lv_iconst (pc := 13) (v := 0) hx hb dX8_readFrom_13 (by decide) ?_
  refine lv_istore_n (pc := 14) (lv' := [(2, .int 0), (0, .ref (a 10)), (1, .ref (a 18))]) hx hb dX8_readFrom_14 rfl hl (by decide) rfl (fun ls hl => ?_)
  obtain ⟨k4, hk4, hf⟩ := jq_1_e hf
  have jk4 : ∀ (u5 : St), k4 u5 = some uu → ∀ (H : Heap) (locs : List Loc) (ls : Array Slot), Hh D (AB N a s.heap.size) (wX N a (EB a cI cJ cR) u5) s.heap H locs → lv_has ls 3 [] → W p l e R s m args below meth c H locs 0 0 Q (F0 m 44 ls []) := by
    intro u5 hf H locs ls h hl
    rw [hk4] at hf
    exact hret (so hf) dX8_readFrom_44 h
  refine lq_2_e (P := fun (u2 : St) (x3 : Int32) => ∀ (H : Heap) (locs : List Loc) (ls : Array Slot), Hh D (AB N a s.heap.size) (wX N a (EB a cI cJ cR) u2) s.heap H locs → lv_has ls 3 [(0, .ref (a 10)), (1, .ref (a 18)), (2, .int x3)] → W p l e R s m args below meth c H locs 0 0 Q (F0 m 15 ls [])) ?_ FU _ _ hf _ _ _ h (lv_sub hl [1, 2, 0] rfl)
  intro rec6 irec6 u2 x3 hf H locs ls h hl
  unfold B_X8_readFrom_15 at hf
  refine lv_iload_n (pc := 15) hx hb dX8_readFrom_15 rfl (lv_at hl 2 rfl) ?_
  refine lv_aload_n (pc := 16) hx hb dX8_readFrom_16 rfl (lv_at hl 0 rfl) ?_
  refine gB_10_1 (pc := 17) hNN hx hb hts hown hK h fl_X8_15 dX8_readFrom_17 ?_
  refine lv_icmp_ge (pc := 20) (tgt := 44) hx hb dX8_readFrom_20 (by decide) (fun c7 => ?_) (fun c7 => ?_)
  · have hf := if_t hf c7
    exact jk4 _ hf _ _ _ h (lv_sub hl [] rfl)
  · have hf := if_f hf c7
    refine lv_aload_n (pc := 23) hx hb dX8_readFrom_23 rfl (lv_at hl 0 rfl) ?_
    refine gB_10_0 (pc := 24) hNN hx hb hts hown hK h fl_X8_9 dX8_readFrom_24 ?_
    refine lv_iload_n (pc := 27) hx hb dX8_readFrom_27 rfl (lv_at hl 2 rfl) ?_
    refine lv_aload_n (pc := 28) hx hb dX8_readFrom_28 rfl (lv_at hl 1 rfl) ?_
    refine gB_18_0 (pc := 29) hNN hx hb hts hown hK h fl_X8_30 dX8_readFrom_29 ?_
    refine lv_iload_n (pc := 32) hx hb dX8_readFrom_32 rfl (lv_at hl 2 rfl) ?_
    obtain ⟨hin, hf⟩ := cki_e hf
    refine gB_19 (pc := 33) hNN hx hb hK h hin dX8_readFrom_33 ?_
    refine lv_bipush (pc := 34) (v := 48) hx hb dX8_readFrom_34 (by decide) ?_
    refine lv_isub (pc := 36) hx hb dX8_readFrom_36 ?_
    obtain ⟨hin, hf⟩ := cki_e hf
    refine pB_11 (pc := 37) hNN hx hb hK h hin dX8_readFrom_37 (fun H locs h => ?_)
    obtain ⟨u8, eu8, hf⟩ := bs_e hf
    rw [← eu8] at h
    refine lv_iinc (pc := 38) (v := x3 + 1) (lv' := [(2, .int (x3 + 1)), (0, .ref (a 10)), (1, .ref (a 18))]) hx hb dX8_readFrom_38 hl (k := 2) rfl rfl (by decide) rfl (fun ls hl => ?_)
    refine lv_goto (pc := 41) (tgt := 15) hx hb dX8_readFrom_41 (by decide) ?_
    exact irec6 _ _ hf _ _ _ h (lv_sub hl [1, 2, 0] rfl)
theorem k_X8_readFrom {p : Program} {l : Launch} {e : Env} {R : Room} {s : State} {m : MethodId} {args : Array Value} {below : List Frame} {meth : Method} {c : Code} {H : Heap} {locs : List Loc} {cells slots : Nat} {Q : State → Prop} {pc : Nat} {ls : Array Slot} {rest : List Value} {cc : ByteArray} {D : va_G} {cI cJ cR : ClassId} {a : Nat → Nat} {u : St} {own : String} {index nL : Nat} {N : Nat} (hNN : 38 ≤ N) {uu : St} (hx : p.tables.exec = Jvm.exec) (hb : c.code = cc) (hml : c.maxLocals = nL) (hown : s.vm.findClass own = some m.cls) (hts : ∀ w ∈ Gd, w.before args s = true) (hK : va_K D vwCl (tyB cI cJ cR) s) (hN : NB s) (hc : f_X8_readFrom u = some uu) (hlk : Cond.methodLink own index yX8_readFrom ∈ Gd) (hF : 2 ≤ R.frames) (hLo : 43 ≤ R.locals) (h : Hh D (AB N a s.heap.size) (wX N a (EB a cI cJ cR) u) s.heap H locs) (hsize : ls.size = nL) (hcs : cells ≤ R.cells ∧ slots ≤ R.slots) (hr : (rest.map fun v => v.category).sum ≤ 8) (hdg : decode cc pc = .ok (.invokevirtual index, 3)) (kk : ∀ (H1 : Heap) (locs1 : List Loc), Hh D (AB N a s.heap.size) (wX N a (EB a cI cJ cR) uu) s.heap H1 locs1 → W p l e R s m args below meth c H1 locs1 cells slots Q (F0 m (pc + 3) ls (rest))) : W p l e R s m args below meth c H locs cells slots Q (F0 m pc ls (.ref (a 18) :: .ref (a 10) :: rest)) :=
  cVv (n := 1) hx hb hml hown hts hK hN (c_X8_readFrom hNN hc) (gdV hlk im_X8_readFrom se_X8_readFrom in_X8 co_X8_readFrom) rfl (by decide +kernel) rfl hF hLo h hsize hcs (Nat.lt_of_lt_of_le (by decide) hNN) rfl rfl rfl hr hdg kk
def B_X8_daysFrom_4 (p1 : Int32) (u : St) (k3 : Int32 → Option (Int32)) (rec5 : Int32 → Int32 → Option (Int32)) (x1 : Int32) (x2 : Int32) : Option (Int32) := if (u.1 10 1) ≤ x2 then k3 x1 else b1 (f_X8_digitAt u x2) (fun (x7 : Int32) => if x7 < p1 then rec5 (x1 ||| (0 : Int32)) (x2 + 1) else rec5 (x1 ||| ((1 : Int32) <<< (x2 &&& 31))) (x2 + 1))
def f_X8_daysFrom (u : St) (p1 : Int32) : Option (Int32) := jq_1 (fun (x4 : Int32) => some x4) (fun (k3 : Int32 → Option (Int32)) => lq_2 (B_X8_daysFrom_4 p1 u k3) FU 0 0)
set_option maxRecDepth 100000 in
set_option maxHeartbeats 4000000 in
theorem c_X8_daysFrom {l : Launch} {D : va_G} {cI cJ cR : ClassId} {a : Nat → Nat} {u : St} {N : Nat} (hNN : 38 ≤ N) {p1 : Int32} {rr : Int32} (hf : f_X8_daysFrom u p1 = some rr) : Ci l yX8_daysFrom cX8_daysFrom 4 (some .int) 1 21 D (tyB cI cJ cR) N a (EB a cI cJ cR) [.ref (a 10), .int p1] u rr u := by
  refine metI (by decide +kernel) (Nat.le_of_ble_eq_true rfl) ?_
  intro p e s m args below meth c R Q hx hb hml hown hts hF hLo hret hK hN h ls hl
  have hown : s.vm.findClass RX8 = some m.cls := hown
  have hl : lv_has ls 4 [(0, .ref (a 10)), (1, .int p1)] := hl
  unfold f_X8_daysFrom at hf
  refine lv_iconst (pc := 0) (v := 0) hx hb dX8_daysFrom_0 (by decide) ?_
  refine lv_istore_n (pc := 1) (lv' := [(2, .int 0), (0, .ref (a 10)), (1, .int p1)]) hx hb dX8_daysFrom_1 rfl hl (by decide) rfl (fun ls hl => ?_)
  refine lv_iconst (pc := 2) (v := 0) hx hb dX8_daysFrom_2 (by decide) ?_
  refine lv_istore_n (pc := 3) (lv' := [(3, .int 0), (2, .int 0), (0, .ref (a 10)), (1, .int p1)]) hx hb dX8_daysFrom_3 rfl hl (by decide) rfl (fun ls hl => ?_)
  obtain ⟨k3, hk3, hf⟩ := jq_1_e hf
  have jk3 : ∀ (x4 : Int32), k3 x4 = some rr → ∀ (H : Heap) (locs : List Loc) (ls : Array Slot), Hh D (AB N a s.heap.size) (wX N a (EB a cI cJ cR) u) s.heap H locs → lv_has ls 4 [(2, .int x4)] → W p l e R s m args below meth c H locs 0 0 Q (F0 m 37 ls []) := by
    intro x4 hf H locs ls h hl
    rw [hk3] at hf
    refine lv_iload_n (pc := 37) hx hb dX8_daysFrom_37 rfl (lv_at hl 0 rfl) ?_
    exact hret (so hf) rfl rfl dX8_daysFrom_38 h
  refine lq_2_e (P := fun (x1 : Int32) (x2 : Int32) => ∀ (H : Heap) (locs : List Loc) (ls : Array Slot), Hh D (AB N a s.heap.size) (wX N a (EB a cI cJ cR) u) s.heap H locs → lv_has ls 4 [(0, .ref (a 10)), (1, .int p1), (2, .int x1), (3, .int x2)] → W p l e R s m args below meth c H locs 0 0 Q (F0 m 4 ls [])) ?_ FU _ _ hf _ _ _ h (lv_sub hl [2, 3, 1, 0] rfl)
  intro rec5 irec5 x1 x2 hf H locs ls h hl
  unfold B_X8_daysFrom_4 at hf
  refine lv_iload_n (pc := 4) hx hb dX8_daysFrom_4 rfl (lv_at hl 3 rfl) ?_
  refine lv_aload_n (pc := 5) hx hb dX8_daysFrom_5 rfl (lv_at hl 0 rfl) ?_
  refine gB_10_1 (pc := 6) hNN hx hb hts hown hK h fl_X8_15 dX8_daysFrom_6 ?_
  refine lv_icmp_ge (pc := 9) (tgt := 37) hx hb dX8_daysFrom_9 (by decide) (fun c6 => ?_) (fun c6 => ?_)
  · have hf := if_t hf c6
    exact jk3 _ hf _ _ _ h (lv_sub hl [2] rfl)
  · have hf := if_f hf c6
    refine lv_iload_n (pc := 12) hx hb dX8_daysFrom_12 rfl (lv_at hl 2 rfl) ?_
    refine lv_aload_n (pc := 13) hx hb dX8_daysFrom_13 rfl (lv_at hl 0 rfl) ?_
    refine lv_iload_n (pc := 14) hx hb dX8_daysFrom_14 rfl (lv_at hl 3 rfl) ?_
    obtain ⟨x7, hc, hf⟩ := b1_e hf
    refine k_X8_digitAt (pc := 15) hNN hx hb hml hown hts hK hN hc ml_X8_33 (Nat.le_trans (by decide) hF) (Nat.le_trans (by decide) hLo) h hl.1 ⟨Nat.zero_le _, Nat.zero_le _⟩ (Nat.le_of_ble_eq_true rfl) dX8_daysFrom_15 (fun H locs h => ?_)
    refine lv_iload_n (pc := 18) hx hb dX8_daysFrom_18 rfl (lv_at hl 1 rfl) ?_
    refine lv_icmp_lt (pc := 19) (tgt := 28) hx hb dX8_daysFrom_19 (by decide) (fun c8 => ?_) (fun c8 => ?_)
    · have hf := if_t hf c8
      refine lv_iconst (pc := 28) (v := 0) hx hb dX8_daysFrom_28 (by decide) ?_
      refine lv_ior (pc := 29) hx hb dX8_daysFrom_29 ?_
      refine lv_istore_n (pc := 30) (lv' := [(2, .int (x1 ||| (0 : Int32))), (0, .ref (a 10)), (1, .int p1), (3, .int x2)]) hx hb dX8_daysFrom_30 rfl hl (by decide) rfl (fun ls hl => ?_)
      refine lv_iinc (pc := 31) (v := x2 + 1) (lv' := [(3, .int (x2 + 1)), (2, .int (x1 ||| (0 : Int32))), (0, .ref (a 10)), (1, .int p1)]) hx hb dX8_daysFrom_31 hl (k := 3) rfl rfl (by decide) rfl (fun ls hl => ?_)
      refine lv_goto (pc := 34) (tgt := 4) hx hb dX8_daysFrom_34 (by decide) ?_
      exact irec5 _ _ hf _ _ _ h (lv_sub hl [2, 3, 1, 0] rfl)
    · have hf := if_f hf c8
      refine lv_iconst (pc := 22) (v := 1) hx hb dX8_daysFrom_22 (by decide) ?_
      refine lv_iload_n (pc := 23) hx hb dX8_daysFrom_23 rfl (lv_at hl 3 rfl) ?_
      refine lv_ishl (pc := 24) hx hb dX8_daysFrom_24 ?_
      refine lv_goto (pc := 25) (tgt := 29) hx hb dX8_daysFrom_25 (by decide) ?_
      refine lv_ior (pc := 29) hx hb dX8_daysFrom_29 ?_
      refine lv_istore_n (pc := 30) (lv' := [(2, .int (x1 ||| ((1 : Int32) <<< (x2 &&& 31)))), (0, .ref (a 10)), (1, .int p1), (3, .int x2)]) hx hb dX8_daysFrom_30 rfl hl (by decide) rfl (fun ls hl => ?_)
      refine lv_iinc (pc := 31) (v := x2 + 1) (lv' := [(3, .int (x2 + 1)), (2, .int (x1 ||| ((1 : Int32) <<< (x2 &&& 31)))), (0, .ref (a 10)), (1, .int p1)]) hx hb dX8_daysFrom_31 hl (k := 3) rfl rfl (by decide) rfl (fun ls hl => ?_)
      refine lv_goto (pc := 34) (tgt := 4) hx hb dX8_daysFrom_34 (by decide) ?_
      exact irec5 _ _ hf _ _ _ h (lv_sub hl [2, 3, 1, 0] rfl)
theorem k_X8_daysFrom {p : Program} {l : Launch} {e : Env} {R : Room} {s : State} {m : MethodId} {args : Array Value} {below : List Frame} {meth : Method} {c : Code} {H : Heap} {locs : List Loc} {cells slots : Nat} {Q : State → Prop} {pc : Nat} {ls : Array Slot} {rest : List Value} {cc : ByteArray} {D : va_G} {cI cJ cR : ClassId} {a : Nat → Nat} {u : St} {own : String} {index nL : Nat} {N : Nat} (hNN : 38 ≤ N) {p1 : Int32} {rr : Int32} (hx : p.tables.exec = Jvm.exec) (hb : c.code = cc) (hml : c.maxLocals = nL) (hown : s.vm.findClass own = some m.cls) (hts : ∀ w ∈ Gd, w.before args s = true) (hK : va_K D vwCl (tyB cI cJ cR) s) (hN : NB s) (hc : f_X8_daysFrom u p1 = some rr) (hlk : Cond.methodLink own index yX8_daysFrom ∈ Gd) (hF : 2 ≤ R.frames) (hLo : 44 ≤ R.locals) (h : Hh D (AB N a s.heap.size) (wX N a (EB a cI cJ cR) u) s.heap H locs) (hsize : ls.size = nL) (hcs : cells ≤ R.cells ∧ slots ≤ R.slots) (hr : (rest.map fun v => v.category).sum ≤ 8) (hdg : decode cc pc = .ok (.invokevirtual index, 3)) (kk : ∀ (H1 : Heap) (locs1 : List Loc), Hh D (AB N a s.heap.size) (wX N a (EB a cI cJ cR) u) s.heap H1 locs1 → W p l e R s m args below meth c H1 locs1 cells slots Q (F0 m (pc + 3) ls (.int rr :: rest))) : W p l e R s m args below meth c H locs cells slots Q (F0 m pc ls (.int p1 :: .ref (a 10) :: rest)) :=
  cVi (n := 1) hx hb hml hown hts hK hN (c_X8_daysFrom hNN hc) (gdV hlk im_X8_daysFrom se_X8_daysFrom in_X8 co_X8_daysFrom) rfl (by decide +kernel) rfl hF hLo h hsize hcs (Nat.lt_of_lt_of_le (by decide) hNN) rfl rfl rfl hr hdg kk
def B_X8_repeats_2 (p1 : Int32) (u : St) (k2 : Option (Int32)) (rec3 : Int32 → Option (Int32)) (x1 : Int32) : Option (Int32) := if (u.1 10 1) ≤ x1 then k2 else b1 (f_X8_digitAt u x1) (fun (x5 : Int32) => b1 (f_X8_digitAt u (x1 - p1)) (fun (x6 : Int32) => if x5 = x6 then rec3 (x1 + 1) else some 0))
def f_X8_repeats (u : St) (p1 : Int32) : Option (Int32) := jq_0 (some 1) (fun (k2 : Option (Int32)) => lq_1 (B_X8_repeats_2 p1 u k2) FU p1)
set_option maxRecDepth 100000 in
set_option maxHeartbeats 4000000 in
theorem c_X8_repeats {l : Launch} {D : va_G} {cI cJ cR : ClassId} {a : Nat → Nat} {u : St} {N : Nat} (hNN : 38 ≤ N) {p1 : Int32} {rr : Int32} (hf : f_X8_repeats u p1 = some rr) : Ci l yX8_repeats cX8_repeats 3 (some .boolean) 1 21 D (tyB cI cJ cR) N a (EB a cI cJ cR) [.ref (a 10), .int p1] u rr u := by
  refine metI (by decide +kernel) (Nat.le_of_ble_eq_true rfl) ?_
  intro p e s m args below meth c R Q hx hb hml hown hts hF hLo hret hK hN h ls hl
  have hown : s.vm.findClass RX8 = some m.cls := hown
  have hl : lv_has ls 3 [(0, .ref (a 10)), (1, .int p1)] := hl
  unfold f_X8_repeats at hf
  refine lv_iload_n (pc := 0) hx hb dX8_repeats_0 rfl (lv_at hl 1 rfl) ?_
  refine lv_istore_n (pc := 1) (lv' := [(2, .int p1), (0, .ref (a 10)), (1, .int p1)]) hx hb dX8_repeats_1 rfl hl (by decide) rfl (fun ls hl => ?_)
  obtain ⟨k2, hk2, hf⟩ := jq_0_e hf
  have jk2 : k2 = some rr → ∀ (H : Heap) (locs : List Loc) (ls : Array Slot), Hh D (AB N a s.heap.size) (wX N a (EB a cI cJ cR) u) s.heap H locs → lv_has ls 3 [] → W p l e R s m args below meth c H locs 0 0 Q (F0 m 33 ls []) := by
    intro hf H locs ls h hl
    rw [hk2] at hf
    refine lv_iconst (pc := 33) (v := 1) hx hb dX8_repeats_33 (by decide) ?_
    exact hret (so hf) rfl rfl dX8_repeats_34 h
  refine lq_1_e (P := fun (x1 : Int32) => ∀ (H : Heap) (locs : List Loc) (ls : Array Slot), Hh D (AB N a s.heap.size) (wX N a (EB a cI cJ cR) u) s.heap H locs → lv_has ls 3 [(0, .ref (a 10)), (1, .int p1), (2, .int x1)] → W p l e R s m args below meth c H locs 0 0 Q (F0 m 2 ls [])) ?_ FU _ hf _ _ _ h (lv_sub hl [1, 2, 0] rfl)
  intro rec3 irec3 x1 hf H locs ls h hl
  unfold B_X8_repeats_2 at hf
  refine lv_iload_n (pc := 2) hx hb dX8_repeats_2 rfl (lv_at hl 2 rfl) ?_
  refine lv_aload_n (pc := 3) hx hb dX8_repeats_3 rfl (lv_at hl 0 rfl) ?_
  refine gB_10_1 (pc := 4) hNN hx hb hts hown hK h fl_X8_15 dX8_repeats_4 ?_
  refine lv_icmp_ge (pc := 7) (tgt := 33) hx hb dX8_repeats_7 (by decide) (fun c4 => ?_) (fun c4 => ?_)
  · have hf := if_t hf c4
    exact jk2 hf _ _ _ h (lv_sub hl [] rfl)
  · have hf := if_f hf c4
    refine lv_aload_n (pc := 10) hx hb dX8_repeats_10 rfl (lv_at hl 0 rfl) ?_
    refine lv_iload_n (pc := 11) hx hb dX8_repeats_11 rfl (lv_at hl 2 rfl) ?_
    obtain ⟨x5, hc, hf⟩ := b1_e hf
    refine k_X8_digitAt (pc := 12) hNN hx hb hml hown hts hK hN hc ml_X8_33 (Nat.le_trans (by decide) hF) (Nat.le_trans (by decide) hLo) h hl.1 ⟨Nat.zero_le _, Nat.zero_le _⟩ (Nat.le_of_ble_eq_true rfl) dX8_repeats_12 (fun H locs h => ?_)
    refine lv_aload_n (pc := 15) hx hb dX8_repeats_15 rfl (lv_at hl 0 rfl) ?_
    refine lv_iload_n (pc := 16) hx hb dX8_repeats_16 rfl (lv_at hl 2 rfl) ?_
    refine lv_iload_n (pc := 17) hx hb dX8_repeats_17 rfl (lv_at hl 1 rfl) ?_
    refine lv_isub (pc := 18) hx hb dX8_repeats_18 ?_
    obtain ⟨x6, hc, hf⟩ := b1_e hf
    refine k_X8_digitAt (pc := 19) hNN hx hb hml hown hts hK hN hc ml_X8_33 (Nat.le_trans (by decide) hF) (Nat.le_trans (by decide) hLo) h hl.1 ⟨Nat.zero_le _, Nat.zero_le _⟩ (Nat.le_of_ble_eq_true rfl) dX8_repeats_19 (fun H locs h => ?_)
    refine lv_icmp_eq (pc := 22) (tgt := 27) hx hb dX8_repeats_22 (by decide) (fun c7 => ?_) (fun c7 => ?_)
    · have hf := if_t hf c7
      refine lv_iinc (pc := 27) (v := x1 + 1) (lv' := [(2, .int (x1 + 1)), (0, .ref (a 10)), (1, .int p1)]) hx hb dX8_repeats_27 hl (k := 2) rfl rfl (by decide) rfl (fun ls hl => ?_)
      refine lv_goto (pc := 30) (tgt := 2) hx hb dX8_repeats_30 (by decide) ?_
      exact irec3 _ hf _ _ _ h (lv_sub hl [1, 2, 0] rfl)
    · have hf := if_f hf c7
      refine lv_iconst (pc := 25) (v := 0) hx hb dX8_repeats_25 (by decide) ?_
      exact hret (so hf) rfl rfl dX8_repeats_26 h
theorem k_X8_repeats {p : Program} {l : Launch} {e : Env} {R : Room} {s : State} {m : MethodId} {args : Array Value} {below : List Frame} {meth : Method} {c : Code} {H : Heap} {locs : List Loc} {cells slots : Nat} {Q : State → Prop} {pc : Nat} {ls : Array Slot} {rest : List Value} {cc : ByteArray} {D : va_G} {cI cJ cR : ClassId} {a : Nat → Nat} {u : St} {own : String} {index nL : Nat} {N : Nat} (hNN : 38 ≤ N) {p1 : Int32} {rr : Int32} (hx : p.tables.exec = Jvm.exec) (hb : c.code = cc) (hml : c.maxLocals = nL) (hown : s.vm.findClass own = some m.cls) (hts : ∀ w ∈ Gd, w.before args s = true) (hK : va_K D vwCl (tyB cI cJ cR) s) (hN : NB s) (hc : f_X8_repeats u p1 = some rr) (hlk : Cond.methodLink own index yX8_repeats ∈ Gd) (hF : 2 ≤ R.frames) (hLo : 43 ≤ R.locals) (h : Hh D (AB N a s.heap.size) (wX N a (EB a cI cJ cR) u) s.heap H locs) (hsize : ls.size = nL) (hcs : cells ≤ R.cells ∧ slots ≤ R.slots) (hr : (rest.map fun v => v.category).sum ≤ 8) (hdg : decode cc pc = .ok (.invokevirtual index, 3)) (kk : ∀ (H1 : Heap) (locs1 : List Loc), Hh D (AB N a s.heap.size) (wX N a (EB a cI cJ cR) u) s.heap H1 locs1 → W p l e R s m args below meth c H1 locs1 cells slots Q (F0 m (pc + 3) ls (.int rr :: rest))) : W p l e R s m args below meth c H locs cells slots Q (F0 m pc ls (.int p1 :: .ref (a 10) :: rest)) :=
  cVi (n := 1) hx hb hml hown hts hK hN (c_X8_repeats hNN hc) (gdV hlk im_X8_repeats se_X8_repeats in_X8 co_X8_repeats) rfl (by decide +kernel) rfl hF hLo h hsize hcs (Nat.lt_of_lt_of_le (by decide) hNN) rfl rfl rfl hr hdg kk
def B_X10_dig_12 (k5 : St → Option (St)) (rec7 : St → Int32 → Option (St)) (u3 : St) (x4 : Int32) : Option (St) := if 6 ≤ x4 then k5 u3 else cki x4 6 (bs (sI u3 3 (ix x4) x4) (fun u9 : St => cki x4 6 (bs (sI u9 4 (ix x4) 8) (fun u10 : St => rec7 u10 (x4 + 1)))))
def f_X10_dig (u : St) (p1 : Int32) : Option (St) := bs (sI u 2 2 p1) (fun u1 : St => bs (sI u1 2 3 0) (fun u2 : St => jq_1 (fun (u6 : St) => some u6) (fun (k5 : St → Option (St)) => lq_2 (B_X10_dig_12 k5) FU u2 0)))
set_option maxRecDepth 100000 in
set_option maxHeartbeats 4000000 in
theorem c_X10_dig {l : Launch} {D : va_G} {cI cJ cR : ClassId} {a : Nat → Nat} {u : St} {N : Nat} (hNN : 38 ≤ N) {p1 : Int32} {uu : St} (hf : f_X10_dig u p1 = some uu) : Cv l yX10_dig cX10_dig 3 none 0 0 D (tyB cI cJ cR) N a (EB a cI cJ cR) [.ref (a 2), .int p1] u uu := by
  refine metV (by decide +kernel) (Nat.le_of_ble_eq_true rfl) ?_
  intro p e s m args below meth c R Q hx hb hml hown hts hF hLo hret hK hN h ls hl
  have hown : s.vm.findClass RX10 = some m.cls := hown
  have hl : lv_has ls 3 [(0, .ref (a 2)), (1, .int p1)] := hl
  unfold f_X10_dig at hf
  refine lv_aload_n (pc := 0) hx hb dX10_dig_0 rfl (lv_at hl 0 rfl) ?_
  refine lv_iload_n (pc := 1) hx hb dX10_dig_1 rfl (lv_at hl 1 rfl) ?_
  refine pB_2_2 (pc := 2) hNN hx hb hts hown hK h fl_X10_22 dX10_dig_2 (fun H locs h => ?_)
  obtain ⟨u1, eu1, hf⟩ := bs_e hf
  rw [← eu1] at h
  refine lv_aload_n (pc := 5) hx hb dX10_dig_5 rfl (lv_at hl 0 rfl) ?_
  refine lv_iconst (pc := 6) (v := 0) hx hb dX10_dig_6 (by decide) ?_
  refine pB_2_3 (pc := 7) hNN hx hb hts hown hK h fl_X10_26 dX10_dig_7 (fun H locs h => ?_)
  obtain ⟨u2, eu2, hf⟩ := bs_e hf
  rw [← eu2] at h
  refine lv_iconst (pc := 10) (v := 0) hx hb dX10_dig_10 (by decide) ?_
  refine lv_istore_n (pc := 11) (lv' := [(2, .int 0), (0, .ref (a 2)), (1, .int p1)]) hx hb dX10_dig_11 rfl hl (by decide) rfl (fun ls hl => ?_)
  obtain ⟨k5, hk5, hf⟩ := jq_1_e hf
  have jk5 : ∀ (u6 : St), k5 u6 = some uu → ∀ (H : Heap) (locs : List Loc) (ls : Array Slot), Hh D (AB N a s.heap.size) (wX N a (EB a cI cJ cR) u6) s.heap H locs → lv_has ls 3 [] → W p l e R s m args below meth c H locs 0 0 Q (F0 m 39 ls []) := by
    intro u6 hf H locs ls h hl
    rw [hk5] at hf
    exact hret (so hf) dX10_dig_39 h
  refine lq_2_e (P := fun (u3 : St) (x4 : Int32) => ∀ (H : Heap) (locs : List Loc) (ls : Array Slot), Hh D (AB N a s.heap.size) (wX N a (EB a cI cJ cR) u3) s.heap H locs → lv_has ls 3 [(0, .ref (a 2)), (2, .int x4)] → W p l e R s m args below meth c H locs 0 0 Q (F0 m 12 ls [])) ?_ FU _ _ hf _ _ _ h (lv_sub hl [1, 0] rfl)
  intro rec7 irec7 u3 x4 hf H locs ls h hl
  unfold B_X10_dig_12 at hf
  refine lv_iload_n (pc := 12) hx hb dX10_dig_12 rfl (lv_at hl 1 rfl) ?_
  refine lv_bipush (pc := 13) (v := 6) hx hb dX10_dig_13 (by decide) ?_
  refine lv_icmp_ge (pc := 15) (tgt := 39) hx hb dX10_dig_15 (by decide) (fun c8 => ?_) (fun c8 => ?_)
  · have hf := if_t hf c8
    exact jk5 _ hf _ _ _ h (lv_sub hl [] rfl)
  · have hf := if_f hf c8
    refine lv_aload_n (pc := 18) hx hb dX10_dig_18 rfl (lv_at hl 0 rfl) ?_
    refine gB_2_0 (pc := 19) hNN hx hb hts hown hK h fl_X10_9 dX10_dig_19 ?_
    refine lv_iload_n (pc := 22) hx hb dX10_dig_22 rfl (lv_at hl 1 rfl) ?_
    refine lv_iload_n (pc := 23) hx hb dX10_dig_23 rfl (lv_at hl 1 rfl) ?_
    obtain ⟨hin, hf⟩ := cki_e hf
    refine pB_3 (pc := 24) hNN hx hb hK h hin dX10_dig_24 (fun H locs h => ?_)
    obtain ⟨u9, eu9, hf⟩ := bs_e hf
    rw [← eu9] at h
    refine lv_aload_n (pc := 25) hx hb dX10_dig_25 rfl (lv_at hl 0 rfl) ?_
    refine gB_2_1 (pc := 26) hNN hx hb hts hown hK h fl_X10_15 dX10_dig_26 ?_
    refine lv_iload_n (pc := 29) hx hb dX10_dig_29 rfl (lv_at hl 1 rfl) ?_
    refine lv_bipush (pc := 30) (v := 8) hx hb dX10_dig_30 (by decide) ?_
    obtain ⟨hin, hf⟩ := cki_e hf
    refine pB_4 (pc := 32) hNN hx hb hK h hin dX10_dig_32 (fun H locs h => ?_)
    obtain ⟨u10, eu10, hf⟩ := bs_e hf
    rw [← eu10] at h
    refine lv_iinc (pc := 33) (v := x4 + 1) (lv' := [(2, .int (x4 + 1)), (0, .ref (a 2))]) hx hb dX10_dig_33 hl (k := 1) rfl rfl (by decide) rfl (fun ls hl => ?_)
    refine lv_goto (pc := 36) (tgt := 12) hx hb dX10_dig_36 (by decide) ?_
    exact irec7 _ _ hf _ _ _ h (lv_sub hl [1, 0] rfl)
theorem k_X10_dig {p : Program} {l : Launch} {e : Env} {R : Room} {s : State} {m : MethodId} {args : Array Value} {below : List Frame} {meth : Method} {c : Code} {H : Heap} {locs : List Loc} {cells slots : Nat} {Q : State → Prop} {pc : Nat} {ls : Array Slot} {rest : List Value} {cc : ByteArray} {D : va_G} {cI cJ cR : ClassId} {a : Nat → Nat} {u : St} {own : String} {index nL : Nat} {N : Nat} (hNN : 38 ≤ N) {p1 : Int32} {uu : St} (hx : p.tables.exec = Jvm.exec) (hb : c.code = cc) (hml : c.maxLocals = nL) (hown : s.vm.findClass own = some m.cls) (hts : ∀ w ∈ Gd, w.before args s = true) (hK : va_K D vwCl (tyB cI cJ cR) s) (hN : NB s) (hc : f_X10_dig u p1 = some uu) (hlk : Cond.methodLink own index yX10_dig ∈ Gd) (hF : 1 ≤ R.frames) (hLo : 22 ≤ R.locals) (h : Hh D (AB N a s.heap.size) (wX N a (EB a cI cJ cR) u) s.heap H locs) (hsize : ls.size = nL) (hcs : cells ≤ R.cells ∧ slots ≤ R.slots) (hr : (rest.map fun v => v.category).sum ≤ 8) (hdg : decode cc pc = .ok (.invokevirtual index, 3)) (kk : ∀ (H1 : Heap) (locs1 : List Loc), Hh D (AB N a s.heap.size) (wX N a (EB a cI cJ cR) uu) s.heap H1 locs1 → W p l e R s m args below meth c H1 locs1 cells slots Q (F0 m (pc + 3) ls (rest))) : W p l e R s m args below meth c H locs cells slots Q (F0 m pc ls (.int p1 :: .ref (a 2) :: rest)) :=
  cVv (n := 1) hx hb hml hown hts hK hN (c_X10_dig hNN hc) (gdV hlk im_X10_dig se_X10_dig in_X10 co_X10_dig) rfl (by decide +kernel) rfl hF hLo h hsize hcs (Nat.lt_of_lt_of_le (by decide) hNN) rfl rfl rfl hr hdg kk
def f_X11_cellars (u : St) (p1 : Int32) : Option (Int32 × St) := b1 (f_X11_within u p1 1 6) (fun (x1 : Int32) => if x1 = 0 then some ((-2), u) else b1 (f_X10_dig u p1) (fun (u3 : St) => bs (sI u3 5 4 0) (fun u4 : St => bs (sI u4 12 3 0) (fun u5 : St => some (u.1 2 2, u5)))))
set_option maxRecDepth 100000 in
set_option maxHeartbeats 4000000 in
theorem c_X11_cellars {l : Launch} {D : va_G} {cI cJ cR : ClassId} {a : Nat → Nat} {u : St} {N : Nat} (hNN : 38 ≤ N) {p1 : Int32} {rr : Int32} {uu : St} (hf : f_X11_cellars u p1 = some (rr, uu)) : Ci l yX11_cellars cX11_cellars 3 (some .int) 1 22 D (tyB cI cJ cR) N a (EB a cI cJ cR) [.ref (a 0), .int p1] u rr uu := by
  refine metI (by decide +kernel) (Nat.le_of_ble_eq_true rfl) ?_
  intro p e s m args below meth c R Q hx hb hml hown hts hF hLo hret hK hN h ls hl
  have hown : s.vm.findClass RX11 = some m.cls := hown
  have hl : lv_has ls 3 [(0, .ref (a 0)), (1, .int p1)] := hl
  unfold f_X11_cellars at hf
  refine lv_iload_n (pc := 0) hx hb dX11_cellars_0 rfl (lv_at hl 1 rfl) ?_
  refine lv_iconst (pc := 1) (v := 1) hx hb dX11_cellars_1 (by decide) ?_
  refine lv_bipush (pc := 2) (v := 6) hx hb dX11_cellars_2 (by decide) ?_
  obtain ⟨x1, hc, hf⟩ := b1_e hf
  refine kS_X11_within (pc := 4) hNN hx hb hml hown hts hK hN hc ml_X11_70 (Nat.le_trans (by decide) hF) (Nat.le_trans (by decide) hLo) h hl.1 ⟨Nat.zero_le _, Nat.zero_le _⟩ (Nat.le_of_ble_eq_true rfl) dX11_cellars_4 (fun H locs h => ?_)
  refine lv_if_ne (pc := 7) (tgt := 13) hx hb dX11_cellars_7 (by decide) (fun c2 => ?_) (fun c2 => ?_)
  · have hf := if_f hf c2
    refine lv_aload_n (pc := 13) hx hb dX11_cellars_13 rfl (lv_at hl 0 rfl) ?_
    refine gB_0_0 (pc := 14) hNN hx hb hts hown hK h fl_X11_12 dX11_cellars_14 ?_
    refine gB_1_0 (pc := 17) hNN hx hb hts hown hK h fl_X11_74 dX11_cellars_17 ?_
    refine gB_2_2 (pc := 20) hNN hx hb hts hown hK h fl_X11_78 dX11_cellars_20 ?_
    refine lv_istore_n (pc := 23) (lv' := [(2, .int (u.1 2 2)), (0, .ref (a 0)), (1, .int p1)]) hx hb dX11_cellars_23 rfl hl (by decide) rfl (fun ls hl => ?_)
    refine lv_aload_n (pc := 24) hx hb dX11_cellars_24 rfl (lv_at hl 1 rfl) ?_
    refine gB_0_0 (pc := 25) hNN hx hb hts hown hK h fl_X11_12 dX11_cellars_25 ?_
    refine gB_1_0 (pc := 28) hNN hx hb hts hown hK h fl_X11_74 dX11_cellars_28 ?_
    refine lv_iload_n (pc := 31) hx hb dX11_cellars_31 rfl (lv_at hl 2 rfl) ?_
    obtain ⟨u3, hc, hf⟩ := b1_e hf
    refine k_X10_dig (pc := 32) hNN hx hb hml hown hts hK hN hc ml_X11_84 (Nat.le_trans (by decide) hF) (Nat.le_trans (by decide) hLo) h hl.1 ⟨Nat.zero_le _, Nat.zero_le _⟩ (Nat.le_of_ble_eq_true rfl) dX11_cellars_32 (fun H locs h => ?_)
    refine lv_aload_n (pc := 35) hx hb dX11_cellars_35 rfl (lv_at hl 1 rfl) ?_
    refine gB_0_0 (pc := 36) hNN hx hb hts hown hK h fl_X11_12 dX11_cellars_36 ?_
    refine gB_1_1 (pc := 39) hNN hx hb hts hown hK h fl_X11_88 dX11_cellars_39 ?_
    refine lv_iconst (pc := 42) (v := 0) hx hb dX11_cellars_42 (by decide) ?_
    refine pB_5_4 (pc := 43) hNN hx hb hts hown hK h fl_X11_92 dX11_cellars_43 (fun H locs h => ?_)
    obtain ⟨u4, eu4, hf⟩ := bs_e hf
    rw [← eu4] at h
    refine lv_aload_n (pc := 46) hx hb dX11_cellars_46 rfl (lv_at hl 1 rfl) ?_
    refine gB_0_0 (pc := 47) hNN hx hb hts hown hK h fl_X11_12 dX11_cellars_47 ?_
    refine gB_1_3 (pc := 50) hNN hx hb hts hown hK h fl_X11_97 dX11_cellars_50 ?_
    refine lv_iconst (pc := 53) (v := 0) hx hb dX11_cellars_53 (by decide) ?_
    refine pB_12_3 (pc := 54) hNN hx hb hts hown hK h fl_X11_101 dX11_cellars_54 (fun H locs h => ?_)
    obtain ⟨u5, eu5, hf⟩ := bs_e hf
    rw [← eu5] at h
    refine lv_iload_n (pc := 57) hx hb dX11_cellars_57 rfl (lv_at hl 0 rfl) ?_
    exact hret (so1 hf) rfl (so2 hf) dX11_cellars_58 h
  · have hf := if_t hf c2
    refine lv_bipush (pc := 10) (v := (-2)) hx hb dX11_cellars_10 (by decide) ?_
    exact hret (so1 hf) rfl (so2 hf) dX11_cellars_12 h
theorem k_X11_cellars {p : Program} {l : Launch} {e : Env} {R : Room} {s : State} {m : MethodId} {args : Array Value} {below : List Frame} {meth : Method} {c : Code} {H : Heap} {locs : List Loc} {cells slots : Nat} {Q : State → Prop} {pc : Nat} {ls : Array Slot} {rest : List Value} {cc : ByteArray} {D : va_G} {cI cJ cR : ClassId} {a : Nat → Nat} {u : St} {own : String} {index nL : Nat} {N : Nat} (hNN : 38 ≤ N) {p1 : Int32} {rr : Int32} {uu : St} (hx : p.tables.exec = Jvm.exec) (hb : c.code = cc) (hml : c.maxLocals = nL) (hown : s.vm.findClass own = some m.cls) (hts : ∀ w ∈ Gd, w.before args s = true) (hK : va_K D vwCl (tyB cI cJ cR) s) (hN : NB s) (hc : f_X11_cellars u p1 = some (rr, uu)) (hlk : Cond.methodLink own index yX11_cellars ∈ Gd) (hF : 2 ≤ R.frames) (hLo : 44 ≤ R.locals) (h : Hh D (AB N a s.heap.size) (wX N a (EB a cI cJ cR) u) s.heap H locs) (hsize : ls.size = nL) (hcs : cells ≤ R.cells ∧ slots ≤ R.slots) (hr : (rest.map fun v => v.category).sum ≤ 8) (hdg : decode cc pc = .ok (.invokevirtual index, 3)) (kk : ∀ (H1 : Heap) (locs1 : List Loc), Hh D (AB N a s.heap.size) (wX N a (EB a cI cJ cR) uu) s.heap H1 locs1 → W p l e R s m args below meth c H1 locs1 cells slots Q (F0 m (pc + 3) ls (.int rr :: rest))) : W p l e R s m args below meth c H locs cells slots Q (F0 m pc ls (.int p1 :: .ref (a 0) :: rest)) :=
  cVi (n := 1) hx hb hml hown hts hK hN (c_X11_cellars hNN hc) (gdV hlk im_X11_cellars se_X11_cellars in_X11 co_X11_cellars) rfl (by decide +kernel) rfl hF hLo h hsize hcs (Nat.lt_of_lt_of_le (by decide) hNN) rfl rfl rfl hr hdg kk
def f_X11_changeDepth (u : St) (p1 : Int32) (p2 : Int32) : Option (Int32 × St) := b1 (f_X11_within u p2 0 8) (fun (x1 : Int32) => if x1 = 0 then some ((-2), u) else cki p1 6 (cki p1 6 (bs (sI u 3 (ix p1) p2) (fun u3 : St => some (u.1 3 (ix p1), u3)))))
set_option maxRecDepth 100000 in
set_option maxHeartbeats 4000000 in
theorem c_X11_changeDepth {l : Launch} {D : va_G} {cI cJ cR : ClassId} {a : Nat → Nat} {u : St} {N : Nat} (hNN : 38 ≤ N) {p1 : Int32} {p2 : Int32} {rr : Int32} {uu : St} (hf : f_X11_changeDepth u p1 p2 = some (rr, uu)) : Ci l yX11_changeDepth cX11_changeDepth 4 (some .int) 1 22 D (tyB cI cJ cR) N a (EB a cI cJ cR) [.ref (a 0), .int p1, .int p2] u rr uu := by
  refine metI (by decide +kernel) (Nat.le_of_ble_eq_true rfl) ?_
  intro p e s m args below meth c R Q hx hb hml hown hts hF hLo hret hK hN h ls hl
  have hown : s.vm.findClass RX11 = some m.cls := hown
  have hl : lv_has ls 4 [(0, .ref (a 0)), (1, .int p1), (2, .int p2)] := hl
  unfold f_X11_changeDepth at hf
  refine lv_iload_n (pc := 0) hx hb dX11_changeDepth_0 rfl (lv_at hl 2 rfl) ?_
  refine lv_iconst (pc := 1) (v := 0) hx hb dX11_changeDepth_1 (by decide) ?_
  refine lv_bipush (pc := 2) (v := 8) hx hb dX11_changeDepth_2 (by decide) ?_
  obtain ⟨x1, hc, hf⟩ := b1_e hf
  refine kS_X11_within (pc := 4) hNN hx hb hml hown hts hK hN hc ml_X11_70 (Nat.le_trans (by decide) hF) (Nat.le_trans (by decide) hLo) h hl.1 ⟨Nat.zero_le _, Nat.zero_le _⟩ (Nat.le_of_ble_eq_true rfl) dX11_changeDepth_4 (fun H locs h => ?_)
  refine lv_if_ne (pc := 7) (tgt := 13) hx hb dX11_changeDepth_7 (by decide) (fun c2 => ?_) (fun c2 => ?_)
  · have hf := if_f hf c2
    refine lv_aload_n (pc := 13) hx hb dX11_changeDepth_13 rfl (lv_at hl 0 rfl) ?_
    refine gB_0_0 (pc := 14) hNN hx hb hts hown hK h fl_X11_12 dX11_changeDepth_14 ?_
    refine gB_1_0 (pc := 17) hNN hx hb hts hown hK h fl_X11_74 dX11_changeDepth_17 ?_
    refine gB_2_0 (pc := 20) hNN hx hb hts hown hK h fl_X11_115 dX11_changeDepth_20 ?_
    refine lv_iload_n (pc := 23) hx hb dX11_changeDepth_23 rfl (lv_at hl 1 rfl) ?_
    obtain ⟨hin, hf⟩ := cki_e hf
    refine gB_3 (pc := 24) hNN hx hb hK h hin dX11_changeDepth_24 ?_
    refine lv_istore_n (pc := 25) (lv' := [(3, .int (u.1 3 (ix p1))), (0, .ref (a 0)), (1, .int p1), (2, .int p2)]) hx hb dX11_changeDepth_25 rfl hl (by decide) rfl (fun ls hl => ?_)
    refine lv_aload_n (pc := 26) hx hb dX11_changeDepth_26 rfl (lv_at hl 1 rfl) ?_
    refine gB_0_0 (pc := 27) hNN hx hb hts hown hK h fl_X11_12 dX11_changeDepth_27 ?_
    refine gB_1_0 (pc := 30) hNN hx hb hts hown hK h fl_X11_74 dX11_changeDepth_30 ?_
    refine gB_2_0 (pc := 33) hNN hx hb hts hown hK h fl_X11_115 dX11_changeDepth_33 ?_
    refine lv_iload_n (pc := 36) hx hb dX11_changeDepth_36 rfl (lv_at hl 2 rfl) ?_
    refine lv_iload_n (pc := 37) hx hb dX11_changeDepth_37 rfl (lv_at hl 3 rfl) ?_
    obtain ⟨hin, hf⟩ := cki_e hf
    refine pB_3 (pc := 38) hNN hx hb hK h hin dX11_changeDepth_38 (fun H locs h => ?_)
    obtain ⟨u3, eu3, hf⟩ := bs_e hf
    rw [← eu3] at h
    refine lv_iload_n (pc := 39) hx hb dX11_changeDepth_39 rfl (lv_at hl 0 rfl) ?_
    exact hret (so1 hf) rfl (so2 hf) dX11_changeDepth_40 h
  · have hf := if_t hf c2
    refine lv_bipush (pc := 10) (v := (-2)) hx hb dX11_changeDepth_10 (by decide) ?_
    exact hret (so1 hf) rfl (so2 hf) dX11_changeDepth_12 h
theorem k_X11_changeDepth {p : Program} {l : Launch} {e : Env} {R : Room} {s : State} {m : MethodId} {args : Array Value} {below : List Frame} {meth : Method} {c : Code} {H : Heap} {locs : List Loc} {cells slots : Nat} {Q : State → Prop} {pc : Nat} {ls : Array Slot} {rest : List Value} {cc : ByteArray} {D : va_G} {cI cJ cR : ClassId} {a : Nat → Nat} {u : St} {own : String} {index nL : Nat} {N : Nat} (hNN : 38 ≤ N) {p1 : Int32} {p2 : Int32} {rr : Int32} {uu : St} (hx : p.tables.exec = Jvm.exec) (hb : c.code = cc) (hml : c.maxLocals = nL) (hown : s.vm.findClass own = some m.cls) (hts : ∀ w ∈ Gd, w.before args s = true) (hK : va_K D vwCl (tyB cI cJ cR) s) (hN : NB s) (hc : f_X11_changeDepth u p1 p2 = some (rr, uu)) (hlk : Cond.methodLink own index yX11_changeDepth ∈ Gd) (hF : 2 ≤ R.frames) (hLo : 45 ≤ R.locals) (h : Hh D (AB N a s.heap.size) (wX N a (EB a cI cJ cR) u) s.heap H locs) (hsize : ls.size = nL) (hcs : cells ≤ R.cells ∧ slots ≤ R.slots) (hr : (rest.map fun v => v.category).sum ≤ 8) (hdg : decode cc pc = .ok (.invokevirtual index, 3)) (kk : ∀ (H1 : Heap) (locs1 : List Loc), Hh D (AB N a s.heap.size) (wX N a (EB a cI cJ cR) uu) s.heap H1 locs1 → W p l e R s m args below meth c H1 locs1 cells slots Q (F0 m (pc + 3) ls (.int rr :: rest))) : W p l e R s m args below meth c H locs cells slots Q (F0 m pc ls (.int p2 :: .int p1 :: .ref (a 0) :: rest)) :=
  cVi (n := 2) hx hb hml hown hts hK hN (c_X11_changeDepth hNN hc) (gdV hlk im_X11_changeDepth se_X11_changeDepth in_X11 co_X11_changeDepth) rfl (by decide +kernel) rfl hF hLo h hsize hcs (Nat.lt_of_lt_of_le (by decide) hNN) rfl rfl rfl hr hdg kk
def f_X11_changeRoom (u : St) (p1 : Int32) (p2 : Int32) : Option (Int32 × St) := b1 (f_X11_within u p2 1 8) (fun (x1 : Int32) => if x1 = 0 then some ((-2), u) else b1 (f_X7_countIn u p1 0) (fun (x3 : Int32) => if x3 ≤ p2 then cki p1 6 (cki p1 6 (bs (sI u 4 (ix p1) p2) (fun u5 : St => some (u.1 4 (ix p1), u5)))) else some ((-3), u)))
set_option maxRecDepth 100000 in
set_option maxHeartbeats 4000000 in
theorem c_X11_changeRoom {l : Launch} {D : va_G} {cI cJ cR : ClassId} {a : Nat → Nat} {u : St} {N : Nat} (hNN : 38 ≤ N) {p1 : Int32} {p2 : Int32} {rr : Int32} {uu : St} (hf : f_X11_changeRoom u p1 p2 = some (rr, uu)) : Ci l yX11_changeRoom cX11_changeRoom 4 (some .int) 3 66 D (tyB cI cJ cR) N a (EB a cI cJ cR) [.ref (a 0), .int p1, .int p2] u rr uu := by
  refine metI (by decide +kernel) (Nat.le_of_ble_eq_true rfl) ?_
  intro p e s m args below meth c R Q hx hb hml hown hts hF hLo hret hK hN h ls hl
  have hown : s.vm.findClass RX11 = some m.cls := hown
  have hl : lv_has ls 4 [(0, .ref (a 0)), (1, .int p1), (2, .int p2)] := hl
  unfold f_X11_changeRoom at hf
  refine lv_iload_n (pc := 0) hx hb dX11_changeRoom_0 rfl (lv_at hl 2 rfl) ?_
  refine lv_iconst (pc := 1) (v := 1) hx hb dX11_changeRoom_1 (by decide) ?_
  refine lv_bipush (pc := 2) (v := 8) hx hb dX11_changeRoom_2 (by decide) ?_
  obtain ⟨x1, hc, hf⟩ := b1_e hf
  refine kS_X11_within (pc := 4) hNN hx hb hml hown hts hK hN hc ml_X11_70 (Nat.le_trans (by decide) hF) (Nat.le_trans (by decide) hLo) h hl.1 ⟨Nat.zero_le _, Nat.zero_le _⟩ (Nat.le_of_ble_eq_true rfl) dX11_changeRoom_4 (fun H locs h => ?_)
  refine lv_if_ne (pc := 7) (tgt := 13) hx hb dX11_changeRoom_7 (by decide) (fun c2 => ?_) (fun c2 => ?_)
  · have hf := if_f hf c2
    refine lv_aload_n (pc := 13) hx hb dX11_changeRoom_13 rfl (lv_at hl 0 rfl) ?_
    refine gB_0_0 (pc := 14) hNN hx hb hts hown hK h fl_X11_12 dX11_changeRoom_14 ?_
    refine gB_1_1 (pc := 17) hNN hx hb hts hown hK h fl_X11_88 dX11_changeRoom_17 ?_
    refine lv_iload_n (pc := 20) hx hb dX11_changeRoom_20 rfl (lv_at hl 1 rfl) ?_
    refine lv_iconst (pc := 21) (v := 0) hx hb dX11_changeRoom_21 (by decide) ?_
    obtain ⟨x3, hc, hf⟩ := b1_e hf
    refine k_X7_countIn (pc := 22) hNN hx hb hml hown hts hK hN hc ml_X11_118 (Nat.le_trans (by decide) hF) (Nat.le_trans (by decide) hLo) h hl.1 ⟨Nat.zero_le _, Nat.zero_le _⟩ (Nat.le_of_ble_eq_true rfl) dX11_changeRoom_22 (fun H locs h => ?_)
    refine lv_iload_n (pc := 25) hx hb dX11_changeRoom_25 rfl (lv_at hl 2 rfl) ?_
    refine lv_icmp_le (pc := 26) (tgt := 32) hx hb dX11_changeRoom_26 (by decide) (fun c4 => ?_) (fun c4 => ?_)
    · have hf := if_t hf c4
      refine lv_aload_n (pc := 32) hx hb dX11_changeRoom_32 rfl (lv_at hl 0 rfl) ?_
      refine gB_0_0 (pc := 33) hNN hx hb hts hown hK h fl_X11_12 dX11_changeRoom_33 ?_
      refine gB_1_0 (pc := 36) hNN hx hb hts hown hK h fl_X11_74 dX11_changeRoom_36 ?_
      refine gB_2_1 (pc := 39) hNN hx hb hts hown hK h fl_X11_121 dX11_changeRoom_39 ?_
      refine lv_iload_n (pc := 42) hx hb dX11_changeRoom_42 rfl (lv_at hl 1 rfl) ?_
      obtain ⟨hin, hf⟩ := cki_e hf
      refine gB_4 (pc := 43) hNN hx hb hK h hin dX11_changeRoom_43 ?_
      refine lv_istore_n (pc := 44) (lv' := [(3, .int (u.1 4 (ix p1))), (0, .ref (a 0)), (1, .int p1), (2, .int p2)]) hx hb dX11_changeRoom_44 rfl hl (by decide) rfl (fun ls hl => ?_)
      refine lv_aload_n (pc := 45) hx hb dX11_changeRoom_45 rfl (lv_at hl 1 rfl) ?_
      refine gB_0_0 (pc := 46) hNN hx hb hts hown hK h fl_X11_12 dX11_changeRoom_46 ?_
      refine gB_1_0 (pc := 49) hNN hx hb hts hown hK h fl_X11_74 dX11_changeRoom_49 ?_
      refine gB_2_1 (pc := 52) hNN hx hb hts hown hK h fl_X11_121 dX11_changeRoom_52 ?_
      refine lv_iload_n (pc := 55) hx hb dX11_changeRoom_55 rfl (lv_at hl 2 rfl) ?_
      refine lv_iload_n (pc := 56) hx hb dX11_changeRoom_56 rfl (lv_at hl 3 rfl) ?_
      obtain ⟨hin, hf⟩ := cki_e hf
      refine pB_4 (pc := 57) hNN hx hb hK h hin dX11_changeRoom_57 (fun H locs h => ?_)
      obtain ⟨u5, eu5, hf⟩ := bs_e hf
      rw [← eu5] at h
      refine lv_iload_n (pc := 58) hx hb dX11_changeRoom_58 rfl (lv_at hl 0 rfl) ?_
      exact hret (so1 hf) rfl (so2 hf) dX11_changeRoom_59 h
    · have hf := if_f hf c4
      refine lv_bipush (pc := 29) (v := (-3)) hx hb dX11_changeRoom_29 (by decide) ?_
      exact hret (so1 hf) rfl (so2 hf) dX11_changeRoom_31 h
  · have hf := if_t hf c2
    refine lv_bipush (pc := 10) (v := (-2)) hx hb dX11_changeRoom_10 (by decide) ?_
    exact hret (so1 hf) rfl (so2 hf) dX11_changeRoom_12 h
theorem k_X11_changeRoom {p : Program} {l : Launch} {e : Env} {R : Room} {s : State} {m : MethodId} {args : Array Value} {below : List Frame} {meth : Method} {c : Code} {H : Heap} {locs : List Loc} {cells slots : Nat} {Q : State → Prop} {pc : Nat} {ls : Array Slot} {rest : List Value} {cc : ByteArray} {D : va_G} {cI cJ cR : ClassId} {a : Nat → Nat} {u : St} {own : String} {index nL : Nat} {N : Nat} (hNN : 38 ≤ N) {p1 : Int32} {p2 : Int32} {rr : Int32} {uu : St} (hx : p.tables.exec = Jvm.exec) (hb : c.code = cc) (hml : c.maxLocals = nL) (hown : s.vm.findClass own = some m.cls) (hts : ∀ w ∈ Gd, w.before args s = true) (hK : va_K D vwCl (tyB cI cJ cR) s) (hN : NB s) (hc : f_X11_changeRoom u p1 p2 = some (rr, uu)) (hlk : Cond.methodLink own index yX11_changeRoom ∈ Gd) (hF : 4 ≤ R.frames) (hLo : 89 ≤ R.locals) (h : Hh D (AB N a s.heap.size) (wX N a (EB a cI cJ cR) u) s.heap H locs) (hsize : ls.size = nL) (hcs : cells ≤ R.cells ∧ slots ≤ R.slots) (hr : (rest.map fun v => v.category).sum ≤ 8) (hdg : decode cc pc = .ok (.invokevirtual index, 3)) (kk : ∀ (H1 : Heap) (locs1 : List Loc), Hh D (AB N a s.heap.size) (wX N a (EB a cI cJ cR) uu) s.heap H1 locs1 → W p l e R s m args below meth c H1 locs1 cells slots Q (F0 m (pc + 3) ls (.int rr :: rest))) : W p l e R s m args below meth c H locs cells slots Q (F0 m pc ls (.int p2 :: .int p1 :: .ref (a 0) :: rest)) :=
  cVi (n := 2) hx hb hml hown hts hK hN (c_X11_changeRoom hNN hc) (gdV hlk im_X11_changeRoom se_X11_changeRoom in_X11 co_X11_changeRoom) rfl (by decide +kernel) rfl hF hLo h hsize hcs (Nat.lt_of_lt_of_le (by decide) hNN) rfl rfl rfl hr hdg kk
def f_X11_cellar (u : St) (p1 : Int32) (p2 : Int32) (p3 : Int32) : Option (Int32 × St) := b1 (f_X10_has u p1) (fun (x1 : Int32) => if x1 = 0 then some ((-1), u) else if p2 = 0 then b2 (f_X11_changeDepth u p1 p3) (fun (x7 : Int32) (u8 : St) => some (x7, u8)) else if p2 = 1 then b2 (f_X11_changeRoom u p1 p3) (fun (x5 : Int32) (u6 : St) => some (x5, u6)) else some ((-2), u))
set_option maxRecDepth 100000 in
set_option maxHeartbeats 4000000 in
theorem c_X11_cellar {l : Launch} {D : va_G} {cI cJ cR : ClassId} {a : Nat → Nat} {u : St} {N : Nat} (hNN : 38 ≤ N) {p1 : Int32} {p2 : Int32} {p3 : Int32} {rr : Int32} {uu : St} (hf : f_X11_cellar u p1 p2 p3 = some (rr, uu)) : Ci l yX11_cellar cX11_cellar 4 (some .int) 4 89 D (tyB cI cJ cR) N a (EB a cI cJ cR) [.ref (a 0), .int p1, .int p2, .int p3] u rr uu := by
  refine metI (by decide +kernel) (Nat.le_of_ble_eq_true rfl) ?_
  intro p e s m args below meth c R Q hx hb hml hown hts hF hLo hret hK hN h ls hl
  have hown : s.vm.findClass RX11 = some m.cls := hown
  have hl : lv_has ls 4 [(0, .ref (a 0)), (1, .int p1), (2, .int p2), (3, .int p3)] := hl
  unfold f_X11_cellar at hf
  refine lv_aload_n (pc := 0) hx hb dX11_cellar_0 rfl (lv_at hl 0 rfl) ?_
  refine gB_0_0 (pc := 1) hNN hx hb hts hown hK h fl_X11_12 dX11_cellar_1 ?_
  refine gB_1_0 (pc := 4) hNN hx hb hts hown hK h fl_X11_74 dX11_cellar_4 ?_
  refine lv_iload_n (pc := 7) hx hb dX11_cellar_7 rfl (lv_at hl 1 rfl) ?_
  obtain ⟨x1, hc, hf⟩ := b1_e hf
  refine k_X10_has (pc := 8) hNN hx hb hml hown hts hK hN hc ml_X11_104 (Nat.le_trans (by decide) hF) (Nat.le_trans (by decide) hLo) h hl.1 ⟨Nat.zero_le _, Nat.zero_le _⟩ (Nat.le_of_ble_eq_true rfl) dX11_cellar_8 (fun H locs h => ?_)
  refine lv_if_ne (pc := 11) (tgt := 16) hx hb dX11_cellar_11 (by decide) (fun c2 => ?_) (fun c2 => ?_)
  · have hf := if_f hf c2
    refine lv_iload_n (pc := 16) hx hb dX11_cellar_16 rfl (lv_at hl 2 rfl) ?_
    refine lv_if_ne (pc := 17) (tgt := 27) hx hb dX11_cellar_17 (by decide) (fun c3 => ?_) (fun c3 => ?_)
    · have hf := if_f hf c3
      refine lv_iload_n (pc := 27) hx hb dX11_cellar_27 rfl (lv_at hl 2 rfl) ?_
      refine lv_iconst (pc := 28) (v := 1) hx hb dX11_cellar_28 (by decide) ?_
      refine lv_icmp_ne (pc := 29) (tgt := 41) hx hb dX11_cellar_29 (by decide) (fun c4 => ?_) (fun c4 => ?_)
      · have hf := if_f hf c4
        refine lv_bipush (pc := 41) (v := (-2)) hx hb dX11_cellar_41 (by decide) ?_
        exact hret (so1 hf) rfl (so2 hf) dX11_cellar_43 h
      · have hf := if_t hf c4
        refine lv_aload_n (pc := 32) hx hb dX11_cellar_32 rfl (lv_at hl 0 rfl) ?_
        refine lv_iload_n (pc := 33) hx hb dX11_cellar_33 rfl (lv_at hl 1 rfl) ?_
        refine lv_iload_n (pc := 34) hx hb dX11_cellar_34 rfl (lv_at hl 3 rfl) ?_
        obtain ⟨x5, u6, hc, hf⟩ := b2_e hf
        refine k_X11_changeRoom (pc := 35) hNN hx hb hml hown hts hK hN hc ml_X11_112 (Nat.le_trans (by decide) hF) (Nat.le_trans (by decide) hLo) h hl.1 ⟨Nat.zero_le _, Nat.zero_le _⟩ (Nat.le_of_ble_eq_true rfl) dX11_cellar_35 (fun H locs h => ?_)
        refine lv_goto (pc := 38) (tgt := 43) hx hb dX11_cellar_38 (by decide) ?_
        exact hret (so1 hf) rfl (so2 hf) dX11_cellar_43 h
    · have hf := if_t hf c3
      refine lv_aload_n (pc := 20) hx hb dX11_cellar_20 rfl (lv_at hl 0 rfl) ?_
      refine lv_iload_n (pc := 21) hx hb dX11_cellar_21 rfl (lv_at hl 1 rfl) ?_
      refine lv_iload_n (pc := 22) hx hb dX11_cellar_22 rfl (lv_at hl 3 rfl) ?_
      obtain ⟨x7, u8, hc, hf⟩ := b2_e hf
      refine k_X11_changeDepth (pc := 23) hNN hx hb hml hown hts hK hN hc ml_X11_108 (Nat.le_trans (by decide) hF) (Nat.le_trans (by decide) hLo) h hl.1 ⟨Nat.zero_le _, Nat.zero_le _⟩ (Nat.le_of_ble_eq_true rfl) dX11_cellar_23 (fun H locs h => ?_)
      exact hret (so1 hf) rfl (so2 hf) dX11_cellar_26 h
  · have hf := if_t hf c2
    refine lv_iconst (pc := 14) (v := (-1)) hx hb dX11_cellar_14 (by decide) ?_
    exact hret (so1 hf) rfl (so2 hf) dX11_cellar_15 h
theorem k_X11_cellar {p : Program} {l : Launch} {e : Env} {R : Room} {s : State} {m : MethodId} {args : Array Value} {below : List Frame} {meth : Method} {c : Code} {H : Heap} {locs : List Loc} {cells slots : Nat} {Q : State → Prop} {pc : Nat} {ls : Array Slot} {rest : List Value} {cc : ByteArray} {D : va_G} {cI cJ cR : ClassId} {a : Nat → Nat} {u : St} {own : String} {index nL : Nat} {N : Nat} (hNN : 38 ≤ N) {p1 : Int32} {p2 : Int32} {p3 : Int32} {rr : Int32} {uu : St} (hx : p.tables.exec = Jvm.exec) (hb : c.code = cc) (hml : c.maxLocals = nL) (hown : s.vm.findClass own = some m.cls) (hts : ∀ w ∈ Gd, w.before args s = true) (hK : va_K D vwCl (tyB cI cJ cR) s) (hN : NB s) (hc : f_X11_cellar u p1 p2 p3 = some (rr, uu)) (hlk : Cond.methodLink own index yX11_cellar ∈ Gd) (hF : 5 ≤ R.frames) (hLo : 112 ≤ R.locals) (h : Hh D (AB N a s.heap.size) (wX N a (EB a cI cJ cR) u) s.heap H locs) (hsize : ls.size = nL) (hcs : cells ≤ R.cells ∧ slots ≤ R.slots) (hr : (rest.map fun v => v.category).sum ≤ 8) (hdg : decode cc pc = .ok (.invokevirtual index, 3)) (kk : ∀ (H1 : Heap) (locs1 : List Loc), Hh D (AB N a s.heap.size) (wX N a (EB a cI cJ cR) uu) s.heap H1 locs1 → W p l e R s m args below meth c H1 locs1 cells slots Q (F0 m (pc + 3) ls (.int rr :: rest))) : W p l e R s m args below meth c H locs cells slots Q (F0 m pc ls (.int p3 :: .int p2 :: .int p1 :: .ref (a 0) :: rest)) :=
  cVi (n := 3) hx hb hml hown hts hK hN (c_X11_cellar hNN hc) (gdV hlk im_X11_cellar se_X11_cellar in_X11 co_X11_cellar) rfl (by decide +kernel) rfl hF hLo h hsize hcs (Nat.lt_of_lt_of_le (by decide) hNN) rfl rfl rfl hr hdg kk
def f_X11_wall (u : St) (p1 : Int32) (p2 : Int32) : Option (Int32 × St) := b1 (f_X10_has u p1) (fun (x1 : Int32) => if x1 = 0 then some ((-1), u) else if p2 = 0 then bs (sI u 2 3 ((u.1 2 3) &&& (((1 : Int32) <<< (p1 &&& 31)) ^^^ (-1 : Int32)))) (fun u4 : St => some (1, u4)) else bs (sI u 2 3 ((u.1 2 3) ||| ((1 : Int32) <<< (p1 &&& 31)))) (fun u5 : St => some (1, u5)))
set_option maxRecDepth 100000 in
set_option maxHeartbeats 4000000 in
theorem c_X11_wall {l : Launch} {D : va_G} {cI cJ cR : ClassId} {a : Nat → Nat} {u : St} {N : Nat} (hNN : 38 ≤ N) {p1 : Int32} {p2 : Int32} {rr : Int32} {uu : St} (hf : f_X11_wall u p1 p2 = some (rr, uu)) : Ci l yX11_wall cX11_wall 4 (some .int) 1 21 D (tyB cI cJ cR) N a (EB a cI cJ cR) [.ref (a 0), .int p1, .int p2] u rr uu := by
  refine metI (by decide +kernel) (Nat.le_of_ble_eq_true rfl) ?_
  intro p e s m args below meth c R Q hx hb hml hown hts hF hLo hret hK hN h ls hl
  have hown : s.vm.findClass RX11 = some m.cls := hown
  have hl : lv_has ls 4 [(0, .ref (a 0)), (1, .int p1), (2, .int p2)] := hl
  unfold f_X11_wall at hf
  refine lv_aload_n (pc := 0) hx hb dX11_wall_0 rfl (lv_at hl 0 rfl) ?_
  refine gB_0_0 (pc := 1) hNN hx hb hts hown hK h fl_X11_12 dX11_wall_1 ?_
  refine gB_1_0 (pc := 4) hNN hx hb hts hown hK h fl_X11_74 dX11_wall_4 ?_
  refine lv_iload_n (pc := 7) hx hb dX11_wall_7 rfl (lv_at hl 1 rfl) ?_
  obtain ⟨x1, hc, hf⟩ := b1_e hf
  refine k_X10_has (pc := 8) hNN hx hb hml hown hts hK hN hc ml_X11_104 (Nat.le_trans (by decide) hF) (Nat.le_trans (by decide) hLo) h hl.1 ⟨Nat.zero_le _, Nat.zero_le _⟩ (Nat.le_of_ble_eq_true rfl) dX11_wall_8 (fun H locs h => ?_)
  refine lv_if_ne (pc := 11) (tgt := 16) hx hb dX11_wall_11 (by decide) (fun c2 => ?_) (fun c2 => ?_)
  · have hf := if_f hf c2
    refine lv_iconst (pc := 16) (v := 1) hx hb dX11_wall_16 (by decide) ?_
    refine lv_iload_n (pc := 17) hx hb dX11_wall_17 rfl (lv_at hl 1 rfl) ?_
    refine lv_ishl (pc := 18) hx hb dX11_wall_18 ?_
    refine lv_istore_n (pc := 19) (lv' := [(3, .int ((1 : Int32) <<< (p1 &&& 31))), (0, .ref (a 0)), (1, .int p1), (2, .int p2)]) hx hb dX11_wall_19 rfl hl (by decide) rfl (fun ls hl => ?_)
    refine lv_aload_n (pc := 20) hx hb dX11_wall_20 rfl (lv_at hl 1 rfl) ?_
    refine gB_0_0 (pc := 21) hNN hx hb hts hown hK h fl_X11_12 dX11_wall_21 ?_
    refine gB_1_0 (pc := 24) hNN hx hb hts hown hK h fl_X11_74 dX11_wall_24 ?_
    refine lv_iload_n (pc := 27) hx hb dX11_wall_27 rfl (lv_at hl 3 rfl) ?_
    refine lv_if_eq (pc := 28) (tgt := 46) hx hb dX11_wall_28 (by decide) (fun c3 => ?_) (fun c3 => ?_)
    · have hf := if_t hf c3
      refine lv_aload_n (pc := 46) hx hb dX11_wall_46 rfl (lv_at hl 1 rfl) ?_
      refine gB_0_0 (pc := 47) hNN hx hb hts hown hK h fl_X11_12 dX11_wall_47 ?_
      refine gB_1_0 (pc := 50) hNN hx hb hts hown hK h fl_X11_74 dX11_wall_50 ?_
      refine gB_2_3 (pc := 53) hNN hx hb hts hown hK h fl_X11_124 dX11_wall_53 ?_
      refine lv_iload_n (pc := 56) hx hb dX11_wall_56 rfl (lv_at hl 0 rfl) ?_
      refine lv_iconst (pc := 57) (v := (-1)) hx hb dX11_wall_57 (by decide) ?_
      refine lv_ixor (pc := 58) hx hb dX11_wall_58 ?_
      refine lv_iand (pc := 59) hx hb dX11_wall_59 ?_
      refine pB_2_3 (pc := 60) hNN hx hb hts hown hK h fl_X11_124 dX11_wall_60 (fun H locs h => ?_)
      obtain ⟨u4, eu4, hf⟩ := bs_e hf
      rw [← eu4] at h
      refine lv_iconst (pc := 63) (v := 1) hx hb dX11_wall_63 (by decide) ?_
      exact hret (so1 hf) rfl (so2 hf) dX11_wall_64 h
    · have hf := if_f hf c3
      refine lv_aload_n (pc := 31) hx hb dX11_wall_31 rfl (lv_at hl 1 rfl) ?_
      refine gB_0_0 (pc := 32) hNN hx hb hts hown hK h fl_X11_12 dX11_wall_32 ?_
      refine gB_1_0 (pc := 35) hNN hx hb hts hown hK h fl_X11_74 dX11_wall_35 ?_
      refine gB_2_3 (pc := 38) hNN hx hb hts hown hK h fl_X11_124 dX11_wall_38 ?_
      refine lv_iload_n (pc := 41) hx hb dX11_wall_41 rfl (lv_at hl 0 rfl) ?_
      refine lv_ior (pc := 42) hx hb dX11_wall_42 ?_
      refine lv_goto (pc := 43) (tgt := 60) hx hb dX11_wall_43 (by decide) ?_
      refine pB_2_3 (pc := 60) hNN hx hb hts hown hK h fl_X11_124 dX11_wall_60 (fun H locs h => ?_)
      obtain ⟨u5, eu5, hf⟩ := bs_e hf
      rw [← eu5] at h
      refine lv_iconst (pc := 63) (v := 1) hx hb dX11_wall_63 (by decide) ?_
      exact hret (so1 hf) rfl (so2 hf) dX11_wall_64 h
  · have hf := if_t hf c2
    refine lv_iconst (pc := 14) (v := (-1)) hx hb dX11_wall_14 (by decide) ?_
    exact hret (so1 hf) rfl (so2 hf) dX11_wall_15 h
theorem k_X11_wall {p : Program} {l : Launch} {e : Env} {R : Room} {s : State} {m : MethodId} {args : Array Value} {below : List Frame} {meth : Method} {c : Code} {H : Heap} {locs : List Loc} {cells slots : Nat} {Q : State → Prop} {pc : Nat} {ls : Array Slot} {rest : List Value} {cc : ByteArray} {D : va_G} {cI cJ cR : ClassId} {a : Nat → Nat} {u : St} {own : String} {index nL : Nat} {N : Nat} (hNN : 38 ≤ N) {p1 : Int32} {p2 : Int32} {rr : Int32} {uu : St} (hx : p.tables.exec = Jvm.exec) (hb : c.code = cc) (hml : c.maxLocals = nL) (hown : s.vm.findClass own = some m.cls) (hts : ∀ w ∈ Gd, w.before args s = true) (hK : va_K D vwCl (tyB cI cJ cR) s) (hN : NB s) (hc : f_X11_wall u p1 p2 = some (rr, uu)) (hlk : Cond.methodLink own index yX11_wall ∈ Gd) (hF : 2 ≤ R.frames) (hLo : 44 ≤ R.locals) (h : Hh D (AB N a s.heap.size) (wX N a (EB a cI cJ cR) u) s.heap H locs) (hsize : ls.size = nL) (hcs : cells ≤ R.cells ∧ slots ≤ R.slots) (hr : (rest.map fun v => v.category).sum ≤ 8) (hdg : decode cc pc = .ok (.invokevirtual index, 3)) (kk : ∀ (H1 : Heap) (locs1 : List Loc), Hh D (AB N a s.heap.size) (wX N a (EB a cI cJ cR) uu) s.heap H1 locs1 → W p l e R s m args below meth c H1 locs1 cells slots Q (F0 m (pc + 3) ls (.int rr :: rest))) : W p l e R s m args below meth c H locs cells slots Q (F0 m pc ls (.int p2 :: .int p1 :: .ref (a 0) :: rest)) :=
  cVi (n := 2) hx hb hml hown hts hK hN (c_X11_wall hNN hc) (gdV hlk im_X11_wall se_X11_wall in_X11 co_X11_wall) rfl (by decide +kernel) rfl hF hLo h hsize hcs (Nat.lt_of_lt_of_le (by decide) hNN) rfl rfl rfl hr hdg kk
def f_J6_bitCount_0f7a4 (u : St) (p1 : Int32) : Option (Int32) := bs (p1 - ((iusr p1 1) &&& (1431655765 : Int32))) (fun x1 : Int32 => bs ((x1 &&& (858993459 : Int32)) + ((iusr x1 2) &&& (858993459 : Int32))) (fun x2 : Int32 => bs ((x2 + (iusr x2 4)) &&& (252645135 : Int32)) (fun x3 : Int32 => bs ((x3 + (iusr x3 8)) + (iusr (x3 + (iusr x3 8)) 16)) (fun x4 : Int32 => some (x4 &&& (63 : Int32))))))
set_option maxRecDepth 100000 in
set_option maxHeartbeats 4000000 in
theorem c_J6_bitCount_0f7a4 {l : Launch} {D : va_G} {cI cJ cR : ClassId} {a : Nat → Nat} {u : St} {N : Nat} (hNN : 38 ≤ N) {p1 : Int32} {rr : Int32} (hf : f_J6_bitCount_0f7a4 u p1 = some rr) : Ci l yJ6_bitCount_0f7a4 cJ6_bitCount_0f7a4 1 (some .int) 0 0 D (tyB cI cJ cR) N a (EB a cI cJ cR) [.int p1] u rr u := by
  refine metI (by decide +kernel) (Nat.le_of_ble_eq_true rfl) ?_
  intro p e s m args below meth c R Q hx hb hml hown hts hF hLo hret hK hN h ls hl
  have hown : s.vm.findClass RJ6 = some m.cls := hown
  have hl : lv_has ls 1 [(0, .int p1)] := hl
  unfold f_J6_bitCount_0f7a4 at hf
  refine lv_iload_n (pc := 0) hx hb dJ6_bitCount_0f7a4_0 rfl (lv_at hl 0 rfl) ?_
  refine lv_iload_n (pc := 1) hx hb dJ6_bitCount_0f7a4_1 rfl (lv_at hl 0 rfl) ?_
  refine lv_iconst (pc := 2) (v := 1) hx hb dJ6_bitCount_0f7a4_2 (by decide) ?_
  refine lv_iushr (pc := 3) (v := iusr p1 1) hx hb dJ6_bitCount_0f7a4_3 rfl ?_
  refine lv_ldcw (pc := 4) hx hb hown (hts _ ct_J6_265) dJ6_bitCount_0f7a4_4 ?_
  refine lv_iand (pc := 7) hx hb dJ6_bitCount_0f7a4_7 ?_
  refine lv_isub (pc := 8) hx hb dJ6_bitCount_0f7a4_8 ?_
  obtain ⟨x1, ex1, hf⟩ := bs_e hf
  refine rTop ex1 ?_
  refine lv_istore_n (pc := 9) (lv' := [(0, .int x1)]) hx hb dJ6_bitCount_0f7a4_9 rfl hl (by decide) rfl (fun ls hl => ?_)
  refine lv_iload_n (pc := 10) hx hb dJ6_bitCount_0f7a4_10 rfl (lv_at hl 0 rfl) ?_
  refine lv_ldcw (pc := 11) hx hb hown (hts _ ct_J6_266) dJ6_bitCount_0f7a4_11 ?_
  refine lv_iand (pc := 14) hx hb dJ6_bitCount_0f7a4_14 ?_
  refine lv_iload_n (pc := 15) hx hb dJ6_bitCount_0f7a4_15 rfl (lv_at hl 0 rfl) ?_
  refine lv_iconst (pc := 16) (v := 2) hx hb dJ6_bitCount_0f7a4_16 (by decide) ?_
  refine lv_iushr (pc := 17) (v := iusr x1 2) hx hb dJ6_bitCount_0f7a4_17 rfl ?_
  refine lv_ldcw (pc := 18) hx hb hown (hts _ ct_J6_266) dJ6_bitCount_0f7a4_18 ?_
  refine lv_iand (pc := 21) hx hb dJ6_bitCount_0f7a4_21 ?_
  refine lv_iadd (pc := 22) hx hb dJ6_bitCount_0f7a4_22 ?_
  obtain ⟨x2, ex2, hf⟩ := bs_e hf
  refine rTop ex2 ?_
  refine lv_istore_n (pc := 23) (lv' := [(0, .int x2)]) hx hb dJ6_bitCount_0f7a4_23 rfl hl (by decide) rfl (fun ls hl => ?_)
  refine lv_iload_n (pc := 24) hx hb dJ6_bitCount_0f7a4_24 rfl (lv_at hl 0 rfl) ?_
  refine lv_iload_n (pc := 25) hx hb dJ6_bitCount_0f7a4_25 rfl (lv_at hl 0 rfl) ?_
  refine lv_iconst (pc := 26) (v := 4) hx hb dJ6_bitCount_0f7a4_26 (by decide) ?_
  refine lv_iushr (pc := 27) (v := iusr x2 4) hx hb dJ6_bitCount_0f7a4_27 rfl ?_
  refine lv_iadd (pc := 28) hx hb dJ6_bitCount_0f7a4_28 ?_
  refine lv_ldcw (pc := 29) hx hb hown (hts _ ct_J6_267) dJ6_bitCount_0f7a4_29 ?_
  refine lv_iand (pc := 32) hx hb dJ6_bitCount_0f7a4_32 ?_
  obtain ⟨x3, ex3, hf⟩ := bs_e hf
  refine rTop ex3 ?_
  refine lv_istore_n (pc := 33) (lv' := [(0, .int x3)]) hx hb dJ6_bitCount_0f7a4_33 rfl hl (by decide) rfl (fun ls hl => ?_)
  refine lv_iload_n (pc := 34) hx hb dJ6_bitCount_0f7a4_34 rfl (lv_at hl 0 rfl) ?_
  refine lv_iload_n (pc := 35) hx hb dJ6_bitCount_0f7a4_35 rfl (lv_at hl 0 rfl) ?_
  refine lv_bipush (pc := 36) (v := 8) hx hb dJ6_bitCount_0f7a4_36 (by decide) ?_
  refine lv_iushr (pc := 38) (v := iusr x3 8) hx hb dJ6_bitCount_0f7a4_38 rfl ?_
  refine lv_iadd (pc := 39) hx hb dJ6_bitCount_0f7a4_39 ?_
  refine lv_istore_n (pc := 40) (lv' := [(0, .int (x3 + (iusr x3 8)))]) hx hb dJ6_bitCount_0f7a4_40 rfl hl (by decide) rfl (fun ls hl => ?_)
  refine lv_iload_n (pc := 41) hx hb dJ6_bitCount_0f7a4_41 rfl (lv_at hl 0 rfl) ?_
  refine lv_iload_n (pc := 42) hx hb dJ6_bitCount_0f7a4_42 rfl (lv_at hl 0 rfl) ?_
  refine lv_bipush (pc := 43) (v := 16) hx hb dJ6_bitCount_0f7a4_43 (by decide) ?_
  refine lv_iushr (pc := 45) (v := iusr (x3 + (iusr x3 8)) 16) hx hb dJ6_bitCount_0f7a4_45 rfl ?_
  refine lv_iadd (pc := 46) hx hb dJ6_bitCount_0f7a4_46 ?_
  obtain ⟨x4, ex4, hf⟩ := bs_e hf
  refine rTop ex4 ?_
  refine lv_istore_n (pc := 47) (lv' := [(0, .int x4)]) hx hb dJ6_bitCount_0f7a4_47 rfl hl (by decide) rfl (fun ls hl => ?_)
  refine lv_iload_n (pc := 48) hx hb dJ6_bitCount_0f7a4_48 rfl (lv_at hl 0 rfl) ?_
  refine lv_bipush (pc := 49) (v := 63) hx hb dJ6_bitCount_0f7a4_49 (by decide) ?_
  refine lv_iand (pc := 51) hx hb dJ6_bitCount_0f7a4_51 ?_
  exact hret (so hf) rfl rfl dJ6_bitCount_0f7a4_52 h
theorem kS_J6_bitCount_0f7a4 {p : Program} {l : Launch} {e : Env} {R : Room} {s : State} {m : MethodId} {args : Array Value} {below : List Frame} {meth : Method} {c : Code} {H : Heap} {locs : List Loc} {cells slots : Nat} {Q : State → Prop} {pc : Nat} {ls : Array Slot} {rest : List Value} {cc : ByteArray} {D : va_G} {cI cJ cR : ClassId} {a : Nat → Nat} {u : St} {own : String} {index nL : Nat} {N : Nat} (hNN : 38 ≤ N) {p1 : Int32} {rr : Int32} (hx : p.tables.exec = Jvm.exec) (hb : c.code = cc) (hml : c.maxLocals = nL) (hown : s.vm.findClass own = some m.cls) (hts : ∀ w ∈ Gd, w.before args s = true) (hK : va_K D vwCl (tyB cI cJ cR) s) (hN : NB s) (hc : f_J6_bitCount_0f7a4 u p1 = some rr) (hlk : Cond.methodLink own index yJ6_bitCount_0f7a4 ∈ Gd) (hF : 1 ≤ R.frames) (hLo : 20 ≤ R.locals) (h : Hh D (AB N a s.heap.size) (wX N a (EB a cI cJ cR) u) s.heap H locs) (hsize : ls.size = nL) (hcs : cells ≤ R.cells ∧ slots ≤ R.slots) (hr : (rest.map fun v => v.category).sum ≤ 8) (hdg : decode cc pc = .ok (.invokestatic index, 3)) (kk : ∀ (H1 : Heap) (locs1 : List Loc), Hh D (AB N a s.heap.size) (wX N a (EB a cI cJ cR) u) s.heap H1 locs1 → W p l e R s m args below meth c H1 locs1 cells slots Q (F0 m (pc + 3) ls (.int rr :: rest))) : W p l e R s m args below meth c H locs cells slots Q (F0 m pc ls (.int p1 :: rest)) :=
  cSi (n := 1) hx hb hml hown hts hK hN (c_J6_bitCount_0f7a4 hNN hc) (gdS hlk sm_J6_bitCount_0f7a4 in_J6 co_J6_bitCount_0f7a4) (by decide +kernel) rfl hF hLo h hsize hcs rfl hr hdg kk
def f_X11_barrel (u : St) (p1 : Int32) (p2 : Int32) (p3 : Int32) (p4 : Int32) (p5 : Int32) : Option (Int32 × St) := b1 (f_X11_within u p1 0 7) (fun (x1 : Int32) => if x1 = 0 then some ((-1), u) else b1 (f_X10_has u p2) (fun (x3 : Int32) => if x3 = 0 then some ((-1), u) else b1 (f_X11_within u p3 1 9) (fun (x5 : Int32) => if x5 = 0 then some ((-2), u) else b1 (f_X11_within u p4 0 9) (fun (x7 : Int32) => if x7 = 0 then some ((-2), u) else b1 (f_X11_within u p5 0 3) (fun (x9 : Int32) => if x9 = 0 then some ((-2), u) else b1 (f_X7_countIn u p2 ((1 : Int32) <<< (p1 &&& 31))) (fun (x11 : Int32) => cki p2 6 (if x11 < (u.1 4 (ix p2)) then b1 (f_X7_put u p1 p2 p3 p4 p5) (fun (u13 : St) => b1 (f_J6_bitCount_0f7a4 u13 (u13.1 5 4)) (fun (x14 : Int32) => some (x14, u13))) else some ((-4), u))))))))
set_option maxRecDepth 100000 in
set_option maxHeartbeats 4000000 in
theorem c_X11_barrel {l : Launch} {D : va_G} {cI cJ cR : ClassId} {a : Nat → Nat} {u : St} {N : Nat} (hNN : 38 ≤ N) {p1 : Int32} {p2 : Int32} {p3 : Int32} {p4 : Int32} {p5 : Int32} {rr : Int32} {uu : St} (hf : f_X11_barrel u p1 p2 p3 p4 p5 = some (rr, uu)) : Ci l yX11_barrel cX11_barrel 6 (some .int) 3 66 D (tyB cI cJ cR) N a (EB a cI cJ cR) [.ref (a 0), .int p1, .int p2, .int p3, .int p4, .int p5] u rr uu := by
  refine metI (by decide +kernel) (Nat.le_of_ble_eq_true rfl) ?_
  intro p e s m args below meth c R Q hx hb hml hown hts hF hLo hret hK hN h ls hl
  have hown : s.vm.findClass RX11 = some m.cls := hown
  have hl : lv_has ls 6 [(0, .ref (a 0)), (1, .int p1), (2, .int p2), (3, .int p3), (4, .int p4), (5, .int p5)] := hl
  unfold f_X11_barrel at hf
  refine lv_iload_n (pc := 0) hx hb dX11_barrel_0 rfl (lv_at hl 1 rfl) ?_
  refine lv_iconst (pc := 1) (v := 0) hx hb dX11_barrel_1 (by decide) ?_
  refine lv_bipush (pc := 2) (v := 7) hx hb dX11_barrel_2 (by decide) ?_
  obtain ⟨x1, hc, hf⟩ := b1_e hf
  refine kS_X11_within (pc := 4) hNN hx hb hml hown hts hK hN hc ml_X11_70 (Nat.le_trans (by decide) hF) (Nat.le_trans (by decide) hLo) h hl.1 ⟨Nat.zero_le _, Nat.zero_le _⟩ (Nat.le_of_ble_eq_true rfl) dX11_barrel_4 (fun H locs h => ?_)
  refine lv_if_eq (pc := 7) (tgt := 24) hx hb dX11_barrel_7 (by decide) (fun c2 => ?_) (fun c2 => ?_)
  · have hf := if_t hf c2
    refine lv_iconst (pc := 24) (v := (-1)) hx hb dX11_barrel_24 (by decide) ?_
    exact hret (so1 hf) rfl (so2 hf) dX11_barrel_25 h
  · have hf := if_f hf c2
    refine lv_aload_n (pc := 10) hx hb dX11_barrel_10 rfl (lv_at hl 0 rfl) ?_
    refine gB_0_0 (pc := 11) hNN hx hb hts hown hK h fl_X11_12 dX11_barrel_11 ?_
    refine gB_1_0 (pc := 14) hNN hx hb hts hown hK h fl_X11_74 dX11_barrel_14 ?_
    refine lv_iload_n (pc := 17) hx hb dX11_barrel_17 rfl (lv_at hl 2 rfl) ?_
    obtain ⟨x3, hc, hf⟩ := b1_e hf
    refine k_X10_has (pc := 18) hNN hx hb hml hown hts hK hN hc ml_X11_104 (Nat.le_trans (by decide) hF) (Nat.le_trans (by decide) hLo) h hl.1 ⟨Nat.zero_le _, Nat.zero_le _⟩ (Nat.le_of_ble_eq_true rfl) dX11_barrel_18 (fun H locs h => ?_)
    refine lv_if_ne (pc := 21) (tgt := 26) hx hb dX11_barrel_21 (by decide) (fun c4 => ?_) (fun c4 => ?_)
    · have hf := if_f hf c4
      refine lv_iload_n (pc := 26) hx hb dX11_barrel_26 rfl (lv_at hl 3 rfl) ?_
      refine lv_iconst (pc := 27) (v := 1) hx hb dX11_barrel_27 (by decide) ?_
      refine lv_bipush (pc := 28) (v := 9) hx hb dX11_barrel_28 (by decide) ?_
      obtain ⟨x5, hc, hf⟩ := b1_e hf
      refine kS_X11_within (pc := 30) hNN hx hb hml hown hts hK hN hc ml_X11_70 (Nat.le_trans (by decide) hF) (Nat.le_trans (by decide) hLo) h hl.1 ⟨Nat.zero_le _, Nat.zero_le _⟩ (Nat.le_of_ble_eq_true rfl) dX11_barrel_30 (fun H locs h => ?_)
      refine lv_if_eq (pc := 33) (tgt := 57) hx hb dX11_barrel_33 (by decide) (fun c6 => ?_) (fun c6 => ?_)
      · have hf := if_t hf c6
        refine lv_bipush (pc := 57) (v := (-2)) hx hb dX11_barrel_57 (by decide) ?_
        exact hret (so1 hf) rfl (so2 hf) dX11_barrel_59 h
      · have hf := if_f hf c6
        refine lv_iload (pc := 36) hx hb dX11_barrel_36 (lv_at hl 4 rfl) ?_
        refine lv_iconst (pc := 38) (v := 0) hx hb dX11_barrel_38 (by decide) ?_
        refine lv_bipush (pc := 39) (v := 9) hx hb dX11_barrel_39 (by decide) ?_
        obtain ⟨x7, hc, hf⟩ := b1_e hf
        refine kS_X11_within (pc := 41) hNN hx hb hml hown hts hK hN hc ml_X11_70 (Nat.le_trans (by decide) hF) (Nat.le_trans (by decide) hLo) h hl.1 ⟨Nat.zero_le _, Nat.zero_le _⟩ (Nat.le_of_ble_eq_true rfl) dX11_barrel_41 (fun H locs h => ?_)
        refine lv_if_eq (pc := 44) (tgt := 57) hx hb dX11_barrel_44 (by decide) (fun c8 => ?_) (fun c8 => ?_)
        · have hf := if_t hf c8
          refine lv_bipush (pc := 57) (v := (-2)) hx hb dX11_barrel_57 (by decide) ?_
          exact hret (so1 hf) rfl (so2 hf) dX11_barrel_59 h
        · have hf := if_f hf c8
          refine lv_iload (pc := 47) hx hb dX11_barrel_47 (lv_at hl 5 rfl) ?_
          refine lv_iconst (pc := 49) (v := 0) hx hb dX11_barrel_49 (by decide) ?_
          refine lv_iconst (pc := 50) (v := 3) hx hb dX11_barrel_50 (by decide) ?_
          obtain ⟨x9, hc, hf⟩ := b1_e hf
          refine kS_X11_within (pc := 51) hNN hx hb hml hown hts hK hN hc ml_X11_70 (Nat.le_trans (by decide) hF) (Nat.le_trans (by decide) hLo) h hl.1 ⟨Nat.zero_le _, Nat.zero_le _⟩ (Nat.le_of_ble_eq_true rfl) dX11_barrel_51 (fun H locs h => ?_)
          refine lv_if_ne (pc := 54) (tgt := 60) hx hb dX11_barrel_54 (by decide) (fun c10 => ?_) (fun c10 => ?_)
          · have hf := if_f hf c10
            refine lv_aload_n (pc := 60) hx hb dX11_barrel_60 rfl (lv_at hl 0 rfl) ?_
            refine gB_0_0 (pc := 61) hNN hx hb hts hown hK h fl_X11_12 dX11_barrel_61 ?_
            refine gB_1_1 (pc := 64) hNN hx hb hts hown hK h fl_X11_88 dX11_barrel_64 ?_
            refine lv_iload_n (pc := 67) hx hb dX11_barrel_67 rfl (lv_at hl 2 rfl) ?_
            refine lv_iconst (pc := 68) (v := 1) hx hb dX11_barrel_68 (by decide) ?_
            refine lv_iload_n (pc := 69) hx hb dX11_barrel_69 rfl (lv_at hl 1 rfl) ?_
            refine lv_ishl (pc := 70) hx hb dX11_barrel_70 ?_
            obtain ⟨x11, hc, hf⟩ := b1_e hf
            refine k_X7_countIn (pc := 71) hNN hx hb hml hown hts hK hN hc ml_X11_118 (Nat.le_trans (by decide) hF) (Nat.le_trans (by decide) hLo) h hl.1 ⟨Nat.zero_le _, Nat.zero_le _⟩ (Nat.le_of_ble_eq_true rfl) dX11_barrel_71 (fun H locs h => ?_)
            refine lv_aload_n (pc := 74) hx hb dX11_barrel_74 rfl (lv_at hl 0 rfl) ?_
            refine gB_0_0 (pc := 75) hNN hx hb hts hown hK h fl_X11_12 dX11_barrel_75 ?_
            refine gB_1_0 (pc := 78) hNN hx hb hts hown hK h fl_X11_74 dX11_barrel_78 ?_
            refine gB_2_1 (pc := 81) hNN hx hb hts hown hK h fl_X11_121 dX11_barrel_81 ?_
            refine lv_iload_n (pc := 84) hx hb dX11_barrel_84 rfl (lv_at hl 2 rfl) ?_
            obtain ⟨hin, hf⟩ := cki_e hf
            refine gB_4 (pc := 85) hNN hx hb hK h hin dX11_barrel_85 ?_
            refine lv_icmp_lt (pc := 86) (tgt := 92) hx hb dX11_barrel_86 (by decide) (fun c12 => ?_) (fun c12 => ?_)
            · have hf := if_t hf c12
              refine lv_aload_n (pc := 92) hx hb dX11_barrel_92 rfl (lv_at hl 0 rfl) ?_
              refine gB_0_0 (pc := 93) hNN hx hb hts hown hK h fl_X11_12 dX11_barrel_93 ?_
              refine gB_1_1 (pc := 96) hNN hx hb hts hown hK h fl_X11_88 dX11_barrel_96 ?_
              refine lv_iload_n (pc := 99) hx hb dX11_barrel_99 rfl (lv_at hl 1 rfl) ?_
              refine lv_iload_n (pc := 100) hx hb dX11_barrel_100 rfl (lv_at hl 2 rfl) ?_
              refine lv_iload_n (pc := 101) hx hb dX11_barrel_101 rfl (lv_at hl 3 rfl) ?_
              refine lv_iload (pc := 102) hx hb dX11_barrel_102 (lv_at hl 4 rfl) ?_
              refine lv_iload (pc := 104) hx hb dX11_barrel_104 (lv_at hl 5 rfl) ?_
              obtain ⟨u13, hc, hf⟩ := b1_e hf
              refine k_X7_put (pc := 106) hNN hx hb hml hown hts hK hN hc ml_X11_127 (Nat.le_trans (by decide) hF) (Nat.le_trans (by decide) hLo) h hl.1 ⟨Nat.zero_le _, Nat.zero_le _⟩ (Nat.le_of_ble_eq_true rfl) dX11_barrel_106 (fun H locs h => ?_)
              refine lv_aload_n (pc := 109) hx hb dX11_barrel_109 rfl (lv_at hl 0 rfl) ?_
              refine gB_0_0 (pc := 110) hNN hx hb hts hown hK h fl_X11_12 dX11_barrel_110 ?_
              refine gB_1_1 (pc := 113) hNN hx hb hts hown hK h fl_X11_88 dX11_barrel_113 ?_
              refine gB_5_4 (pc := 116) hNN hx hb hts hown hK h fl_X11_92 dX11_barrel_116 ?_
              obtain ⟨x14, hc, hf⟩ := b1_e hf
              refine kS_J6_bitCount_0f7a4 (pc := 119) hNN hx hb hml hown hts hK hN hc ml_X11_131 (Nat.le_trans (by decide) hF) (Nat.le_trans (by decide) hLo) h hl.1 ⟨Nat.zero_le _, Nat.zero_le _⟩ (Nat.le_of_ble_eq_true rfl) dX11_barrel_119 (fun H locs h => ?_)
              exact hret (so1 hf) rfl (so2 hf) dX11_barrel_122 h
            · have hf := if_f hf c12
              refine lv_bipush (pc := 89) (v := (-4)) hx hb dX11_barrel_89 (by decide) ?_
              exact hret (so1 hf) rfl (so2 hf) dX11_barrel_91 h
          · have hf := if_t hf c10
            refine lv_bipush (pc := 57) (v := (-2)) hx hb dX11_barrel_57 (by decide) ?_
            exact hret (so1 hf) rfl (so2 hf) dX11_barrel_59 h
    · have hf := if_t hf c4
      refine lv_iconst (pc := 24) (v := (-1)) hx hb dX11_barrel_24 (by decide) ?_
      exact hret (so1 hf) rfl (so2 hf) dX11_barrel_25 h
theorem k_X11_barrel {p : Program} {l : Launch} {e : Env} {R : Room} {s : State} {m : MethodId} {args : Array Value} {below : List Frame} {meth : Method} {c : Code} {H : Heap} {locs : List Loc} {cells slots : Nat} {Q : State → Prop} {pc : Nat} {ls : Array Slot} {rest : List Value} {cc : ByteArray} {D : va_G} {cI cJ cR : ClassId} {a : Nat → Nat} {u : St} {own : String} {index nL : Nat} {N : Nat} (hNN : 38 ≤ N) {p1 : Int32} {p2 : Int32} {p3 : Int32} {p4 : Int32} {p5 : Int32} {rr : Int32} {uu : St} (hx : p.tables.exec = Jvm.exec) (hb : c.code = cc) (hml : c.maxLocals = nL) (hown : s.vm.findClass own = some m.cls) (hts : ∀ w ∈ Gd, w.before args s = true) (hK : va_K D vwCl (tyB cI cJ cR) s) (hN : NB s) (hc : f_X11_barrel u p1 p2 p3 p4 p5 = some (rr, uu)) (hlk : Cond.methodLink own index yX11_barrel ∈ Gd) (hF : 4 ≤ R.frames) (hLo : 91 ≤ R.locals) (h : Hh D (AB N a s.heap.size) (wX N a (EB a cI cJ cR) u) s.heap H locs) (hsize : ls.size = nL) (hcs : cells ≤ R.cells ∧ slots ≤ R.slots) (hr : (rest.map fun v => v.category).sum ≤ 8) (hdg : decode cc pc = .ok (.invokevirtual index, 3)) (kk : ∀ (H1 : Heap) (locs1 : List Loc), Hh D (AB N a s.heap.size) (wX N a (EB a cI cJ cR) uu) s.heap H1 locs1 → W p l e R s m args below meth c H1 locs1 cells slots Q (F0 m (pc + 3) ls (.int rr :: rest))) : W p l e R s m args below meth c H locs cells slots Q (F0 m pc ls (.int p5 :: .int p4 :: .int p3 :: .int p2 :: .int p1 :: .ref (a 0) :: rest)) :=
  cVi (n := 5) hx hb hml hown hts hK hN (c_X11_barrel hNN hc) (gdV hlk im_X11_barrel se_X11_barrel in_X11 co_X11_barrel) rfl (by decide +kernel) rfl hF hLo h hsize hcs (Nat.lt_of_lt_of_le (by decide) hNN) rfl rfl rfl hr hdg kk
def f_X11_drink (u : St) (p1 : Int32) : Option (Int32 × St) := b1 (f_X7_has u p1) (fun (x1 : Int32) => if x1 = 0 then some ((-1), u) else bs (sI u 5 4 ((u.1 5 4) &&& (((1 : Int32) <<< (p1 &&& 31)) ^^^ (-1 : Int32)))) (fun u3 : St => b1 (f_J6_bitCount_0f7a4 u3 (u3.1 5 4)) (fun (x4 : Int32) => some (x4, u3))))
set_option maxRecDepth 100000 in
set_option maxHeartbeats 4000000 in
theorem c_X11_drink {l : Launch} {D : va_G} {cI cJ cR : ClassId} {a : Nat → Nat} {u : St} {N : Nat} (hNN : 38 ≤ N) {p1 : Int32} {rr : Int32} {uu : St} (hf : f_X11_drink u p1 = some (rr, uu)) : Ci l yX11_drink cX11_drink 2 (some .int) 2 42 D (tyB cI cJ cR) N a (EB a cI cJ cR) [.ref (a 0), .int p1] u rr uu := by
  refine metI (by decide +kernel) (Nat.le_of_ble_eq_true rfl) ?_
  intro p e s m args below meth c R Q hx hb hml hown hts hF hLo hret hK hN h ls hl
  have hown : s.vm.findClass RX11 = some m.cls := hown
  have hl : lv_has ls 2 [(0, .ref (a 0)), (1, .int p1)] := hl
  unfold f_X11_drink at hf
  refine lv_aload_n (pc := 0) hx hb dX11_drink_0 rfl (lv_at hl 0 rfl) ?_
  refine gB_0_0 (pc := 1) hNN hx hb hts hown hK h fl_X11_12 dX11_drink_1 ?_
  refine gB_1_1 (pc := 4) hNN hx hb hts hown hK h fl_X11_88 dX11_drink_4 ?_
  refine lv_iload_n (pc := 7) hx hb dX11_drink_7 rfl (lv_at hl 1 rfl) ?_
  obtain ⟨x1, hc, hf⟩ := b1_e hf
  refine k_X7_has (pc := 8) hNN hx hb hml hown hts hK hN hc ml_X11_137 (Nat.le_trans (by decide) hF) (Nat.le_trans (by decide) hLo) h hl.1 ⟨Nat.zero_le _, Nat.zero_le _⟩ (Nat.le_of_ble_eq_true rfl) dX11_drink_8 (fun H locs h => ?_)
  refine lv_if_ne (pc := 11) (tgt := 16) hx hb dX11_drink_11 (by decide) (fun c2 => ?_) (fun c2 => ?_)
  · have hf := if_f hf c2
    refine lv_aload_n (pc := 16) hx hb dX11_drink_16 rfl (lv_at hl 0 rfl) ?_
    refine gB_0_0 (pc := 17) hNN hx hb hts hown hK h fl_X11_12 dX11_drink_17 ?_
    refine gB_1_1 (pc := 20) hNN hx hb hts hown hK h fl_X11_88 dX11_drink_20 ?_
    refine lv_dup (pc := 23) hx hb dX11_drink_23 rfl ?_
    refine gB_5_4 (pc := 24) hNN hx hb hts hown hK h fl_X11_92 dX11_drink_24 ?_
    refine lv_iconst (pc := 27) (v := 1) hx hb dX11_drink_27 (by decide) ?_
    refine lv_iload_n (pc := 28) hx hb dX11_drink_28 rfl (lv_at hl 1 rfl) ?_
    refine lv_ishl (pc := 29) hx hb dX11_drink_29 ?_
    refine lv_iconst (pc := 30) (v := (-1)) hx hb dX11_drink_30 (by decide) ?_
    refine lv_ixor (pc := 31) hx hb dX11_drink_31 ?_
    refine lv_iand (pc := 32) hx hb dX11_drink_32 ?_
    refine pB_5_4 (pc := 33) hNN hx hb hts hown hK h fl_X11_92 dX11_drink_33 (fun H locs h => ?_)
    obtain ⟨u3, eu3, hf⟩ := bs_e hf
    rw [← eu3] at h
    refine lv_aload_n (pc := 36) hx hb dX11_drink_36 rfl (lv_at hl 0 rfl) ?_
    refine gB_0_0 (pc := 37) hNN hx hb hts hown hK h fl_X11_12 dX11_drink_37 ?_
    refine gB_1_1 (pc := 40) hNN hx hb hts hown hK h fl_X11_88 dX11_drink_40 ?_
    refine gB_5_4 (pc := 43) hNN hx hb hts hown hK h fl_X11_92 dX11_drink_43 ?_
    obtain ⟨x4, hc, hf⟩ := b1_e hf
    refine kS_J6_bitCount_0f7a4 (pc := 46) hNN hx hb hml hown hts hK hN hc ml_X11_131 (Nat.le_trans (by decide) hF) (Nat.le_trans (by decide) hLo) h hl.1 ⟨Nat.zero_le _, Nat.zero_le _⟩ (Nat.le_of_ble_eq_true rfl) dX11_drink_46 (fun H locs h => ?_)
    exact hret (so1 hf) rfl (so2 hf) dX11_drink_49 h
  · have hf := if_t hf c2
    refine lv_iconst (pc := 14) (v := (-1)) hx hb dX11_drink_14 (by decide) ?_
    exact hret (so1 hf) rfl (so2 hf) dX11_drink_15 h
theorem k_X11_drink {p : Program} {l : Launch} {e : Env} {R : Room} {s : State} {m : MethodId} {args : Array Value} {below : List Frame} {meth : Method} {c : Code} {H : Heap} {locs : List Loc} {cells slots : Nat} {Q : State → Prop} {pc : Nat} {ls : Array Slot} {rest : List Value} {cc : ByteArray} {D : va_G} {cI cJ cR : ClassId} {a : Nat → Nat} {u : St} {own : String} {index nL : Nat} {N : Nat} (hNN : 38 ≤ N) {p1 : Int32} {rr : Int32} {uu : St} (hx : p.tables.exec = Jvm.exec) (hb : c.code = cc) (hml : c.maxLocals = nL) (hown : s.vm.findClass own = some m.cls) (hts : ∀ w ∈ Gd, w.before args s = true) (hK : va_K D vwCl (tyB cI cJ cR) s) (hN : NB s) (hc : f_X11_drink u p1 = some (rr, uu)) (hlk : Cond.methodLink own index yX11_drink ∈ Gd) (hF : 3 ≤ R.frames) (hLo : 63 ≤ R.locals) (h : Hh D (AB N a s.heap.size) (wX N a (EB a cI cJ cR) u) s.heap H locs) (hsize : ls.size = nL) (hcs : cells ≤ R.cells ∧ slots ≤ R.slots) (hr : (rest.map fun v => v.category).sum ≤ 8) (hdg : decode cc pc = .ok (.invokevirtual index, 3)) (kk : ∀ (H1 : Heap) (locs1 : List Loc), Hh D (AB N a s.heap.size) (wX N a (EB a cI cJ cR) uu) s.heap H1 locs1 → W p l e R s m args below meth c H1 locs1 cells slots Q (F0 m (pc + 3) ls (.int rr :: rest))) : W p l e R s m args below meth c H locs cells slots Q (F0 m pc ls (.int p1 :: .ref (a 0) :: rest)) :=
  cVi (n := 1) hx hb hml hown hts hK hN (c_X11_drink hNN hc) (gdV hlk im_X11_drink se_X11_drink in_X11 co_X11_drink) rfl (by decide +kernel) rfl hF hLo h hsize hcs (Nat.lt_of_lt_of_le (by decide) hNN) rfl rfl rfl hr hdg kk
def f_X11_set (u : St) (p1 : Int32) (p2 : Int32) : Option (Int32 × St) := b1 (f_X11_within u p1 0 ((7 : Int32) - (1 : Int32))) (fun (x1 : Int32) => if x1 = 0 then some ((-2), u) else cki p1 7 (cki p1 7 (b1 (f_X11_within u p2 (lsS (ix p1)) (msS (ix p1))) (fun (x3 : Int32) => if x3 = 0 then some ((-2), u) else cki p1 7 (cki p1 7 (bs (sI u 16 (ix p1) p2) (fun u5 : St => some (u.1 16 (ix p1), u5))))))))
set_option maxRecDepth 100000 in
set_option maxHeartbeats 4000000 in
theorem c_X11_set {l : Launch} {D : va_G} {cI cJ cR : ClassId} {a : Nat → Nat} {tF tL tM : Nat} {u : St} {N : Nat} (hNN : 38 ≤ N) {p1 : Int32} {p2 : Int32} {rr : Int32} {uu : St} (hf : f_X11_set u p1 p2 = some (rr, uu)) : CiZ cI tF tL tM l yX11_set cX11_set 4 (some .int) 1 22 D (tyB cI cJ cR) N a (EB a cI cJ cR) [.ref (a 0), .int p1, .int p2] u rr uu := by
  refine metIZ (by decide +kernel) (Nat.le_of_ble_eq_true rfl) ?_
  intro p e s m args below meth c R Q hx hb hml hown hts hF hLo hret hK hN hZ h ls hl
  have hown : s.vm.findClass RX11 = some m.cls := hown
  have hl : lv_has ls 4 [(0, .ref (a 0)), (1, .int p1), (2, .int p2)] := hl
  unfold f_X11_set at hf
  refine lv_iload_n (pc := 0) hx hb dX11_set_0 rfl (lv_at hl 1 rfl) ?_
  refine lv_iconst (pc := 1) (v := 0) hx hb dX11_set_1 (by decide) ?_
  refine lv_aload_n (pc := 2) hx hb dX11_set_2 rfl (lv_at hl 0 rfl) ?_
  refine gB_0_0 (pc := 3) hNN hx hb hts hown hK h fl_X11_12 dX11_set_3 ?_
  refine gB_1_4 (pc := 6) hNN hx hb hts hown hK h fl_X11_138 dX11_set_6 ?_
  refine nB_16 (pc := 9) (v := 7) hNN hx hb hK h (by decide) dX11_set_9 ?_
  refine lv_iconst (pc := 10) (v := 1) hx hb dX11_set_10 (by decide) ?_
  refine lv_isub (pc := 11) hx hb dX11_set_11 ?_
  obtain ⟨x1, hc, hf⟩ := b1_e hf
  refine kS_X11_within (pc := 12) hNN hx hb hml hown hts hK hN hc ml_X11_70 (Nat.le_trans (by decide) hF) (Nat.le_trans (by decide) hLo) h hl.1 ⟨Nat.zero_le _, Nat.zero_le _⟩ (Nat.le_of_ble_eq_true rfl) dX11_set_12 (fun H locs h => ?_)
  refine lv_if_ne (pc := 15) (tgt := 21) hx hb dX11_set_15 (by decide) (fun c2 => ?_) (fun c2 => ?_)
  · have hf := if_f hf c2
    refine lv_iload_n (pc := 21) hx hb dX11_set_21 rfl (lv_at hl 2 rfl) ?_
    refine va_gets (pc := 22) hx hb hZ.2.1 h.2.2 hown (hts _ fl_X11_141) (fun _ h9 => h9) dX11_set_22 ?_
    refine lv_iload_n (pc := 25) hx hb dX11_set_25 rfl (lv_at hl 1 rfl) ?_
    obtain ⟨hin, hf⟩ := cki_e hf
    refine va_ti (pc := 26) hx hb hZ.2.2.2.1 h.2.2 hin (v := .int (lsS (ix p1))) rfl dX11_set_26 ?_
    refine va_gets (pc := 27) hx hb hZ.2.2.1 h.2.2 hown (hts _ fl_X11_144) (fun _ h9 => h9) dX11_set_27 ?_
    refine lv_iload_n (pc := 30) hx hb dX11_set_30 rfl (lv_at hl 1 rfl) ?_
    obtain ⟨hin, hf⟩ := cki_e hf
    refine va_ti (pc := 31) hx hb hZ.2.2.2.2.1 h.2.2 hin (v := .int (msS (ix p1))) rfl dX11_set_31 ?_
    obtain ⟨x3, hc, hf⟩ := b1_e hf
    refine kS_X11_within (pc := 32) hNN hx hb hml hown hts hK hN hc ml_X11_70 (Nat.le_trans (by decide) hF) (Nat.le_trans (by decide) hLo) h hl.1 ⟨Nat.zero_le _, Nat.zero_le _⟩ (Nat.le_of_ble_eq_true rfl) dX11_set_32 (fun H locs h => ?_)
    refine lv_if_ne (pc := 35) (tgt := 41) hx hb dX11_set_35 (by decide) (fun c4 => ?_) (fun c4 => ?_)
    · have hf := if_f hf c4
      refine lv_aload_n (pc := 41) hx hb dX11_set_41 rfl (lv_at hl 0 rfl) ?_
      refine gB_0_0 (pc := 42) hNN hx hb hts hown hK h fl_X11_12 dX11_set_42 ?_
      refine gB_1_4 (pc := 45) hNN hx hb hts hown hK h fl_X11_138 dX11_set_45 ?_
      refine lv_iload_n (pc := 48) hx hb dX11_set_48 rfl (lv_at hl 1 rfl) ?_
      obtain ⟨hin, hf⟩ := cki_e hf
      refine gB_16 (pc := 49) hNN hx hb hK h hin dX11_set_49 ?_
      refine lv_istore_n (pc := 50) (lv' := [(3, .int (u.1 16 (ix p1))), (0, .ref (a 0)), (1, .int p1), (2, .int p2)]) hx hb dX11_set_50 rfl hl (by decide) rfl (fun ls hl => ?_)
      refine lv_aload_n (pc := 51) hx hb dX11_set_51 rfl (lv_at hl 1 rfl) ?_
      refine gB_0_0 (pc := 52) hNN hx hb hts hown hK h fl_X11_12 dX11_set_52 ?_
      refine gB_1_4 (pc := 55) hNN hx hb hts hown hK h fl_X11_138 dX11_set_55 ?_
      refine lv_iload_n (pc := 58) hx hb dX11_set_58 rfl (lv_at hl 2 rfl) ?_
      refine lv_iload_n (pc := 59) hx hb dX11_set_59 rfl (lv_at hl 3 rfl) ?_
      obtain ⟨hin, hf⟩ := cki_e hf
      refine pB_16 (pc := 60) hNN hx hb hK h hin dX11_set_60 (fun H locs h => ?_)
      obtain ⟨u5, eu5, hf⟩ := bs_e hf
      rw [← eu5] at h
      refine lv_iload_n (pc := 61) hx hb dX11_set_61 rfl (lv_at hl 0 rfl) ?_
      exact hret (so1 hf) rfl (so2 hf) dX11_set_62 h
    · have hf := if_t hf c4
      refine lv_bipush (pc := 38) (v := (-2)) hx hb dX11_set_38 (by decide) ?_
      exact hret (so1 hf) rfl (so2 hf) dX11_set_40 h
  · have hf := if_t hf c2
    refine lv_bipush (pc := 18) (v := (-2)) hx hb dX11_set_18 (by decide) ?_
    exact hret (so1 hf) rfl (so2 hf) dX11_set_20 h
def f_X11_say (u : St) (p1 : Int32) : Option (Int32 × St) := b1 (f_X11_within u p1 33 126) (fun (x1 : Int32) => if x1 = 0 then some ((-2), u) else if (u.1 18 1) < 60 then cki (u.1 18 1) 60 (bs (sI u 19 (ix (u.1 18 1)) p1) (fun u4 : St => bs (sI u4 18 1 ((u4.1 18 1) + (1 : Int32))) (fun u5 : St => some (u5.1 18 1, u5)))) else some ((-4), u))
set_option maxRecDepth 100000 in
set_option maxHeartbeats 4000000 in
theorem c_X11_say {l : Launch} {D : va_G} {cI cJ cR : ClassId} {a : Nat → Nat} {u : St} {N : Nat} (hNN : 38 ≤ N) {p1 : Int32} {rr : Int32} {uu : St} (hf : f_X11_say u p1 = some (rr, uu)) : Ci l yX11_say cX11_say 2 (some .int) 1 22 D (tyB cI cJ cR) N a (EB a cI cJ cR) [.ref (a 0), .int p1] u rr uu := by
  refine metI (by decide +kernel) (Nat.le_of_ble_eq_true rfl) ?_
  intro p e s m args below meth c R Q hx hb hml hown hts hF hLo hret hK hN h ls hl
  have hown : s.vm.findClass RX11 = some m.cls := hown
  have hl : lv_has ls 2 [(0, .ref (a 0)), (1, .int p1)] := hl
  unfold f_X11_say at hf
  refine lv_iload_n (pc := 0) hx hb dX11_say_0 rfl (lv_at hl 1 rfl) ?_
  refine lv_bipush (pc := 1) (v := 33) hx hb dX11_say_1 (by decide) ?_
  refine lv_bipush (pc := 3) (v := 126) hx hb dX11_say_3 (by decide) ?_
  obtain ⟨x1, hc, hf⟩ := b1_e hf
  refine kS_X11_within (pc := 5) hNN hx hb hml hown hts hK hN hc ml_X11_70 (Nat.le_trans (by decide) hF) (Nat.le_trans (by decide) hLo) h hl.1 ⟨Nat.zero_le _, Nat.zero_le _⟩ (Nat.le_of_ble_eq_true rfl) dX11_say_5 (fun H locs h => ?_)
  refine lv_if_ne (pc := 8) (tgt := 14) hx hb dX11_say_8 (by decide) (fun c2 => ?_) (fun c2 => ?_)
  · have hf := if_f hf c2
    refine lv_aload_n (pc := 14) hx hb dX11_say_14 rfl (lv_at hl 0 rfl) ?_
    refine gB_0_2 (pc := 15) hNN hx hb hts hown hK h fl_X11_23 dX11_say_15 ?_
    refine gB_18_1 (pc := 18) hNN hx hb hts hown hK h fl_X11_147 dX11_say_18 ?_
    refine lv_bipush (pc := 21) (v := 60) hx hb dX11_say_21 (by decide) ?_
    refine lv_icmp_lt (pc := 23) (tgt := 29) hx hb dX11_say_23 (by decide) (fun c3 => ?_) (fun c3 => ?_)
    · have hf := if_t hf c3
      refine lv_aload_n (pc := 29) hx hb dX11_say_29 rfl (lv_at hl 0 rfl) ?_
      refine gB_0_2 (pc := 30) hNN hx hb hts hown hK h fl_X11_23 dX11_say_30 ?_
      refine gB_18_0 (pc := 33) hNN hx hb hts hown hK h fl_X11_148 dX11_say_33 ?_
      refine lv_aload_n (pc := 36) hx hb dX11_say_36 rfl (lv_at hl 0 rfl) ?_
      refine gB_0_2 (pc := 37) hNN hx hb hts hown hK h fl_X11_23 dX11_say_37 ?_
      refine gB_18_1 (pc := 40) hNN hx hb hts hown hK h fl_X11_147 dX11_say_40 ?_
      refine lv_iload_n (pc := 43) hx hb dX11_say_43 rfl (lv_at hl 1 rfl) ?_
      obtain ⟨hin, hf⟩ := cki_e hf
      refine pB_19 (pc := 44) hNN hx hb hK h hin dX11_say_44 (fun H locs h => ?_)
      obtain ⟨u4, eu4, hf⟩ := bs_e hf
      rw [← eu4] at h
      refine lv_aload_n (pc := 45) hx hb dX11_say_45 rfl (lv_at hl 0 rfl) ?_
      refine gB_0_2 (pc := 46) hNN hx hb hts hown hK h fl_X11_23 dX11_say_46 ?_
      refine lv_dup (pc := 49) hx hb dX11_say_49 rfl ?_
      refine gB_18_1 (pc := 50) hNN hx hb hts hown hK h fl_X11_147 dX11_say_50 ?_
      refine lv_iconst (pc := 53) (v := 1) hx hb dX11_say_53 (by decide) ?_
      refine lv_iadd (pc := 54) hx hb dX11_say_54 ?_
      refine pB_18_1 (pc := 55) hNN hx hb hts hown hK h fl_X11_147 dX11_say_55 (fun H locs h => ?_)
      obtain ⟨u5, eu5, hf⟩ := bs_e hf
      rw [← eu5] at h
      refine lv_aload_n (pc := 58) hx hb dX11_say_58 rfl (lv_at hl 0 rfl) ?_
      refine gB_0_2 (pc := 59) hNN hx hb hts hown hK h fl_X11_23 dX11_say_59 ?_
      refine gB_18_1 (pc := 62) hNN hx hb hts hown hK h fl_X11_147 dX11_say_62 ?_
      exact hret (so1 hf) rfl (so2 hf) dX11_say_65 h
    · have hf := if_f hf c3
      refine lv_bipush (pc := 26) (v := (-4)) hx hb dX11_say_26 (by decide) ?_
      exact hret (so1 hf) rfl (so2 hf) dX11_say_28 h
  · have hf := if_t hf c2
    refine lv_bipush (pc := 11) (v := (-2)) hx hb dX11_say_11 (by decide) ?_
    exact hret (so1 hf) rfl (so2 hf) dX11_say_13 h
theorem k_X11_say {p : Program} {l : Launch} {e : Env} {R : Room} {s : State} {m : MethodId} {args : Array Value} {below : List Frame} {meth : Method} {c : Code} {H : Heap} {locs : List Loc} {cells slots : Nat} {Q : State → Prop} {pc : Nat} {ls : Array Slot} {rest : List Value} {cc : ByteArray} {D : va_G} {cI cJ cR : ClassId} {a : Nat → Nat} {u : St} {own : String} {index nL : Nat} {N : Nat} (hNN : 38 ≤ N) {p1 : Int32} {rr : Int32} {uu : St} (hx : p.tables.exec = Jvm.exec) (hb : c.code = cc) (hml : c.maxLocals = nL) (hown : s.vm.findClass own = some m.cls) (hts : ∀ w ∈ Gd, w.before args s = true) (hK : va_K D vwCl (tyB cI cJ cR) s) (hN : NB s) (hc : f_X11_say u p1 = some (rr, uu)) (hlk : Cond.methodLink own index yX11_say ∈ Gd) (hF : 2 ≤ R.frames) (hLo : 43 ≤ R.locals) (h : Hh D (AB N a s.heap.size) (wX N a (EB a cI cJ cR) u) s.heap H locs) (hsize : ls.size = nL) (hcs : cells ≤ R.cells ∧ slots ≤ R.slots) (hr : (rest.map fun v => v.category).sum ≤ 8) (hdg : decode cc pc = .ok (.invokevirtual index, 3)) (kk : ∀ (H1 : Heap) (locs1 : List Loc), Hh D (AB N a s.heap.size) (wX N a (EB a cI cJ cR) uu) s.heap H1 locs1 → W p l e R s m args below meth c H1 locs1 cells slots Q (F0 m (pc + 3) ls (.int rr :: rest))) : W p l e R s m args below meth c H locs cells slots Q (F0 m pc ls (.int p1 :: .ref (a 0) :: rest)) :=
  cVi (n := 1) hx hb hml hown hts hK hN (c_X11_say hNN hc) (gdV hlk im_X11_say se_X11_say in_X11 co_X11_say) rfl (by decide +kernel) rfl hF hLo h hsize hcs (Nat.lt_of_lt_of_le (by decide) hNN) rfl rfl rfl hr hdg kk
def f_X11_wipe (u : St) : Option (Int32 × St) := bs (sI u 18 1 0) (fun u1 : St => some (u.1 18 1, u1))
set_option maxRecDepth 100000 in
set_option maxHeartbeats 4000000 in
theorem c_X11_wipe {l : Launch} {D : va_G} {cI cJ cR : ClassId} {a : Nat → Nat} {u : St} {N : Nat} (hNN : 38 ≤ N) {rr : Int32} {uu : St} (hf : f_X11_wipe u = some (rr, uu)) : Ci l yX11_wipe cX11_wipe 2 (some .int) 0 0 D (tyB cI cJ cR) N a (EB a cI cJ cR) [.ref (a 0)] u rr uu := by
  refine metI (by decide +kernel) (Nat.le_of_ble_eq_true rfl) ?_
  intro p e s m args below meth c R Q hx hb hml hown hts hF hLo hret hK hN h ls hl
  have hown : s.vm.findClass RX11 = some m.cls := hown
  have hl : lv_has ls 2 [(0, .ref (a 0))] := hl
  unfold f_X11_wipe at hf
  refine lv_aload_n (pc := 0) hx hb dX11_wipe_0 rfl (lv_at hl 0 rfl) ?_
  refine gB_0_2 (pc := 1) hNN hx hb hts hown hK h fl_X11_23 dX11_wipe_1 ?_
  refine gB_18_1 (pc := 4) hNN hx hb hts hown hK h fl_X11_147 dX11_wipe_4 ?_
  refine lv_istore_n (pc := 7) (lv' := [(1, .int (u.1 18 1)), (0, .ref (a 0))]) hx hb dX11_wipe_7 rfl hl (by decide) rfl (fun ls hl => ?_)
  refine lv_aload_n (pc := 8) hx hb dX11_wipe_8 rfl (lv_at hl 1 rfl) ?_
  refine gB_0_2 (pc := 9) hNN hx hb hts hown hK h fl_X11_23 dX11_wipe_9 ?_
  refine lv_iconst (pc := 12) (v := 0) hx hb dX11_wipe_12 (by decide) ?_
  refine pB_18_1 (pc := 13) hNN hx hb hts hown hK h fl_X11_147 dX11_wipe_13 (fun H locs h => ?_)
  obtain ⟨u1, eu1, hf⟩ := bs_e hf
  rw [← eu1] at h
  refine lv_iload_n (pc := 16) hx hb dX11_wipe_16 rfl (lv_at hl 0 rfl) ?_
  exact hret (so1 hf) rfl (so2 hf) dX11_wipe_17 h
theorem k_X11_wipe {p : Program} {l : Launch} {e : Env} {R : Room} {s : State} {m : MethodId} {args : Array Value} {below : List Frame} {meth : Method} {c : Code} {H : Heap} {locs : List Loc} {cells slots : Nat} {Q : State → Prop} {pc : Nat} {ls : Array Slot} {rest : List Value} {cc : ByteArray} {D : va_G} {cI cJ cR : ClassId} {a : Nat → Nat} {u : St} {own : String} {index nL : Nat} {N : Nat} (hNN : 38 ≤ N) {rr : Int32} {uu : St} (hx : p.tables.exec = Jvm.exec) (hb : c.code = cc) (hml : c.maxLocals = nL) (hown : s.vm.findClass own = some m.cls) (hts : ∀ w ∈ Gd, w.before args s = true) (hK : va_K D vwCl (tyB cI cJ cR) s) (hN : NB s) (hc : f_X11_wipe u = some (rr, uu)) (hlk : Cond.methodLink own index yX11_wipe ∈ Gd) (hF : 1 ≤ R.frames) (hLo : 21 ≤ R.locals) (h : Hh D (AB N a s.heap.size) (wX N a (EB a cI cJ cR) u) s.heap H locs) (hsize : ls.size = nL) (hcs : cells ≤ R.cells ∧ slots ≤ R.slots) (hr : (rest.map fun v => v.category).sum ≤ 8) (hdg : decode cc pc = .ok (.invokevirtual index, 3)) (kk : ∀ (H1 : Heap) (locs1 : List Loc), Hh D (AB N a s.heap.size) (wX N a (EB a cI cJ cR) uu) s.heap H1 locs1 → W p l e R s m args below meth c H1 locs1 cells slots Q (F0 m (pc + 3) ls (.int rr :: rest))) : W p l e R s m args below meth c H locs cells slots Q (F0 m pc ls (.ref (a 0) :: rest)) :=
  cVi (n := 0) hx hb hml hown hts hK hN (c_X11_wipe hNN hc) (gdV hlk im_X11_wipe se_X11_wipe in_X11 co_X11_wipe) rfl (by decide +kernel) rfl hF hLo h hsize hcs (Nat.lt_of_lt_of_le (by decide) hNN) rfl rfl rfl hr hdg kk
def f_X11_fault (u : St) (p1 : Int32) : Option (Int32) := if p1 = 0 then b1 (f_X3_faultAsTable u) (fun (x4 : Int32) => some x4) else if p1 = 1 then b1 (f_X3_faultAsMoves u (u.1 2 2)) (fun (x3 : Int32) => some x3) else some ((-2))
set_option maxRecDepth 100000 in
set_option maxHeartbeats 4000000 in
theorem c_X11_fault {l : Launch} {D : va_G} {cI cJ cR : ClassId} {a : Nat → Nat} {u : St} {N : Nat} (hNN : 38 ≤ N) {p1 : Int32} {rr : Int32} (hf : f_X11_fault u p1 = some rr) : Ci l yX11_fault cX11_fault 2 (some .int) 3 67 D (tyB cI cJ cR) N a (EB a cI cJ cR) [.ref (a 0), .int p1] u rr u := by
  refine metI (by decide +kernel) (Nat.le_of_ble_eq_true rfl) ?_
  intro p e s m args below meth c R Q hx hb hml hown hts hF hLo hret hK hN h ls hl
  have hown : s.vm.findClass RX11 = some m.cls := hown
  have hl : lv_has ls 2 [(0, .ref (a 0)), (1, .int p1)] := hl
  unfold f_X11_fault at hf
  refine lv_iload_n (pc := 0) hx hb dX11_fault_0 rfl (lv_at hl 1 rfl) ?_
  refine lv_if_ne (pc := 1) (tgt := 12) hx hb dX11_fault_1 (by decide) (fun c1 => ?_) (fun c1 => ?_)
  · have hf := if_f hf c1
    refine lv_iload_n (pc := 12) hx hb dX11_fault_12 rfl (lv_at hl 1 rfl) ?_
    refine lv_iconst (pc := 13) (v := 1) hx hb dX11_fault_13 (by decide) ?_
    refine lv_icmp_ne (pc := 14) (tgt := 37) hx hb dX11_fault_14 (by decide) (fun c2 => ?_) (fun c2 => ?_)
    · have hf := if_f hf c2
      refine lv_bipush (pc := 37) (v := (-2)) hx hb dX11_fault_37 (by decide) ?_
      exact hret (so hf) rfl rfl dX11_fault_39 h
    · have hf := if_t hf c2
      refine lv_aload_n (pc := 17) hx hb dX11_fault_17 rfl (lv_at hl 0 rfl) ?_
      refine gB_0_2 (pc := 18) hNN hx hb hts hown hK h fl_X11_23 dX11_fault_18 ?_
      refine lv_aload_n (pc := 21) hx hb dX11_fault_21 rfl (lv_at hl 0 rfl) ?_
      refine gB_0_0 (pc := 22) hNN hx hb hts hown hK h fl_X11_12 dX11_fault_22 ?_
      refine gB_1_0 (pc := 25) hNN hx hb hts hown hK h fl_X11_74 dX11_fault_25 ?_
      refine gB_2_2 (pc := 28) hNN hx hb hts hown hK h fl_X11_78 dX11_fault_28 ?_
      obtain ⟨x3, hc, hf⟩ := b1_e hf
      refine k_X3_faultAsMoves (pc := 31) hNN hx hb hml hown hts hK hN hc ml_X11_155 (Nat.le_trans (by decide) hF) (Nat.le_trans (by decide) hLo) h hl.1 ⟨Nat.zero_le _, Nat.zero_le _⟩ (Nat.le_of_ble_eq_true rfl) dX11_fault_31 (fun H locs h => ?_)
      refine lv_goto (pc := 34) (tgt := 39) hx hb dX11_fault_34 (by decide) ?_
      exact hret (so hf) rfl rfl dX11_fault_39 h
  · have hf := if_t hf c1
    refine lv_aload_n (pc := 4) hx hb dX11_fault_4 rfl (lv_at hl 0 rfl) ?_
    refine gB_0_2 (pc := 5) hNN hx hb hts hown hK h fl_X11_23 dX11_fault_5 ?_
    obtain ⟨x4, hc, hf⟩ := b1_e hf
    refine k_X3_faultAsTable (pc := 8) hNN hx hb hml hown hts hK hN hc ml_X11_151 (Nat.le_trans (by decide) hF) (Nat.le_trans (by decide) hLo) h hl.1 ⟨Nat.zero_le _, Nat.zero_le _⟩ (Nat.le_of_ble_eq_true rfl) dX11_fault_8 (fun H locs h => ?_)
    exact hret (so hf) rfl rfl dX11_fault_11 h
theorem k_X11_fault {p : Program} {l : Launch} {e : Env} {R : Room} {s : State} {m : MethodId} {args : Array Value} {below : List Frame} {meth : Method} {c : Code} {H : Heap} {locs : List Loc} {cells slots : Nat} {Q : State → Prop} {pc : Nat} {ls : Array Slot} {rest : List Value} {cc : ByteArray} {D : va_G} {cI cJ cR : ClassId} {a : Nat → Nat} {u : St} {own : String} {index nL : Nat} {N : Nat} (hNN : 38 ≤ N) {p1 : Int32} {rr : Int32} (hx : p.tables.exec = Jvm.exec) (hb : c.code = cc) (hml : c.maxLocals = nL) (hown : s.vm.findClass own = some m.cls) (hts : ∀ w ∈ Gd, w.before args s = true) (hK : va_K D vwCl (tyB cI cJ cR) s) (hN : NB s) (hc : f_X11_fault u p1 = some rr) (hlk : Cond.methodLink own index yX11_fault ∈ Gd) (hF : 4 ≤ R.frames) (hLo : 88 ≤ R.locals) (h : Hh D (AB N a s.heap.size) (wX N a (EB a cI cJ cR) u) s.heap H locs) (hsize : ls.size = nL) (hcs : cells ≤ R.cells ∧ slots ≤ R.slots) (hr : (rest.map fun v => v.category).sum ≤ 8) (hdg : decode cc pc = .ok (.invokevirtual index, 3)) (kk : ∀ (H1 : Heap) (locs1 : List Loc), Hh D (AB N a s.heap.size) (wX N a (EB a cI cJ cR) u) s.heap H1 locs1 → W p l e R s m args below meth c H1 locs1 cells slots Q (F0 m (pc + 3) ls (.int rr :: rest))) : W p l e R s m args below meth c H locs cells slots Q (F0 m pc ls (.int p1 :: .ref (a 0) :: rest)) :=
  cVi (n := 1) hx hb hml hown hts hK hN (c_X11_fault hNN hc) (gdV hlk im_X11_fault se_X11_fault in_X11 co_X11_fault) rfl (by decide +kernel) rfl hF hLo h hsize hcs (Nat.lt_of_lt_of_le (by decide) hNN) rfl rfl rfl hr hdg kk
