def f_X11_areDoors (u : St) (p1 : Int32) (p2 : Int32) (p3 : Int32) : Option (Int32) := b1 (f_X11_within u p1 0 10) (fun (x1 : Int32) => if x1 = 0 then some 0 else b1 (f_X11_within u p2 0 10) (fun (x3 : Int32) => if x3 = 0 then some 0 else b1 (f_X11_within u p3 0 1) (fun (x5 : Int32) => if x5 = 0 then some 0 else some 1)))
set_option maxRecDepth 100000 in
set_option maxHeartbeats 4000000 in
theorem c_X11_areDoors {l : Launch} {D : va_G} {cI cJ cR : ClassId} {a : Nat → Nat} {u : St} {N : Nat} (hNN : 38 ≤ N) {p1 : Int32} {p2 : Int32} {p3 : Int32} {rr : Int32} (hf : f_X11_areDoors u p1 p2 p3 = some rr) : Ci l yX11_areDoors cX11_areDoors 3 (some .boolean) 1 22 D (tyB cI cJ cR) N a (EB a cI cJ cR) [.int p1, .int p2, .int p3] u rr u := by
  refine metI (by decide +kernel) (Nat.le_of_ble_eq_true rfl) ?_
  intro p e s m args below meth c R Q hx hb hml hown hts hF hLo hret hK hN h ls hl
  have hown : s.vm.findClass RX11 = some m.cls := hown
  have hl : lv_has ls 3 [(0, .int p1), (1, .int p2), (2, .int p3)] := hl
  unfold f_X11_areDoors at hf
  refine lv_iload_n (pc := 0) hx hb dX11_areDoors_0 rfl (lv_at hl 0 rfl) ?_
  refine lv_iconst (pc := 1) (v := 0) hx hb dX11_areDoors_1 (by decide) ?_
  refine lv_bipush (pc := 2) (v := 10) hx hb dX11_areDoors_2 (by decide) ?_
  obtain ⟨x1, hc, hf⟩ := b1_e hf
  refine kS_X11_within (pc := 4) hNN hx hb hml hown hts hK hN hc ml_X11_70 (Nat.le_trans (by decide) hF) (Nat.le_trans (by decide) hLo) h hl.1 ⟨Nat.zero_le _, Nat.zero_le _⟩ (Nat.le_of_ble_eq_true rfl) dX11_areDoors_4 (fun H locs h => ?_)
  refine lv_if_eq (pc := 7) (tgt := 33) hx hb dX11_areDoors_7 (by decide) (fun c2 => ?_) (fun c2 => ?_)
  · have hf := if_t hf c2
    refine lv_iconst (pc := 33) (v := 0) hx hb dX11_areDoors_33 (by decide) ?_
    exact hret (so hf) rfl rfl dX11_areDoors_34 h
  · have hf := if_f hf c2
    refine lv_iload_n (pc := 10) hx hb dX11_areDoors_10 rfl (lv_at hl 1 rfl) ?_
    refine lv_iconst (pc := 11) (v := 0) hx hb dX11_areDoors_11 (by decide) ?_
    refine lv_bipush (pc := 12) (v := 10) hx hb dX11_areDoors_12 (by decide) ?_
    obtain ⟨x3, hc, hf⟩ := b1_e hf
    refine kS_X11_within (pc := 14) hNN hx hb hml hown hts hK hN hc ml_X11_70 (Nat.le_trans (by decide) hF) (Nat.le_trans (by decide) hLo) h hl.1 ⟨Nat.zero_le _, Nat.zero_le _⟩ (Nat.le_of_ble_eq_true rfl) dX11_areDoors_14 (fun H locs h => ?_)
    refine lv_if_eq (pc := 17) (tgt := 33) hx hb dX11_areDoors_17 (by decide) (fun c4 => ?_) (fun c4 => ?_)
    · have hf := if_t hf c4
      refine lv_iconst (pc := 33) (v := 0) hx hb dX11_areDoors_33 (by decide) ?_
      exact hret (so hf) rfl rfl dX11_areDoors_34 h
    · have hf := if_f hf c4
      refine lv_iload_n (pc := 20) hx hb dX11_areDoors_20 rfl (lv_at hl 2 rfl) ?_
      refine lv_iconst (pc := 21) (v := 0) hx hb dX11_areDoors_21 (by decide) ?_
      refine lv_iconst (pc := 22) (v := 1) hx hb dX11_areDoors_22 (by decide) ?_
      obtain ⟨x5, hc, hf⟩ := b1_e hf
      refine kS_X11_within (pc := 23) hNN hx hb hml hown hts hK hN hc ml_X11_70 (Nat.le_trans (by decide) hF) (Nat.le_trans (by decide) hLo) h hl.1 ⟨Nat.zero_le _, Nat.zero_le _⟩ (Nat.le_of_ble_eq_true rfl) dX11_areDoors_23 (fun H locs h => ?_)
      refine lv_if_eq (pc := 26) (tgt := 33) hx hb dX11_areDoors_26 (by decide) (fun c6 => ?_) (fun c6 => ?_)
      · have hf := if_t hf c6
        refine lv_iconst (pc := 33) (v := 0) hx hb dX11_areDoors_33 (by decide) ?_
        exact hret (so hf) rfl rfl dX11_areDoors_34 h
      · have hf := if_f hf c6
        refine lv_iconst (pc := 29) (v := 1) hx hb dX11_areDoors_29 (by decide) ?_
        refine lv_goto (pc := 30) (tgt := 34) hx hb dX11_areDoors_30 (by decide) ?_
        exact hret (so hf) rfl rfl dX11_areDoors_34 h
theorem kS_X11_areDoors {p : Program} {l : Launch} {e : Env} {R : Room} {s : State} {m : MethodId} {args : Array Value} {below : List Frame} {meth : Method} {c : Code} {H : Heap} {locs : List Loc} {cells slots : Nat} {Q : State → Prop} {pc : Nat} {ls : Array Slot} {rest : List Value} {cc : ByteArray} {D : va_G} {cI cJ cR : ClassId} {a : Nat → Nat} {u : St} {own : String} {index nL : Nat} {N : Nat} (hNN : 38 ≤ N) {p1 : Int32} {p2 : Int32} {p3 : Int32} {rr : Int32} (hx : p.tables.exec = Jvm.exec) (hb : c.code = cc) (hml : c.maxLocals = nL) (hown : s.vm.findClass own = some m.cls) (hts : ∀ w ∈ Gd, w.before args s = true) (hK : va_K D vwCl (tyB cI cJ cR) s) (hN : NB s) (hc : f_X11_areDoors u p1 p2 p3 = some rr) (hlk : Cond.methodLink own index yX11_areDoors ∈ Gd) (hF : 2 ≤ R.frames) (hLo : 44 ≤ R.locals) (h : Hh D (AB N a s.heap.size) (wX N a (EB a cI cJ cR) u) s.heap H locs) (hsize : ls.size = nL) (hcs : cells ≤ R.cells ∧ slots ≤ R.slots) (hr : (rest.map fun v => v.category).sum ≤ 8) (hdg : decode cc pc = .ok (.invokestatic index, 3)) (kk : ∀ (H1 : Heap) (locs1 : List Loc), Hh D (AB N a s.heap.size) (wX N a (EB a cI cJ cR) u) s.heap H1 locs1 → W p l e R s m args below meth c H1 locs1 cells slots Q (F0 m (pc + 3) ls (.int rr :: rest))) : W p l e R s m args below meth c H locs cells slots Q (F0 m pc ls (.int p3 :: .int p2 :: .int p1 :: rest)) :=
  cSi (n := 3) hx hb hml hown hts hK hN (c_X11_areDoors hNN hc) (gdS hlk sm_X11_areDoors in_X11 co_X11_areDoors) (by decide +kernel) rfl hF hLo h hsize hcs rfl hr hdg kk
def B_X11_greatestShared_9 (k4 : Int64 → Option (Int64)) (rec6 : Int64 → Int64 → Int32 → Option (Int64)) (x1 : Int64) (x2 : Int64) (x3 : Int32) : Option (Int64) := if 200 ≤ x3 then k4 x1 else if (lg_cmp x2 0) = 0 then k4 x1 else ck (¬ x2 = 0) (rec6 x2 (x1 - x1 / x2 * x2) (x3 + 1))
def f_X11_greatestShared (u : St) (p1 : Int64) (p2 : Int64) : Option (Int64) := jq_1 (fun (x5 : Int64) => some x5) (fun (k4 : Int64 → Option (Int64)) => lq_3 (B_X11_greatestShared_9 k4) FU p1 p2 0)
set_option maxRecDepth 100000 in
set_option maxHeartbeats 4000000 in
theorem c_X11_greatestShared {l : Launch} {D : va_G} {cI cJ cR : ClassId} {a : Nat → Nat} {u : St} {N : Nat} (hNN : 38 ≤ N) {p1 : Int64} {p2 : Int64} {rr : Int64} (hf : f_X11_greatestShared u p1 p2 = some rr) : Cl l yX11_greatestShared cX11_greatestShared 11 (some .long) 0 0 D (tyB cI cJ cR) N a (EB a cI cJ cR) [.long p1, .long p2] u rr u := by
  refine metL (by decide +kernel) (Nat.le_of_ble_eq_true rfl) ?_
  intro p e s m args below meth c R Q hx hb hml hown hts hF hLo hret hK hN h ls hl
  have hown : s.vm.findClass RX11 = some m.cls := hown
  have hl : lv_has ls 11 [(0, .long p1), (2, .long p2)] := hl
  unfold f_X11_greatestShared at hf
  refine lv_lload_n (pc := 0) hx hb dX11_greatestShared_0 rfl (lv_at hl 0 rfl) ?_
  refine lv_lstore (pc := 1) (lv' := [(4, .long p1), (0, .long p1), (2, .long p2)]) hx hb dX11_greatestShared_1 hl (by decide) rfl (fun ls hl => ?_)
  refine lv_lload_n (pc := 3) hx hb dX11_greatestShared_3 rfl (lv_at hl 2 rfl) ?_
  refine lv_lstore (pc := 4) (lv' := [(6, .long p2), (4, .long p1), (0, .long p1), (2, .long p2)]) hx hb dX11_greatestShared_4 hl (by decide) rfl (fun ls hl => ?_)
  refine lv_iconst (pc := 6) (v := 0) hx hb dX11_greatestShared_6 (by decide) ?_
  refine lv_istore (pc := 7) (lv' := [(8, .int 0), (6, .long p2), (4, .long p1), (0, .long p1), (2, .long p2)]) hx hb dX11_greatestShared_7 hl (by decide) rfl (fun ls hl => ?_)
  obtain ⟨k4, hk4, hf⟩ := jq_1_e hf
  have jk4 : ∀ (x5 : Int64), k4 x5 = some rr → ∀ (H : Heap) (locs : List Loc) (ls : Array Slot), Hh D (AB N a s.heap.size) (wX N a (EB a cI cJ cR) u) s.heap H locs → lv_has ls 11 [(4, .long x5)] → W p l e R s m args below meth c H locs 0 0 Q (F0 m 45 ls []) := by
    intro x5 hf H locs ls h hl
    rw [hk4] at hf
    refine lv_lload (pc := 45) hx hb dX11_greatestShared_45 (lv_at hl 0 rfl) ?_
    exact hret (so hf) rfl dX11_greatestShared_47 h
  refine lq_3_e (P := fun (x1 : Int64) (x2 : Int64) (x3 : Int32) => ∀ (H : Heap) (locs : List Loc) (ls : Array Slot), Hh D (AB N a s.heap.size) (wX N a (EB a cI cJ cR) u) s.heap H locs → lv_has ls 11 [(4, .long x1), (6, .long x2), (8, .int x3)] → W p l e R s m args below meth c H locs 0 0 Q (F0 m 9 ls [])) ?_ FU _ _ _ hf _ _ _ h (lv_sub hl [2, 1, 0] rfl)
  intro rec6 irec6 x1 x2 x3 hf H locs ls h hl
  unfold B_X11_greatestShared_9 at hf
  refine lv_iload (pc := 9) hx hb dX11_greatestShared_9 (lv_at hl 2 rfl) ?_
  refine lv_sipush (pc := 11) (v := 200) hx hb dX11_greatestShared_11 (by decide) ?_
  refine lv_icmp_ge (pc := 14) (tgt := 45) hx hb dX11_greatestShared_14 (by decide) (fun c7 => ?_) (fun c7 => ?_)
  · have hf := if_t hf c7
    exact jk4 _ hf _ _ _ h (lv_sub hl [0] rfl)
  · have hf := if_f hf c7
    refine lv_lload (pc := 17) hx hb dX11_greatestShared_17 (lv_at hl 1 rfl) ?_
    refine lv_lconst (pc := 19) (v := 0) hx hb dX11_greatestShared_19 (by decide) ?_
    refine W.lcmp (pc := 20) hx hb dX11_greatestShared_20 ?_
    refine lv_if_eq (pc := 21) (tgt := 45) hx hb dX11_greatestShared_21 (by decide) (fun c8 => ?_) (fun c8 => ?_)
    · have hf := if_t hf c8
      exact jk4 _ hf _ _ _ h (lv_sub hl [0] rfl)
    · have hf := if_f hf c8
      refine lv_lload (pc := 24) hx hb dX11_greatestShared_24 (lv_at hl 0 rfl) ?_
      refine lv_lload (pc := 26) hx hb dX11_greatestShared_26 (lv_at hl 1 rfl) ?_
      obtain ⟨hne, hf⟩ := ck_e hf
      refine lv_lrem (pc := 28) hx hb dX11_greatestShared_28 hne ?_
      refine lv_lstore (pc := 29) (lv' := [(9, .long (x1 - x1 / x2 * x2)), (4, .long x1), (6, .long x2), (8, .int x3)]) hx hb dX11_greatestShared_29 hl (by decide) rfl (fun ls hl => ?_)
      refine lv_lload (pc := 31) hx hb dX11_greatestShared_31 (lv_at hl 2 rfl) ?_
      refine lv_lstore (pc := 33) (lv' := [(4, .long x2), (9, .long (x1 - x1 / x2 * x2)), (6, .long x2), (8, .int x3)]) hx hb dX11_greatestShared_33 hl (by decide) rfl (fun ls hl => ?_)
      refine lv_lload (pc := 35) hx hb dX11_greatestShared_35 (lv_at hl 1 rfl) ?_
      refine lv_lstore (pc := 37) (lv' := [(6, .long (x1 - x1 / x2 * x2)), (4, .long x2), (9, .long (x1 - x1 / x2 * x2)), (8, .int x3)]) hx hb dX11_greatestShared_37 hl (by decide) rfl (fun ls hl => ?_)
      refine lv_iinc (pc := 39) (v := x3 + 1) (lv' := [(8, .int (x3 + 1)), (6, .long (x1 - x1 / x2 * x2)), (4, .long x2), (9, .long (x1 - x1 / x2 * x2))]) hx hb dX11_greatestShared_39 hl (k := 3) rfl rfl (by decide) rfl (fun ls hl => ?_)
      refine lv_goto (pc := 42) (tgt := 9) hx hb dX11_greatestShared_42 (by decide) ?_
      exact irec6 _ _ _ hf _ _ _ h (lv_sub hl [2, 1, 0] rfl)
theorem kS_X11_greatestShared {p : Program} {l : Launch} {e : Env} {R : Room} {s : State} {m : MethodId} {args : Array Value} {below : List Frame} {meth : Method} {c : Code} {H : Heap} {locs : List Loc} {cells slots : Nat} {Q : State → Prop} {pc : Nat} {ls : Array Slot} {rest : List Value} {cc : ByteArray} {D : va_G} {cI cJ cR : ClassId} {a : Nat → Nat} {u : St} {own : String} {index nL : Nat} {N : Nat} (hNN : 38 ≤ N) {p1 : Int64} {p2 : Int64} {rr : Int64} (hx : p.tables.exec = Jvm.exec) (hb : c.code = cc) (hml : c.maxLocals = nL) (hown : s.vm.findClass own = some m.cls) (hts : ∀ w ∈ Gd, w.before args s = true) (hK : va_K D vwCl (tyB cI cJ cR) s) (hN : NB s) (hc : f_X11_greatestShared u p1 p2 = some rr) (hlk : Cond.methodLink own index yX11_greatestShared ∈ Gd) (hF : 1 ≤ R.frames) (hLo : 30 ≤ R.locals) (h : Hh D (AB N a s.heap.size) (wX N a (EB a cI cJ cR) u) s.heap H locs) (hsize : ls.size = nL) (hcs : cells ≤ R.cells ∧ slots ≤ R.slots) (hr : (rest.map fun v => v.category).sum ≤ 8) (hdg : decode cc pc = .ok (.invokestatic index, 3)) (kk : ∀ (H1 : Heap) (locs1 : List Loc), Hh D (AB N a s.heap.size) (wX N a (EB a cI cJ cR) u) s.heap H1 locs1 → W p l e R s m args below meth c H1 locs1 cells slots Q (F0 m (pc + 3) ls (.long rr :: rest))) : W p l e R s m args below meth c H locs cells slots Q (F0 m pc ls (.long p2 :: .long p1 :: rest)) :=
  cSl (n := 2) hx hb hml hown hts hK hN (c_X11_greatestShared hNN hc) (gdS hlk sm_X11_greatestShared in_X11 co_X11_greatestShared) (by decide +kernel) rfl hF hLo h hsize hcs rfl hr hdg kk
def f_X11_inLowestTerms (u : St) (p1 : Int64) (p2 : Int64) (p3 : Int32) : Option (Int64) := b1 (f_X11_greatestShared u p1 p2) (fun (x1 : Int64) => jq_1 (fun (x3 : Int64) => if 0 ≤ (lg_cmp x1 1) then ck (¬ x1 = 0) (some (x3 / x1)) else some x3) (fun (k2 : Int64 → Option (Int64)) => if p3 = 0 then k2 p1 else k2 p2))
set_option maxRecDepth 100000 in
set_option maxHeartbeats 4000000 in
theorem c_X11_inLowestTerms {l : Launch} {D : va_G} {cI cJ cR : ClassId} {a : Nat → Nat} {u : St} {N : Nat} (hNN : 38 ≤ N) {p1 : Int64} {p2 : Int64} {p3 : Int32} {rr : Int64} (hf : f_X11_inLowestTerms u p1 p2 p3 = some rr) : Cl l yX11_inLowestTerms cX11_inLowestTerms 9 (some .long) 1 30 D (tyB cI cJ cR) N a (EB a cI cJ cR) [.long p1, .long p2, .int p3] u rr u := by
  refine metL (by decide +kernel) (Nat.le_of_ble_eq_true rfl) ?_
  intro p e s m args below meth c R Q hx hb hml hown hts hF hLo hret hK hN h ls hl
  have hown : s.vm.findClass RX11 = some m.cls := hown
  have hl : lv_has ls 9 [(0, .long p1), (2, .long p2), (4, .int p3)] := hl
  unfold f_X11_inLowestTerms at hf
  refine lv_lload_n (pc := 0) hx hb dX11_inLowestTerms_0 rfl (lv_at hl 0 rfl) ?_
  refine lv_lload_n (pc := 1) hx hb dX11_inLowestTerms_1 rfl (lv_at hl 1 rfl) ?_
  obtain ⟨x1, hc, hf⟩ := b1_e hf
  refine kS_X11_greatestShared (pc := 2) hNN hx hb hml hown hts hK hN hc ml_X11_352 (Nat.le_trans (by decide) hF) (Nat.le_trans (by decide) hLo) h hl.1 ⟨Nat.zero_le _, Nat.zero_le _⟩ (Nat.le_of_ble_eq_true rfl) dX11_inLowestTerms_2 (fun H locs h => ?_)
  refine lv_lstore (pc := 5) (lv' := [(5, .long x1), (0, .long p1), (2, .long p2), (4, .int p3)]) hx hb dX11_inLowestTerms_5 hl (by decide) rfl (fun ls hl => ?_)
  refine lv_iload (pc := 7) hx hb dX11_inLowestTerms_7 (lv_at hl 3 rfl) ?_
  obtain ⟨k2, hk2, hf⟩ := jq_1_e hf
  have jk2 : ∀ (x3 : Int64), k2 x3 = some rr → ∀ (H : Heap) (locs : List Loc) (ls : Array Slot), Hh D (AB N a s.heap.size) (wX N a (EB a cI cJ cR) u) s.heap H locs → lv_has ls 9 [(5, .long x1)] → W p l e R s m args below meth c H locs 0 0 Q (F0 m 17 ls [.long x3]) := by
    intro x3 hf H locs ls h hl
    rw [hk2] at hf
    refine lv_lstore (pc := 17) (lv' := [(7, .long x3), (5, .long x1)]) hx hb dX11_inLowestTerms_17 hl (by decide) rfl (fun ls hl => ?_)
    refine lv_lload (pc := 19) hx hb dX11_inLowestTerms_19 (lv_at hl 1 rfl) ?_
    refine lv_lconst (pc := 21) (v := 1) hx hb dX11_inLowestTerms_21 (by decide) ?_
    refine W.lcmp (pc := 22) hx hb dX11_inLowestTerms_22 ?_
    refine lv_if_ge (pc := 23) (tgt := 31) hx hb dX11_inLowestTerms_23 (by decide) (fun c4 => ?_) (fun c4 => ?_)
    · have hf := if_t hf c4
      refine lv_lload (pc := 31) hx hb dX11_inLowestTerms_31 (lv_at hl 0 rfl) ?_
      refine lv_lload (pc := 33) hx hb dX11_inLowestTerms_33 (lv_at hl 1 rfl) ?_
      obtain ⟨hne, hf⟩ := ck_e hf
      refine lv_ldiv (pc := 35) hx hb dX11_inLowestTerms_35 hne ?_
      exact hret (so hf) rfl dX11_inLowestTerms_36 h
    · have hf := if_f hf c4
      refine lv_lload (pc := 26) hx hb dX11_inLowestTerms_26 (lv_at hl 0 rfl) ?_
      refine lv_goto (pc := 28) (tgt := 36) hx hb dX11_inLowestTerms_28 (by decide) ?_
      exact hret (so hf) rfl dX11_inLowestTerms_36 h
  refine lv_if_ne (pc := 9) (tgt := 16) hx hb dX11_inLowestTerms_9 (by decide) (fun c5 => ?_) (fun c5 => ?_)
  · have hf := if_f hf c5
    refine lv_lload_n (pc := 16) hx hb dX11_inLowestTerms_16 rfl (lv_at hl 2 rfl) ?_
    exact jk2 _ hf _ _ _ h (lv_sub hl [0] rfl)
  · have hf := if_t hf c5
    refine lv_lload_n (pc := 12) hx hb dX11_inLowestTerms_12 rfl (lv_at hl 1 rfl) ?_
    refine lv_goto (pc := 13) (tgt := 17) hx hb dX11_inLowestTerms_13 (by decide) ?_
    exact jk2 _ hf _ _ _ h (lv_sub hl [0] rfl)
theorem kS_X11_inLowestTerms {p : Program} {l : Launch} {e : Env} {R : Room} {s : State} {m : MethodId} {args : Array Value} {below : List Frame} {meth : Method} {c : Code} {H : Heap} {locs : List Loc} {cells slots : Nat} {Q : State → Prop} {pc : Nat} {ls : Array Slot} {rest : List Value} {cc : ByteArray} {D : va_G} {cI cJ cR : ClassId} {a : Nat → Nat} {u : St} {own : String} {index nL : Nat} {N : Nat} (hNN : 38 ≤ N) {p1 : Int64} {p2 : Int64} {p3 : Int32} {rr : Int64} (hx : p.tables.exec = Jvm.exec) (hb : c.code = cc) (hml : c.maxLocals = nL) (hown : s.vm.findClass own = some m.cls) (hts : ∀ w ∈ Gd, w.before args s = true) (hK : va_K D vwCl (tyB cI cJ cR) s) (hN : NB s) (hc : f_X11_inLowestTerms u p1 p2 p3 = some rr) (hlk : Cond.methodLink own index yX11_inLowestTerms ∈ Gd) (hF : 2 ≤ R.frames) (hLo : 58 ≤ R.locals) (h : Hh D (AB N a s.heap.size) (wX N a (EB a cI cJ cR) u) s.heap H locs) (hsize : ls.size = nL) (hcs : cells ≤ R.cells ∧ slots ≤ R.slots) (hr : (rest.map fun v => v.category).sum ≤ 8) (hdg : decode cc pc = .ok (.invokestatic index, 3)) (kk : ∀ (H1 : Heap) (locs1 : List Loc), Hh D (AB N a s.heap.size) (wX N a (EB a cI cJ cR) u) s.heap H1 locs1 → W p l e R s m args below meth c H1 locs1 cells slots Q (F0 m (pc + 3) ls (.long rr :: rest))) : W p l e R s m args below meth c H locs cells slots Q (F0 m pc ls (.int p3 :: .long p2 :: .long p1 :: rest)) :=
  cSl (n := 3) hx hb hml hown hts hK hN (c_X11_inLowestTerms hNN hc) (gdS hlk sm_X11_inLowestTerms in_X11 co_X11_inLowestTerms) (by decide +kernel) rfl hF hLo h hsize hcs rfl hr hdg kk
def f_X11_likely (u : St) (p1 : Int32) (p2 : Int32) (p3 : Int32) (p4 : Int32) : Option (Int64 × St) := b1 (f_X7_has u p1) (fun (x1 : Int32) => if x1 = 0 then some ((-1000000000000000001), u) else b1 (f_X11_areDoors u p2 p3 p4) (fun (x3 : Int32) => if x3 = 0 then some ((-1000000000000000002), u) else b1 (f_X0_asItIs u) (fun (u5 : St) => b2 (f_X2_sourWays u5 p1 p2 p3) (fun (x6 : Int64) (u7 : St) => b1 (f_X2_allWays u7 p2) (fun (x8 : Int64) => b1 (f_X11_inLowestTerms u7 x6 x8 p4) (fun (x9 : Int64) => some (x9, u7)))))))
set_option maxRecDepth 100000 in
set_option maxHeartbeats 4000000 in
theorem c_X11_likely {l : Launch} {D : va_G} {cI cJ cR : ClassId} {a : Nat → Nat} {u : St} {N : Nat} (hNN : 38 ≤ N) {p1 : Int32} {p2 : Int32} {p3 : Int32} {p4 : Int32} {rr : Int64} {uu : St} (hf : f_X11_likely u p1 p2 p3 p4 = some (rr, uu)) : Cl l yX11_likely cX11_likely 5 (some .long) 4 94 D (tyB cI cJ cR) N a (EB a cI cJ cR) [.ref (a 0), .int p1, .int p2, .int p3, .int p4] u rr uu := by
  refine metL (by decide +kernel) (Nat.le_of_ble_eq_true rfl) ?_
  intro p e s m args below meth c R Q hx hb hml hown hts hF hLo hret hK hN h ls hl
  have hown : s.vm.findClass RX11 = some m.cls := hown
  have hl : lv_has ls 5 [(0, .ref (a 0)), (1, .int p1), (2, .int p2), (3, .int p3), (4, .int p4)] := hl
  unfold f_X11_likely at hf
  refine lv_aload_n (pc := 0) hx hb dX11_likely_0 rfl (lv_at hl 0 rfl) ?_
  refine gB_0_0 (pc := 1) hNN hx hb hts hown hK h fl_X11_12 dX11_likely_1 ?_
  refine gB_1_1 (pc := 4) hNN hx hb hts hown hK h fl_X11_88 dX11_likely_4 ?_
  refine lv_iload_n (pc := 7) hx hb dX11_likely_7 rfl (lv_at hl 1 rfl) ?_
  obtain ⟨x1, hc, hf⟩ := b1_e hf
  refine k_X7_has (pc := 8) hNN hx hb hml hown hts hK hN hc ml_X11_137 (Nat.le_trans (by decide) hF) (Nat.le_trans (by decide) hLo) h hl.1 ⟨Nat.zero_le _, Nat.zero_le _⟩ (Nat.le_of_ble_eq_true rfl) dX11_likely_8 (fun H locs h => ?_)
  refine lv_if_ne (pc := 11) (tgt := 18) hx hb dX11_likely_11 (by decide) (fun c2 => ?_) (fun c2 => ?_)
  · have hf := if_f hf c2
    refine lv_iload_n (pc := 18) hx hb dX11_likely_18 rfl (lv_at hl 2 rfl) ?_
    refine lv_iload_n (pc := 19) hx hb dX11_likely_19 rfl (lv_at hl 3 rfl) ?_
    refine lv_iload (pc := 20) hx hb dX11_likely_20 (lv_at hl 4 rfl) ?_
    obtain ⟨x3, hc, hf⟩ := b1_e hf
    refine kS_X11_areDoors (pc := 22) hNN hx hb hml hown hts hK hN hc ml_X11_268 (Nat.le_trans (by decide) hF) (Nat.le_trans (by decide) hLo) h hl.1 ⟨Nat.zero_le _, Nat.zero_le _⟩ (Nat.le_of_ble_eq_true rfl) dX11_likely_22 (fun H locs h => ?_)
    refine lv_if_ne (pc := 25) (tgt := 32) hx hb dX11_likely_25 (by decide) (fun c4 => ?_) (fun c4 => ?_)
    · have hf := if_f hf c4
      refine lv_aload_n (pc := 32) hx hb dX11_likely_32 rfl (lv_at hl 0 rfl) ?_
      refine gB_0_3 (pc := 33) hNN hx hb hts hown hK h fl_X11_32 dX11_likely_33 ?_
      obtain ⟨u5, hc, hf⟩ := b1_e hf
      refine k_X0_asItIs (pc := 36) hNN hx hb hml hown hts hK hN hc ml_X11_171 (Nat.le_trans (by decide) hF) (Nat.le_trans (by decide) hLo) h hl.1 ⟨Nat.zero_le _, Nat.zero_le _⟩ (Nat.le_of_ble_eq_true rfl) dX11_likely_36 (fun H locs h => ?_)
      refine lv_aload_n (pc := 39) hx hb dX11_likely_39 rfl (lv_at hl 0 rfl) ?_
      refine gB_0_7 (pc := 40) hNN hx hb hts hown hK h fl_X11_62 dX11_likely_40 ?_
      refine lv_iload_n (pc := 43) hx hb dX11_likely_43 rfl (lv_at hl 1 rfl) ?_
      refine lv_iload_n (pc := 44) hx hb dX11_likely_44 rfl (lv_at hl 2 rfl) ?_
      refine lv_iload_n (pc := 45) hx hb dX11_likely_45 rfl (lv_at hl 3 rfl) ?_
      obtain ⟨x6, u7, hc, hf⟩ := b2_e hf
      refine k_X2_sourWays (pc := 46) hNN hx hb hml hown hts hK hN hc ml_X11_273 (Nat.le_trans (by decide) hF) (Nat.le_trans (by decide) hLo) h hl.1 ⟨Nat.zero_le _, Nat.zero_le _⟩ (Nat.le_of_ble_eq_true rfl) dX11_likely_46 (fun H locs h => ?_)
      refine lv_aload_n (pc := 49) hx hb dX11_likely_49 rfl (lv_at hl 0 rfl) ?_
      refine gB_0_7 (pc := 50) hNN hx hb hts hown hK h fl_X11_62 dX11_likely_50 ?_
      refine lv_iload_n (pc := 53) hx hb dX11_likely_53 rfl (lv_at hl 2 rfl) ?_
      obtain ⟨x8, hc, hf⟩ := b1_e hf
      refine k_X2_allWays (pc := 54) hNN hx hb hml hown hts hK hN hc ml_X11_277 (Nat.le_trans (by decide) hF) (Nat.le_trans (by decide) hLo) h hl.1 ⟨Nat.zero_le _, Nat.zero_le _⟩ (Nat.le_of_ble_eq_true rfl) dX11_likely_54 (fun H locs h => ?_)
      refine lv_iload (pc := 57) hx hb dX11_likely_57 (lv_at hl 4 rfl) ?_
      obtain ⟨x9, hc, hf⟩ := b1_e hf
      refine kS_X11_inLowestTerms (pc := 59) hNN hx hb hml hown hts hK hN hc ml_X11_281 (Nat.le_trans (by decide) hF) (Nat.le_trans (by decide) hLo) h hl.1 ⟨Nat.zero_le _, Nat.zero_le _⟩ (Nat.le_of_ble_eq_true rfl) dX11_likely_59 (fun H locs h => ?_)
      exact hret (so1 hf) (so2 hf) dX11_likely_62 h
    · have hf := if_t hf c4
      refine lv_ldc2 (pc := 28) hx hb hown (hts _ ctl_X11_271) dX11_likely_28 ?_
      exact hret (so1 hf) (so2 hf) dX11_likely_31 h
  · have hf := if_t hf c2
    refine lv_ldc2 (pc := 14) hx hb hown (hts _ ctl_X11_266) dX11_likely_14 ?_
    exact hret (so1 hf) (so2 hf) dX11_likely_17 h
theorem k_X11_likely {p : Program} {l : Launch} {e : Env} {R : Room} {s : State} {m : MethodId} {args : Array Value} {below : List Frame} {meth : Method} {c : Code} {H : Heap} {locs : List Loc} {cells slots : Nat} {Q : State → Prop} {pc : Nat} {ls : Array Slot} {rest : List Value} {cc : ByteArray} {D : va_G} {cI cJ cR : ClassId} {a : Nat → Nat} {u : St} {own : String} {index nL : Nat} {N : Nat} (hNN : 38 ≤ N) {p1 : Int32} {p2 : Int32} {p3 : Int32} {p4 : Int32} {rr : Int64} {uu : St} (hx : p.tables.exec = Jvm.exec) (hb : c.code = cc) (hml : c.maxLocals = nL) (hown : s.vm.findClass own = some m.cls) (hts : ∀ w ∈ Gd, w.before args s = true) (hK : va_K D vwCl (tyB cI cJ cR) s) (hN : NB s) (hc : f_X11_likely u p1 p2 p3 p4 = some (rr, uu)) (hlk : Cond.methodLink own index yX11_likely ∈ Gd) (hF : 5 ≤ R.frames) (hLo : 118 ≤ R.locals) (h : Hh D (AB N a s.heap.size) (wX N a (EB a cI cJ cR) u) s.heap H locs) (hsize : ls.size = nL) (hcs : cells ≤ R.cells ∧ slots ≤ R.slots) (hr : (rest.map fun v => v.category).sum ≤ 8) (hdg : decode cc pc = .ok (.invokevirtual index, 3)) (kk : ∀ (H1 : Heap) (locs1 : List Loc), Hh D (AB N a s.heap.size) (wX N a (EB a cI cJ cR) uu) s.heap H1 locs1 → W p l e R s m args below meth c H1 locs1 cells slots Q (F0 m (pc + 3) ls (.long rr :: rest))) : W p l e R s m args below meth c H locs cells slots Q (F0 m pc ls (.int p4 :: .int p3 :: .int p2 :: .int p1 :: .ref (a 0) :: rest)) :=
  cVl (n := 4) hx hb hml hown hts hK hN (c_X11_likely hNN hc) (gdV hlk im_X11_likely se_X11_likely in_X11 co_X11_likely) rfl (by decide +kernel) rfl hF hLo h hsize hcs (Nat.lt_of_lt_of_le (by decide) hNN) rfl rfl rfl hr hdg kk
def B_X11_mean_26 (p1 : Int32) (p2 : Int32) (k7 : St → Int64 → Option (Int64 × St)) (rec12 : St → Int64 → Int32 → Option (Int64 × St)) (u4 : St) (x5 : Int64) (x6 : Int32) : Option (Int64 × St) := if 8 ≤ x6 then k7 u4 x5 else b1 (f_X7_has u4 x6) (fun (x14 : Int32) => if x14 = 0 then rec12 u4 x5 (x6 + 1) else cki x6 8 (b2 (f_X2_sourWays u4 x6 p1 p2) (fun (x16 : Int64) (u17 : St) => bs (x5 + ((Int32.toInt64 (u4.1 7 (ix x6))) * x16)) (fun x18 : Int64 => rec12 u17 x18 (x6 + 1)))))
def f_X11_mean (u : St) (p1 : Int32) (p2 : Int32) (p3 : Int32) : Option (Int64 × St) := b1 (f_X11_areDoors u p1 p2 p3) (fun (x1 : Int32) => if x1 = 0 then some ((-1000000000000000002), u) else b1 (f_X0_asItIs u) (fun (u3 : St) => jq_2 (fun (u8 : St) (x9 : Int64) => b1 (f_X2_allWays u8 p1) (fun (x10 : Int64) => b1 (f_X11_inLowestTerms u8 x9 x10 p3) (fun (x11 : Int64) => some (x11, u8)))) (fun (k7 : St → Int64 → Option (Int64 × St)) => lq_3 (B_X11_mean_26 p1 p2 k7) FU u3 0 0)))
set_option maxRecDepth 100000 in
set_option maxHeartbeats 4000000 in
theorem c_X11_mean {l : Launch} {D : va_G} {cI cJ cR : ClassId} {a : Nat → Nat} {u : St} {N : Nat} (hNN : 38 ≤ N) {p1 : Int32} {p2 : Int32} {p3 : Int32} {rr : Int64} {uu : St} (hf : f_X11_mean u p1 p2 p3 = some (rr, uu)) : Cl l yX11_mean cX11_mean 7 (some .long) 4 94 D (tyB cI cJ cR) N a (EB a cI cJ cR) [.ref (a 0), .int p1, .int p2, .int p3] u rr uu := by
  refine metL (by decide +kernel) (Nat.le_of_ble_eq_true rfl) ?_
  intro p e s m args below meth c R Q hx hb hml hown hts hF hLo hret hK hN h ls hl
  have hown : s.vm.findClass RX11 = some m.cls := hown
  have hl : lv_has ls 7 [(0, .ref (a 0)), (1, .int p1), (2, .int p2), (3, .int p3)] := hl
  unfold f_X11_mean at hf
  refine lv_iload_n (pc := 0) hx hb dX11_mean_0 rfl (lv_at hl 1 rfl) ?_
  refine lv_iload_n (pc := 1) hx hb dX11_mean_1 rfl (lv_at hl 2 rfl) ?_
  refine lv_iload_n (pc := 2) hx hb dX11_mean_2 rfl (lv_at hl 3 rfl) ?_
  obtain ⟨x1, hc, hf⟩ := b1_e hf
  refine kS_X11_areDoors (pc := 3) hNN hx hb hml hown hts hK hN hc ml_X11_268 (Nat.le_trans (by decide) hF) (Nat.le_trans (by decide) hLo) h hl.1 ⟨Nat.zero_le _, Nat.zero_le _⟩ (Nat.le_of_ble_eq_true rfl) dX11_mean_3 (fun H locs h => ?_)
  refine lv_if_ne (pc := 6) (tgt := 13) hx hb dX11_mean_6 (by decide) (fun c2 => ?_) (fun c2 => ?_)
  · have hf := if_f hf c2
    refine lv_aload_n (pc := 13) hx hb dX11_mean_13 rfl (lv_at hl 0 rfl) ?_
    refine gB_0_3 (pc := 14) hNN hx hb hts hown hK h fl_X11_32 dX11_mean_14 ?_
    obtain ⟨u3, hc, hf⟩ := b1_e hf
    refine k_X0_asItIs (pc := 17) hNN hx hb hml hown hts hK hN hc ml_X11_171 (Nat.le_trans (by decide) hF) (Nat.le_trans (by decide) hLo) h hl.1 ⟨Nat.zero_le _, Nat.zero_le _⟩ (Nat.le_of_ble_eq_true rfl) dX11_mean_17 (fun H locs h => ?_)
    refine lv_lconst (pc := 20) (v := 0) hx hb dX11_mean_20 (by decide) ?_
    refine lv_lstore (pc := 21) (lv' := [(4, .long 0), (0, .ref (a 0)), (1, .int p1), (2, .int p2), (3, .int p3)]) hx hb dX11_mean_21 hl (by decide) rfl (fun ls hl => ?_)
    refine lv_iconst (pc := 23) (v := 0) hx hb dX11_mean_23 (by decide) ?_
    refine lv_istore (pc := 24) (lv' := [(6, .int 0), (4, .long 0), (0, .ref (a 0)), (1, .int p1), (2, .int p2), (3, .int p3)]) hx hb dX11_mean_24 hl (by decide) rfl (fun ls hl => ?_)
    obtain ⟨k7, hk7, hf⟩ := jq_2_e hf
    have jk7 : ∀ (u8 : St) (x9 : Int64), k7 u8 x9 = some (rr, uu) → ∀ (H : Heap) (locs : List Loc) (ls : Array Slot), Hh D (AB N a s.heap.size) (wX N a (EB a cI cJ cR) u8) s.heap H locs → lv_has ls 7 [(0, .ref (a 0)), (1, .int p1), (3, .int p3), (4, .long x9)] → W p l e R s m args below meth c H locs 0 0 Q (F0 m 85 ls []) := by
      intro u8 x9 hf H locs ls h hl
      rw [hk7] at hf
      refine lv_lload (pc := 85) hx hb dX11_mean_85 (lv_at hl 3 rfl) ?_
      refine lv_aload_n (pc := 87) hx hb dX11_mean_87 rfl (lv_at hl 0 rfl) ?_
      refine gB_0_7 (pc := 88) hNN hx hb hts hown hK h fl_X11_62 dX11_mean_88 ?_
      refine lv_iload_n (pc := 91) hx hb dX11_mean_91 rfl (lv_at hl 1 rfl) ?_
      obtain ⟨x10, hc, hf⟩ := b1_e hf
      refine k_X2_allWays (pc := 92) hNN hx hb hml hown hts hK hN hc ml_X11_277 (Nat.le_trans (by decide) hF) (Nat.le_trans (by decide) hLo) h hl.1 ⟨Nat.zero_le _, Nat.zero_le _⟩ (Nat.le_of_ble_eq_true rfl) dX11_mean_92 (fun H locs h => ?_)
      refine lv_iload_n (pc := 95) hx hb dX11_mean_95 rfl (lv_at hl 2 rfl) ?_
      obtain ⟨x11, hc, hf⟩ := b1_e hf
      refine kS_X11_inLowestTerms (pc := 96) hNN hx hb hml hown hts hK hN hc ml_X11_281 (Nat.le_trans (by decide) hF) (Nat.le_trans (by decide) hLo) h hl.1 ⟨Nat.zero_le _, Nat.zero_le _⟩ (Nat.le_of_ble_eq_true rfl) dX11_mean_96 (fun H locs h => ?_)
      exact hret (so1 hf) (so2 hf) dX11_mean_99 h
    refine lq_3_e (P := fun (u4 : St) (x5 : Int64) (x6 : Int32) => ∀ (H : Heap) (locs : List Loc) (ls : Array Slot), Hh D (AB N a s.heap.size) (wX N a (EB a cI cJ cR) u4) s.heap H locs → lv_has ls 7 [(0, .ref (a 0)), (1, .int p1), (2, .int p2), (3, .int p3), (4, .long x5), (6, .int x6)] → W p l e R s m args below meth c H locs 0 0 Q (F0 m 26 ls [])) ?_ FU _ _ _ hf _ _ _ h (lv_sub hl [2, 3, 4, 5, 1, 0] rfl)
    intro rec12 irec12 u4 x5 x6 hf H locs ls h hl
    unfold B_X11_mean_26 at hf
    refine lv_iload (pc := 26) hx hb dX11_mean_26 (lv_at hl 5 rfl) ?_
    refine lv_bipush (pc := 28) (v := 8) hx hb dX11_mean_28 (by decide) ?_
    refine lv_icmp_ge (pc := 30) (tgt := 85) hx hb dX11_mean_30 (by decide) (fun c13 => ?_) (fun c13 => ?_)
    · have hf := if_t hf c13
      exact jk7 _ _ hf _ _ _ h (lv_sub hl [0, 1, 3, 4] rfl)
    · have hf := if_f hf c13
      refine lv_aload_n (pc := 33) hx hb dX11_mean_33 rfl (lv_at hl 0 rfl) ?_
      refine gB_0_0 (pc := 34) hNN hx hb hts hown hK h fl_X11_12 dX11_mean_34 ?_
      refine gB_1_1 (pc := 37) hNN hx hb hts hown hK h fl_X11_88 dX11_mean_37 ?_
      refine lv_iload (pc := 40) hx hb dX11_mean_40 (lv_at hl 5 rfl) ?_
      obtain ⟨x14, hc, hf⟩ := b1_e hf
      refine k_X7_has (pc := 42) hNN hx hb hml hown hts hK hN hc ml_X11_137 (Nat.le_trans (by decide) hF) (Nat.le_trans (by decide) hLo) h hl.1 ⟨Nat.zero_le _, Nat.zero_le _⟩ (Nat.le_of_ble_eq_true rfl) dX11_mean_42 (fun H locs h => ?_)
      refine lv_if_eq (pc := 45) (tgt := 79) hx hb dX11_mean_45 (by decide) (fun c15 => ?_) (fun c15 => ?_)
      · have hf := if_t hf c15
        refine lv_iinc (pc := 79) (v := x6 + 1) (lv' := [(6, .int (x6 + 1)), (0, .ref (a 0)), (1, .int p1), (2, .int p2), (3, .int p3), (4, .long x5)]) hx hb dX11_mean_79 hl (k := 5) rfl rfl (by decide) rfl (fun ls hl => ?_)
        refine lv_goto (pc := 82) (tgt := 26) hx hb dX11_mean_82 (by decide) ?_
        exact irec12 _ _ _ hf _ _ _ h (lv_sub hl [1, 2, 3, 4, 5, 0] rfl)
      · have hf := if_f hf c15
        refine lv_lload (pc := 48) hx hb dX11_mean_48 (lv_at hl 4 rfl) ?_
        refine lv_aload_n (pc := 50) hx hb dX11_mean_50 rfl (lv_at hl 0 rfl) ?_
        refine gB_0_0 (pc := 51) hNN hx hb hts hown hK h fl_X11_12 dX11_mean_51 ?_
        refine gB_1_1 (pc := 54) hNN hx hb hts hown hK h fl_X11_88 dX11_mean_54 ?_
        refine gB_5_1 (pc := 57) hNN hx hb hts hown hK h fl_X11_226 dX11_mean_57 ?_
        refine lv_iload (pc := 60) hx hb dX11_mean_60 (lv_at hl 5 rfl) ?_
        obtain ⟨hin, hf⟩ := cki_e hf
        refine gB_7 (pc := 62) hNN hx hb hK h hin dX11_mean_62 ?_
        refine lv_i2l (pc := 63) (v := Int32.toInt64 (u4.1 7 (ix x6))) hx hb dX11_mean_63 rfl ?_
        refine lv_aload_n (pc := 64) hx hb dX11_mean_64 rfl (lv_at hl 0 rfl) ?_
        refine gB_0_7 (pc := 65) hNN hx hb hts hown hK h fl_X11_62 dX11_mean_65 ?_
        refine lv_iload (pc := 68) hx hb dX11_mean_68 (lv_at hl 5 rfl) ?_
        refine lv_iload_n (pc := 70) hx hb dX11_mean_70 rfl (lv_at hl 1 rfl) ?_
        refine lv_iload_n (pc := 71) hx hb dX11_mean_71 rfl (lv_at hl 2 rfl) ?_
        obtain ⟨x16, u17, hc, hf⟩ := b2_e hf
        refine k_X2_sourWays (pc := 72) hNN hx hb hml hown hts hK hN hc ml_X11_273 (Nat.le_trans (by decide) hF) (Nat.le_trans (by decide) hLo) h hl.1 ⟨Nat.zero_le _, Nat.zero_le _⟩ (Nat.le_of_ble_eq_true rfl) dX11_mean_72 (fun H locs h => ?_)
        refine lv_lmul (pc := 75) hx hb dX11_mean_75 ?_
        refine lv_ladd (pc := 76) hx hb dX11_mean_76 ?_
        obtain ⟨x18, ex18, hf⟩ := bs_e hf
        refine rTopL ex18 ?_
        refine lv_lstore (pc := 77) (lv' := [(4, .long x18), (0, .ref (a 0)), (1, .int p1), (2, .int p2), (3, .int p3), (6, .int x6)]) hx hb dX11_mean_77 hl (by decide) rfl (fun ls hl => ?_)
        refine lv_iinc (pc := 79) (v := x6 + 1) (lv' := [(6, .int (x6 + 1)), (4, .long x18), (0, .ref (a 0)), (1, .int p1), (2, .int p2), (3, .int p3)]) hx hb dX11_mean_79 hl (k := 5) rfl rfl (by decide) rfl (fun ls hl => ?_)
        refine lv_goto (pc := 82) (tgt := 26) hx hb dX11_mean_82 (by decide) ?_
        exact irec12 _ _ _ hf _ _ _ h (lv_sub hl [2, 3, 4, 5, 1, 0] rfl)
  · have hf := if_t hf c2
    refine lv_ldc2 (pc := 9) hx hb hown (hts _ ctl_X11_271) dX11_mean_9 ?_
    exact hret (so1 hf) (so2 hf) dX11_mean_12 h
theorem k_X11_mean {p : Program} {l : Launch} {e : Env} {R : Room} {s : State} {m : MethodId} {args : Array Value} {below : List Frame} {meth : Method} {c : Code} {H : Heap} {locs : List Loc} {cells slots : Nat} {Q : State → Prop} {pc : Nat} {ls : Array Slot} {rest : List Value} {cc : ByteArray} {D : va_G} {cI cJ cR : ClassId} {a : Nat → Nat} {u : St} {own : String} {index nL : Nat} {N : Nat} (hNN : 38 ≤ N) {p1 : Int32} {p2 : Int32} {p3 : Int32} {rr : Int64} {uu : St} (hx : p.tables.exec = Jvm.exec) (hb : c.code = cc) (hml : c.maxLocals = nL) (hown : s.vm.findClass own = some m.cls) (hts : ∀ w ∈ Gd, w.before args s = true) (hK : va_K D vwCl (tyB cI cJ cR) s) (hN : NB s) (hc : f_X11_mean u p1 p2 p3 = some (rr, uu)) (hlk : Cond.methodLink own index yX11_mean ∈ Gd) (hF : 5 ≤ R.frames) (hLo : 120 ≤ R.locals) (h : Hh D (AB N a s.heap.size) (wX N a (EB a cI cJ cR) u) s.heap H locs) (hsize : ls.size = nL) (hcs : cells ≤ R.cells ∧ slots ≤ R.slots) (hr : (rest.map fun v => v.category).sum ≤ 8) (hdg : decode cc pc = .ok (.invokevirtual index, 3)) (kk : ∀ (H1 : Heap) (locs1 : List Loc), Hh D (AB N a s.heap.size) (wX N a (EB a cI cJ cR) uu) s.heap H1 locs1 → W p l e R s m args below meth c H1 locs1 cells slots Q (F0 m (pc + 3) ls (.long rr :: rest))) : W p l e R s m args below meth c H locs cells slots Q (F0 m pc ls (.int p3 :: .int p2 :: .int p1 :: .ref (a 0) :: rest)) :=
  cVl (n := 3) hx hb hml hown hts hK hN (c_X11_mean hNN hc) (gdV hlk im_X11_mean se_X11_mean in_X11 co_X11_mean) rfl (by decide +kernel) rfl hF hLo h hsize hcs (Nat.lt_of_lt_of_le (by decide) hNN) rfl rfl rfl hr hdg kk
def f_X11_seen (u : St) (p1 : Int32) (p2 : Int32) (p3 : Int32) : Option (Int32 × St) := b1 (f_X7_has u p1) (fun (x1 : Int32) => if x1 = 0 then some ((-1), u) else b1 (f_X11_within u p2 0 30) (fun (x3 : Int32) => if x3 = 0 then some ((-2), u) else b1 (f_X11_within u p3 0 99) (fun (x5 : Int32) => if x5 = 0 then some ((-2), u) else if (u.1 12 3) < 6 then b1 (f_X6_note u p1 p2 p3) (fun (u8 : St) => some (u8.1 12 3, u8)) else some ((-4), u))))
set_option maxRecDepth 100000 in
set_option maxHeartbeats 4000000 in
theorem c_X11_seen {l : Launch} {D : va_G} {cI cJ cR : ClassId} {a : Nat → Nat} {u : St} {N : Nat} (hNN : 38 ≤ N) {p1 : Int32} {p2 : Int32} {p3 : Int32} {rr : Int32} {uu : St} (hf : f_X11_seen u p1 p2 p3 = some (rr, uu)) : Ci l yX11_seen cX11_seen 4 (some .int) 2 45 D (tyB cI cJ cR) N a (EB a cI cJ cR) [.ref (a 0), .int p1, .int p2, .int p3] u rr uu := by
  refine metI (by decide +kernel) (Nat.le_of_ble_eq_true rfl) ?_
  intro p e s m args below meth c R Q hx hb hml hown hts hF hLo hret hK hN h ls hl
  have hown : s.vm.findClass RX11 = some m.cls := hown
  have hl : lv_has ls 4 [(0, .ref (a 0)), (1, .int p1), (2, .int p2), (3, .int p3)] := hl
  unfold f_X11_seen at hf
  refine lv_aload_n (pc := 0) hx hb dX11_seen_0 rfl (lv_at hl 0 rfl) ?_
  refine gB_0_0 (pc := 1) hNN hx hb hts hown hK h fl_X11_12 dX11_seen_1 ?_
  refine gB_1_1 (pc := 4) hNN hx hb hts hown hK h fl_X11_88 dX11_seen_4 ?_
  refine lv_iload_n (pc := 7) hx hb dX11_seen_7 rfl (lv_at hl 1 rfl) ?_
  obtain ⟨x1, hc, hf⟩ := b1_e hf
  refine k_X7_has (pc := 8) hNN hx hb hml hown hts hK hN hc ml_X11_137 (Nat.le_trans (by decide) hF) (Nat.le_trans (by decide) hLo) h hl.1 ⟨Nat.zero_le _, Nat.zero_le _⟩ (Nat.le_of_ble_eq_true rfl) dX11_seen_8 (fun H locs h => ?_)
  refine lv_if_ne (pc := 11) (tgt := 16) hx hb dX11_seen_11 (by decide) (fun c2 => ?_) (fun c2 => ?_)
  · have hf := if_f hf c2
    refine lv_iload_n (pc := 16) hx hb dX11_seen_16 rfl (lv_at hl 2 rfl) ?_
    refine lv_iconst (pc := 17) (v := 0) hx hb dX11_seen_17 (by decide) ?_
    refine lv_bipush (pc := 18) (v := 30) hx hb dX11_seen_18 (by decide) ?_
    obtain ⟨x3, hc, hf⟩ := b1_e hf
    refine kS_X11_within (pc := 20) hNN hx hb hml hown hts hK hN hc ml_X11_70 (Nat.le_trans (by decide) hF) (Nat.le_trans (by decide) hLo) h hl.1 ⟨Nat.zero_le _, Nat.zero_le _⟩ (Nat.le_of_ble_eq_true rfl) dX11_seen_20 (fun H locs h => ?_)
    refine lv_if_eq (pc := 23) (tgt := 36) hx hb dX11_seen_23 (by decide) (fun c4 => ?_) (fun c4 => ?_)
    · have hf := if_t hf c4
      refine lv_bipush (pc := 36) (v := (-2)) hx hb dX11_seen_36 (by decide) ?_
      exact hret (so1 hf) rfl (so2 hf) dX11_seen_38 h
    · have hf := if_f hf c4
      refine lv_iload_n (pc := 26) hx hb dX11_seen_26 rfl (lv_at hl 3 rfl) ?_
      refine lv_iconst (pc := 27) (v := 0) hx hb dX11_seen_27 (by decide) ?_
      refine lv_bipush (pc := 28) (v := 99) hx hb dX11_seen_28 (by decide) ?_
      obtain ⟨x5, hc, hf⟩ := b1_e hf
      refine kS_X11_within (pc := 30) hNN hx hb hml hown hts hK hN hc ml_X11_70 (Nat.le_trans (by decide) hF) (Nat.le_trans (by decide) hLo) h hl.1 ⟨Nat.zero_le _, Nat.zero_le _⟩ (Nat.le_of_ble_eq_true rfl) dX11_seen_30 (fun H locs h => ?_)
      refine lv_if_ne (pc := 33) (tgt := 39) hx hb dX11_seen_33 (by decide) (fun c6 => ?_) (fun c6 => ?_)
      · have hf := if_f hf c6
        refine lv_aload_n (pc := 39) hx hb dX11_seen_39 rfl (lv_at hl 0 rfl) ?_
        refine gB_0_0 (pc := 40) hNN hx hb hts hown hK h fl_X11_12 dX11_seen_40 ?_
        refine gB_1_3 (pc := 43) hNN hx hb hts hown hK h fl_X11_97 dX11_seen_43 ?_
        refine gB_12_3 (pc := 46) hNN hx hb hts hown hK h fl_X11_101 dX11_seen_46 ?_
        refine lv_bipush (pc := 49) (v := 6) hx hb dX11_seen_49 (by decide) ?_
        refine lv_icmp_lt (pc := 51) (tgt := 57) hx hb dX11_seen_51 (by decide) (fun c7 => ?_) (fun c7 => ?_)
        · have hf := if_t hf c7
          refine lv_aload_n (pc := 57) hx hb dX11_seen_57 rfl (lv_at hl 0 rfl) ?_
          refine gB_0_0 (pc := 58) hNN hx hb hts hown hK h fl_X11_12 dX11_seen_58 ?_
          refine gB_1_3 (pc := 61) hNN hx hb hts hown hK h fl_X11_97 dX11_seen_61 ?_
          refine lv_iload_n (pc := 64) hx hb dX11_seen_64 rfl (lv_at hl 1 rfl) ?_
          refine lv_iload_n (pc := 65) hx hb dX11_seen_65 rfl (lv_at hl 2 rfl) ?_
          refine lv_iload_n (pc := 66) hx hb dX11_seen_66 rfl (lv_at hl 3 rfl) ?_
          obtain ⟨u8, hc, hf⟩ := b1_e hf
          refine k_X6_note (pc := 67) hNN hx hb hml hown hts hK hN hc ml_X11_285 (Nat.le_trans (by decide) hF) (Nat.le_trans (by decide) hLo) h hl.1 ⟨Nat.zero_le _, Nat.zero_le _⟩ (Nat.le_of_ble_eq_true rfl) dX11_seen_67 (fun H locs h => ?_)
          refine lv_aload_n (pc := 70) hx hb dX11_seen_70 rfl (lv_at hl 0 rfl) ?_
          refine gB_0_0 (pc := 71) hNN hx hb hts hown hK h fl_X11_12 dX11_seen_71 ?_
          refine gB_1_3 (pc := 74) hNN hx hb hts hown hK h fl_X11_97 dX11_seen_74 ?_
          refine gB_12_3 (pc := 77) hNN hx hb hts hown hK h fl_X11_101 dX11_seen_77 ?_
          exact hret (so1 hf) rfl (so2 hf) dX11_seen_80 h
        · have hf := if_f hf c7
          refine lv_bipush (pc := 54) (v := (-4)) hx hb dX11_seen_54 (by decide) ?_
          exact hret (so1 hf) rfl (so2 hf) dX11_seen_56 h
      · have hf := if_t hf c6
        refine lv_bipush (pc := 36) (v := (-2)) hx hb dX11_seen_36 (by decide) ?_
        exact hret (so1 hf) rfl (so2 hf) dX11_seen_38 h
  · have hf := if_t hf c2
    refine lv_iconst (pc := 14) (v := (-1)) hx hb dX11_seen_14 (by decide) ?_
    exact hret (so1 hf) rfl (so2 hf) dX11_seen_15 h
theorem k_X11_seen {p : Program} {l : Launch} {e : Env} {R : Room} {s : State} {m : MethodId} {args : Array Value} {below : List Frame} {meth : Method} {c : Code} {H : Heap} {locs : List Loc} {cells slots : Nat} {Q : State → Prop} {pc : Nat} {ls : Array Slot} {rest : List Value} {cc : ByteArray} {D : va_G} {cI cJ cR : ClassId} {a : Nat → Nat} {u : St} {own : String} {index nL : Nat} {N : Nat} (hNN : 38 ≤ N) {p1 : Int32} {p2 : Int32} {p3 : Int32} {rr : Int32} {uu : St} (hx : p.tables.exec = Jvm.exec) (hb : c.code = cc) (hml : c.maxLocals = nL) (hown : s.vm.findClass own = some m.cls) (hts : ∀ w ∈ Gd, w.before args s = true) (hK : va_K D vwCl (tyB cI cJ cR) s) (hN : NB s) (hc : f_X11_seen u p1 p2 p3 = some (rr, uu)) (hlk : Cond.methodLink own index yX11_seen ∈ Gd) (hF : 3 ≤ R.frames) (hLo : 68 ≤ R.locals) (h : Hh D (AB N a s.heap.size) (wX N a (EB a cI cJ cR) u) s.heap H locs) (hsize : ls.size = nL) (hcs : cells ≤ R.cells ∧ slots ≤ R.slots) (hr : (rest.map fun v => v.category).sum ≤ 8) (hdg : decode cc pc = .ok (.invokevirtual index, 3)) (kk : ∀ (H1 : Heap) (locs1 : List Loc), Hh D (AB N a s.heap.size) (wX N a (EB a cI cJ cR) uu) s.heap H1 locs1 → W p l e R s m args below meth c H1 locs1 cells slots Q (F0 m (pc + 3) ls (.int rr :: rest))) : W p l e R s m args below meth c H locs cells slots Q (F0 m pc ls (.int p3 :: .int p2 :: .int p1 :: .ref (a 0) :: rest)) :=
  cVi (n := 3) hx hb hml hown hts hK hN (c_X11_seen hNN hc) (gdV hlk im_X11_seen se_X11_seen in_X11 co_X11_seen) rfl (by decide +kernel) rfl hF hLo h hsize hcs (Nat.lt_of_lt_of_le (by decide) hNN) rfl rfl rfl hr hdg kk
def f_X11_forget (u : St) : Option (Int32 × St) := bs (sI u 12 3 0) (fun u1 : St => some (u.1 12 3, u1))
set_option maxRecDepth 100000 in
set_option maxHeartbeats 4000000 in
theorem c_X11_forget {l : Launch} {D : va_G} {cI cJ cR : ClassId} {a : Nat → Nat} {u : St} {N : Nat} (hNN : 38 ≤ N) {rr : Int32} {uu : St} (hf : f_X11_forget u = some (rr, uu)) : Ci l yX11_forget cX11_forget 2 (some .int) 0 0 D (tyB cI cJ cR) N a (EB a cI cJ cR) [.ref (a 0)] u rr uu := by
  refine metI (by decide +kernel) (Nat.le_of_ble_eq_true rfl) ?_
  intro p e s m args below meth c R Q hx hb hml hown hts hF hLo hret hK hN h ls hl
  have hown : s.vm.findClass RX11 = some m.cls := hown
  have hl : lv_has ls 2 [(0, .ref (a 0))] := hl
  unfold f_X11_forget at hf
  refine lv_aload_n (pc := 0) hx hb dX11_forget_0 rfl (lv_at hl 0 rfl) ?_
  refine gB_0_0 (pc := 1) hNN hx hb hts hown hK h fl_X11_12 dX11_forget_1 ?_
  refine gB_1_3 (pc := 4) hNN hx hb hts hown hK h fl_X11_97 dX11_forget_4 ?_
  refine gB_12_3 (pc := 7) hNN hx hb hts hown hK h fl_X11_101 dX11_forget_7 ?_
  refine lv_istore_n (pc := 10) (lv' := [(1, .int (u.1 12 3)), (0, .ref (a 0))]) hx hb dX11_forget_10 rfl hl (by decide) rfl (fun ls hl => ?_)
  refine lv_aload_n (pc := 11) hx hb dX11_forget_11 rfl (lv_at hl 1 rfl) ?_
  refine gB_0_0 (pc := 12) hNN hx hb hts hown hK h fl_X11_12 dX11_forget_12 ?_
  refine gB_1_3 (pc := 15) hNN hx hb hts hown hK h fl_X11_97 dX11_forget_15 ?_
  refine lv_iconst (pc := 18) (v := 0) hx hb dX11_forget_18 (by decide) ?_
  refine pB_12_3 (pc := 19) hNN hx hb hts hown hK h fl_X11_101 dX11_forget_19 (fun H locs h => ?_)
  obtain ⟨u1, eu1, hf⟩ := bs_e hf
  rw [← eu1] at h
  refine lv_iload_n (pc := 22) hx hb dX11_forget_22 rfl (lv_at hl 0 rfl) ?_
  exact hret (so1 hf) rfl (so2 hf) dX11_forget_23 h
theorem k_X11_forget {p : Program} {l : Launch} {e : Env} {R : Room} {s : State} {m : MethodId} {args : Array Value} {below : List Frame} {meth : Method} {c : Code} {H : Heap} {locs : List Loc} {cells slots : Nat} {Q : State → Prop} {pc : Nat} {ls : Array Slot} {rest : List Value} {cc : ByteArray} {D : va_G} {cI cJ cR : ClassId} {a : Nat → Nat} {u : St} {own : String} {index nL : Nat} {N : Nat} (hNN : 38 ≤ N) {rr : Int32} {uu : St} (hx : p.tables.exec = Jvm.exec) (hb : c.code = cc) (hml : c.maxLocals = nL) (hown : s.vm.findClass own = some m.cls) (hts : ∀ w ∈ Gd, w.before args s = true) (hK : va_K D vwCl (tyB cI cJ cR) s) (hN : NB s) (hc : f_X11_forget u = some (rr, uu)) (hlk : Cond.methodLink own index yX11_forget ∈ Gd) (hF : 1 ≤ R.frames) (hLo : 21 ≤ R.locals) (h : Hh D (AB N a s.heap.size) (wX N a (EB a cI cJ cR) u) s.heap H locs) (hsize : ls.size = nL) (hcs : cells ≤ R.cells ∧ slots ≤ R.slots) (hr : (rest.map fun v => v.category).sum ≤ 8) (hdg : decode cc pc = .ok (.invokevirtual index, 3)) (kk : ∀ (H1 : Heap) (locs1 : List Loc), Hh D (AB N a s.heap.size) (wX N a (EB a cI cJ cR) uu) s.heap H1 locs1 → W p l e R s m args below meth c H1 locs1 cells slots Q (F0 m (pc + 3) ls (.int rr :: rest))) : W p l e R s m args below meth c H locs cells slots Q (F0 m pc ls (.ref (a 0) :: rest)) :=
  cVi (n := 0) hx hb hml hown hts hK hN (c_X11_forget hNN hc) (gdV hlk im_X11_forget se_X11_forget in_X11 co_X11_forget) rfl (by decide +kernel) rfl hF hLo h hsize hcs (Nat.lt_of_lt_of_le (by decide) hNN) rfl rfl rfl hr hdg kk
def B_X11_sightsHold_10 (u : St) (k2 : Option (Int32)) (rec3 : Int32 → Option (Int32)) (x1 : Int32) : Option (Int32) := if (u.1 12 3) ≤ x1 then k2 else if 6 ≤ x1 then k2 else cki x1 6 (b1 (f_X7_has u (u.1 13 (ix x1))) (fun (x6 : Int32) => if x6 = 0 then some 0 else cki x1 6 (b1 (f_X0_acidOf u (u.1 13 (ix x1)) (u.1 14 (ix x1))) (fun (x8 : Int32) => cki x1 6 (if x8 = (u.1 15 (ix x1)) then rec3 (x1 + 1) else some 0)))))
def f_X11_sightsHold (u : St) : Option (Int32) := jq_0 (some 1) (fun (k2 : Option (Int32)) => lq_1 (B_X11_sightsHold_10 u k2) FU 0)
set_option maxRecDepth 100000 in
set_option maxHeartbeats 4000000 in
theorem c_X11_sightsHold {l : Launch} {D : va_G} {cI cJ cR : ClassId} {a : Nat → Nat} {u : St} {N : Nat} (hNN : 38 ≤ N) {rr : Int32} (hf : f_X11_sightsHold u = some rr) : Ci l yX11_sightsHold cX11_sightsHold 4 (some .boolean) 5 115 D (tyB cI cJ cR) N a (EB a cI cJ cR) [.ref (a 0)] u rr u := by
  refine metI (by decide +kernel) (Nat.le_of_ble_eq_true rfl) ?_
  intro p e s m args below meth c R Q hx hb hml hown hts hF hLo hret hK hN h ls hl
  have hown : s.vm.findClass RX11 = some m.cls := hown
  have hl : lv_has ls 4 [(0, .ref (a 0))] := hl
  unfold f_X11_sightsHold at hf
  refine lv_aload_n (pc := 0) hx hb dX11_sightsHold_0 rfl (lv_at hl 0 rfl) ?_
  refine gB_0_0 (pc := 1) hNN hx hb hts hown hK h fl_X11_12 dX11_sightsHold_1 ?_
  refine gB_1_3 (pc := 4) hNN hx hb hts hown hK h fl_X11_97 dX11_sightsHold_4 ?_
  refine lv_astore_n (pc := 7) (lv' := [(1, .ref (a 12)), (0, .ref (a 0))]) hx hb dX11_sightsHold_7 rfl hl (by decide) rfl (fun ls hl => ?_)
  refine lv_iconst (pc := 8) (v := 0) hx hb dX11_sightsHold_8 (by decide) ?_
  refine lv_istore_n (pc := 9) (lv' := [(2, .int 0), (1, .ref (a 12)), (0, .ref (a 0))]) hx hb dX11_sightsHold_9 rfl hl (by decide) rfl (fun ls hl => ?_)
  obtain ⟨k2, hk2, hf⟩ := jq_0_e hf
  have jk2 : k2 = some rr → ∀ (H : Heap) (locs : List Loc) (ls : Array Slot), Hh D (AB N a s.heap.size) (wX N a (EB a cI cJ cR) u) s.heap H locs → lv_has ls 4 [] → W p l e R s m args below meth c H locs 0 0 Q (F0 m 76 ls []) := by
    intro hf H locs ls h hl
    rw [hk2] at hf
    refine lv_iconst (pc := 76) (v := 1) hx hb dX11_sightsHold_76 (by decide) ?_
    exact hret (so hf) rfl rfl dX11_sightsHold_77 h
  refine lq_1_e (P := fun (x1 : Int32) => ∀ (H : Heap) (locs : List Loc) (ls : Array Slot), Hh D (AB N a s.heap.size) (wX N a (EB a cI cJ cR) u) s.heap H locs → lv_has ls 4 [(0, .ref (a 0)), (1, .ref (a 12)), (2, .int x1)] → W p l e R s m args below meth c H locs 0 0 Q (F0 m 10 ls [])) ?_ FU _ hf _ _ _ h (lv_sub hl [2, 1, 0] rfl)
  intro rec3 irec3 x1 hf H locs ls h hl
  unfold B_X11_sightsHold_10 at hf
  refine lv_iload_n (pc := 10) hx hb dX11_sightsHold_10 rfl (lv_at hl 2 rfl) ?_
  refine lv_aload_n (pc := 11) hx hb dX11_sightsHold_11 rfl (lv_at hl 1 rfl) ?_
  refine gB_12_3 (pc := 12) hNN hx hb hts hown hK h fl_X11_101 dX11_sightsHold_12 ?_
  refine lv_icmp_ge (pc := 15) (tgt := 76) hx hb dX11_sightsHold_15 (by decide) (fun c4 => ?_) (fun c4 => ?_)
  · have hf := if_t hf c4
    exact jk2 hf _ _ _ h (lv_sub hl [] rfl)
  · have hf := if_f hf c4
    refine lv_iload_n (pc := 18) hx hb dX11_sightsHold_18 rfl (lv_at hl 2 rfl) ?_
    refine lv_bipush (pc := 19) (v := 6) hx hb dX11_sightsHold_19 (by decide) ?_
    refine lv_icmp_ge (pc := 21) (tgt := 76) hx hb dX11_sightsHold_21 (by decide) (fun c5 => ?_) (fun c5 => ?_)
    · have hf := if_t hf c5
      exact jk2 hf _ _ _ h (lv_sub hl [] rfl)
    · have hf := if_f hf c5
      refine lv_aload_n (pc := 24) hx hb dX11_sightsHold_24 rfl (lv_at hl 1 rfl) ?_
      refine gB_12_0 (pc := 25) hNN hx hb hts hown hK h fl_X11_303 dX11_sightsHold_25 ?_
      refine lv_iload_n (pc := 28) hx hb dX11_sightsHold_28 rfl (lv_at hl 2 rfl) ?_
      obtain ⟨hin, hf⟩ := cki_e hf
      refine gB_13 (pc := 29) hNN hx hb hK h hin dX11_sightsHold_29 ?_
      refine lv_istore_n (pc := 30) (lv' := [(3, .int (u.1 13 (ix x1))), (0, .ref (a 0)), (1, .ref (a 12)), (2, .int x1)]) hx hb dX11_sightsHold_30 rfl hl (by decide) rfl (fun ls hl => ?_)
      refine lv_aload_n (pc := 31) hx hb dX11_sightsHold_31 rfl (lv_at hl 1 rfl) ?_
      refine gB_0_0 (pc := 32) hNN hx hb hts hown hK h fl_X11_12 dX11_sightsHold_32 ?_
      refine gB_1_1 (pc := 35) hNN hx hb hts hown hK h fl_X11_88 dX11_sightsHold_35 ?_
      refine lv_iload_n (pc := 38) hx hb dX11_sightsHold_38 rfl (lv_at hl 0 rfl) ?_
      obtain ⟨x6, hc, hf⟩ := b1_e hf
      refine k_X7_has (pc := 39) hNN hx hb hml hown hts hK hN hc ml_X11_137 (Nat.le_trans (by decide) hF) (Nat.le_trans (by decide) hLo) h hl.1 ⟨Nat.zero_le _, Nat.zero_le _⟩ (Nat.le_of_ble_eq_true rfl) dX11_sightsHold_39 (fun H locs h => ?_)
      refine lv_if_eq (pc := 42) (tgt := 68) hx hb dX11_sightsHold_42 (by decide) (fun c7 => ?_) (fun c7 => ?_)
      · have hf := if_t hf c7
        refine lv_iconst (pc := 68) (v := 0) hx hb dX11_sightsHold_68 (by decide) ?_
        exact hret (so hf) rfl rfl dX11_sightsHold_69 h
      · have hf := if_f hf c7
        refine lv_aload_n (pc := 45) hx hb dX11_sightsHold_45 rfl (lv_at hl 1 rfl) ?_
        refine gB_0_3 (pc := 46) hNN hx hb hts hown hK h fl_X11_32 dX11_sightsHold_46 ?_
        refine lv_iload_n (pc := 49) hx hb dX11_sightsHold_49 rfl (lv_at hl 0 rfl) ?_
        refine lv_aload_n (pc := 50) hx hb dX11_sightsHold_50 rfl (lv_at hl 2 rfl) ?_
        refine gB_12_1 (pc := 51) hNN hx hb hts hown hK h fl_X11_306 dX11_sightsHold_51 ?_
        refine lv_iload_n (pc := 54) hx hb dX11_sightsHold_54 rfl (lv_at hl 3 rfl) ?_
        obtain ⟨hin, hf⟩ := cki_e hf
        refine gB_14 (pc := 55) hNN hx hb hK h hin dX11_sightsHold_55 ?_
        obtain ⟨x8, hc, hf⟩ := b1_e hf
        refine k_X0_acidOf (pc := 56) hNN hx hb hml hown hts hK hN hc ml_X11_209 (Nat.le_trans (by decide) hF) (Nat.le_trans (by decide) hLo) h hl.1 ⟨Nat.zero_le _, Nat.zero_le _⟩ (Nat.le_of_ble_eq_true rfl) dX11_sightsHold_56 (fun H locs h => ?_)
        refine lv_aload_n (pc := 59) hx hb dX11_sightsHold_59 rfl (lv_at hl 2 rfl) ?_
        refine gB_12_2 (pc := 60) hNN hx hb hts hown hK h fl_X11_309 dX11_sightsHold_60 ?_
        refine lv_iload_n (pc := 63) hx hb dX11_sightsHold_63 rfl (lv_at hl 3 rfl) ?_
        obtain ⟨hin, hf⟩ := cki_e hf
        refine gB_15 (pc := 64) hNN hx hb hK h hin dX11_sightsHold_64 ?_
        refine lv_icmp_eq (pc := 65) (tgt := 70) hx hb dX11_sightsHold_65 (by decide) (fun c9 => ?_) (fun c9 => ?_)
        · have hf := if_t hf c9
          refine lv_iinc (pc := 70) (v := x1 + 1) (lv' := [(2, .int (x1 + 1)), (3, .int (u.1 13 (ix x1))), (0, .ref (a 0)), (1, .ref (a 12))]) hx hb dX11_sightsHold_70 hl (k := 3) rfl rfl (by decide) rfl (fun ls hl => ?_)
          refine lv_goto (pc := 73) (tgt := 10) hx hb dX11_sightsHold_73 (by decide) ?_
          exact irec3 _ hf _ _ _ h (lv_sub hl [2, 3, 0] rfl)
        · have hf := if_f hf c9
          refine lv_iconst (pc := 68) (v := 0) hx hb dX11_sightsHold_68 (by decide) ?_
          exact hret (so hf) rfl rfl dX11_sightsHold_69 h
theorem k_X11_sightsHold {p : Program} {l : Launch} {e : Env} {R : Room} {s : State} {m : MethodId} {args : Array Value} {below : List Frame} {meth : Method} {c : Code} {H : Heap} {locs : List Loc} {cells slots : Nat} {Q : State → Prop} {pc : Nat} {ls : Array Slot} {rest : List Value} {cc : ByteArray} {D : va_G} {cI cJ cR : ClassId} {a : Nat → Nat} {u : St} {own : String} {index nL : Nat} {N : Nat} (hNN : 38 ≤ N) {rr : Int32} (hx : p.tables.exec = Jvm.exec) (hb : c.code = cc) (hml : c.maxLocals = nL) (hown : s.vm.findClass own = some m.cls) (hts : ∀ w ∈ Gd, w.before args s = true) (hK : va_K D vwCl (tyB cI cJ cR) s) (hN : NB s) (hc : f_X11_sightsHold u = some rr) (hlk : Cond.methodLink own index yX11_sightsHold ∈ Gd) (hF : 6 ≤ R.frames) (hLo : 138 ≤ R.locals) (h : Hh D (AB N a s.heap.size) (wX N a (EB a cI cJ cR) u) s.heap H locs) (hsize : ls.size = nL) (hcs : cells ≤ R.cells ∧ slots ≤ R.slots) (hr : (rest.map fun v => v.category).sum ≤ 8) (hdg : decode cc pc = .ok (.invokevirtual index, 3)) (kk : ∀ (H1 : Heap) (locs1 : List Loc), Hh D (AB N a s.heap.size) (wX N a (EB a cI cJ cR) u) s.heap H1 locs1 → W p l e R s m args below meth c H1 locs1 cells slots Q (F0 m (pc + 3) ls (.int rr :: rest))) : W p l e R s m args below meth c H locs cells slots Q (F0 m pc ls (.ref (a 0) :: rest)) :=
  cVi (n := 0) hx hb hml hown hts hK hN (c_X11_sightsHold hNN hc) (gdV hlk im_X11_sightsHold se_X11_sightsHold in_X11 co_X11_sightsHold) rfl (by decide +kernel) rfl hF hLo h hsize hcs (Nat.lt_of_lt_of_le (by decide) hNN) rfl rfl rfl hr hdg kk
def B_X11_walls_31 (k9 : St → Int32 → Option (Int32 × St)) (rec12 : St → Int32 → Int32 → Option (Int32 × St)) (u6 : St) (x7 : Int32) (x8 : Int32) : Option (Int32 × St) := if (u6.1 2 2) ≤ x8 then k9 u6 x7 else bs (sI u6 20 2 ((1 : Int32) <<< (x8 &&& 31))) (fun u14 : St => b1 (f_X11_sightsHold u14) (fun (x15 : Int32) => if x15 = 0 then rec12 u14 (x7 ||| (0 : Int32)) (x8 + 1) else rec12 u14 (x7 ||| ((1 : Int32) <<< (x8 &&& 31))) (x8 + 1)))
def f_X11_walls (u : St) : Option (Int32 × St) := b1 (f_X0_asItIs u) (fun (u1 : St) => bs (sI u1 20 2 0) (fun u2 : St => b1 (f_X11_sightsHold u2) (fun (x3 : Int32) => jq_1 (fun (x5 : Int32) => jq_2 (fun (u10 : St) (x11 : Int32) => some (x11, u10)) (fun (k9 : St → Int32 → Option (Int32 × St)) => lq_3 (B_X11_walls_31 k9) FU u2 x5 0)) (fun (k4 : Int32 → Option (Int32 × St)) => if x3 = 0 then k4 0 else k4 64))))
set_option maxRecDepth 100000 in
set_option maxHeartbeats 4000000 in
theorem c_X11_walls {l : Launch} {D : va_G} {cI cJ cR : ClassId} {a : Nat → Nat} {u : St} {N : Nat} (hNN : 38 ≤ N) {rr : Int32} {uu : St} (hf : f_X11_walls u = some (rr, uu)) : Ci l yX11_walls cX11_walls 3 (some .int) 6 138 D (tyB cI cJ cR) N a (EB a cI cJ cR) [.ref (a 0)] u rr uu := by
  refine metI (by decide +kernel) (Nat.le_of_ble_eq_true rfl) ?_
  intro p e s m args below meth c R Q hx hb hml hown hts hF hLo hret hK hN h ls hl
  have hown : s.vm.findClass RX11 = some m.cls := hown
  have hl : lv_has ls 3 [(0, .ref (a 0))] := hl
  unfold f_X11_walls at hf
  refine lv_aload_n (pc := 0) hx hb dX11_walls_0 rfl (lv_at hl 0 rfl) ?_
  refine gB_0_3 (pc := 1) hNN hx hb hts hown hK h fl_X11_32 dX11_walls_1 ?_
  obtain ⟨u1, hc, hf⟩ := b1_e hf
  refine k_X0_asItIs (pc := 4) hNN hx hb hml hown hts hK hN hc ml_X11_171 (Nat.le_trans (by decide) hF) (Nat.le_trans (by decide) hLo) h hl.1 ⟨Nat.zero_le _, Nat.zero_le _⟩ (Nat.le_of_ble_eq_true rfl) dX11_walls_4 (fun H locs h => ?_)
  refine lv_aload_n (pc := 7) hx hb dX11_walls_7 rfl (lv_at hl 0 rfl) ?_
  refine gB_0_3 (pc := 8) hNN hx hb hts hown hK h fl_X11_32 dX11_walls_8 ?_
  refine lv_iconst (pc := 11) (v := 0) hx hb dX11_walls_11 (by decide) ?_
  refine pB_20_2 (pc := 12) hNN hx hb hts hown hK h fl_X11_289 dX11_walls_12 (fun H locs h => ?_)
  obtain ⟨u2, eu2, hf⟩ := bs_e hf
  rw [← eu2] at h
  refine lv_aload_n (pc := 15) hx hb dX11_walls_15 rfl (lv_at hl 0 rfl) ?_
  obtain ⟨x3, hc, hf⟩ := b1_e hf
  refine k_X11_sightsHold (pc := 16) hNN hx hb hml hown hts hK hN hc ml_X11_290 (Nat.le_trans (by decide) hF) (Nat.le_trans (by decide) hLo) h hl.1 ⟨Nat.zero_le _, Nat.zero_le _⟩ (Nat.le_of_ble_eq_true rfl) dX11_walls_16 (fun H locs h => ?_)
  obtain ⟨k4, hk4, hf⟩ := jq_1_e hf
  have jk4 : ∀ (x5 : Int32), k4 x5 = some (rr, uu) → ∀ (H : Heap) (locs : List Loc) (ls : Array Slot), Hh D (AB N a s.heap.size) (wX N a (EB a cI cJ cR) u2) s.heap H locs → lv_has ls 3 [(0, .ref (a 0))] → W p l e R s m args below meth c H locs 0 0 Q (F0 m 28 ls [.int x5]) := by
    intro x5 hf H locs ls h hl
    rw [hk4] at hf
    refine lv_istore_n (pc := 28) (lv' := [(1, .int x5), (0, .ref (a 0))]) hx hb dX11_walls_28 rfl hl (by decide) rfl (fun ls hl => ?_)
    refine lv_iconst (pc := 29) (v := 0) hx hb dX11_walls_29 (by decide) ?_
    refine lv_istore_n (pc := 30) (lv' := [(2, .int 0), (1, .int x5), (0, .ref (a 0))]) hx hb dX11_walls_30 rfl hl (by decide) rfl (fun ls hl => ?_)
    obtain ⟨k9, hk9, hf⟩ := jq_2_e hf
    have jk9 : ∀ (u10 : St) (x11 : Int32), k9 u10 x11 = some (rr, uu) → ∀ (H : Heap) (locs : List Loc) (ls : Array Slot), Hh D (AB N a s.heap.size) (wX N a (EB a cI cJ cR) u10) s.heap H locs → lv_has ls 3 [(1, .int x11)] → W p l e R s m args below meth c H locs 0 0 Q (F0 m 78 ls []) := by
      intro u10 x11 hf H locs ls h hl
      rw [hk9] at hf
      refine lv_iload_n (pc := 78) hx hb dX11_walls_78 rfl (lv_at hl 0 rfl) ?_
      exact hret (so1 hf) rfl (so2 hf) dX11_walls_79 h
    refine lq_3_e (P := fun (u6 : St) (x7 : Int32) (x8 : Int32) => ∀ (H : Heap) (locs : List Loc) (ls : Array Slot), Hh D (AB N a s.heap.size) (wX N a (EB a cI cJ cR) u6) s.heap H locs → lv_has ls 3 [(0, .ref (a 0)), (1, .int x7), (2, .int x8)] → W p l e R s m args below meth c H locs 0 0 Q (F0 m 31 ls [])) ?_ FU _ _ _ hf _ _ _ h (lv_sub hl [2, 1, 0] rfl)
    intro rec12 irec12 u6 x7 x8 hf H locs ls h hl
    unfold B_X11_walls_31 at hf
    refine lv_iload_n (pc := 31) hx hb dX11_walls_31 rfl (lv_at hl 2 rfl) ?_
    refine lv_aload_n (pc := 32) hx hb dX11_walls_32 rfl (lv_at hl 0 rfl) ?_
    refine gB_0_0 (pc := 33) hNN hx hb hts hown hK h fl_X11_12 dX11_walls_33 ?_
    refine gB_1_0 (pc := 36) hNN hx hb hts hown hK h fl_X11_74 dX11_walls_36 ?_
    refine gB_2_2 (pc := 39) hNN hx hb hts hown hK h fl_X11_78 dX11_walls_39 ?_
    refine lv_icmp_ge (pc := 42) (tgt := 78) hx hb dX11_walls_42 (by decide) (fun c13 => ?_) (fun c13 => ?_)
    · have hf := if_t hf c13
      exact jk9 _ _ hf _ _ _ h (lv_sub hl [1] rfl)
    · have hf := if_f hf c13
      refine lv_aload_n (pc := 45) hx hb dX11_walls_45 rfl (lv_at hl 0 rfl) ?_
      refine gB_0_3 (pc := 46) hNN hx hb hts hown hK h fl_X11_32 dX11_walls_46 ?_
      refine lv_iconst (pc := 49) (v := 1) hx hb dX11_walls_49 (by decide) ?_
      refine lv_iload_n (pc := 50) hx hb dX11_walls_50 rfl (lv_at hl 2 rfl) ?_
      refine lv_ishl (pc := 51) hx hb dX11_walls_51 ?_
      refine pB_20_2 (pc := 52) hNN hx hb hts hown hK h fl_X11_289 dX11_walls_52 (fun H locs h => ?_)
      obtain ⟨u14, eu14, hf⟩ := bs_e hf
      rw [← eu14] at h
      refine lv_iload_n (pc := 55) hx hb dX11_walls_55 rfl (lv_at hl 1 rfl) ?_
      refine lv_aload_n (pc := 56) hx hb dX11_walls_56 rfl (lv_at hl 0 rfl) ?_
      obtain ⟨x15, hc, hf⟩ := b1_e hf
      refine k_X11_sightsHold (pc := 57) hNN hx hb hml hown hts hK hN hc ml_X11_290 (Nat.le_trans (by decide) hF) (Nat.le_trans (by decide) hLo) h hl.1 ⟨Nat.zero_le _, Nat.zero_le _⟩ (Nat.le_of_ble_eq_true rfl) dX11_walls_57 (fun H locs h => ?_)
      refine lv_if_eq (pc := 60) (tgt := 69) hx hb dX11_walls_60 (by decide) (fun c16 => ?_) (fun c16 => ?_)
      · have hf := if_t hf c16
        refine lv_iconst (pc := 69) (v := 0) hx hb dX11_walls_69 (by decide) ?_
        refine lv_ior (pc := 70) hx hb dX11_walls_70 ?_
        refine lv_istore_n (pc := 71) (lv' := [(1, .int (x7 ||| (0 : Int32))), (0, .ref (a 0)), (2, .int x8)]) hx hb dX11_walls_71 rfl hl (by decide) rfl (fun ls hl => ?_)
        refine lv_iinc (pc := 72) (v := x8 + 1) (lv' := [(2, .int (x8 + 1)), (1, .int (x7 ||| (0 : Int32))), (0, .ref (a 0))]) hx hb dX11_walls_72 hl (k := 2) rfl rfl (by decide) rfl (fun ls hl => ?_)
        refine lv_goto (pc := 75) (tgt := 31) hx hb dX11_walls_75 (by decide) ?_
        exact irec12 _ _ _ hf _ _ _ h (lv_sub hl [2, 1, 0] rfl)
      · have hf := if_f hf c16
        refine lv_iconst (pc := 63) (v := 1) hx hb dX11_walls_63 (by decide) ?_
        refine lv_iload_n (pc := 64) hx hb dX11_walls_64 rfl (lv_at hl 2 rfl) ?_
        refine lv_ishl (pc := 65) hx hb dX11_walls_65 ?_
        refine lv_goto (pc := 66) (tgt := 70) hx hb dX11_walls_66 (by decide) ?_
        refine lv_ior (pc := 70) hx hb dX11_walls_70 ?_
        refine lv_istore_n (pc := 71) (lv' := [(1, .int (x7 ||| ((1 : Int32) <<< (x8 &&& 31)))), (0, .ref (a 0)), (2, .int x8)]) hx hb dX11_walls_71 rfl hl (by decide) rfl (fun ls hl => ?_)
        refine lv_iinc (pc := 72) (v := x8 + 1) (lv' := [(2, .int (x8 + 1)), (1, .int (x7 ||| ((1 : Int32) <<< (x8 &&& 31)))), (0, .ref (a 0))]) hx hb dX11_walls_72 hl (k := 2) rfl rfl (by decide) rfl (fun ls hl => ?_)
        refine lv_goto (pc := 75) (tgt := 31) hx hb dX11_walls_75 (by decide) ?_
        exact irec12 _ _ _ hf _ _ _ h (lv_sub hl [2, 1, 0] rfl)
  refine lv_if_eq (pc := 19) (tgt := 27) hx hb dX11_walls_19 (by decide) (fun c17 => ?_) (fun c17 => ?_)
  · have hf := if_t hf c17
    refine lv_iconst (pc := 27) (v := 0) hx hb dX11_walls_27 (by decide) ?_
    exact jk4 _ hf _ _ _ h (lv_sub hl [0] rfl)
  · have hf := if_f hf c17
    refine lv_bipush (pc := 22) (v := 64) hx hb dX11_walls_22 (by decide) ?_
    refine lv_goto (pc := 24) (tgt := 28) hx hb dX11_walls_24 (by decide) ?_
    exact jk4 _ hf _ _ _ h (lv_sub hl [0] rfl)
theorem k_X11_walls {p : Program} {l : Launch} {e : Env} {R : Room} {s : State} {m : MethodId} {args : Array Value} {below : List Frame} {meth : Method} {c : Code} {H : Heap} {locs : List Loc} {cells slots : Nat} {Q : State → Prop} {pc : Nat} {ls : Array Slot} {rest : List Value} {cc : ByteArray} {D : va_G} {cI cJ cR : ClassId} {a : Nat → Nat} {u : St} {own : String} {index nL : Nat} {N : Nat} (hNN : 38 ≤ N) {rr : Int32} {uu : St} (hx : p.tables.exec = Jvm.exec) (hb : c.code = cc) (hml : c.maxLocals = nL) (hown : s.vm.findClass own = some m.cls) (hts : ∀ w ∈ Gd, w.before args s = true) (hK : va_K D vwCl (tyB cI cJ cR) s) (hN : NB s) (hc : f_X11_walls u = some (rr, uu)) (hlk : Cond.methodLink own index yX11_walls ∈ Gd) (hF : 7 ≤ R.frames) (hLo : 160 ≤ R.locals) (h : Hh D (AB N a s.heap.size) (wX N a (EB a cI cJ cR) u) s.heap H locs) (hsize : ls.size = nL) (hcs : cells ≤ R.cells ∧ slots ≤ R.slots) (hr : (rest.map fun v => v.category).sum ≤ 8) (hdg : decode cc pc = .ok (.invokevirtual index, 3)) (kk : ∀ (H1 : Heap) (locs1 : List Loc), Hh D (AB N a s.heap.size) (wX N a (EB a cI cJ cR) uu) s.heap H1 locs1 → W p l e R s m args below meth c H1 locs1 cells slots Q (F0 m (pc + 3) ls (.int rr :: rest))) : W p l e R s m args below meth c H locs cells slots Q (F0 m pc ls (.ref (a 0) :: rest)) :=
  cVi (n := 0) hx hb hml hown hts hK hN (c_X11_walls hNN hc) (gdV hlk im_X11_walls se_X11_walls in_X11 co_X11_walls) rfl (by decide +kernel) rfl hF hLo h hsize hcs (Nat.lt_of_lt_of_le (by decide) hNN) rfl rfl rfl hr hdg kk
def B_X11_moons_11 (k5 : St → Int32 → Option (Int32 × St)) (rec8 : St → Int32 → Int32 → Option (Int32 × St)) (u2 : St) (x3 : Int32) (x4 : Int32) : Option (Int32 × St) := if (u2.1 10 1) ≤ x4 then k5 u2 x3 else bs (sI u2 20 1 x4) (fun u10 : St => b1 (f_X11_sightsHold u10) (fun (x11 : Int32) => if x11 = 0 then rec8 u10 (x3 ||| (0 : Int32)) (x4 + 1) else rec8 u10 (x3 ||| ((1 : Int32) <<< (x4 &&& 31))) (x4 + 1)))
def f_X11_moons (u : St) : Option (Int32 × St) := b1 (f_X0_asItIs u) (fun (u1 : St) => jq_2 (fun (u6 : St) (x7 : Int32) => some (x7, u6)) (fun (k5 : St → Int32 → Option (Int32 × St)) => lq_3 (B_X11_moons_11 k5) FU u1 0 0))
set_option maxRecDepth 100000 in
set_option maxHeartbeats 4000000 in
theorem c_X11_moons {l : Launch} {D : va_G} {cI cJ cR : ClassId} {a : Nat → Nat} {u : St} {N : Nat} (hNN : 38 ≤ N) {rr : Int32} {uu : St} (hf : f_X11_moons u = some (rr, uu)) : Ci l yX11_moons cX11_moons 3 (some .int) 6 138 D (tyB cI cJ cR) N a (EB a cI cJ cR) [.ref (a 0)] u rr uu := by
  refine metI (by decide +kernel) (Nat.le_of_ble_eq_true rfl) ?_
  intro p e s m args below meth c R Q hx hb hml hown hts hF hLo hret hK hN h ls hl
  have hown : s.vm.findClass RX11 = some m.cls := hown
  have hl : lv_has ls 3 [(0, .ref (a 0))] := hl
  unfold f_X11_moons at hf
  refine lv_aload_n (pc := 0) hx hb dX11_moons_0 rfl (lv_at hl 0 rfl) ?_
  refine gB_0_3 (pc := 1) hNN hx hb hts hown hK h fl_X11_32 dX11_moons_1 ?_
  obtain ⟨u1, hc, hf⟩ := b1_e hf
  refine k_X0_asItIs (pc := 4) hNN hx hb hml hown hts hK hN hc ml_X11_171 (Nat.le_trans (by decide) hF) (Nat.le_trans (by decide) hLo) h hl.1 ⟨Nat.zero_le _, Nat.zero_le _⟩ (Nat.le_of_ble_eq_true rfl) dX11_moons_4 (fun H locs h => ?_)
  refine lv_iconst (pc := 7) (v := 0) hx hb dX11_moons_7 (by decide) ?_
  refine lv_istore_n (pc := 8) (lv' := [(1, .int 0), (0, .ref (a 0))]) hx hb dX11_moons_8 rfl hl (by decide) rfl (fun ls hl => ?_)
  refine lv_iconst (pc := 9) (v := 0) hx hb dX11_moons_9 (by decide) ?_
  refine lv_istore_n (pc := 10) (lv' := [(2, .int 0), (1, .int 0), (0, .ref (a 0))]) hx hb dX11_moons_10 rfl hl (by decide) rfl (fun ls hl => ?_)
  obtain ⟨k5, hk5, hf⟩ := jq_2_e hf
  have jk5 : ∀ (u6 : St) (x7 : Int32), k5 u6 x7 = some (rr, uu) → ∀ (H : Heap) (locs : List Loc) (ls : Array Slot), Hh D (AB N a s.heap.size) (wX N a (EB a cI cJ cR) u6) s.heap H locs → lv_has ls 3 [(1, .int x7)] → W p l e R s m args below meth c H locs 0 0 Q (F0 m 56 ls []) := by
    intro u6 x7 hf H locs ls h hl
    rw [hk5] at hf
    refine lv_iload_n (pc := 56) hx hb dX11_moons_56 rfl (lv_at hl 0 rfl) ?_
    exact hret (so1 hf) rfl (so2 hf) dX11_moons_57 h
  refine lq_3_e (P := fun (u2 : St) (x3 : Int32) (x4 : Int32) => ∀ (H : Heap) (locs : List Loc) (ls : Array Slot), Hh D (AB N a s.heap.size) (wX N a (EB a cI cJ cR) u2) s.heap H locs → lv_has ls 3 [(0, .ref (a 0)), (1, .int x3), (2, .int x4)] → W p l e R s m args below meth c H locs 0 0 Q (F0 m 11 ls [])) ?_ FU _ _ _ hf _ _ _ h (lv_sub hl [2, 1, 0] rfl)
  intro rec8 irec8 u2 x3 x4 hf H locs ls h hl
  unfold B_X11_moons_11 at hf
  refine lv_iload_n (pc := 11) hx hb dX11_moons_11 rfl (lv_at hl 2 rfl) ?_
  refine lv_aload_n (pc := 12) hx hb dX11_moons_12 rfl (lv_at hl 0 rfl) ?_
  refine gB_0_0 (pc := 13) hNN hx hb hts hown hK h fl_X11_12 dX11_moons_13 ?_
  refine gB_1_2 (pc := 16) hNN hx hb hts hown hK h fl_X11_158 dX11_moons_16 ?_
  refine gB_10_1 (pc := 19) hNN hx hb hts hown hK h fl_X11_168 dX11_moons_19 ?_
  refine lv_icmp_ge (pc := 22) (tgt := 56) hx hb dX11_moons_22 (by decide) (fun c9 => ?_) (fun c9 => ?_)
  · have hf := if_t hf c9
    exact jk5 _ _ hf _ _ _ h (lv_sub hl [1] rfl)
  · have hf := if_f hf c9
    refine lv_aload_n (pc := 25) hx hb dX11_moons_25 rfl (lv_at hl 0 rfl) ?_
    refine gB_0_3 (pc := 26) hNN hx hb hts hown hK h fl_X11_32 dX11_moons_26 ?_
    refine lv_iload_n (pc := 29) hx hb dX11_moons_29 rfl (lv_at hl 2 rfl) ?_
    refine pB_20_1 (pc := 30) hNN hx hb hts hown hK h fl_X11_294 dX11_moons_30 (fun H locs h => ?_)
    obtain ⟨u10, eu10, hf⟩ := bs_e hf
    rw [← eu10] at h
    refine lv_iload_n (pc := 33) hx hb dX11_moons_33 rfl (lv_at hl 1 rfl) ?_
    refine lv_aload_n (pc := 34) hx hb dX11_moons_34 rfl (lv_at hl 0 rfl) ?_
    obtain ⟨x11, hc, hf⟩ := b1_e hf
    refine k_X11_sightsHold (pc := 35) hNN hx hb hml hown hts hK hN hc ml_X11_290 (Nat.le_trans (by decide) hF) (Nat.le_trans (by decide) hLo) h hl.1 ⟨Nat.zero_le _, Nat.zero_le _⟩ (Nat.le_of_ble_eq_true rfl) dX11_moons_35 (fun H locs h => ?_)
    refine lv_if_eq (pc := 38) (tgt := 47) hx hb dX11_moons_38 (by decide) (fun c12 => ?_) (fun c12 => ?_)
    · have hf := if_t hf c12
      refine lv_iconst (pc := 47) (v := 0) hx hb dX11_moons_47 (by decide) ?_
      refine lv_ior (pc := 48) hx hb dX11_moons_48 ?_
      refine lv_istore_n (pc := 49) (lv' := [(1, .int (x3 ||| (0 : Int32))), (0, .ref (a 0)), (2, .int x4)]) hx hb dX11_moons_49 rfl hl (by decide) rfl (fun ls hl => ?_)
      refine lv_iinc (pc := 50) (v := x4 + 1) (lv' := [(2, .int (x4 + 1)), (1, .int (x3 ||| (0 : Int32))), (0, .ref (a 0))]) hx hb dX11_moons_50 hl (k := 2) rfl rfl (by decide) rfl (fun ls hl => ?_)
      refine lv_goto (pc := 53) (tgt := 11) hx hb dX11_moons_53 (by decide) ?_
      exact irec8 _ _ _ hf _ _ _ h (lv_sub hl [2, 1, 0] rfl)
    · have hf := if_f hf c12
      refine lv_iconst (pc := 41) (v := 1) hx hb dX11_moons_41 (by decide) ?_
      refine lv_iload_n (pc := 42) hx hb dX11_moons_42 rfl (lv_at hl 2 rfl) ?_
      refine lv_ishl (pc := 43) hx hb dX11_moons_43 ?_
      refine lv_goto (pc := 44) (tgt := 48) hx hb dX11_moons_44 (by decide) ?_
      refine lv_ior (pc := 48) hx hb dX11_moons_48 ?_
      refine lv_istore_n (pc := 49) (lv' := [(1, .int (x3 ||| ((1 : Int32) <<< (x4 &&& 31)))), (0, .ref (a 0)), (2, .int x4)]) hx hb dX11_moons_49 rfl hl (by decide) rfl (fun ls hl => ?_)
      refine lv_iinc (pc := 50) (v := x4 + 1) (lv' := [(2, .int (x4 + 1)), (1, .int (x3 ||| ((1 : Int32) <<< (x4 &&& 31)))), (0, .ref (a 0))]) hx hb dX11_moons_50 hl (k := 2) rfl rfl (by decide) rfl (fun ls hl => ?_)
      refine lv_goto (pc := 53) (tgt := 11) hx hb dX11_moons_53 (by decide) ?_
      exact irec8 _ _ _ hf _ _ _ h (lv_sub hl [2, 1, 0] rfl)
theorem k_X11_moons {p : Program} {l : Launch} {e : Env} {R : Room} {s : State} {m : MethodId} {args : Array Value} {below : List Frame} {meth : Method} {c : Code} {H : Heap} {locs : List Loc} {cells slots : Nat} {Q : State → Prop} {pc : Nat} {ls : Array Slot} {rest : List Value} {cc : ByteArray} {D : va_G} {cI cJ cR : ClassId} {a : Nat → Nat} {u : St} {own : String} {index nL : Nat} {N : Nat} (hNN : 38 ≤ N) {rr : Int32} {uu : St} (hx : p.tables.exec = Jvm.exec) (hb : c.code = cc) (hml : c.maxLocals = nL) (hown : s.vm.findClass own = some m.cls) (hts : ∀ w ∈ Gd, w.before args s = true) (hK : va_K D vwCl (tyB cI cJ cR) s) (hN : NB s) (hc : f_X11_moons u = some (rr, uu)) (hlk : Cond.methodLink own index yX11_moons ∈ Gd) (hF : 7 ≤ R.frames) (hLo : 160 ≤ R.locals) (h : Hh D (AB N a s.heap.size) (wX N a (EB a cI cJ cR) u) s.heap H locs) (hsize : ls.size = nL) (hcs : cells ≤ R.cells ∧ slots ≤ R.slots) (hr : (rest.map fun v => v.category).sum ≤ 8) (hdg : decode cc pc = .ok (.invokevirtual index, 3)) (kk : ∀ (H1 : Heap) (locs1 : List Loc), Hh D (AB N a s.heap.size) (wX N a (EB a cI cJ cR) uu) s.heap H1 locs1 → W p l e R s m args below meth c H1 locs1 cells slots Q (F0 m (pc + 3) ls (.int rr :: rest))) : W p l e R s m args below meth c H locs cells slots Q (F0 m pc ls (.ref (a 0) :: rest)) :=
  cVi (n := 0) hx hb hml hown hts hK hN (c_X11_moons hNN hc) (gdV hlk im_X11_moons se_X11_moons in_X11 co_X11_moons) rfl (by decide +kernel) rfl hF hLo h hsize hcs (Nat.lt_of_lt_of_le (by decide) hNN) rfl rfl rfl hr hdg kk
def B_X11_open_39 (x4 : Int32) (k9 : St → Int32 → Int32 → Option (Int32 × St)) (rec14 : St → Int32 → Int32 → Int32 → Option (Int32 × St)) (u5 : St) (x6 : Int32) (x7 : Int32) (x8 : Int32) : Option (Int32 × St) := if x4 ≤ x8 then k9 u5 x6 x7 else bs (sI u5 20 3 x8) (fun u16 : St => b1 (f_X11_sightsHold u16) (fun (x17 : Int32) => if x17 = 0 then rec14 u16 x6 x7 (x8 + 1) else if x7 = 0 then rec14 u16 x8 (x7 + 1) (x8 + 1) else rec14 u16 x6 (x7 + 1) (x8 + 1)))
def f_X11_open (u : St) (p1 : Int32) : Option (Int32 × St) := b1 (f_X11_within u p1 0 1) (fun (x1 : Int32) => if x1 = 0 then some ((-2), u) else b1 (f_X0_asItIs u) (fun (u3 : St) => b1 (f_X6_latestDay u3) (fun (x4 : Int32) => jq_3 (fun (u10 : St) (x11 : Int32) (x12 : Int32) => if p1 = 0 then some (x12, u10) else some (x11, u10)) (fun (k9 : St → Int32 → Int32 → Option (Int32 × St)) => lq_4 (B_X11_open_39 x4 k9) FU u3 ((-6)) 0 0))))
set_option maxRecDepth 100000 in
set_option maxHeartbeats 4000000 in
theorem c_X11_open {l : Launch} {D : va_G} {cI cJ cR : ClassId} {a : Nat → Nat} {u : St} {N : Nat} (hNN : 38 ≤ N) {p1 : Int32} {rr : Int32} {uu : St} (hf : f_X11_open u p1 = some (rr, uu)) : Ci l yX11_open cX11_open 6 (some .int) 6 138 D (tyB cI cJ cR) N a (EB a cI cJ cR) [.ref (a 0), .int p1] u rr uu := by
  refine metI (by decide +kernel) (Nat.le_of_ble_eq_true rfl) ?_
  intro p e s m args below meth c R Q hx hb hml hown hts hF hLo hret hK hN h ls hl
  have hown : s.vm.findClass RX11 = some m.cls := hown
  have hl : lv_has ls 6 [(0, .ref (a 0)), (1, .int p1)] := hl
  unfold f_X11_open at hf
  refine lv_iload_n (pc := 0) hx hb dX11_open_0 rfl (lv_at hl 1 rfl) ?_
  refine lv_iconst (pc := 1) (v := 0) hx hb dX11_open_1 (by decide) ?_
  refine lv_iconst (pc := 2) (v := 1) hx hb dX11_open_2 (by decide) ?_
  obtain ⟨x1, hc, hf⟩ := b1_e hf
  refine kS_X11_within (pc := 3) hNN hx hb hml hown hts hK hN hc ml_X11_70 (Nat.le_trans (by decide) hF) (Nat.le_trans (by decide) hLo) h hl.1 ⟨Nat.zero_le _, Nat.zero_le _⟩ (Nat.le_of_ble_eq_true rfl) dX11_open_3 (fun H locs h => ?_)
  refine lv_if_ne (pc := 6) (tgt := 12) hx hb dX11_open_6 (by decide) (fun c2 => ?_) (fun c2 => ?_)
  · have hf := if_f hf c2
    refine lv_aload_n (pc := 12) hx hb dX11_open_12 rfl (lv_at hl 0 rfl) ?_
    refine gB_0_3 (pc := 13) hNN hx hb hts hown hK h fl_X11_32 dX11_open_13 ?_
    obtain ⟨u3, hc, hf⟩ := b1_e hf
    refine k_X0_asItIs (pc := 16) hNN hx hb hml hown hts hK hN hc ml_X11_171 (Nat.le_trans (by decide) hF) (Nat.le_trans (by decide) hLo) h hl.1 ⟨Nat.zero_le _, Nat.zero_le _⟩ (Nat.le_of_ble_eq_true rfl) dX11_open_16 (fun H locs h => ?_)
    refine lv_aload_n (pc := 19) hx hb dX11_open_19 rfl (lv_at hl 0 rfl) ?_
    refine gB_0_0 (pc := 20) hNN hx hb hts hown hK h fl_X11_12 dX11_open_20 ?_
    refine gB_1_3 (pc := 23) hNN hx hb hts hown hK h fl_X11_97 dX11_open_23 ?_
    obtain ⟨x4, hc, hf⟩ := b1_e hf
    refine k_X6_latestDay (pc := 26) hNN hx hb hml hown hts hK hN hc ml_X11_297 (Nat.le_trans (by decide) hF) (Nat.le_trans (by decide) hLo) h hl.1 ⟨Nat.zero_le _, Nat.zero_le _⟩ (Nat.le_of_ble_eq_true rfl) dX11_open_26 (fun H locs h => ?_)
    refine lv_istore_n (pc := 29) (lv' := [(2, .int x4), (0, .ref (a 0)), (1, .int p1)]) hx hb dX11_open_29 rfl hl (by decide) rfl (fun ls hl => ?_)
    refine lv_bipush (pc := 30) (v := (-6)) hx hb dX11_open_30 (by decide) ?_
    refine lv_istore_n (pc := 32) (lv' := [(3, .int ((-6))), (2, .int x4), (0, .ref (a 0)), (1, .int p1)]) hx hb dX11_open_32 rfl hl (by decide) rfl (fun ls hl => ?_)
    refine lv_iconst (pc := 33) (v := 0) hx hb dX11_open_33 (by decide) ?_
    refine lv_istore (pc := 34) (lv' := [(4, .int 0), (3, .int ((-6))), (2, .int x4), (0, .ref (a 0)), (1, .int p1)]) hx hb dX11_open_34 hl (by decide) rfl (fun ls hl => ?_)
    refine lv_iconst (pc := 36) (v := 0) hx hb dX11_open_36 (by decide) ?_
    refine lv_istore (pc := 37) (lv' := [(5, .int 0), (4, .int 0), (3, .int ((-6))), (2, .int x4), (0, .ref (a 0)), (1, .int p1)]) hx hb dX11_open_37 hl (by decide) rfl (fun ls hl => ?_)
    obtain ⟨k9, hk9, hf⟩ := jq_3_e hf
    have jk9 : ∀ (u10 : St) (x11 : Int32) (x12 : Int32), k9 u10 x11 x12 = some (rr, uu) → ∀ (H : Heap) (locs : List Loc) (ls : Array Slot), Hh D (AB N a s.heap.size) (wX N a (EB a cI cJ cR) u10) s.heap H locs → lv_has ls 6 [(1, .int p1), (3, .int x11), (4, .int x12)] → W p l e R s m args below meth c H locs 0 0 Q (F0 m 82 ls []) := by
      intro u10 x11 x12 hf H locs ls h hl
      rw [hk9] at hf
      refine lv_iload_n (pc := 82) hx hb dX11_open_82 rfl (lv_at hl 0 rfl) ?_
      refine lv_if_ne (pc := 83) (tgt := 91) hx hb dX11_open_83 (by decide) (fun c13 => ?_) (fun c13 => ?_)
      · have hf := if_f hf c13
        refine lv_iload_n (pc := 91) hx hb dX11_open_91 rfl (lv_at hl 1 rfl) ?_
        exact hret (so1 hf) rfl (so2 hf) dX11_open_92 h
      · have hf := if_t hf c13
        refine lv_iload (pc := 86) hx hb dX11_open_86 (lv_at hl 2 rfl) ?_
        refine lv_goto (pc := 88) (tgt := 92) hx hb dX11_open_88 (by decide) ?_
        exact hret (so1 hf) rfl (so2 hf) dX11_open_92 h
    refine lq_4_e (P := fun (u5 : St) (x6 : Int32) (x7 : Int32) (x8 : Int32) => ∀ (H : Heap) (locs : List Loc) (ls : Array Slot), Hh D (AB N a s.heap.size) (wX N a (EB a cI cJ cR) u5) s.heap H locs → lv_has ls 6 [(0, .ref (a 0)), (1, .int p1), (2, .int x4), (3, .int x6), (4, .int x7), (5, .int x8)] → W p l e R s m args below meth c H locs 0 0 Q (F0 m 39 ls [])) ?_ FU _ _ _ _ hf _ _ _ h (lv_sub hl [4, 5, 3, 2, 1, 0] rfl)
    intro rec14 irec14 u5 x6 x7 x8 hf H locs ls h hl
    unfold B_X11_open_39 at hf
    refine lv_iload (pc := 39) hx hb dX11_open_39 (lv_at hl 5 rfl) ?_
    refine lv_iload_n (pc := 41) hx hb dX11_open_41 rfl (lv_at hl 2 rfl) ?_
    refine lv_icmp_ge (pc := 42) (tgt := 82) hx hb dX11_open_42 (by decide) (fun c15 => ?_) (fun c15 => ?_)
    · have hf := if_t hf c15
      exact jk9 _ _ _ hf _ _ _ h (lv_sub hl [1, 3, 4] rfl)
    · have hf := if_f hf c15
      refine lv_aload_n (pc := 45) hx hb dX11_open_45 rfl (lv_at hl 0 rfl) ?_
      refine gB_0_3 (pc := 46) hNN hx hb hts hown hK h fl_X11_32 dX11_open_46 ?_
      refine lv_iload (pc := 49) hx hb dX11_open_49 (lv_at hl 5 rfl) ?_
      refine pB_20_3 (pc := 51) hNN hx hb hts hown hK h fl_X11_300 dX11_open_51 (fun H locs h => ?_)
      obtain ⟨u16, eu16, hf⟩ := bs_e hf
      rw [← eu16] at h
      refine lv_aload_n (pc := 54) hx hb dX11_open_54 rfl (lv_at hl 0 rfl) ?_
      obtain ⟨x17, hc, hf⟩ := b1_e hf
      refine k_X11_sightsHold (pc := 55) hNN hx hb hml hown hts hK hN hc ml_X11_290 (Nat.le_trans (by decide) hF) (Nat.le_trans (by decide) hLo) h hl.1 ⟨Nat.zero_le _, Nat.zero_le _⟩ (Nat.le_of_ble_eq_true rfl) dX11_open_55 (fun H locs h => ?_)
      refine lv_if_eq (pc := 58) (tgt := 76) hx hb dX11_open_58 (by decide) (fun c18 => ?_) (fun c18 => ?_)
      · have hf := if_t hf c18
        refine lv_iinc (pc := 76) (v := x8 + 1) (lv' := [(5, .int (x8 + 1)), (0, .ref (a 0)), (1, .int p1), (2, .int x4), (3, .int x6), (4, .int x7)]) hx hb dX11_open_76 hl (k := 5) rfl rfl (by decide) rfl (fun ls hl => ?_)
        refine lv_goto (pc := 79) (tgt := 39) hx hb dX11_open_79 (by decide) ?_
        exact irec14 _ _ _ _ hf _ _ _ h (lv_sub hl [1, 2, 3, 4, 5, 0] rfl)
      · have hf := if_f hf c18
        refine lv_iload (pc := 61) hx hb dX11_open_61 (lv_at hl 4 rfl) ?_
        refine lv_if_ne (pc := 63) (tgt := 71) hx hb dX11_open_63 (by decide) (fun c19 => ?_) (fun c19 => ?_)
        · have hf := if_f hf c19
          refine lv_iload_n (pc := 71) hx hb dX11_open_71 rfl (lv_at hl 3 rfl) ?_
          refine lv_istore_n (pc := 72) (lv' := [(3, .int x6), (0, .ref (a 0)), (1, .int p1), (2, .int x4), (4, .int x7), (5, .int x8)]) hx hb dX11_open_72 rfl hl (by decide) rfl (fun ls hl => ?_)
          refine lv_iinc (pc := 73) (v := x7 + 1) (lv' := [(4, .int (x7 + 1)), (3, .int x6), (0, .ref (a 0)), (1, .int p1), (2, .int x4), (5, .int x8)]) hx hb dX11_open_73 hl (k := 4) rfl rfl (by decide) rfl (fun ls hl => ?_)
          refine lv_iinc (pc := 76) (v := x8 + 1) (lv' := [(5, .int (x8 + 1)), (4, .int (x7 + 1)), (3, .int x6), (0, .ref (a 0)), (1, .int p1), (2, .int x4)]) hx hb dX11_open_76 hl (k := 5) rfl rfl (by decide) rfl (fun ls hl => ?_)
          refine lv_goto (pc := 79) (tgt := 39) hx hb dX11_open_79 (by decide) ?_
          exact irec14 _ _ _ _ hf _ _ _ h (lv_sub hl [3, 4, 5, 2, 1, 0] rfl)
        · have hf := if_t hf c19
          refine lv_iload (pc := 66) hx hb dX11_open_66 (lv_at hl 5 rfl) ?_
          refine lv_goto (pc := 68) (tgt := 72) hx hb dX11_open_68 (by decide) ?_
          refine lv_istore_n (pc := 72) (lv' := [(3, .int x8), (0, .ref (a 0)), (1, .int p1), (2, .int x4), (4, .int x7), (5, .int x8)]) hx hb dX11_open_72 rfl hl (by decide) rfl (fun ls hl => ?_)
          refine lv_iinc (pc := 73) (v := x7 + 1) (lv' := [(4, .int (x7 + 1)), (3, .int x8), (0, .ref (a 0)), (1, .int p1), (2, .int x4), (5, .int x8)]) hx hb dX11_open_73 hl (k := 4) rfl rfl (by decide) rfl (fun ls hl => ?_)
          refine lv_iinc (pc := 76) (v := x8 + 1) (lv' := [(5, .int (x8 + 1)), (4, .int (x7 + 1)), (3, .int x8), (0, .ref (a 0)), (1, .int p1), (2, .int x4)]) hx hb dX11_open_76 hl (k := 5) rfl rfl (by decide) rfl (fun ls hl => ?_)
          refine lv_goto (pc := 79) (tgt := 39) hx hb dX11_open_79 (by decide) ?_
          exact irec14 _ _ _ _ hf _ _ _ h (lv_sub hl [3, 4, 5, 2, 1, 0] rfl)
  · have hf := if_t hf c2
    refine lv_bipush (pc := 9) (v := (-2)) hx hb dX11_open_9 (by decide) ?_
    exact hret (so1 hf) rfl (so2 hf) dX11_open_11 h
theorem k_X11_open {p : Program} {l : Launch} {e : Env} {R : Room} {s : State} {m : MethodId} {args : Array Value} {below : List Frame} {meth : Method} {c : Code} {H : Heap} {locs : List Loc} {cells slots : Nat} {Q : State → Prop} {pc : Nat} {ls : Array Slot} {rest : List Value} {cc : ByteArray} {D : va_G} {cI cJ cR : ClassId} {a : Nat → Nat} {u : St} {own : String} {index nL : Nat} {N : Nat} (hNN : 38 ≤ N) {p1 : Int32} {rr : Int32} {uu : St} (hx : p.tables.exec = Jvm.exec) (hb : c.code = cc) (hml : c.maxLocals = nL) (hown : s.vm.findClass own = some m.cls) (hts : ∀ w ∈ Gd, w.before args s = true) (hK : va_K D vwCl (tyB cI cJ cR) s) (hN : NB s) (hc : f_X11_open u p1 = some (rr, uu)) (hlk : Cond.methodLink own index yX11_open ∈ Gd) (hF : 7 ≤ R.frames) (hLo : 163 ≤ R.locals) (h : Hh D (AB N a s.heap.size) (wX N a (EB a cI cJ cR) u) s.heap H locs) (hsize : ls.size = nL) (hcs : cells ≤ R.cells ∧ slots ≤ R.slots) (hr : (rest.map fun v => v.category).sum ≤ 8) (hdg : decode cc pc = .ok (.invokevirtual index, 3)) (kk : ∀ (H1 : Heap) (locs1 : List Loc), Hh D (AB N a s.heap.size) (wX N a (EB a cI cJ cR) uu) s.heap H1 locs1 → W p l e R s m args below meth c H1 locs1 cells slots Q (F0 m (pc + 3) ls (.int rr :: rest))) : W p l e R s m args below meth c H locs cells slots Q (F0 m pc ls (.int p1 :: .ref (a 0) :: rest)) :=
  cVi (n := 1) hx hb hml hown hts hK hN (c_X11_open hNN hc) (gdV hlk im_X11_open se_X11_open in_X11 co_X11_open) rfl (by decide +kernel) rfl hF hLo h hsize hcs (Nat.lt_of_lt_of_le (by decide) hNN) rfl rfl rfl hr hdg kk
def B_X11_fillReach_30 (p1 : Int32) (u : St) (x2 : Int32) (k10 : Int32 → Option (St)) (rec13 : Int32 → Int32 → Option (St)) (x8 : Int32) (x9 : Int32) : Option (St) := if p1 ≤ x9 then k10 x8 else if (u.1 10 1) ≤ x9 then k10 x8 else ck (¬ (u.1 10 1) = 0) (bs (x8 ||| ((1 : Int32) <<< (((x2 + x9) - (x2 + x9) / (u.1 10 1) * (u.1 10 1)) &&& 31))) (fun x16 : Int32 => rec13 x16 (x9 + 1)))
def B_X11_fillReach_13 (p1 : Int32) (u : St) (k3 : St → Option (St)) (rec5 : St → Int32 → Option (St)) (u1 : St) (x2 : Int32) : Option (St) := if (u.1 10 1) ≤ x2 then k3 u1 else if 12 ≤ x2 then k3 u1 else jq_1 (fun (x11 : Int32) => cki x2 12 (bs (sI u1 37 (ix x2) x11) (fun u12 : St => rec5 u12 (x2 + 1)))) (fun (k10 : Int32 → Option (St)) => lq_2 (B_X11_fillReach_30 p1 u x2 k10) FU 0 0)
def f_X11_fillReach (u : St) (p1 : Int32) : Option (St) := jq_1 (fun (u4 : St) => some u4) (fun (k3 : St → Option (St)) => lq_2 (B_X11_fillReach_13 p1 u k3) FU u 0)
set_option maxRecDepth 100000 in
set_option maxHeartbeats 4000000 in
theorem c_X11_fillReach {l : Launch} {D : va_G} {cI cJ cR : ClassId} {a : Nat → Nat} {u : St} {N : Nat} (hNN : 38 ≤ N) {p1 : Int32} {uu : St} (hf : f_X11_fillReach u p1 = some uu) : Cv l yX11_fillReach cX11_fillReach 6 none 0 0 D (tyB cI cJ cR) N a (EB a cI cJ cR) [.ref (a 0), .int p1] u uu := by
  refine metV (by decide +kernel) (Nat.le_of_ble_eq_true rfl) ?_
  intro p e s m args below meth c R Q hx hb hml hown hts hF hLo hret hK hN h ls hl
  have hown : s.vm.findClass RX11 = some m.cls := hown
  have hl : lv_has ls 6 [(0, .ref (a 0)), (1, .int p1)] := hl
  unfold f_X11_fillReach at hf
  refine lv_aload_n (pc := 0) hx hb dX11_fillReach_0 rfl (lv_at hl 0 rfl) ?_
  refine gB_0_0 (pc := 1) hNN hx hb hts hown hK h fl_X11_12 dX11_fillReach_1 ?_
  refine gB_1_2 (pc := 4) hNN hx hb hts hown hK h fl_X11_158 dX11_fillReach_4 ?_
  refine gB_10_1 (pc := 7) hNN hx hb hts hown hK h fl_X11_168 dX11_fillReach_7 ?_
  refine lv_istore_n (pc := 10) (lv' := [(2, .int (u.1 10 1)), (0, .ref (a 0)), (1, .int p1)]) hx hb dX11_fillReach_10 rfl hl (by decide) rfl (fun ls hl => ?_)
  refine lv_iconst (pc := 11) (v := 0) hx hb dX11_fillReach_11 (by decide) ?_
  refine lv_istore_n (pc := 12) (lv' := [(3, .int 0), (2, .int (u.1 10 1)), (0, .ref (a 0)), (1, .int p1)]) hx hb dX11_fillReach_12 rfl hl (by decide) rfl (fun ls hl => ?_)
  obtain ⟨k3, hk3, hf⟩ := jq_1_e hf
  have jk3 : ∀ (u4 : St), k3 u4 = some uu → ∀ (H : Heap) (locs : List Loc) (ls : Array Slot), Hh D (AB N a s.heap.size) (wX N a (EB a cI cJ cR) u4) s.heap H locs → lv_has ls 6 [] → W p l e R s m args below meth c H locs 0 0 Q (F0 m 75 ls []) := by
    intro u4 hf H locs ls h hl
    rw [hk3] at hf
    exact hret (so hf) dX11_fillReach_75 h
  refine lq_2_e (P := fun (u1 : St) (x2 : Int32) => ∀ (H : Heap) (locs : List Loc) (ls : Array Slot), Hh D (AB N a s.heap.size) (wX N a (EB a cI cJ cR) u1) s.heap H locs → lv_has ls 6 [(0, .ref (a 0)), (1, .int p1), (2, .int (u.1 10 1)), (3, .int x2)] → W p l e R s m args below meth c H locs 0 0 Q (F0 m 13 ls [])) ?_ FU _ _ hf _ _ _ h (lv_sub hl [2, 3, 1, 0] rfl)
  intro rec5 irec5 u1 x2 hf H locs ls h hl
  unfold B_X11_fillReach_13 at hf
  refine lv_iload_n (pc := 13) hx hb dX11_fillReach_13 rfl (lv_at hl 3 rfl) ?_
  refine lv_iload_n (pc := 14) hx hb dX11_fillReach_14 rfl (lv_at hl 2 rfl) ?_
  refine lv_icmp_ge (pc := 15) (tgt := 75) hx hb dX11_fillReach_15 (by decide) (fun c6 => ?_) (fun c6 => ?_)
  · have hf := if_t hf c6
    exact jk3 _ hf _ _ _ h (lv_sub hl [] rfl)
  · have hf := if_f hf c6
    refine lv_iload_n (pc := 18) hx hb dX11_fillReach_18 rfl (lv_at hl 3 rfl) ?_
    refine lv_bipush (pc := 19) (v := 12) hx hb dX11_fillReach_19 (by decide) ?_
    refine lv_icmp_ge (pc := 21) (tgt := 75) hx hb dX11_fillReach_21 (by decide) (fun c7 => ?_) (fun c7 => ?_)
    · have hf := if_t hf c7
      exact jk3 _ hf _ _ _ h (lv_sub hl [] rfl)
    · have hf := if_f hf c7
      refine lv_iconst (pc := 24) (v := 0) hx hb dX11_fillReach_24 (by decide) ?_
      refine lv_istore (pc := 25) (lv' := [(4, .int 0), (0, .ref (a 0)), (1, .int p1), (2, .int (u.1 10 1)), (3, .int x2)]) hx hb dX11_fillReach_25 hl (by decide) rfl (fun ls hl => ?_)
      refine lv_iconst (pc := 27) (v := 0) hx hb dX11_fillReach_27 (by decide) ?_
      refine lv_istore (pc := 28) (lv' := [(5, .int 0), (4, .int 0), (0, .ref (a 0)), (1, .int p1), (2, .int (u.1 10 1)), (3, .int x2)]) hx hb dX11_fillReach_28 hl (by decide) rfl (fun ls hl => ?_)
      obtain ⟨k10, hk10, hf⟩ := jq_1_e hf
      have jk10 : ∀ (x11 : Int32), k10 x11 = some uu → ∀ (H : Heap) (locs : List Loc) (ls : Array Slot), Hh D (AB N a s.heap.size) (wX N a (EB a cI cJ cR) u1) s.heap H locs → lv_has ls 6 [(0, .ref (a 0)), (1, .int p1), (2, .int (u.1 10 1)), (3, .int x2), (4, .int x11)] → W p l e R s m args below meth c H locs 0 0 Q (F0 m 61 ls []) := by
        intro x11 hf H locs ls h hl
        rw [hk10] at hf
        refine lv_aload_n (pc := 61) hx hb dX11_fillReach_61 rfl (lv_at hl 0 rfl) ?_
        refine gB_0_8 (pc := 62) hNN hx hb hts hown hK h fl_X11_66 dX11_fillReach_62 ?_
        refine lv_iload_n (pc := 65) hx hb dX11_fillReach_65 rfl (lv_at hl 3 rfl) ?_
        refine lv_iload (pc := 66) hx hb dX11_fillReach_66 (lv_at hl 4 rfl) ?_
        obtain ⟨hin, hf⟩ := cki_e hf
        refine pB_37 (pc := 68) hNN hx hb hK h hin dX11_fillReach_68 (fun H locs h => ?_)
        obtain ⟨u12, eu12, hf⟩ := bs_e hf
        rw [← eu12] at h
        refine lv_iinc (pc := 69) (v := x2 + 1) (lv' := [(3, .int (x2 + 1)), (0, .ref (a 0)), (1, .int p1), (2, .int (u.1 10 1)), (4, .int x11)]) hx hb dX11_fillReach_69 hl (k := 3) rfl rfl (by decide) rfl (fun ls hl => ?_)
        refine lv_goto (pc := 72) (tgt := 13) hx hb dX11_fillReach_72 (by decide) ?_
        exact irec5 _ _ hf _ _ _ h (lv_sub hl [1, 2, 3, 0] rfl)
      refine lq_2_e (P := fun (x8 : Int32) (x9 : Int32) => ∀ (H : Heap) (locs : List Loc) (ls : Array Slot), Hh D (AB N a s.heap.size) (wX N a (EB a cI cJ cR) u1) s.heap H locs → lv_has ls 6 [(0, .ref (a 0)), (1, .int p1), (2, .int (u.1 10 1)), (3, .int x2), (4, .int x8), (5, .int x9)] → W p l e R s m args below meth c H locs 0 0 Q (F0 m 30 ls [])) ?_ FU _ _ hf _ _ _ h (lv_sub hl [2, 3, 4, 5, 1, 0] rfl)
      intro rec13 irec13 x8 x9 hf H locs ls h hl
      unfold B_X11_fillReach_30 at hf
      refine lv_iload (pc := 30) hx hb dX11_fillReach_30 (lv_at hl 5 rfl) ?_
      refine lv_iload_n (pc := 32) hx hb dX11_fillReach_32 rfl (lv_at hl 1 rfl) ?_
      refine lv_icmp_ge (pc := 33) (tgt := 61) hx hb dX11_fillReach_33 (by decide) (fun c14 => ?_) (fun c14 => ?_)
      · have hf := if_t hf c14
        exact jk10 _ hf _ _ _ h (lv_sub hl [0, 1, 2, 3, 4] rfl)
      · have hf := if_f hf c14
        refine lv_iload (pc := 36) hx hb dX11_fillReach_36 (lv_at hl 5 rfl) ?_
        refine lv_iload_n (pc := 38) hx hb dX11_fillReach_38 rfl (lv_at hl 2 rfl) ?_
        refine lv_icmp_ge (pc := 39) (tgt := 61) hx hb dX11_fillReach_39 (by decide) (fun c15 => ?_) (fun c15 => ?_)
        · have hf := if_t hf c15
          exact jk10 _ hf _ _ _ h (lv_sub hl [0, 1, 2, 3, 4] rfl)
        · have hf := if_f hf c15
          refine lv_iload (pc := 42) hx hb dX11_fillReach_42 (lv_at hl 4 rfl) ?_
          refine lv_iconst (pc := 44) (v := 1) hx hb dX11_fillReach_44 (by decide) ?_
          refine lv_iload_n (pc := 45) hx hb dX11_fillReach_45 rfl (lv_at hl 3 rfl) ?_
          refine lv_iload (pc := 46) hx hb dX11_fillReach_46 (lv_at hl 5 rfl) ?_
          refine lv_iadd (pc := 48) hx hb dX11_fillReach_48 ?_
          refine lv_iload_n (pc := 49) hx hb dX11_fillReach_49 rfl (lv_at hl 2 rfl) ?_
          obtain ⟨hne, hf⟩ := ck_e hf
          refine lv_irem (pc := 50) hx hb dX11_fillReach_50 hne ?_
          refine lv_ishl (pc := 51) hx hb dX11_fillReach_51 ?_
          refine lv_ior (pc := 52) hx hb dX11_fillReach_52 ?_
          obtain ⟨x16, ex16, hf⟩ := bs_e hf
          refine rTop ex16 ?_
          refine lv_istore (pc := 53) (lv' := [(4, .int x16), (0, .ref (a 0)), (1, .int p1), (2, .int (u.1 10 1)), (3, .int x2), (5, .int x9)]) hx hb dX11_fillReach_53 hl (by decide) rfl (fun ls hl => ?_)
          refine lv_iinc (pc := 55) (v := x9 + 1) (lv' := [(5, .int (x9 + 1)), (4, .int x16), (0, .ref (a 0)), (1, .int p1), (2, .int (u.1 10 1)), (3, .int x2)]) hx hb dX11_fillReach_55 hl (k := 5) rfl rfl (by decide) rfl (fun ls hl => ?_)
          refine lv_goto (pc := 58) (tgt := 30) hx hb dX11_fillReach_58 (by decide) ?_
          exact irec13 _ _ hf _ _ _ h (lv_sub hl [2, 3, 4, 5, 1, 0] rfl)
theorem k_X11_fillReach {p : Program} {l : Launch} {e : Env} {R : Room} {s : State} {m : MethodId} {args : Array Value} {below : List Frame} {meth : Method} {c : Code} {H : Heap} {locs : List Loc} {cells slots : Nat} {Q : State → Prop} {pc : Nat} {ls : Array Slot} {rest : List Value} {cc : ByteArray} {D : va_G} {cI cJ cR : ClassId} {a : Nat → Nat} {u : St} {own : String} {index nL : Nat} {N : Nat} (hNN : 38 ≤ N) {p1 : Int32} {uu : St} (hx : p.tables.exec = Jvm.exec) (hb : c.code = cc) (hml : c.maxLocals = nL) (hown : s.vm.findClass own = some m.cls) (hts : ∀ w ∈ Gd, w.before args s = true) (hK : va_K D vwCl (tyB cI cJ cR) s) (hN : NB s) (hc : f_X11_fillReach u p1 = some uu) (hlk : Cond.methodLink own index yX11_fillReach ∈ Gd) (hF : 1 ≤ R.frames) (hLo : 25 ≤ R.locals) (h : Hh D (AB N a s.heap.size) (wX N a (EB a cI cJ cR) u) s.heap H locs) (hsize : ls.size = nL) (hcs : cells ≤ R.cells ∧ slots ≤ R.slots) (hr : (rest.map fun v => v.category).sum ≤ 8) (hdg : decode cc pc = .ok (.invokevirtual index, 3)) (kk : ∀ (H1 : Heap) (locs1 : List Loc), Hh D (AB N a s.heap.size) (wX N a (EB a cI cJ cR) uu) s.heap H1 locs1 → W p l e R s m args below meth c H1 locs1 cells slots Q (F0 m (pc + 3) ls (rest))) : W p l e R s m args below meth c H locs cells slots Q (F0 m pc ls (.int p1 :: .ref (a 0) :: rest)) :=
  cVv (n := 1) hx hb hml hown hts hK hN (c_X11_fillReach hNN hc) (gdV hlk im_X11_fillReach se_X11_fillReach in_X11 co_X11_fillReach) rfl (by decide +kernel) rfl hF hLo h hsize hcs (Nat.lt_of_lt_of_le (by decide) hNN) rfl rfl rfl hr hdg kk
def B_X11_wakingDays_4 (p1 : Int32) (u : St) (k3 : Int32 → Option (Int32)) (rec5 : Int32 → Int32 → Option (Int32)) (x1 : Int32) (x2 : Int32) : Option (Int32) := if 12 ≤ x2 then k3 x1 else b1 (f_X11_hasBit u p1 x2) (fun (x7 : Int32) => if x7 = 0 then rec5 (x1 ||| (0 : Int32)) (x2 + 1) else cki x2 12 (rec5 (x1 ||| (u.1 37 (ix x2))) (x2 + 1)))
def f_X11_wakingDays (u : St) (p1 : Int32) : Option (Int32) := jq_1 (fun (x4 : Int32) => some x4) (fun (k3 : Int32 → Option (Int32)) => lq_2 (B_X11_wakingDays_4 p1 u k3) FU 0 0)
set_option maxRecDepth 100000 in
set_option maxHeartbeats 4000000 in
theorem c_X11_wakingDays {l : Launch} {D : va_G} {cI cJ cR : ClassId} {a : Nat → Nat} {u : St} {N : Nat} (hNN : 38 ≤ N) {p1 : Int32} {rr : Int32} (hf : f_X11_wakingDays u p1 = some rr) : Ci l yX11_wakingDays cX11_wakingDays 4 (some .int) 1 21 D (tyB cI cJ cR) N a (EB a cI cJ cR) [.ref (a 0), .int p1] u rr u := by
  refine metI (by decide +kernel) (Nat.le_of_ble_eq_true rfl) ?_
  intro p e s m args below meth c R Q hx hb hml hown hts hF hLo hret hK hN h ls hl
  have hown : s.vm.findClass RX11 = some m.cls := hown
  have hl : lv_has ls 4 [(0, .ref (a 0)), (1, .int p1)] := hl
  unfold f_X11_wakingDays at hf
  refine lv_iconst (pc := 0) (v := 0) hx hb dX11_wakingDays_0 (by decide) ?_
  refine lv_istore_n (pc := 1) (lv' := [(2, .int 0), (0, .ref (a 0)), (1, .int p1)]) hx hb dX11_wakingDays_1 rfl hl (by decide) rfl (fun ls hl => ?_)
  refine lv_iconst (pc := 2) (v := 0) hx hb dX11_wakingDays_2 (by decide) ?_
  refine lv_istore_n (pc := 3) (lv' := [(3, .int 0), (2, .int 0), (0, .ref (a 0)), (1, .int p1)]) hx hb dX11_wakingDays_3 rfl hl (by decide) rfl (fun ls hl => ?_)
  obtain ⟨k3, hk3, hf⟩ := jq_1_e hf
  have jk3 : ∀ (x4 : Int32), k3 x4 = some rr → ∀ (H : Heap) (locs : List Loc) (ls : Array Slot), Hh D (AB N a s.heap.size) (wX N a (EB a cI cJ cR) u) s.heap H locs → lv_has ls 4 [(2, .int x4)] → W p l e R s m args below meth c H locs 0 0 Q (F0 m 37 ls []) := by
    intro x4 hf H locs ls h hl
    rw [hk3] at hf
    refine lv_iload_n (pc := 37) hx hb dX11_wakingDays_37 rfl (lv_at hl 0 rfl) ?_
    exact hret (so hf) rfl rfl dX11_wakingDays_38 h
  refine lq_2_e (P := fun (x1 : Int32) (x2 : Int32) => ∀ (H : Heap) (locs : List Loc) (ls : Array Slot), Hh D (AB N a s.heap.size) (wX N a (EB a cI cJ cR) u) s.heap H locs → lv_has ls 4 [(0, .ref (a 0)), (1, .int p1), (2, .int x1), (3, .int x2)] → W p l e R s m args below meth c H locs 0 0 Q (F0 m 4 ls [])) ?_ FU _ _ hf _ _ _ h (lv_sub hl [2, 3, 1, 0] rfl)
  intro rec5 irec5 x1 x2 hf H locs ls h hl
  unfold B_X11_wakingDays_4 at hf
  refine lv_iload_n (pc := 4) hx hb dX11_wakingDays_4 rfl (lv_at hl 3 rfl) ?_
  refine lv_bipush (pc := 5) (v := 12) hx hb dX11_wakingDays_5 (by decide) ?_
  refine lv_icmp_ge (pc := 7) (tgt := 37) hx hb dX11_wakingDays_7 (by decide) (fun c6 => ?_) (fun c6 => ?_)
  · have hf := if_t hf c6
    exact jk3 _ hf _ _ _ h (lv_sub hl [2] rfl)
  · have hf := if_f hf c6
    refine lv_iload_n (pc := 10) hx hb dX11_wakingDays_10 rfl (lv_at hl 2 rfl) ?_
    refine lv_iload_n (pc := 11) hx hb dX11_wakingDays_11 rfl (lv_at hl 1 rfl) ?_
    refine lv_iload_n (pc := 12) hx hb dX11_wakingDays_12 rfl (lv_at hl 3 rfl) ?_
    obtain ⟨x7, hc, hf⟩ := b1_e hf
    refine kS_X11_hasBit (pc := 13) hNN hx hb hml hown hts hK hN hc ml_X11_232 (Nat.le_trans (by decide) hF) (Nat.le_trans (by decide) hLo) h hl.1 ⟨Nat.zero_le _, Nat.zero_le _⟩ (Nat.le_of_ble_eq_true rfl) dX11_wakingDays_13 (fun H locs h => ?_)
    refine lv_if_eq (pc := 16) (tgt := 28) hx hb dX11_wakingDays_16 (by decide) (fun c8 => ?_) (fun c8 => ?_)
    · have hf := if_t hf c8
      refine lv_iconst (pc := 28) (v := 0) hx hb dX11_wakingDays_28 (by decide) ?_
      refine lv_ior (pc := 29) hx hb dX11_wakingDays_29 ?_
      refine lv_istore_n (pc := 30) (lv' := [(2, .int (x1 ||| (0 : Int32))), (0, .ref (a 0)), (1, .int p1), (3, .int x2)]) hx hb dX11_wakingDays_30 rfl hl (by decide) rfl (fun ls hl => ?_)
      refine lv_iinc (pc := 31) (v := x2 + 1) (lv' := [(3, .int (x2 + 1)), (2, .int (x1 ||| (0 : Int32))), (0, .ref (a 0)), (1, .int p1)]) hx hb dX11_wakingDays_31 hl (k := 3) rfl rfl (by decide) rfl (fun ls hl => ?_)
      refine lv_goto (pc := 34) (tgt := 4) hx hb dX11_wakingDays_34 (by decide) ?_
      exact irec5 _ _ hf _ _ _ h (lv_sub hl [2, 3, 1, 0] rfl)
    · have hf := if_f hf c8
      refine lv_aload_n (pc := 19) hx hb dX11_wakingDays_19 rfl (lv_at hl 0 rfl) ?_
      refine gB_0_8 (pc := 20) hNN hx hb hts hown hK h fl_X11_66 dX11_wakingDays_20 ?_
      refine lv_iload_n (pc := 23) hx hb dX11_wakingDays_23 rfl (lv_at hl 3 rfl) ?_
      obtain ⟨hin, hf⟩ := cki_e hf
      refine gB_37 (pc := 24) hNN hx hb hK h hin dX11_wakingDays_24 ?_
      refine lv_goto (pc := 25) (tgt := 29) hx hb dX11_wakingDays_25 (by decide) ?_
      refine lv_ior (pc := 29) hx hb dX11_wakingDays_29 ?_
      refine lv_istore_n (pc := 30) (lv' := [(2, .int (x1 ||| (u.1 37 (ix x2)))), (0, .ref (a 0)), (1, .int p1), (3, .int x2)]) hx hb dX11_wakingDays_30 rfl hl (by decide) rfl (fun ls hl => ?_)
      refine lv_iinc (pc := 31) (v := x2 + 1) (lv' := [(3, .int (x2 + 1)), (2, .int (x1 ||| (u.1 37 (ix x2)))), (0, .ref (a 0)), (1, .int p1)]) hx hb dX11_wakingDays_31 hl (k := 3) rfl rfl (by decide) rfl (fun ls hl => ?_)
      refine lv_goto (pc := 34) (tgt := 4) hx hb dX11_wakingDays_34 (by decide) ?_
      exact irec5 _ _ hf _ _ _ h (lv_sub hl [2, 3, 1, 0] rfl)
theorem k_X11_wakingDays {p : Program} {l : Launch} {e : Env} {R : Room} {s : State} {m : MethodId} {args : Array Value} {below : List Frame} {meth : Method} {c : Code} {H : Heap} {locs : List Loc} {cells slots : Nat} {Q : State → Prop} {pc : Nat} {ls : Array Slot} {rest : List Value} {cc : ByteArray} {D : va_G} {cI cJ cR : ClassId} {a : Nat → Nat} {u : St} {own : String} {index nL : Nat} {N : Nat} (hNN : 38 ≤ N) {p1 : Int32} {rr : Int32} (hx : p.tables.exec = Jvm.exec) (hb : c.code = cc) (hml : c.maxLocals = nL) (hown : s.vm.findClass own = some m.cls) (hts : ∀ w ∈ Gd, w.before args s = true) (hK : va_K D vwCl (tyB cI cJ cR) s) (hN : NB s) (hc : f_X11_wakingDays u p1 = some rr) (hlk : Cond.methodLink own index yX11_wakingDays ∈ Gd) (hF : 2 ≤ R.frames) (hLo : 44 ≤ R.locals) (h : Hh D (AB N a s.heap.size) (wX N a (EB a cI cJ cR) u) s.heap H locs) (hsize : ls.size = nL) (hcs : cells ≤ R.cells ∧ slots ≤ R.slots) (hr : (rest.map fun v => v.category).sum ≤ 8) (hdg : decode cc pc = .ok (.invokevirtual index, 3)) (kk : ∀ (H1 : Heap) (locs1 : List Loc), Hh D (AB N a s.heap.size) (wX N a (EB a cI cJ cR) u) s.heap H1 locs1 → W p l e R s m args below meth c H1 locs1 cells slots Q (F0 m (pc + 3) ls (.int rr :: rest))) : W p l e R s m args below meth c H locs cells slots Q (F0 m pc ls (.int p1 :: .ref (a 0) :: rest)) :=
  cVi (n := 1) hx hb hml hown hts hK hN (c_X11_wakingDays hNN hc) (gdV hlk im_X11_wakingDays se_X11_wakingDays in_X11 co_X11_wakingDays) rfl (by decide +kernel) rfl hF hLo h hsize hcs (Nat.lt_of_lt_of_le (by decide) hNN) rfl rfl rfl hr hdg kk
def B_X11_fewestBegins_25 (p1 : Int32) (u : St) (x1 : Int32) (k4 : Int32 → Option (Int32)) (rec6 : Int32 → Int32 → Option (Int32)) (x2 : Int32) (x3 : Int32) : Option (Int32) := if x1 ≤ x3 then k4 x2 else b1 (f_J6_bitCount_0f7a4 u x3) (fun (x8 : Int32) => b1 (f_J6_bitCount_0f7a4 u x2) (fun (x9 : Int32) => jq_1 (fun (x11 : Int32) => if x11 = 0 then rec6 x2 (x3 + 1) else b1 (f_X11_wakingDays u x3) (fun (x13 : Int32) => if (p1 &&& (x13 ^^^ (-1 : Int32))) = 0 then rec6 x3 (x3 + 1) else rec6 x2 (x3 + 1))) (fun (k10 : Int32 → Option (Int32)) => if x9 ≤ x8 then k10 0 else k10 1)))
def f_X11_fewestBegins (u : St) (p1 : Int32) : Option (Int32) := bs ((1 : Int32) <<< ((mnI (u.1 10 1) 12) &&& 31)) (fun x1 : Int32 => jq_1 (fun (x5 : Int32) => some x5) (fun (k4 : Int32 → Option (Int32)) => lq_2 (B_X11_fewestBegins_25 p1 u x1 k4) FU (x1 - (1 : Int32)) 0))
set_option maxRecDepth 100000 in
set_option maxHeartbeats 4000000 in
theorem c_X11_fewestBegins {l : Launch} {D : va_G} {cI cJ cR : ClassId} {a : Nat → Nat} {u : St} {N : Nat} (hNN : 38 ≤ N) {p1 : Int32} {rr : Int32} (hf : f_X11_fewestBegins u p1 = some rr) : Ci l yX11_fewestBegins cX11_fewestBegins 6 (some .int) 2 44 D (tyB cI cJ cR) N a (EB a cI cJ cR) [.ref (a 0), .int p1] u rr u := by
  refine metI (by decide +kernel) (Nat.le_of_ble_eq_true rfl) ?_
  intro p e s m args below meth c R Q hx hb hml hown hts hF hLo hret hK hN h ls hl
  have hown : s.vm.findClass RX11 = some m.cls := hown
  have hl : lv_has ls 6 [(0, .ref (a 0)), (1, .int p1)] := hl
  unfold f_X11_fewestBegins at hf
  refine lv_iconst (pc := 0) (v := 1) hx hb dX11_fewestBegins_0 (by decide) ?_
  refine lv_aload_n (pc := 1) hx hb dX11_fewestBegins_1 rfl (lv_at hl 0 rfl) ?_
  refine gB_0_0 (pc := 2) hNN hx hb hts hown hK h fl_X11_12 dX11_fewestBegins_2 ?_
  refine gB_1_2 (pc := 5) hNN hx hb hts hown hK h fl_X11_158 dX11_fewestBegins_5 ?_
  refine gB_10_1 (pc := 8) hNN hx hb hts hown hK h fl_X11_168 dX11_fewestBegins_8 ?_
  refine lv_bipush (pc := 11) (v := 12) hx hb dX11_fewestBegins_11 (by decide) ?_
  refine rMmin (pc := 13) hx hb (hml.trans hl.1.symm) hown hts ml_X11_319 (Nat.le_trans (by decide) hF) (Nat.le_trans (by decide) hLo) (Nat.le_of_ble_eq_true rfl) ⟨Nat.zero_le _, Nat.zero_le _⟩ dX11_fewestBegins_13 ?_
  refine lv_ishl (pc := 16) hx hb dX11_fewestBegins_16 ?_
  obtain ⟨x1, ex1, hf⟩ := bs_e hf
  refine rTop ex1 ?_
  refine lv_istore_n (pc := 17) (lv' := [(2, .int x1), (0, .ref (a 0)), (1, .int p1)]) hx hb dX11_fewestBegins_17 rfl hl (by decide) rfl (fun ls hl => ?_)
  refine lv_iload_n (pc := 18) hx hb dX11_fewestBegins_18 rfl (lv_at hl 0 rfl) ?_
  refine lv_iconst (pc := 19) (v := 1) hx hb dX11_fewestBegins_19 (by decide) ?_
  refine lv_isub (pc := 20) hx hb dX11_fewestBegins_20 ?_
  refine lv_istore_n (pc := 21) (lv' := [(3, .int (x1 - (1 : Int32))), (2, .int x1), (0, .ref (a 0)), (1, .int p1)]) hx hb dX11_fewestBegins_21 rfl hl (by decide) rfl (fun ls hl => ?_)
  refine lv_iconst (pc := 22) (v := 0) hx hb dX11_fewestBegins_22 (by decide) ?_
  refine lv_istore (pc := 23) (lv' := [(4, .int 0), (3, .int (x1 - (1 : Int32))), (2, .int x1), (0, .ref (a 0)), (1, .int p1)]) hx hb dX11_fewestBegins_23 hl (by decide) rfl (fun ls hl => ?_)
  obtain ⟨k4, hk4, hf⟩ := jq_1_e hf
  have jk4 : ∀ (x5 : Int32), k4 x5 = some rr → ∀ (H : Heap) (locs : List Loc) (ls : Array Slot), Hh D (AB N a s.heap.size) (wX N a (EB a cI cJ cR) u) s.heap H locs → lv_has ls 6 [(3, .int x5)] → W p l e R s m args below meth c H locs 0 0 Q (F0 m 77 ls []) := by
    intro x5 hf H locs ls h hl
    rw [hk4] at hf
    refine lv_iload_n (pc := 77) hx hb dX11_fewestBegins_77 rfl (lv_at hl 0 rfl) ?_
    exact hret (so hf) rfl rfl dX11_fewestBegins_78 h
  refine lq_2_e (P := fun (x2 : Int32) (x3 : Int32) => ∀ (H : Heap) (locs : List Loc) (ls : Array Slot), Hh D (AB N a s.heap.size) (wX N a (EB a cI cJ cR) u) s.heap H locs → lv_has ls 6 [(0, .ref (a 0)), (1, .int p1), (2, .int x1), (3, .int x2), (4, .int x3)] → W p l e R s m args below meth c H locs 0 0 Q (F0 m 25 ls [])) ?_ FU _ _ hf _ _ _ h (lv_sub hl [3, 4, 2, 1, 0] rfl)
  intro rec6 irec6 x2 x3 hf H locs ls h hl
  unfold B_X11_fewestBegins_25 at hf
  refine lv_iload (pc := 25) hx hb dX11_fewestBegins_25 (lv_at hl 4 rfl) ?_
  refine lv_iload_n (pc := 27) hx hb dX11_fewestBegins_27 rfl (lv_at hl 2 rfl) ?_
  refine lv_icmp_ge (pc := 28) (tgt := 77) hx hb dX11_fewestBegins_28 (by decide) (fun c7 => ?_) (fun c7 => ?_)
  · have hf := if_t hf c7
    exact jk4 _ hf _ _ _ h (lv_sub hl [3] rfl)
  · have hf := if_f hf c7
    refine lv_iload (pc := 31) hx hb dX11_fewestBegins_31 (lv_at hl 4 rfl) ?_
    obtain ⟨x8, hc, hf⟩ := b1_e hf
    refine kS_J6_bitCount_0f7a4 (pc := 33) hNN hx hb hml hown hts hK hN hc ml_X11_131 (Nat.le_trans (by decide) hF) (Nat.le_trans (by decide) hLo) h hl.1 ⟨Nat.zero_le _, Nat.zero_le _⟩ (Nat.le_of_ble_eq_true rfl) dX11_fewestBegins_33 (fun H locs h => ?_)
    refine lv_iload_n (pc := 36) hx hb dX11_fewestBegins_36 rfl (lv_at hl 3 rfl) ?_
    obtain ⟨x9, hc, hf⟩ := b1_e hf
    refine kS_J6_bitCount_0f7a4 (pc := 37) hNN hx hb hml hown hts hK hN hc ml_X11_131 (Nat.le_trans (by decide) hF) (Nat.le_trans (by decide) hLo) h hl.1 ⟨Nat.zero_le _, Nat.zero_le _⟩ (Nat.le_of_ble_eq_true rfl) dX11_fewestBegins_37 (fun H locs h => ?_)
    obtain ⟨k10, hk10, hf⟩ := jq_1_e hf
    have jk10 : ∀ (x11 : Int32), k10 x11 = some rr → ∀ (H : Heap) (locs : List Loc) (ls : Array Slot), Hh D (AB N a s.heap.size) (wX N a (EB a cI cJ cR) u) s.heap H locs → lv_has ls 6 [(0, .ref (a 0)), (1, .int p1), (2, .int x1), (3, .int x2), (4, .int x3)] → W p l e R s m args below meth c H locs 0 0 Q (F0 m 48 ls [.int x11]) := by
      intro x11 hf H locs ls h hl
      rw [hk10] at hf
      refine lv_istore (pc := 48) (lv' := [(5, .int x11), (0, .ref (a 0)), (1, .int p1), (2, .int x1), (3, .int x2), (4, .int x3)]) hx hb dX11_fewestBegins_48 hl (by decide) rfl (fun ls hl => ?_)
      refine lv_iload (pc := 50) hx hb dX11_fewestBegins_50 (lv_at hl 0 rfl) ?_
      refine lv_if_eq (pc := 52) (tgt := 71) hx hb dX11_fewestBegins_52 (by decide) (fun c12 => ?_) (fun c12 => ?_)
      · have hf := if_t hf c12
        refine lv_iinc (pc := 71) (v := x3 + 1) (lv' := [(4, .int (x3 + 1)), (5, .int x11), (0, .ref (a 0)), (1, .int p1), (2, .int x1), (3, .int x2)]) hx hb dX11_fewestBegins_71 hl (k := 5) rfl rfl (by decide) rfl (fun ls hl => ?_)
        refine lv_goto (pc := 74) (tgt := 25) hx hb dX11_fewestBegins_74 (by decide) ?_
        exact irec6 _ _ hf _ _ _ h (lv_sub hl [2, 3, 4, 5, 0] rfl)
      · have hf := if_f hf c12
        refine lv_iload_n (pc := 55) hx hb dX11_fewestBegins_55 rfl (lv_at hl 2 rfl) ?_
        refine lv_aload_n (pc := 56) hx hb dX11_fewestBegins_56 rfl (lv_at hl 1 rfl) ?_
        refine lv_iload (pc := 57) hx hb dX11_fewestBegins_57 (lv_at hl 5 rfl) ?_
        obtain ⟨x13, hc, hf⟩ := b1_e hf
        refine k_X11_wakingDays (pc := 59) hNN hx hb hml hown hts hK hN hc ml_X11_324 (Nat.le_trans (by decide) hF) (Nat.le_trans (by decide) hLo) h hl.1 ⟨Nat.zero_le _, Nat.zero_le _⟩ (Nat.le_of_ble_eq_true rfl) dX11_fewestBegins_59 (fun H locs h => ?_)
        refine lv_iconst (pc := 62) (v := (-1)) hx hb dX11_fewestBegins_62 (by decide) ?_
        refine lv_ixor (pc := 63) hx hb dX11_fewestBegins_63 ?_
        refine lv_iand (pc := 64) hx hb dX11_fewestBegins_64 ?_
        refine lv_if_ne (pc := 65) (tgt := 71) hx hb dX11_fewestBegins_65 (by decide) (fun c14 => ?_) (fun c14 => ?_)
        · have hf := if_f hf c14
          refine lv_iinc (pc := 71) (v := x3 + 1) (lv' := [(4, .int (x3 + 1)), (5, .int x11), (0, .ref (a 0)), (1, .int p1), (2, .int x1), (3, .int x2)]) hx hb dX11_fewestBegins_71 hl (k := 5) rfl rfl (by decide) rfl (fun ls hl => ?_)
          refine lv_goto (pc := 74) (tgt := 25) hx hb dX11_fewestBegins_74 (by decide) ?_
          exact irec6 _ _ hf _ _ _ h (lv_sub hl [2, 3, 4, 5, 0] rfl)
        · have hf := if_t hf c14
          refine lv_iload (pc := 68) hx hb dX11_fewestBegins_68 (lv_at hl 5 rfl) ?_
          refine lv_istore_n (pc := 70) (lv' := [(3, .int x3), (5, .int x11), (0, .ref (a 0)), (1, .int p1), (2, .int x1), (4, .int x3)]) hx hb dX11_fewestBegins_70 rfl hl (by decide) rfl (fun ls hl => ?_)
          refine lv_iinc (pc := 71) (v := x3 + 1) (lv' := [(4, .int (x3 + 1)), (3, .int x3), (5, .int x11), (0, .ref (a 0)), (1, .int p1), (2, .int x1)]) hx hb dX11_fewestBegins_71 hl (k := 5) rfl rfl (by decide) rfl (fun ls hl => ?_)
          refine lv_goto (pc := 74) (tgt := 25) hx hb dX11_fewestBegins_74 (by decide) ?_
          exact irec6 _ _ hf _ _ _ h (lv_sub hl [3, 4, 5, 1, 0] rfl)
    refine lv_icmp_ge (pc := 40) (tgt := 47) hx hb dX11_fewestBegins_40 (by decide) (fun c15 => ?_) (fun c15 => ?_)
    · have hf := if_t hf c15
      refine lv_iconst (pc := 47) (v := 0) hx hb dX11_fewestBegins_47 (by decide) ?_
      exact jk10 _ hf _ _ _ h (lv_sub hl [0, 1, 2, 3, 4] rfl)
    · have hf := if_f hf c15
      refine lv_iconst (pc := 43) (v := 1) hx hb dX11_fewestBegins_43 (by decide) ?_
      refine lv_goto (pc := 44) (tgt := 48) hx hb dX11_fewestBegins_44 (by decide) ?_
      exact jk10 _ hf _ _ _ h (lv_sub hl [0, 1, 2, 3, 4] rfl)
theorem k_X11_fewestBegins {p : Program} {l : Launch} {e : Env} {R : Room} {s : State} {m : MethodId} {args : Array Value} {below : List Frame} {meth : Method} {c : Code} {H : Heap} {locs : List Loc} {cells slots : Nat} {Q : State → Prop} {pc : Nat} {ls : Array Slot} {rest : List Value} {cc : ByteArray} {D : va_G} {cI cJ cR : ClassId} {a : Nat → Nat} {u : St} {own : String} {index nL : Nat} {N : Nat} (hNN : 38 ≤ N) {p1 : Int32} {rr : Int32} (hx : p.tables.exec = Jvm.exec) (hb : c.code = cc) (hml : c.maxLocals = nL) (hown : s.vm.findClass own = some m.cls) (hts : ∀ w ∈ Gd, w.before args s = true) (hK : va_K D vwCl (tyB cI cJ cR) s) (hN : NB s) (hc : f_X11_fewestBegins u p1 = some rr) (hlk : Cond.methodLink own index yX11_fewestBegins ∈ Gd) (hF : 3 ≤ R.frames) (hLo : 69 ≤ R.locals) (h : Hh D (AB N a s.heap.size) (wX N a (EB a cI cJ cR) u) s.heap H locs) (hsize : ls.size = nL) (hcs : cells ≤ R.cells ∧ slots ≤ R.slots) (hr : (rest.map fun v => v.category).sum ≤ 8) (hdg : decode cc pc = .ok (.invokevirtual index, 3)) (kk : ∀ (H1 : Heap) (locs1 : List Loc), Hh D (AB N a s.heap.size) (wX N a (EB a cI cJ cR) u) s.heap H1 locs1 → W p l e R s m args below meth c H1 locs1 cells slots Q (F0 m (pc + 3) ls (.int rr :: rest))) : W p l e R s m args below meth c H locs cells slots Q (F0 m pc ls (.int p1 :: .ref (a 0) :: rest)) :=
  cVi (n := 1) hx hb hml hown hts hK hN (c_X11_fewestBegins hNN hc) (gdV hlk im_X11_fewestBegins se_X11_fewestBegins in_X11 co_X11_fewestBegins) rfl (by decide +kernel) rfl hF hLo h hsize hcs (Nat.lt_of_lt_of_le (by decide) hNN) rfl rfl rfl hr hdg kk
def f_X11_shifts (u : St) (p1 : Int32) (p2 : Int32) (p3 : Int32) : Option (Int32 × St) := b1 (f_X11_within u p1 0 9) (fun (x1 : Int32) => if x1 = 0 then some ((-2), u) else b1 (f_X11_within u p2 1 30) (fun (x3 : Int32) => if x3 = 0 then some ((-2), u) else b1 (f_X11_within u p3 0 1) (fun (x5 : Int32) => if x5 = 0 then some ((-2), u) else if (u.1 10 1) ≤ 12 then b1 (f_X11_fillReach u p2) (fun (u8 : St) => b1 (f_X8_daysFrom u8 p1) (fun (x9 : Int32) => b1 (f_X11_fewestBegins u8 x9) (fun (x10 : Int32) => if p3 = 0 then b1 (f_J6_bitCount_0f7a4 u8 x10) (fun (x12 : Int32) => some (x12, u8)) else some (x10, u8)))) else some ((-4), u))))
set_option maxRecDepth 100000 in
set_option maxHeartbeats 4000000 in
theorem c_X11_shifts {l : Launch} {D : va_G} {cI cJ cR : ClassId} {a : Nat → Nat} {u : St} {N : Nat} (hNN : 38 ≤ N) {p1 : Int32} {p2 : Int32} {p3 : Int32} {rr : Int32} {uu : St} (hf : f_X11_shifts u p1 p2 p3 = some (rr, uu)) : Ci l yX11_shifts cX11_shifts 5 (some .int) 3 69 D (tyB cI cJ cR) N a (EB a cI cJ cR) [.ref (a 0), .int p1, .int p2, .int p3] u rr uu := by
  refine metI (by decide +kernel) (Nat.le_of_ble_eq_true rfl) ?_
  intro p e s m args below meth c R Q hx hb hml hown hts hF hLo hret hK hN h ls hl
  have hown : s.vm.findClass RX11 = some m.cls := hown
  have hl : lv_has ls 5 [(0, .ref (a 0)), (1, .int p1), (2, .int p2), (3, .int p3)] := hl
  unfold f_X11_shifts at hf
  refine lv_iload_n (pc := 0) hx hb dX11_shifts_0 rfl (lv_at hl 1 rfl) ?_
  refine lv_iconst (pc := 1) (v := 0) hx hb dX11_shifts_1 (by decide) ?_
  refine lv_bipush (pc := 2) (v := 9) hx hb dX11_shifts_2 (by decide) ?_
  obtain ⟨x1, hc, hf⟩ := b1_e hf
  refine kS_X11_within (pc := 4) hNN hx hb hml hown hts hK hN hc ml_X11_70 (Nat.le_trans (by decide) hF) (Nat.le_trans (by decide) hLo) h hl.1 ⟨Nat.zero_le _, Nat.zero_le _⟩ (Nat.le_of_ble_eq_true rfl) dX11_shifts_4 (fun H locs h => ?_)
  refine lv_if_eq (pc := 7) (tgt := 29) hx hb dX11_shifts_7 (by decide) (fun c2 => ?_) (fun c2 => ?_)
  · have hf := if_t hf c2
    refine lv_bipush (pc := 29) (v := (-2)) hx hb dX11_shifts_29 (by decide) ?_
    exact hret (so1 hf) rfl (so2 hf) dX11_shifts_31 h
  · have hf := if_f hf c2
    refine lv_iload_n (pc := 10) hx hb dX11_shifts_10 rfl (lv_at hl 2 rfl) ?_
    refine lv_iconst (pc := 11) (v := 1) hx hb dX11_shifts_11 (by decide) ?_
    refine lv_bipush (pc := 12) (v := 30) hx hb dX11_shifts_12 (by decide) ?_
    obtain ⟨x3, hc, hf⟩ := b1_e hf
    refine kS_X11_within (pc := 14) hNN hx hb hml hown hts hK hN hc ml_X11_70 (Nat.le_trans (by decide) hF) (Nat.le_trans (by decide) hLo) h hl.1 ⟨Nat.zero_le _, Nat.zero_le _⟩ (Nat.le_of_ble_eq_true rfl) dX11_shifts_14 (fun H locs h => ?_)
    refine lv_if_eq (pc := 17) (tgt := 29) hx hb dX11_shifts_17 (by decide) (fun c4 => ?_) (fun c4 => ?_)
    · have hf := if_t hf c4
      refine lv_bipush (pc := 29) (v := (-2)) hx hb dX11_shifts_29 (by decide) ?_
      exact hret (so1 hf) rfl (so2 hf) dX11_shifts_31 h
    · have hf := if_f hf c4
      refine lv_iload_n (pc := 20) hx hb dX11_shifts_20 rfl (lv_at hl 3 rfl) ?_
      refine lv_iconst (pc := 21) (v := 0) hx hb dX11_shifts_21 (by decide) ?_
      refine lv_iconst (pc := 22) (v := 1) hx hb dX11_shifts_22 (by decide) ?_
      obtain ⟨x5, hc, hf⟩ := b1_e hf
      refine kS_X11_within (pc := 23) hNN hx hb hml hown hts hK hN hc ml_X11_70 (Nat.le_trans (by decide) hF) (Nat.le_trans (by decide) hLo) h hl.1 ⟨Nat.zero_le _, Nat.zero_le _⟩ (Nat.le_of_ble_eq_true rfl) dX11_shifts_23 (fun H locs h => ?_)
      refine lv_if_ne (pc := 26) (tgt := 32) hx hb dX11_shifts_26 (by decide) (fun c6 => ?_) (fun c6 => ?_)
      · have hf := if_f hf c6
        refine lv_aload_n (pc := 32) hx hb dX11_shifts_32 rfl (lv_at hl 0 rfl) ?_
        refine gB_0_0 (pc := 33) hNN hx hb hts hown hK h fl_X11_12 dX11_shifts_33 ?_
        refine gB_1_2 (pc := 36) hNN hx hb hts hown hK h fl_X11_158 dX11_shifts_36 ?_
        refine gB_10_1 (pc := 39) hNN hx hb hts hown hK h fl_X11_168 dX11_shifts_39 ?_
        refine lv_bipush (pc := 42) (v := 12) hx hb dX11_shifts_42 (by decide) ?_
        refine lv_icmp_le (pc := 44) (tgt := 50) hx hb dX11_shifts_44 (by decide) (fun c7 => ?_) (fun c7 => ?_)
        · have hf := if_t hf c7
          refine lv_aload_n (pc := 50) hx hb dX11_shifts_50 rfl (lv_at hl 0 rfl) ?_
          refine lv_iload_n (pc := 51) hx hb dX11_shifts_51 rfl (lv_at hl 2 rfl) ?_
          obtain ⟨u8, hc, hf⟩ := b1_e hf
          refine k_X11_fillReach (pc := 52) hNN hx hb hml hown hts hK hN hc ml_X11_310 (Nat.le_trans (by decide) hF) (Nat.le_trans (by decide) hLo) h hl.1 ⟨Nat.zero_le _, Nat.zero_le _⟩ (Nat.le_of_ble_eq_true rfl) dX11_shifts_52 (fun H locs h => ?_)
          refine lv_aload_n (pc := 55) hx hb dX11_shifts_55 rfl (lv_at hl 0 rfl) ?_
          refine lv_aload_n (pc := 56) hx hb dX11_shifts_56 rfl (lv_at hl 0 rfl) ?_
          refine gB_0_0 (pc := 57) hNN hx hb hts hown hK h fl_X11_12 dX11_shifts_57 ?_
          refine gB_1_2 (pc := 60) hNN hx hb hts hown hK h fl_X11_158 dX11_shifts_60 ?_
          refine lv_iload_n (pc := 63) hx hb dX11_shifts_63 rfl (lv_at hl 1 rfl) ?_
          obtain ⟨x9, hc, hf⟩ := b1_e hf
          refine k_X8_daysFrom (pc := 64) hNN hx hb hml hown hts hK hN hc ml_X11_313 (Nat.le_trans (by decide) hF) (Nat.le_trans (by decide) hLo) h hl.1 ⟨Nat.zero_le _, Nat.zero_le _⟩ (Nat.le_of_ble_eq_true rfl) dX11_shifts_64 (fun H locs h => ?_)
          obtain ⟨x10, hc, hf⟩ := b1_e hf
          refine k_X11_fewestBegins (pc := 67) hNN hx hb hml hown hts hK hN hc ml_X11_316 (Nat.le_trans (by decide) hF) (Nat.le_trans (by decide) hLo) h hl.1 ⟨Nat.zero_le _, Nat.zero_le _⟩ (Nat.le_of_ble_eq_true rfl) dX11_shifts_67 (fun H locs h => ?_)
          refine lv_istore (pc := 70) (lv' := [(4, .int x10), (0, .ref (a 0)), (1, .int p1), (2, .int p2), (3, .int p3)]) hx hb dX11_shifts_70 hl (by decide) rfl (fun ls hl => ?_)
          refine lv_iload_n (pc := 72) hx hb dX11_shifts_72 rfl (lv_at hl 4 rfl) ?_
          refine lv_if_ne (pc := 73) (tgt := 84) hx hb dX11_shifts_73 (by decide) (fun c11 => ?_) (fun c11 => ?_)
          · have hf := if_f hf c11
            refine lv_iload (pc := 84) hx hb dX11_shifts_84 (lv_at hl 0 rfl) ?_
            exact hret (so1 hf) rfl (so2 hf) dX11_shifts_86 h
          · have hf := if_t hf c11
            refine lv_iload (pc := 76) hx hb dX11_shifts_76 (lv_at hl 0 rfl) ?_
            obtain ⟨x12, hc, hf⟩ := b1_e hf
            refine kS_J6_bitCount_0f7a4 (pc := 78) hNN hx hb hml hown hts hK hN hc ml_X11_131 (Nat.le_trans (by decide) hF) (Nat.le_trans (by decide) hLo) h hl.1 ⟨Nat.zero_le _, Nat.zero_le _⟩ (Nat.le_of_ble_eq_true rfl) dX11_shifts_78 (fun H locs h => ?_)
            refine lv_goto (pc := 81) (tgt := 86) hx hb dX11_shifts_81 (by decide) ?_
            exact hret (so1 hf) rfl (so2 hf) dX11_shifts_86 h
        · have hf := if_f hf c7
          refine lv_bipush (pc := 47) (v := (-4)) hx hb dX11_shifts_47 (by decide) ?_
          exact hret (so1 hf) rfl (so2 hf) dX11_shifts_49 h
      · have hf := if_t hf c6
        refine lv_bipush (pc := 29) (v := (-2)) hx hb dX11_shifts_29 (by decide) ?_
        exact hret (so1 hf) rfl (so2 hf) dX11_shifts_31 h
theorem k_X11_shifts {p : Program} {l : Launch} {e : Env} {R : Room} {s : State} {m : MethodId} {args : Array Value} {below : List Frame} {meth : Method} {c : Code} {H : Heap} {locs : List Loc} {cells slots : Nat} {Q : State → Prop} {pc : Nat} {ls : Array Slot} {rest : List Value} {cc : ByteArray} {D : va_G} {cI cJ cR : ClassId} {a : Nat → Nat} {u : St} {own : String} {index nL : Nat} {N : Nat} (hNN : 38 ≤ N) {p1 : Int32} {p2 : Int32} {p3 : Int32} {rr : Int32} {uu : St} (hx : p.tables.exec = Jvm.exec) (hb : c.code = cc) (hml : c.maxLocals = nL) (hown : s.vm.findClass own = some m.cls) (hts : ∀ w ∈ Gd, w.before args s = true) (hK : va_K D vwCl (tyB cI cJ cR) s) (hN : NB s) (hc : f_X11_shifts u p1 p2 p3 = some (rr, uu)) (hlk : Cond.methodLink own index yX11_shifts ∈ Gd) (hF : 4 ≤ R.frames) (hLo : 93 ≤ R.locals) (h : Hh D (AB N a s.heap.size) (wX N a (EB a cI cJ cR) u) s.heap H locs) (hsize : ls.size = nL) (hcs : cells ≤ R.cells ∧ slots ≤ R.slots) (hr : (rest.map fun v => v.category).sum ≤ 8) (hdg : decode cc pc = .ok (.invokevirtual index, 3)) (kk : ∀ (H1 : Heap) (locs1 : List Loc), Hh D (AB N a s.heap.size) (wX N a (EB a cI cJ cR) uu) s.heap H1 locs1 → W p l e R s m args below meth c H1 locs1 cells slots Q (F0 m (pc + 3) ls (.int rr :: rest))) : W p l e R s m args below meth c H locs cells slots Q (F0 m pc ls (.int p3 :: .int p2 :: .int p1 :: .ref (a 0) :: rest)) :=
  cVi (n := 3) hx hb hml hown hts hK hN (c_X11_shifts hNN hc) (gdV hlk im_X11_shifts se_X11_shifts in_X11 co_X11_shifts) rfl (by decide +kernel) rfl hF hLo h hsize hcs (Nat.lt_of_lt_of_le (by decide) hNN) rfl rfl rfl hr hdg kk
