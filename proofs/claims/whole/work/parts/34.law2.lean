set_option maxRecDepth 100000 in
set_option maxHeartbeats 4000000 in
theorem law_value {p : Program} {l : Launch} {e : Env} {s : State} {m : MethodId} {below : List Frame} {meth : Method} {c : Code} {D : va_G} {cI cJ cR cZ : ClassId} {bS L : Nat} {xs : Nat → Int32} {tF tL tM : Nat} {I : Nat → St → St → Prop} {Q : State → Prop} (X0 : LCX p s m c D cI cJ cR cZ bS L xs tF tL tM) (hIN : Sp_N I) (hI : Sp_value I) {j : Nat} (hj : j ≤ 64) {x3 : Int32} (hin1 : vp_in (x3 + 1) L) (hin2 : vp_in (x3 + 2) L) (hin3 : vp_in (x3 + 3) L) (hin4 : vp_in (x3 + 4) L) (hin5 : vp_in (x3 + 5) L) {b : Nat → Nat} (hnext : ∀ (N : Nat) (a : Nat → Nat) (u μ : St), I N u μ → ∀ (H : Heap) (locs : List Loc) (ls : Array Slot), Hh D (fun q => s.heap.size ≤ q) (wX N a (EB a cI cJ cR) u ++ wX 21 b (EM b cI cZ) μ) s.heap H locs → lv_has ls 4 [(0, .ref bS), (1, .ref (a 0)), (2, .ref (b 0)), (3, .int x3)] → W p l e room_1 s m #[Value.ref bS] below meth c H locs (100 + 16 * (j + 1)) (2000 + 119 * (j + 1)) Q (F0 m 1302 ls [])) {N : Nat} {a : Nat → Nat} {u μ : St} (hi : I N u μ) {H : Heap} {locs : List Loc} {ls : Array Slot} (h : Hh D (fun q => s.heap.size ≤ q) (wX N a (EB a cI cJ cR) u ++ wX 21 b (EM b cI cZ) μ) s.heap H locs) (hl : lv_has ls 4 [(0, .ref bS), (1, .ref (a 0)), (2, .ref (b 0)), (3, .int x3)]) : W p l e room_1 s m #[Value.ref bS] below meth c H locs (100 + 16 * j) (2000 + 119 * j) Q (F0 m 753 ls []) := by
  obtain ⟨hx, hb, hml, hown, hts, hKL, hN, hW0, hZ, hX, hbl⟩ := X0
  have hK : va_K D vwCl (tyB cI cJ cR) s := hKL.sub [0, 1, 2] rfl
  have hKm : va_K D vwCl (tyM cI cZ) s := hKL.sub [0, 3] rfl
  have hA : ∀ q : Nat, s.heap.size ≤ q → (fun q : Nat => s.heap.size ≤ q) q := fun _ h9 => h9
  have hbA : ¬ (fun q : Nat => s.heap.size ≤ q) bS := Nat.not_le.mpr hbl
  obtain ⟨hNN, hqA, hqB⟩ := hIN N u μ hi
  obtain ⟨y1, ey1⟩ : ∃ y : Int32, y = xs (x3 + 1).toNatClampNeg := ⟨_, rfl⟩
  obtain ⟨y2, ey2⟩ : ∃ y : Int32, y = xs (x3 + 2).toNatClampNeg := ⟨_, rfl⟩
  obtain ⟨r, u2, hf1, hf2, hi2⟩ := hI N u μ y1 y2 hi
  refine lv_aload_n (pc := 753) hx hb dL_law_753 rfl (lv_at hl 1 rfl) ?_
  refine lv_aload_n (pc := 754) hx hb dL_law_754 rfl (lv_at hl 0 rfl) ?_
  refine lv_iload_n (pc := 755) hx hb dL_law_755 rfl (lv_at hl 3 rfl) ?_
  refine lv_iconst (pc := 756) (v := 1) hx hb dL_law_756 (by decide) ?_
  refine lv_iadd (pc := 757) hx hb dL_law_757 ?_
  refine va_sld (pc := 758) hx hb hX hbl hbA h.2.2 hin1 dL_law_758 ?_
  refine rTop ey1 ?_
  refine lv_aload_n (pc := 759) hx hb dL_law_759 rfl (lv_at hl 0 rfl) ?_
  refine lv_iload_n (pc := 760) hx hb dL_law_760 rfl (lv_at hl 3 rfl) ?_
  refine lv_iconst (pc := 761) (v := 2) hx hb dL_law_761 (by decide) ?_
  refine lv_iadd (pc := 762) hx hb dL_law_762 ?_
  refine va_sld (pc := 763) hx hb hX hbl hbA h.2.2 hin2 dL_law_763 ?_
  refine rTop ey2 ?_
  refine lLi (pc := 764) (n := 2) hx hb hml hown hts hK hN (c_X11_value hNN hf1) (gdV ml_L_95 im_X11_value se_X11_value in_X11 co_X11_value) rfl (by decide +kernel) rfl (Nat.le_of_ble_eq_true rfl) (Nat.le_of_ble_eq_true rfl) h hA hl.1 ⟨show 100 + 16 * j ≤ 600000 by omega, show 2000 + 119 * j ≤ 7302250 by omega⟩ (Nat.lt_of_lt_of_le (by decide) hNN) rfl rfl rfl (Nat.le_of_ble_eq_true rfl) dL_law_764 (fun H locs h => ?_)
  refine lv_aload_n (pc := 767) hx hb dL_law_767 rfl (lv_at hl 2 rfl) ?_
  refine lv_aload_n (pc := 768) hx hb dL_law_768 rfl (lv_at hl 0 rfl) ?_
  refine lv_iload_n (pc := 769) hx hb dL_law_769 rfl (lv_at hl 3 rfl) ?_
  refine lv_iconst (pc := 770) (v := 1) hx hb dL_law_770 (by decide) ?_
  refine lv_iadd (pc := 771) hx hb dL_law_771 ?_
  refine va_sld (pc := 772) hx hb hX hbl hbA h.2.2 hin1 dL_law_772 ?_
  refine rTop ey1 ?_
  refine lv_aload_n (pc := 773) hx hb dL_law_773 rfl (lv_at hl 0 rfl) ?_
  refine lv_iload_n (pc := 774) hx hb dL_law_774 rfl (lv_at hl 3 rfl) ?_
  refine lv_iconst (pc := 775) (v := 2) hx hb dL_law_775 (by decide) ?_
  refine lv_iadd (pc := 776) hx hb dL_law_776 ?_
  refine va_sld (pc := 777) hx hb hX hbl hbA h.2.2 hin2 dL_law_777 ?_
  refine rTop ey2 ?_
  refine lRi (pc := 778) (n := 2) (rest := [.int r]) hx hb hml hown hts hKm hN (c_X12_value hf2) (gdV ml_L_98 im_X12_value se_X12_value in_X12 co_X12_value) rfl (by decide +kernel) rfl (Nat.le_of_ble_eq_true rfl) (Nat.le_of_ble_eq_true rfl) h hA hl.1 ⟨show 100 + 16 * j ≤ 600000 by omega, show 2000 + 119 * j ≤ 7302250 by omega⟩ (by decide) rfl rfl rfl (Nat.le_of_ble_eq_true rfl) dL_law_778 (fun H locs h => ?_)
  refine lv_icmp_eq (pc := 781) (tgt := 1302) hx hb dL_law_781 (by decide) (fun _ => ?_) (fun h9 => absurd rfl h9)
  refine W.widen (k := 100 + 16 * (j + 1)) (n := 2000 + 119 * (j + 1)) (by omega) (by omega) ?_
  exact hnext _ _ _ _ hi2 _ _ _ h hl
set_option maxRecDepth 100000 in
set_option maxHeartbeats 4000000 in
theorem law_opening {p : Program} {l : Launch} {e : Env} {s : State} {m : MethodId} {below : List Frame} {meth : Method} {c : Code} {D : va_G} {cI cJ cR cZ : ClassId} {bS L : Nat} {xs : Nat → Int32} {tF tL tM : Nat} {I : Nat → St → St → Prop} {Q : State → Prop} (X0 : LCX p s m c D cI cJ cR cZ bS L xs tF tL tM) (hIN : Sp_N I) (hI : Sp_opening I) {j : Nat} (hj : j ≤ 64) {x3 : Int32} (hin1 : vp_in (x3 + 1) L) (hin2 : vp_in (x3 + 2) L) (hin3 : vp_in (x3 + 3) L) (hin4 : vp_in (x3 + 4) L) (hin5 : vp_in (x3 + 5) L) {b : Nat → Nat} (hnext : ∀ (N : Nat) (a : Nat → Nat) (u μ : St), I N u μ → ∀ (H : Heap) (locs : List Loc) (ls : Array Slot), Hh D (fun q => s.heap.size ≤ q) (wX N a (EB a cI cJ cR) u ++ wX 21 b (EM b cI cZ) μ) s.heap H locs → lv_has ls 4 [(0, .ref bS), (1, .ref (a 0)), (2, .ref (b 0)), (3, .int x3)] → W p l e room_1 s m #[Value.ref bS] below meth c H locs (100 + 16 * (j + 1)) (2000 + 119 * (j + 1)) Q (F0 m 1302 ls [])) {N : Nat} {a : Nat → Nat} {u μ : St} (hi : I N u μ) {H : Heap} {locs : List Loc} {ls : Array Slot} (h : Hh D (fun q => s.heap.size ≤ q) (wX N a (EB a cI cJ cR) u ++ wX 21 b (EM b cI cZ) μ) s.heap H locs) (hl : lv_has ls 4 [(0, .ref bS), (1, .ref (a 0)), (2, .ref (b 0)), (3, .int x3)]) : W p l e room_1 s m #[Value.ref bS] below meth c H locs (100 + 16 * j) (2000 + 119 * j) Q (F0 m 786 ls []) := by
  obtain ⟨hx, hb, hml, hown, hts, hKL, hN, hW0, hZ, hX, hbl⟩ := X0
  have hK : va_K D vwCl (tyB cI cJ cR) s := hKL.sub [0, 1, 2] rfl
  have hKm : va_K D vwCl (tyM cI cZ) s := hKL.sub [0, 3] rfl
  have hA : ∀ q : Nat, s.heap.size ≤ q → (fun q : Nat => s.heap.size ≤ q) q := fun _ h9 => h9
  have hbA : ¬ (fun q : Nat => s.heap.size ≤ q) bS := Nat.not_le.mpr hbl
  obtain ⟨hNN, hqA, hqB⟩ := hIN N u μ hi
  obtain ⟨y1, ey1⟩ : ∃ y : Int32, y = xs (x3 + 1).toNatClampNeg := ⟨_, rfl⟩
  obtain ⟨y2, ey2⟩ : ∃ y : Int32, y = xs (x3 + 2).toNatClampNeg := ⟨_, rfl⟩
  obtain ⟨r, u2, hf1, hf2, hi2⟩ := hI N u μ y1 y2 hi
  refine lv_aload_n (pc := 786) hx hb dL_law_786 rfl (lv_at hl 1 rfl) ?_
  refine lv_aload_n (pc := 787) hx hb dL_law_787 rfl (lv_at hl 0 rfl) ?_
  refine lv_iload_n (pc := 788) hx hb dL_law_788 rfl (lv_at hl 3 rfl) ?_
  refine lv_iconst (pc := 789) (v := 1) hx hb dL_law_789 (by decide) ?_
  refine lv_iadd (pc := 790) hx hb dL_law_790 ?_
  refine va_sld (pc := 791) hx hb hX hbl hbA h.2.2 hin1 dL_law_791 ?_
  refine rTop ey1 ?_
  refine lv_aload_n (pc := 792) hx hb dL_law_792 rfl (lv_at hl 0 rfl) ?_
  refine lv_iload_n (pc := 793) hx hb dL_law_793 rfl (lv_at hl 3 rfl) ?_
  refine lv_iconst (pc := 794) (v := 2) hx hb dL_law_794 (by decide) ?_
  refine lv_iadd (pc := 795) hx hb dL_law_795 ?_
  refine va_sld (pc := 796) hx hb hX hbl hbA h.2.2 hin2 dL_law_796 ?_
  refine rTop ey2 ?_
  refine lLi (pc := 797) (n := 2) hx hb hml hown hts hK hN (c_X11_opening hNN hf1) (gdV ml_L_99 im_X11_opening se_X11_opening in_X11 co_X11_opening) rfl (by decide +kernel) rfl (Nat.le_of_ble_eq_true rfl) (Nat.le_of_ble_eq_true rfl) h hA hl.1 ⟨show 100 + 16 * j ≤ 600000 by omega, show 2000 + 119 * j ≤ 7302250 by omega⟩ (Nat.lt_of_lt_of_le (by decide) hNN) rfl rfl rfl (Nat.le_of_ble_eq_true rfl) dL_law_797 (fun H locs h => ?_)
  refine lv_aload_n (pc := 800) hx hb dL_law_800 rfl (lv_at hl 2 rfl) ?_
  refine lv_aload_n (pc := 801) hx hb dL_law_801 rfl (lv_at hl 0 rfl) ?_
  refine lv_iload_n (pc := 802) hx hb dL_law_802 rfl (lv_at hl 3 rfl) ?_
  refine lv_iconst (pc := 803) (v := 1) hx hb dL_law_803 (by decide) ?_
  refine lv_iadd (pc := 804) hx hb dL_law_804 ?_
  refine va_sld (pc := 805) hx hb hX hbl hbA h.2.2 hin1 dL_law_805 ?_
  refine rTop ey1 ?_
  refine lv_aload_n (pc := 806) hx hb dL_law_806 rfl (lv_at hl 0 rfl) ?_
  refine lv_iload_n (pc := 807) hx hb dL_law_807 rfl (lv_at hl 3 rfl) ?_
  refine lv_iconst (pc := 808) (v := 2) hx hb dL_law_808 (by decide) ?_
  refine lv_iadd (pc := 809) hx hb dL_law_809 ?_
  refine va_sld (pc := 810) hx hb hX hbl hbA h.2.2 hin2 dL_law_810 ?_
  refine rTop ey2 ?_
  refine lRi (pc := 811) (n := 2) (rest := [.int r]) hx hb hml hown hts hKm hN (c_X12_opening hf2) (gdV ml_L_102 im_X12_opening se_X12_opening in_X12 co_X12_opening) rfl (by decide +kernel) rfl (Nat.le_of_ble_eq_true rfl) (Nat.le_of_ble_eq_true rfl) h hA hl.1 ⟨show 100 + 16 * j ≤ 600000 by omega, show 2000 + 119 * j ≤ 7302250 by omega⟩ (by decide) rfl rfl rfl (Nat.le_of_ble_eq_true rfl) dL_law_811 (fun H locs h => ?_)
  refine lv_icmp_eq (pc := 814) (tgt := 1302) hx hb dL_law_814 (by decide) (fun _ => ?_) (fun h9 => absurd rfl h9)
  refine W.widen (k := 100 + 16 * (j + 1)) (n := 2000 + 119 * (j + 1)) (by omega) (by omega) ?_
  exact hnext _ _ _ _ hi2 _ _ _ h hl
set_option maxRecDepth 100000 in
set_option maxHeartbeats 4000000 in
theorem law_banquet {p : Program} {l : Launch} {e : Env} {s : State} {m : MethodId} {below : List Frame} {meth : Method} {c : Code} {D : va_G} {cI cJ cR cZ : ClassId} {bS L : Nat} {xs : Nat → Int32} {tF tL tM : Nat} {I : Nat → St → St → Prop} {Q : State → Prop} (X0 : LCX p s m c D cI cJ cR cZ bS L xs tF tL tM) (hIN : Sp_N I) (hI : Sp_banquet I) {j : Nat} (hj : j ≤ 64) {x3 : Int32} (hin1 : vp_in (x3 + 1) L) (hin2 : vp_in (x3 + 2) L) (hin3 : vp_in (x3 + 3) L) (hin4 : vp_in (x3 + 4) L) (hin5 : vp_in (x3 + 5) L) {b : Nat → Nat} (hnext : ∀ (N : Nat) (a : Nat → Nat) (u μ : St), I N u μ → ∀ (H : Heap) (locs : List Loc) (ls : Array Slot), Hh D (fun q => s.heap.size ≤ q) (wX N a (EB a cI cJ cR) u ++ wX 21 b (EM b cI cZ) μ) s.heap H locs → lv_has ls 4 [(0, .ref bS), (1, .ref (a 0)), (2, .ref (b 0)), (3, .int x3)] → W p l e room_1 s m #[Value.ref bS] below meth c H locs (100 + 16 * (j + 1)) (2000 + 119 * (j + 1)) Q (F0 m 1302 ls [])) {N : Nat} {a : Nat → Nat} {u μ : St} (hi : I N u μ) {H : Heap} {locs : List Loc} {ls : Array Slot} (h : Hh D (fun q => s.heap.size ≤ q) (wX N a (EB a cI cJ cR) u ++ wX 21 b (EM b cI cZ) μ) s.heap H locs) (hl : lv_has ls 4 [(0, .ref bS), (1, .ref (a 0)), (2, .ref (b 0)), (3, .int x3)]) : W p l e room_1 s m #[Value.ref bS] below meth c H locs (100 + 16 * j) (2000 + 119 * j) Q (F0 m 819 ls []) := by
  obtain ⟨hx, hb, hml, hown, hts, hKL, hN, hW0, hZ, hX, hbl⟩ := X0
  have hK : va_K D vwCl (tyB cI cJ cR) s := hKL.sub [0, 1, 2] rfl
  have hKm : va_K D vwCl (tyM cI cZ) s := hKL.sub [0, 3] rfl
  have hA : ∀ q : Nat, s.heap.size ≤ q → (fun q : Nat => s.heap.size ≤ q) q := fun _ h9 => h9
  have hbA : ¬ (fun q : Nat => s.heap.size ≤ q) bS := Nat.not_le.mpr hbl
  obtain ⟨hNN, hqA, hqB⟩ := hIN N u μ hi
  obtain ⟨y1, ey1⟩ : ∃ y : Int32, y = xs (x3 + 1).toNatClampNeg := ⟨_, rfl⟩
  obtain ⟨r, u2, hf1, hf2, hi2⟩ := hI N u μ y1 hi
  refine lv_aload_n (pc := 819) hx hb dL_law_819 rfl (lv_at hl 1 rfl) ?_
  refine lv_aload_n (pc := 820) hx hb dL_law_820 rfl (lv_at hl 0 rfl) ?_
  refine lv_iload_n (pc := 821) hx hb dL_law_821 rfl (lv_at hl 3 rfl) ?_
  refine lv_iconst (pc := 822) (v := 1) hx hb dL_law_822 (by decide) ?_
  refine lv_iadd (pc := 823) hx hb dL_law_823 ?_
  refine va_sld (pc := 824) hx hb hX hbl hbA h.2.2 hin1 dL_law_824 ?_
  refine rTop ey1 ?_
  refine lLi (pc := 825) (n := 1) hx hb hml hown hts hK hN (c_X11_banquet hNN hf1) (gdV ml_L_103 im_X11_banquet se_X11_banquet in_X11 co_X11_banquet) rfl (by decide +kernel) rfl (Nat.le_of_ble_eq_true rfl) (Nat.le_of_ble_eq_true rfl) h hA hl.1 ⟨show 100 + 16 * j ≤ 600000 by omega, show 2000 + 119 * j ≤ 7302250 by omega⟩ (Nat.lt_of_lt_of_le (by decide) hNN) rfl rfl rfl (Nat.le_of_ble_eq_true rfl) dL_law_825 (fun H locs h => ?_)
  refine lv_aload_n (pc := 828) hx hb dL_law_828 rfl (lv_at hl 2 rfl) ?_
  refine lv_aload_n (pc := 829) hx hb dL_law_829 rfl (lv_at hl 0 rfl) ?_
  refine lv_iload_n (pc := 830) hx hb dL_law_830 rfl (lv_at hl 3 rfl) ?_
  refine lv_iconst (pc := 831) (v := 1) hx hb dL_law_831 (by decide) ?_
  refine lv_iadd (pc := 832) hx hb dL_law_832 ?_
  refine va_sld (pc := 833) hx hb hX hbl hbA h.2.2 hin1 dL_law_833 ?_
  refine rTop ey1 ?_
  refine lRi (pc := 834) (n := 1) (rest := [.int r]) hx hb hml hown hts hKm hN (c_X12_banquet hf2) (gdV ml_L_106 im_X12_banquet se_X12_banquet in_X12 co_X12_banquet) rfl (by decide +kernel) rfl (Nat.le_of_ble_eq_true rfl) (Nat.le_of_ble_eq_true rfl) h hA hl.1 ⟨show 100 + 16 * j ≤ 600000 by omega, show 2000 + 119 * j ≤ 7302250 by omega⟩ (by decide) rfl rfl rfl (Nat.le_of_ble_eq_true rfl) dL_law_834 (fun H locs h => ?_)
  refine lv_icmp_eq (pc := 837) (tgt := 1302) hx hb dL_law_837 (by decide) (fun _ => ?_) (fun h9 => absurd rfl h9)
  refine W.widen (k := 100 + 16 * (j + 1)) (n := 2000 + 119 * (j + 1)) (by omega) (by omega) ?_
  exact hnext _ _ _ _ hi2 _ _ _ h hl
set_option maxRecDepth 100000 in
set_option maxHeartbeats 4000000 in
theorem law_poured {p : Program} {l : Launch} {e : Env} {s : State} {m : MethodId} {below : List Frame} {meth : Method} {c : Code} {D : va_G} {cI cJ cR cZ : ClassId} {bS L : Nat} {xs : Nat → Int32} {tF tL tM : Nat} {I : Nat → St → St → Prop} {Q : State → Prop} (X0 : LCX p s m c D cI cJ cR cZ bS L xs tF tL tM) (hIN : Sp_N I) (hI : Sp_poured I) {j : Nat} (hj : j ≤ 64) {x3 : Int32} (hin1 : vp_in (x3 + 1) L) (hin2 : vp_in (x3 + 2) L) (hin3 : vp_in (x3 + 3) L) (hin4 : vp_in (x3 + 4) L) (hin5 : vp_in (x3 + 5) L) {b : Nat → Nat} (hnext : ∀ (N : Nat) (a : Nat → Nat) (u μ : St), I N u μ → ∀ (H : Heap) (locs : List Loc) (ls : Array Slot), Hh D (fun q => s.heap.size ≤ q) (wX N a (EB a cI cJ cR) u ++ wX 21 b (EM b cI cZ) μ) s.heap H locs → lv_has ls 4 [(0, .ref bS), (1, .ref (a 0)), (2, .ref (b 0)), (3, .int x3)] → W p l e room_1 s m #[Value.ref bS] below meth c H locs (100 + 16 * (j + 1)) (2000 + 119 * (j + 1)) Q (F0 m 1302 ls [])) {N : Nat} {a : Nat → Nat} {u μ : St} (hi : I N u μ) {H : Heap} {locs : List Loc} {ls : Array Slot} (h : Hh D (fun q => s.heap.size ≤ q) (wX N a (EB a cI cJ cR) u ++ wX 21 b (EM b cI cZ) μ) s.heap H locs) (hl : lv_has ls 4 [(0, .ref bS), (1, .ref (a 0)), (2, .ref (b 0)), (3, .int x3)]) : W p l e room_1 s m #[Value.ref bS] below meth c H locs (100 + 16 * j) (2000 + 119 * j) Q (F0 m 842 ls []) := by
  obtain ⟨hx, hb, hml, hown, hts, hKL, hN, hW0, hZ, hX, hbl⟩ := X0
  have hK : va_K D vwCl (tyB cI cJ cR) s := hKL.sub [0, 1, 2] rfl
  have hKm : va_K D vwCl (tyM cI cZ) s := hKL.sub [0, 3] rfl
  have hA : ∀ q : Nat, s.heap.size ≤ q → (fun q : Nat => s.heap.size ≤ q) q := fun _ h9 => h9
  have hbA : ¬ (fun q : Nat => s.heap.size ≤ q) bS := Nat.not_le.mpr hbl
  obtain ⟨hNN, hqA, hqB⟩ := hIN N u μ hi
  obtain ⟨y1, ey1⟩ : ∃ y : Int32, y = xs (x3 + 1).toNatClampNeg := ⟨_, rfl⟩
  obtain ⟨y2, ey2⟩ : ∃ y : Int32, y = xs (x3 + 2).toNatClampNeg := ⟨_, rfl⟩
  obtain ⟨r, u2, μ2, hf1, hf2, hi2⟩ := hI N u μ y1 y2 hi
  refine lv_aload_n (pc := 842) hx hb dL_law_842 rfl (lv_at hl 1 rfl) ?_
  refine lv_aload_n (pc := 843) hx hb dL_law_843 rfl (lv_at hl 0 rfl) ?_
  refine lv_iload_n (pc := 844) hx hb dL_law_844 rfl (lv_at hl 3 rfl) ?_
  refine lv_iconst (pc := 845) (v := 1) hx hb dL_law_845 (by decide) ?_
  refine lv_iadd (pc := 846) hx hb dL_law_846 ?_
  refine va_sld (pc := 847) hx hb hX hbl hbA h.2.2 hin1 dL_law_847 ?_
  refine rTop ey1 ?_
  refine lv_aload_n (pc := 848) hx hb dL_law_848 rfl (lv_at hl 0 rfl) ?_
  refine lv_iload_n (pc := 849) hx hb dL_law_849 rfl (lv_at hl 3 rfl) ?_
  refine lv_iconst (pc := 850) (v := 2) hx hb dL_law_850 (by decide) ?_
  refine lv_iadd (pc := 851) hx hb dL_law_851 ?_
  refine va_sld (pc := 852) hx hb hX hbl hbA h.2.2 hin2 dL_law_852 ?_
  refine rTop ey2 ?_
  refine lLi (pc := 853) (n := 2) hx hb hml hown hts hK hN (c_X11_poured hNN hf1) (gdV ml_L_107 im_X11_poured se_X11_poured in_X11 co_X11_poured) rfl (by decide +kernel) rfl (Nat.le_of_ble_eq_true rfl) (Nat.le_of_ble_eq_true rfl) h hA hl.1 ⟨show 100 + 16 * j ≤ 600000 by omega, show 2000 + 119 * j ≤ 7302250 by omega⟩ (Nat.lt_of_lt_of_le (by decide) hNN) rfl rfl rfl (Nat.le_of_ble_eq_true rfl) dL_law_853 (fun H locs h => ?_)
  refine lv_aload_n (pc := 856) hx hb dL_law_856 rfl (lv_at hl 2 rfl) ?_
  refine lv_aload_n (pc := 857) hx hb dL_law_857 rfl (lv_at hl 0 rfl) ?_
  refine lv_iload_n (pc := 858) hx hb dL_law_858 rfl (lv_at hl 3 rfl) ?_
  refine lv_iconst (pc := 859) (v := 1) hx hb dL_law_859 (by decide) ?_
  refine lv_iadd (pc := 860) hx hb dL_law_860 ?_
  refine va_sld (pc := 861) hx hb hX hbl hbA h.2.2 hin1 dL_law_861 ?_
  refine rTop ey1 ?_
  refine lv_aload_n (pc := 862) hx hb dL_law_862 rfl (lv_at hl 0 rfl) ?_
  refine lv_iload_n (pc := 863) hx hb dL_law_863 rfl (lv_at hl 3 rfl) ?_
  refine lv_iconst (pc := 864) (v := 2) hx hb dL_law_864 (by decide) ?_
  refine lv_iadd (pc := 865) hx hb dL_law_865 ?_
  refine va_sld (pc := 866) hx hb hX hbl hbA h.2.2 hin2 dL_law_866 ?_
  refine rTop ey2 ?_
  refine lRi (pc := 867) (n := 2) (rest := [.int r]) hx hb hml hown hts hKm hN (c_X12_poured hf2) (gdV ml_L_110 im_X12_poured se_X12_poured in_X12 co_X12_poured) rfl (by decide +kernel) rfl (Nat.le_of_ble_eq_true rfl) (Nat.le_of_ble_eq_true rfl) h hA hl.1 ⟨show 100 + 16 * j ≤ 600000 by omega, show 2000 + 119 * j ≤ 7302250 by omega⟩ (by decide) rfl rfl rfl (Nat.le_of_ble_eq_true rfl) dL_law_867 (fun H locs h => ?_)
  refine lv_icmp_eq (pc := 870) (tgt := 1302) hx hb dL_law_870 (by decide) (fun _ => ?_) (fun h9 => absurd rfl h9)
  refine W.widen (k := 100 + 16 * (j + 1)) (n := 2000 + 119 * (j + 1)) (by omega) (by omega) ?_
  exact hnext _ _ _ _ hi2 _ _ _ h hl
set_option maxRecDepth 100000 in
set_option maxHeartbeats 4000000 in
theorem law_likely {p : Program} {l : Launch} {e : Env} {s : State} {m : MethodId} {below : List Frame} {meth : Method} {c : Code} {D : va_G} {cI cJ cR cZ : ClassId} {bS L : Nat} {xs : Nat → Int32} {tF tL tM : Nat} {I : Nat → St → St → Prop} {Q : State → Prop} (X0 : LCX p s m c D cI cJ cR cZ bS L xs tF tL tM) (hIN : Sp_N I) (hI : Sp_likely I) {j : Nat} (hj : j ≤ 64) {x3 : Int32} (hin1 : vp_in (x3 + 1) L) (hin2 : vp_in (x3 + 2) L) (hin3 : vp_in (x3 + 3) L) (hin4 : vp_in (x3 + 4) L) (hin5 : vp_in (x3 + 5) L) {b : Nat → Nat} (hnext : ∀ (N : Nat) (a : Nat → Nat) (u μ : St), I N u μ → ∀ (H : Heap) (locs : List Loc) (ls : Array Slot), Hh D (fun q => s.heap.size ≤ q) (wX N a (EB a cI cJ cR) u ++ wX 21 b (EM b cI cZ) μ) s.heap H locs → lv_has ls 4 [(0, .ref bS), (1, .ref (a 0)), (2, .ref (b 0)), (3, .int x3)] → W p l e room_1 s m #[Value.ref bS] below meth c H locs (100 + 16 * (j + 1)) (2000 + 119 * (j + 1)) Q (F0 m 1302 ls [])) {N : Nat} {a : Nat → Nat} {u μ : St} (hi : I N u μ) {H : Heap} {locs : List Loc} {ls : Array Slot} (h : Hh D (fun q => s.heap.size ≤ q) (wX N a (EB a cI cJ cR) u ++ wX 21 b (EM b cI cZ) μ) s.heap H locs) (hl : lv_has ls 4 [(0, .ref bS), (1, .ref (a 0)), (2, .ref (b 0)), (3, .int x3)]) : W p l e room_1 s m #[Value.ref bS] below meth c H locs (100 + 16 * j) (2000 + 119 * j) Q (F0 m 875 ls []) := by
  obtain ⟨hx, hb, hml, hown, hts, hKL, hN, hW0, hZ, hX, hbl⟩ := X0
  have hK : va_K D vwCl (tyB cI cJ cR) s := hKL.sub [0, 1, 2] rfl
  have hKm : va_K D vwCl (tyM cI cZ) s := hKL.sub [0, 3] rfl
  have hA : ∀ q : Nat, s.heap.size ≤ q → (fun q : Nat => s.heap.size ≤ q) q := fun _ h9 => h9
  have hbA : ¬ (fun q : Nat => s.heap.size ≤ q) bS := Nat.not_le.mpr hbl
  obtain ⟨hNN, hqA, hqB⟩ := hIN N u μ hi
  obtain ⟨y1, ey1⟩ : ∃ y : Int32, y = xs (x3 + 1).toNatClampNeg := ⟨_, rfl⟩
  obtain ⟨y2, ey2⟩ : ∃ y : Int32, y = xs (x3 + 2).toNatClampNeg := ⟨_, rfl⟩
  obtain ⟨y3, ey3⟩ : ∃ y : Int32, y = xs (x3 + 3).toNatClampNeg := ⟨_, rfl⟩
  obtain ⟨y4, ey4⟩ : ∃ y : Int32, y = xs (x3 + 4).toNatClampNeg := ⟨_, rfl⟩
  obtain ⟨r, u2, μ2, hf1, hf2, hi2⟩ := hI N u μ y1 y2 y3 y4 hi
  refine lv_aload_n (pc := 875) hx hb dL_law_875 rfl (lv_at hl 1 rfl) ?_
  refine lv_aload_n (pc := 876) hx hb dL_law_876 rfl (lv_at hl 0 rfl) ?_
  refine lv_iload_n (pc := 877) hx hb dL_law_877 rfl (lv_at hl 3 rfl) ?_
  refine lv_iconst (pc := 878) (v := 1) hx hb dL_law_878 (by decide) ?_
  refine lv_iadd (pc := 879) hx hb dL_law_879 ?_
  refine va_sld (pc := 880) hx hb hX hbl hbA h.2.2 hin1 dL_law_880 ?_
  refine rTop ey1 ?_
  refine lv_aload_n (pc := 881) hx hb dL_law_881 rfl (lv_at hl 0 rfl) ?_
  refine lv_iload_n (pc := 882) hx hb dL_law_882 rfl (lv_at hl 3 rfl) ?_
  refine lv_iconst (pc := 883) (v := 2) hx hb dL_law_883 (by decide) ?_
  refine lv_iadd (pc := 884) hx hb dL_law_884 ?_
  refine va_sld (pc := 885) hx hb hX hbl hbA h.2.2 hin2 dL_law_885 ?_
  refine rTop ey2 ?_
  refine lv_aload_n (pc := 886) hx hb dL_law_886 rfl (lv_at hl 0 rfl) ?_
  refine lv_iload_n (pc := 887) hx hb dL_law_887 rfl (lv_at hl 3 rfl) ?_
  refine lv_iconst (pc := 888) (v := 3) hx hb dL_law_888 (by decide) ?_
  refine lv_iadd (pc := 889) hx hb dL_law_889 ?_
  refine va_sld (pc := 890) hx hb hX hbl hbA h.2.2 hin3 dL_law_890 ?_
  refine rTop ey3 ?_
  refine lv_aload_n (pc := 891) hx hb dL_law_891 rfl (lv_at hl 0 rfl) ?_
  refine lv_iload_n (pc := 892) hx hb dL_law_892 rfl (lv_at hl 3 rfl) ?_
  refine lv_iconst (pc := 893) (v := 4) hx hb dL_law_893 (by decide) ?_
  refine lv_iadd (pc := 894) hx hb dL_law_894 ?_
  refine va_sld (pc := 895) hx hb hX hbl hbA h.2.2 hin4 dL_law_895 ?_
  refine rTop ey4 ?_
  refine lLl (pc := 896) (n := 4) hx hb hml hown hts hK hN (c_X11_likely hNN hf1) (gdV ml_L_111 im_X11_likely se_X11_likely in_X11 co_X11_likely) rfl (by decide +kernel) rfl (Nat.le_of_ble_eq_true rfl) (Nat.le_of_ble_eq_true rfl) h hA hl.1 ⟨show 100 + 16 * j ≤ 600000 by omega, show 2000 + 119 * j ≤ 7302250 by omega⟩ (Nat.lt_of_lt_of_le (by decide) hNN) rfl rfl rfl (Nat.le_of_ble_eq_true rfl) dL_law_896 (fun H locs h => ?_)
  refine lv_aload_n (pc := 899) hx hb dL_law_899 rfl (lv_at hl 2 rfl) ?_
  refine lv_aload_n (pc := 900) hx hb dL_law_900 rfl (lv_at hl 0 rfl) ?_
  refine lv_iload_n (pc := 901) hx hb dL_law_901 rfl (lv_at hl 3 rfl) ?_
  refine lv_iconst (pc := 902) (v := 1) hx hb dL_law_902 (by decide) ?_
  refine lv_iadd (pc := 903) hx hb dL_law_903 ?_
  refine va_sld (pc := 904) hx hb hX hbl hbA h.2.2 hin1 dL_law_904 ?_
  refine rTop ey1 ?_
  refine lv_aload_n (pc := 905) hx hb dL_law_905 rfl (lv_at hl 0 rfl) ?_
  refine lv_iload_n (pc := 906) hx hb dL_law_906 rfl (lv_at hl 3 rfl) ?_
  refine lv_iconst (pc := 907) (v := 2) hx hb dL_law_907 (by decide) ?_
  refine lv_iadd (pc := 908) hx hb dL_law_908 ?_
  refine va_sld (pc := 909) hx hb hX hbl hbA h.2.2 hin2 dL_law_909 ?_
  refine rTop ey2 ?_
  refine lv_aload_n (pc := 910) hx hb dL_law_910 rfl (lv_at hl 0 rfl) ?_
  refine lv_iload_n (pc := 911) hx hb dL_law_911 rfl (lv_at hl 3 rfl) ?_
  refine lv_iconst (pc := 912) (v := 3) hx hb dL_law_912 (by decide) ?_
  refine lv_iadd (pc := 913) hx hb dL_law_913 ?_
  refine va_sld (pc := 914) hx hb hX hbl hbA h.2.2 hin3 dL_law_914 ?_
  refine rTop ey3 ?_
  refine lv_aload_n (pc := 915) hx hb dL_law_915 rfl (lv_at hl 0 rfl) ?_
  refine lv_iload_n (pc := 916) hx hb dL_law_916 rfl (lv_at hl 3 rfl) ?_
  refine lv_iconst (pc := 917) (v := 4) hx hb dL_law_917 (by decide) ?_
  refine lv_iadd (pc := 918) hx hb dL_law_918 ?_
  refine va_sld (pc := 919) hx hb hX hbl hbA h.2.2 hin4 dL_law_919 ?_
  refine rTop ey4 ?_
  refine lRl (pc := 920) (n := 4) (rest := [.long r]) hx hb hml hown hts hKm hN (c_X12_likely hf2) (gdV ml_L_115 im_X12_likely se_X12_likely in_X12 co_X12_likely) rfl (by decide +kernel) rfl (Nat.le_of_ble_eq_true rfl) (Nat.le_of_ble_eq_true rfl) h hA hl.1 ⟨show 100 + 16 * j ≤ 600000 by omega, show 2000 + 119 * j ≤ 7302250 by omega⟩ (by decide) rfl rfl rfl (Nat.le_of_ble_eq_true rfl) dL_law_920 (fun H locs h => ?_)
  refine W.lcmp (pc := 923) hx hb dL_law_923 ?_
  refine lv_if_eq (pc := 924) (tgt := 1302) hx hb dL_law_924 (by decide) (fun _ => ?_) (fun h9 => absurd (by unfold lg_cmp; simp) h9)
  refine W.widen (k := 100 + 16 * (j + 1)) (n := 2000 + 119 * (j + 1)) (by omega) (by omega) ?_
  exact hnext _ _ _ _ hi2 _ _ _ h hl
set_option maxRecDepth 100000 in
set_option maxHeartbeats 4000000 in
theorem law_mean {p : Program} {l : Launch} {e : Env} {s : State} {m : MethodId} {below : List Frame} {meth : Method} {c : Code} {D : va_G} {cI cJ cR cZ : ClassId} {bS L : Nat} {xs : Nat → Int32} {tF tL tM : Nat} {I : Nat → St → St → Prop} {Q : State → Prop} (X0 : LCX p s m c D cI cJ cR cZ bS L xs tF tL tM) (hIN : Sp_N I) (hI : Sp_mean I) {j : Nat} (hj : j ≤ 64) {x3 : Int32} (hin1 : vp_in (x3 + 1) L) (hin2 : vp_in (x3 + 2) L) (hin3 : vp_in (x3 + 3) L) (hin4 : vp_in (x3 + 4) L) (hin5 : vp_in (x3 + 5) L) {b : Nat → Nat} (hnext : ∀ (N : Nat) (a : Nat → Nat) (u μ : St), I N u μ → ∀ (H : Heap) (locs : List Loc) (ls : Array Slot), Hh D (fun q => s.heap.size ≤ q) (wX N a (EB a cI cJ cR) u ++ wX 21 b (EM b cI cZ) μ) s.heap H locs → lv_has ls 4 [(0, .ref bS), (1, .ref (a 0)), (2, .ref (b 0)), (3, .int x3)] → W p l e room_1 s m #[Value.ref bS] below meth c H locs (100 + 16 * (j + 1)) (2000 + 119 * (j + 1)) Q (F0 m 1302 ls [])) {N : Nat} {a : Nat → Nat} {u μ : St} (hi : I N u μ) {H : Heap} {locs : List Loc} {ls : Array Slot} (h : Hh D (fun q => s.heap.size ≤ q) (wX N a (EB a cI cJ cR) u ++ wX 21 b (EM b cI cZ) μ) s.heap H locs) (hl : lv_has ls 4 [(0, .ref bS), (1, .ref (a 0)), (2, .ref (b 0)), (3, .int x3)]) : W p l e room_1 s m #[Value.ref bS] below meth c H locs (100 + 16 * j) (2000 + 119 * j) Q (F0 m 929 ls []) := by
  obtain ⟨hx, hb, hml, hown, hts, hKL, hN, hW0, hZ, hX, hbl⟩ := X0
  have hK : va_K D vwCl (tyB cI cJ cR) s := hKL.sub [0, 1, 2] rfl
  have hKm : va_K D vwCl (tyM cI cZ) s := hKL.sub [0, 3] rfl
  have hA : ∀ q : Nat, s.heap.size ≤ q → (fun q : Nat => s.heap.size ≤ q) q := fun _ h9 => h9
  have hbA : ¬ (fun q : Nat => s.heap.size ≤ q) bS := Nat.not_le.mpr hbl
  obtain ⟨hNN, hqA, hqB⟩ := hIN N u μ hi
  obtain ⟨y1, ey1⟩ : ∃ y : Int32, y = xs (x3 + 1).toNatClampNeg := ⟨_, rfl⟩
  obtain ⟨y2, ey2⟩ : ∃ y : Int32, y = xs (x3 + 2).toNatClampNeg := ⟨_, rfl⟩
  obtain ⟨y3, ey3⟩ : ∃ y : Int32, y = xs (x3 + 3).toNatClampNeg := ⟨_, rfl⟩
  obtain ⟨r, u2, μ2, hf1, hf2, hi2⟩ := hI N u μ y1 y2 y3 hi
  refine lv_aload_n (pc := 929) hx hb dL_law_929 rfl (lv_at hl 1 rfl) ?_
  refine lv_aload_n (pc := 930) hx hb dL_law_930 rfl (lv_at hl 0 rfl) ?_
  refine lv_iload_n (pc := 931) hx hb dL_law_931 rfl (lv_at hl 3 rfl) ?_
  refine lv_iconst (pc := 932) (v := 1) hx hb dL_law_932 (by decide) ?_
  refine lv_iadd (pc := 933) hx hb dL_law_933 ?_
  refine va_sld (pc := 934) hx hb hX hbl hbA h.2.2 hin1 dL_law_934 ?_
  refine rTop ey1 ?_
  refine lv_aload_n (pc := 935) hx hb dL_law_935 rfl (lv_at hl 0 rfl) ?_
  refine lv_iload_n (pc := 936) hx hb dL_law_936 rfl (lv_at hl 3 rfl) ?_
  refine lv_iconst (pc := 937) (v := 2) hx hb dL_law_937 (by decide) ?_
  refine lv_iadd (pc := 938) hx hb dL_law_938 ?_
  refine va_sld (pc := 939) hx hb hX hbl hbA h.2.2 hin2 dL_law_939 ?_
  refine rTop ey2 ?_
  refine lv_aload_n (pc := 940) hx hb dL_law_940 rfl (lv_at hl 0 rfl) ?_
  refine lv_iload_n (pc := 941) hx hb dL_law_941 rfl (lv_at hl 3 rfl) ?_
  refine lv_iconst (pc := 942) (v := 3) hx hb dL_law_942 (by decide) ?_
  refine lv_iadd (pc := 943) hx hb dL_law_943 ?_
  refine va_sld (pc := 944) hx hb hX hbl hbA h.2.2 hin3 dL_law_944 ?_
  refine rTop ey3 ?_
  refine lLl (pc := 945) (n := 3) hx hb hml hown hts hK hN (c_X11_mean hNN hf1) (gdV ml_L_116 im_X11_mean se_X11_mean in_X11 co_X11_mean) rfl (by decide +kernel) rfl (Nat.le_of_ble_eq_true rfl) (Nat.le_of_ble_eq_true rfl) h hA hl.1 ⟨show 100 + 16 * j ≤ 600000 by omega, show 2000 + 119 * j ≤ 7302250 by omega⟩ (Nat.lt_of_lt_of_le (by decide) hNN) rfl rfl rfl (Nat.le_of_ble_eq_true rfl) dL_law_945 (fun H locs h => ?_)
  refine lv_aload_n (pc := 948) hx hb dL_law_948 rfl (lv_at hl 2 rfl) ?_
  refine lv_aload_n (pc := 949) hx hb dL_law_949 rfl (lv_at hl 0 rfl) ?_
  refine lv_iload_n (pc := 950) hx hb dL_law_950 rfl (lv_at hl 3 rfl) ?_
  refine lv_iconst (pc := 951) (v := 1) hx hb dL_law_951 (by decide) ?_
  refine lv_iadd (pc := 952) hx hb dL_law_952 ?_
  refine va_sld (pc := 953) hx hb hX hbl hbA h.2.2 hin1 dL_law_953 ?_
  refine rTop ey1 ?_
  refine lv_aload_n (pc := 954) hx hb dL_law_954 rfl (lv_at hl 0 rfl) ?_
  refine lv_iload_n (pc := 955) hx hb dL_law_955 rfl (lv_at hl 3 rfl) ?_
  refine lv_iconst (pc := 956) (v := 2) hx hb dL_law_956 (by decide) ?_
  refine lv_iadd (pc := 957) hx hb dL_law_957 ?_
  refine va_sld (pc := 958) hx hb hX hbl hbA h.2.2 hin2 dL_law_958 ?_
  refine rTop ey2 ?_
  refine lv_aload_n (pc := 959) hx hb dL_law_959 rfl (lv_at hl 0 rfl) ?_
  refine lv_iload_n (pc := 960) hx hb dL_law_960 rfl (lv_at hl 3 rfl) ?_
  refine lv_iconst (pc := 961) (v := 3) hx hb dL_law_961 (by decide) ?_
  refine lv_iadd (pc := 962) hx hb dL_law_962 ?_
  refine va_sld (pc := 963) hx hb hX hbl hbA h.2.2 hin3 dL_law_963 ?_
  refine rTop ey3 ?_
  refine lRl (pc := 964) (n := 3) (rest := [.long r]) hx hb hml hown hts hKm hN (c_X12_mean hf2) (gdV ml_L_120 im_X12_mean se_X12_mean in_X12 co_X12_mean) rfl (by decide +kernel) rfl (Nat.le_of_ble_eq_true rfl) (Nat.le_of_ble_eq_true rfl) h hA hl.1 ⟨show 100 + 16 * j ≤ 600000 by omega, show 2000 + 119 * j ≤ 7302250 by omega⟩ (by decide) rfl rfl rfl (Nat.le_of_ble_eq_true rfl) dL_law_964 (fun H locs h => ?_)
  refine W.lcmp (pc := 967) hx hb dL_law_967 ?_
  refine lv_if_eq (pc := 968) (tgt := 1302) hx hb dL_law_968 (by decide) (fun _ => ?_) (fun h9 => absurd (by unfold lg_cmp; simp) h9)
  refine W.widen (k := 100 + 16 * (j + 1)) (n := 2000 + 119 * (j + 1)) (by omega) (by omega) ?_
  exact hnext _ _ _ _ hi2 _ _ _ h hl
set_option maxRecDepth 100000 in
set_option maxHeartbeats 4000000 in
theorem law_seen {p : Program} {l : Launch} {e : Env} {s : State} {m : MethodId} {below : List Frame} {meth : Method} {c : Code} {D : va_G} {cI cJ cR cZ : ClassId} {bS L : Nat} {xs : Nat → Int32} {tF tL tM : Nat} {I : Nat → St → St → Prop} {Q : State → Prop} (X0 : LCX p s m c D cI cJ cR cZ bS L xs tF tL tM) (hIN : Sp_N I) (hI : Sp_seen I) {j : Nat} (hj : j ≤ 64) {x3 : Int32} (hin1 : vp_in (x3 + 1) L) (hin2 : vp_in (x3 + 2) L) (hin3 : vp_in (x3 + 3) L) (hin4 : vp_in (x3 + 4) L) (hin5 : vp_in (x3 + 5) L) {b : Nat → Nat} (hnext : ∀ (N : Nat) (a : Nat → Nat) (u μ : St), I N u μ → ∀ (H : Heap) (locs : List Loc) (ls : Array Slot), Hh D (fun q => s.heap.size ≤ q) (wX N a (EB a cI cJ cR) u ++ wX 21 b (EM b cI cZ) μ) s.heap H locs → lv_has ls 4 [(0, .ref bS), (1, .ref (a 0)), (2, .ref (b 0)), (3, .int x3)] → W p l e room_1 s m #[Value.ref bS] below meth c H locs (100 + 16 * (j + 1)) (2000 + 119 * (j + 1)) Q (F0 m 1302 ls [])) {N : Nat} {a : Nat → Nat} {u μ : St} (hi : I N u μ) {H : Heap} {locs : List Loc} {ls : Array Slot} (h : Hh D (fun q => s.heap.size ≤ q) (wX N a (EB a cI cJ cR) u ++ wX 21 b (EM b cI cZ) μ) s.heap H locs) (hl : lv_has ls 4 [(0, .ref bS), (1, .ref (a 0)), (2, .ref (b 0)), (3, .int x3)]) : W p l e room_1 s m #[Value.ref bS] below meth c H locs (100 + 16 * j) (2000 + 119 * j) Q (F0 m 973 ls []) := by
  obtain ⟨hx, hb, hml, hown, hts, hKL, hN, hW0, hZ, hX, hbl⟩ := X0
  have hK : va_K D vwCl (tyB cI cJ cR) s := hKL.sub [0, 1, 2] rfl
  have hKm : va_K D vwCl (tyM cI cZ) s := hKL.sub [0, 3] rfl
  have hA : ∀ q : Nat, s.heap.size ≤ q → (fun q : Nat => s.heap.size ≤ q) q := fun _ h9 => h9
  have hbA : ¬ (fun q : Nat => s.heap.size ≤ q) bS := Nat.not_le.mpr hbl
  obtain ⟨hNN, hqA, hqB⟩ := hIN N u μ hi
  obtain ⟨y1, ey1⟩ : ∃ y : Int32, y = xs (x3 + 1).toNatClampNeg := ⟨_, rfl⟩
  obtain ⟨y2, ey2⟩ : ∃ y : Int32, y = xs (x3 + 2).toNatClampNeg := ⟨_, rfl⟩
  obtain ⟨y3, ey3⟩ : ∃ y : Int32, y = xs (x3 + 3).toNatClampNeg := ⟨_, rfl⟩
  obtain ⟨r, u2, μ2, hf1, hf2, hi2⟩ := hI N u μ y1 y2 y3 hi
  refine lv_aload_n (pc := 973) hx hb dL_law_973 rfl (lv_at hl 1 rfl) ?_
  refine lv_aload_n (pc := 974) hx hb dL_law_974 rfl (lv_at hl 0 rfl) ?_
  refine lv_iload_n (pc := 975) hx hb dL_law_975 rfl (lv_at hl 3 rfl) ?_
  refine lv_iconst (pc := 976) (v := 1) hx hb dL_law_976 (by decide) ?_
  refine lv_iadd (pc := 977) hx hb dL_law_977 ?_
  refine va_sld (pc := 978) hx hb hX hbl hbA h.2.2 hin1 dL_law_978 ?_
  refine rTop ey1 ?_
  refine lv_aload_n (pc := 979) hx hb dL_law_979 rfl (lv_at hl 0 rfl) ?_
  refine lv_iload_n (pc := 980) hx hb dL_law_980 rfl (lv_at hl 3 rfl) ?_
  refine lv_iconst (pc := 981) (v := 2) hx hb dL_law_981 (by decide) ?_
  refine lv_iadd (pc := 982) hx hb dL_law_982 ?_
  refine va_sld (pc := 983) hx hb hX hbl hbA h.2.2 hin2 dL_law_983 ?_
  refine rTop ey2 ?_
  refine lv_aload_n (pc := 984) hx hb dL_law_984 rfl (lv_at hl 0 rfl) ?_
  refine lv_iload_n (pc := 985) hx hb dL_law_985 rfl (lv_at hl 3 rfl) ?_
  refine lv_iconst (pc := 986) (v := 3) hx hb dL_law_986 (by decide) ?_
  refine lv_iadd (pc := 987) hx hb dL_law_987 ?_
  refine va_sld (pc := 988) hx hb hX hbl hbA h.2.2 hin3 dL_law_988 ?_
  refine rTop ey3 ?_
  refine lLi (pc := 989) (n := 3) hx hb hml hown hts hK hN (c_X11_seen hNN hf1) (gdV ml_L_121 im_X11_seen se_X11_seen in_X11 co_X11_seen) rfl (by decide +kernel) rfl (Nat.le_of_ble_eq_true rfl) (Nat.le_of_ble_eq_true rfl) h hA hl.1 ⟨show 100 + 16 * j ≤ 600000 by omega, show 2000 + 119 * j ≤ 7302250 by omega⟩ (Nat.lt_of_lt_of_le (by decide) hNN) rfl rfl rfl (Nat.le_of_ble_eq_true rfl) dL_law_989 (fun H locs h => ?_)
  refine lv_aload_n (pc := 992) hx hb dL_law_992 rfl (lv_at hl 2 rfl) ?_
  refine lv_aload_n (pc := 993) hx hb dL_law_993 rfl (lv_at hl 0 rfl) ?_
  refine lv_iload_n (pc := 994) hx hb dL_law_994 rfl (lv_at hl 3 rfl) ?_
  refine lv_iconst (pc := 995) (v := 1) hx hb dL_law_995 (by decide) ?_
  refine lv_iadd (pc := 996) hx hb dL_law_996 ?_
  refine va_sld (pc := 997) hx hb hX hbl hbA h.2.2 hin1 dL_law_997 ?_
  refine rTop ey1 ?_
  refine lv_aload_n (pc := 998) hx hb dL_law_998 rfl (lv_at hl 0 rfl) ?_
  refine lv_iload_n (pc := 999) hx hb dL_law_999 rfl (lv_at hl 3 rfl) ?_
  refine lv_iconst (pc := 1000) (v := 2) hx hb dL_law_1000 (by decide) ?_
  refine lv_iadd (pc := 1001) hx hb dL_law_1001 ?_
  refine va_sld (pc := 1002) hx hb hX hbl hbA h.2.2 hin2 dL_law_1002 ?_
  refine rTop ey2 ?_
  refine lv_aload_n (pc := 1003) hx hb dL_law_1003 rfl (lv_at hl 0 rfl) ?_
  refine lv_iload_n (pc := 1004) hx hb dL_law_1004 rfl (lv_at hl 3 rfl) ?_
  refine lv_iconst (pc := 1005) (v := 3) hx hb dL_law_1005 (by decide) ?_
  refine lv_iadd (pc := 1006) hx hb dL_law_1006 ?_
  refine va_sld (pc := 1007) hx hb hX hbl hbA h.2.2 hin3 dL_law_1007 ?_
  refine rTop ey3 ?_
  refine lRi (pc := 1008) (n := 3) (rest := [.int r]) hx hb hml hown hts hKm hN (c_X12_seen hf2) (gdV ml_L_124 im_X12_seen se_X12_seen in_X12 co_X12_seen) rfl (by decide +kernel) rfl (Nat.le_of_ble_eq_true rfl) (Nat.le_of_ble_eq_true rfl) h hA hl.1 ⟨show 100 + 16 * j ≤ 600000 by omega, show 2000 + 119 * j ≤ 7302250 by omega⟩ (by decide) rfl rfl rfl (Nat.le_of_ble_eq_true rfl) dL_law_1008 (fun H locs h => ?_)
  refine lv_icmp_eq (pc := 1011) (tgt := 1302) hx hb dL_law_1011 (by decide) (fun _ => ?_) (fun h9 => absurd rfl h9)
  refine W.widen (k := 100 + 16 * (j + 1)) (n := 2000 + 119 * (j + 1)) (by omega) (by omega) ?_
  exact hnext _ _ _ _ hi2 _ _ _ h hl
set_option maxRecDepth 100000 in
set_option maxHeartbeats 4000000 in
theorem law_forget {p : Program} {l : Launch} {e : Env} {s : State} {m : MethodId} {below : List Frame} {meth : Method} {c : Code} {D : va_G} {cI cJ cR cZ : ClassId} {bS L : Nat} {xs : Nat → Int32} {tF tL tM : Nat} {I : Nat → St → St → Prop} {Q : State → Prop} (X0 : LCX p s m c D cI cJ cR cZ bS L xs tF tL tM) (hIN : Sp_N I) (hI : Sp_forget I) {j : Nat} (hj : j ≤ 64) {x3 : Int32} (hin1 : vp_in (x3 + 1) L) (hin2 : vp_in (x3 + 2) L) (hin3 : vp_in (x3 + 3) L) (hin4 : vp_in (x3 + 4) L) (hin5 : vp_in (x3 + 5) L) {b : Nat → Nat} (hnext : ∀ (N : Nat) (a : Nat → Nat) (u μ : St), I N u μ → ∀ (H : Heap) (locs : List Loc) (ls : Array Slot), Hh D (fun q => s.heap.size ≤ q) (wX N a (EB a cI cJ cR) u ++ wX 21 b (EM b cI cZ) μ) s.heap H locs → lv_has ls 4 [(0, .ref bS), (1, .ref (a 0)), (2, .ref (b 0)), (3, .int x3)] → W p l e room_1 s m #[Value.ref bS] below meth c H locs (100 + 16 * (j + 1)) (2000 + 119 * (j + 1)) Q (F0 m 1302 ls [])) {N : Nat} {a : Nat → Nat} {u μ : St} (hi : I N u μ) {H : Heap} {locs : List Loc} {ls : Array Slot} (h : Hh D (fun q => s.heap.size ≤ q) (wX N a (EB a cI cJ cR) u ++ wX 21 b (EM b cI cZ) μ) s.heap H locs) (hl : lv_has ls 4 [(0, .ref bS), (1, .ref (a 0)), (2, .ref (b 0)), (3, .int x3)]) : W p l e room_1 s m #[Value.ref bS] below meth c H locs (100 + 16 * j) (2000 + 119 * j) Q (F0 m 1016 ls []) := by
  obtain ⟨hx, hb, hml, hown, hts, hKL, hN, hW0, hZ, hX, hbl⟩ := X0
  have hK : va_K D vwCl (tyB cI cJ cR) s := hKL.sub [0, 1, 2] rfl
  have hKm : va_K D vwCl (tyM cI cZ) s := hKL.sub [0, 3] rfl
  have hA : ∀ q : Nat, s.heap.size ≤ q → (fun q : Nat => s.heap.size ≤ q) q := fun _ h9 => h9
  have hbA : ¬ (fun q : Nat => s.heap.size ≤ q) bS := Nat.not_le.mpr hbl
  obtain ⟨hNN, hqA, hqB⟩ := hIN N u μ hi
  obtain ⟨r, u2, μ2, hf1, hf2, hi2⟩ := hI N u μ hi
  refine lv_aload_n (pc := 1016) hx hb dL_law_1016 rfl (lv_at hl 1 rfl) ?_
  refine lLi (pc := 1017) (n := 0) hx hb hml hown hts hK hN (c_X11_forget hNN hf1) (gdV ml_L_125 im_X11_forget se_X11_forget in_X11 co_X11_forget) rfl (by decide +kernel) rfl (Nat.le_of_ble_eq_true rfl) (Nat.le_of_ble_eq_true rfl) h hA hl.1 ⟨show 100 + 16 * j ≤ 600000 by omega, show 2000 + 119 * j ≤ 7302250 by omega⟩ (Nat.lt_of_lt_of_le (by decide) hNN) rfl rfl rfl (Nat.le_of_ble_eq_true rfl) dL_law_1017 (fun H locs h => ?_)
  refine lv_aload_n (pc := 1020) hx hb dL_law_1020 rfl (lv_at hl 2 rfl) ?_
  refine lRi (pc := 1021) (n := 0) (rest := [.int r]) hx hb hml hown hts hKm hN (c_X12_forget hf2) (gdV ml_L_128 im_X12_forget se_X12_forget in_X12 co_X12_forget) rfl (by decide +kernel) rfl (Nat.le_of_ble_eq_true rfl) (Nat.le_of_ble_eq_true rfl) h hA hl.1 ⟨show 100 + 16 * j ≤ 600000 by omega, show 2000 + 119 * j ≤ 7302250 by omega⟩ (by decide) rfl rfl rfl (Nat.le_of_ble_eq_true rfl) dL_law_1021 (fun H locs h => ?_)
  refine lv_icmp_eq (pc := 1024) (tgt := 1302) hx hb dL_law_1024 (by decide) (fun _ => ?_) (fun h9 => absurd rfl h9)
  refine W.widen (k := 100 + 16 * (j + 1)) (n := 2000 + 119 * (j + 1)) (by omega) (by omega) ?_
  exact hnext _ _ _ _ hi2 _ _ _ h hl
set_option maxRecDepth 100000 in
set_option maxHeartbeats 4000000 in
theorem law_walls {p : Program} {l : Launch} {e : Env} {s : State} {m : MethodId} {below : List Frame} {meth : Method} {c : Code} {D : va_G} {cI cJ cR cZ : ClassId} {bS L : Nat} {xs : Nat → Int32} {tF tL tM : Nat} {I : Nat → St → St → Prop} {Q : State → Prop} (X0 : LCX p s m c D cI cJ cR cZ bS L xs tF tL tM) (hIN : Sp_N I) (hI : Sp_walls I) {j : Nat} (hj : j ≤ 64) {x3 : Int32} (hin1 : vp_in (x3 + 1) L) (hin2 : vp_in (x3 + 2) L) (hin3 : vp_in (x3 + 3) L) (hin4 : vp_in (x3 + 4) L) (hin5 : vp_in (x3 + 5) L) {b : Nat → Nat} (hnext : ∀ (N : Nat) (a : Nat → Nat) (u μ : St), I N u μ → ∀ (H : Heap) (locs : List Loc) (ls : Array Slot), Hh D (fun q => s.heap.size ≤ q) (wX N a (EB a cI cJ cR) u ++ wX 21 b (EM b cI cZ) μ) s.heap H locs → lv_has ls 4 [(0, .ref bS), (1, .ref (a 0)), (2, .ref (b 0)), (3, .int x3)] → W p l e room_1 s m #[Value.ref bS] below meth c H locs (100 + 16 * (j + 1)) (2000 + 119 * (j + 1)) Q (F0 m 1302 ls [])) {N : Nat} {a : Nat → Nat} {u μ : St} (hi : I N u μ) {H : Heap} {locs : List Loc} {ls : Array Slot} (h : Hh D (fun q => s.heap.size ≤ q) (wX N a (EB a cI cJ cR) u ++ wX 21 b (EM b cI cZ) μ) s.heap H locs) (hl : lv_has ls 4 [(0, .ref bS), (1, .ref (a 0)), (2, .ref (b 0)), (3, .int x3)]) : W p l e room_1 s m #[Value.ref bS] below meth c H locs (100 + 16 * j) (2000 + 119 * j) Q (F0 m 1029 ls []) := by
  obtain ⟨hx, hb, hml, hown, hts, hKL, hN, hW0, hZ, hX, hbl⟩ := X0
  have hK : va_K D vwCl (tyB cI cJ cR) s := hKL.sub [0, 1, 2] rfl
  have hKm : va_K D vwCl (tyM cI cZ) s := hKL.sub [0, 3] rfl
  have hA : ∀ q : Nat, s.heap.size ≤ q → (fun q : Nat => s.heap.size ≤ q) q := fun _ h9 => h9
  have hbA : ¬ (fun q : Nat => s.heap.size ≤ q) bS := Nat.not_le.mpr hbl
  obtain ⟨hNN, hqA, hqB⟩ := hIN N u μ hi
  obtain ⟨r, u2, μ2, hf1, hf2, hi2⟩ := hI N u μ hi
  refine lv_aload_n (pc := 1029) hx hb dL_law_1029 rfl (lv_at hl 1 rfl) ?_
  refine lLi (pc := 1030) (n := 0) hx hb hml hown hts hK hN (c_X11_walls hNN hf1) (gdV ml_L_129 im_X11_walls se_X11_walls in_X11 co_X11_walls) rfl (by decide +kernel) rfl (Nat.le_of_ble_eq_true rfl) (Nat.le_of_ble_eq_true rfl) h hA hl.1 ⟨show 100 + 16 * j ≤ 600000 by omega, show 2000 + 119 * j ≤ 7302250 by omega⟩ (Nat.lt_of_lt_of_le (by decide) hNN) rfl rfl rfl (Nat.le_of_ble_eq_true rfl) dL_law_1030 (fun H locs h => ?_)
  refine lv_aload_n (pc := 1033) hx hb dL_law_1033 rfl (lv_at hl 2 rfl) ?_
  refine lRi (pc := 1034) (n := 0) (rest := [.int r]) hx hb hml hown hts hKm hN (c_X12_walls hf2) (gdV ml_L_132 im_X12_walls se_X12_walls in_X12 co_X12_walls) rfl (by decide +kernel) rfl (Nat.le_of_ble_eq_true rfl) (Nat.le_of_ble_eq_true rfl) h hA hl.1 ⟨show 100 + 16 * j ≤ 600000 by omega, show 2000 + 119 * j ≤ 7302250 by omega⟩ (by decide) rfl rfl rfl (Nat.le_of_ble_eq_true rfl) dL_law_1034 (fun H locs h => ?_)
  refine lv_icmp_eq (pc := 1037) (tgt := 1302) hx hb dL_law_1037 (by decide) (fun _ => ?_) (fun h9 => absurd rfl h9)
  refine W.widen (k := 100 + 16 * (j + 1)) (n := 2000 + 119 * (j + 1)) (by omega) (by omega) ?_
  exact hnext _ _ _ _ hi2 _ _ _ h hl
set_option maxRecDepth 100000 in
set_option maxHeartbeats 4000000 in
theorem law_moons {p : Program} {l : Launch} {e : Env} {s : State} {m : MethodId} {below : List Frame} {meth : Method} {c : Code} {D : va_G} {cI cJ cR cZ : ClassId} {bS L : Nat} {xs : Nat → Int32} {tF tL tM : Nat} {I : Nat → St → St → Prop} {Q : State → Prop} (X0 : LCX p s m c D cI cJ cR cZ bS L xs tF tL tM) (hIN : Sp_N I) (hI : Sp_moons I) {j : Nat} (hj : j ≤ 64) {x3 : Int32} (hin1 : vp_in (x3 + 1) L) (hin2 : vp_in (x3 + 2) L) (hin3 : vp_in (x3 + 3) L) (hin4 : vp_in (x3 + 4) L) (hin5 : vp_in (x3 + 5) L) {b : Nat → Nat} (hnext : ∀ (N : Nat) (a : Nat → Nat) (u μ : St), I N u μ → ∀ (H : Heap) (locs : List Loc) (ls : Array Slot), Hh D (fun q => s.heap.size ≤ q) (wX N a (EB a cI cJ cR) u ++ wX 21 b (EM b cI cZ) μ) s.heap H locs → lv_has ls 4 [(0, .ref bS), (1, .ref (a 0)), (2, .ref (b 0)), (3, .int x3)] → W p l e room_1 s m #[Value.ref bS] below meth c H locs (100 + 16 * (j + 1)) (2000 + 119 * (j + 1)) Q (F0 m 1302 ls [])) {N : Nat} {a : Nat → Nat} {u μ : St} (hi : I N u μ) {H : Heap} {locs : List Loc} {ls : Array Slot} (h : Hh D (fun q => s.heap.size ≤ q) (wX N a (EB a cI cJ cR) u ++ wX 21 b (EM b cI cZ) μ) s.heap H locs) (hl : lv_has ls 4 [(0, .ref bS), (1, .ref (a 0)), (2, .ref (b 0)), (3, .int x3)]) : W p l e room_1 s m #[Value.ref bS] below meth c H locs (100 + 16 * j) (2000 + 119 * j) Q (F0 m 1042 ls []) := by
  obtain ⟨hx, hb, hml, hown, hts, hKL, hN, hW0, hZ, hX, hbl⟩ := X0
  have hK : va_K D vwCl (tyB cI cJ cR) s := hKL.sub [0, 1, 2] rfl
  have hKm : va_K D vwCl (tyM cI cZ) s := hKL.sub [0, 3] rfl
  have hA : ∀ q : Nat, s.heap.size ≤ q → (fun q : Nat => s.heap.size ≤ q) q := fun _ h9 => h9
  have hbA : ¬ (fun q : Nat => s.heap.size ≤ q) bS := Nat.not_le.mpr hbl
  obtain ⟨hNN, hqA, hqB⟩ := hIN N u μ hi
  obtain ⟨r, u2, μ2, hf1, hf2, hi2⟩ := hI N u μ hi
  refine lv_aload_n (pc := 1042) hx hb dL_law_1042 rfl (lv_at hl 1 rfl) ?_
  refine lLi (pc := 1043) (n := 0) hx hb hml hown hts hK hN (c_X11_moons hNN hf1) (gdV ml_L_133 im_X11_moons se_X11_moons in_X11 co_X11_moons) rfl (by decide +kernel) rfl (Nat.le_of_ble_eq_true rfl) (Nat.le_of_ble_eq_true rfl) h hA hl.1 ⟨show 100 + 16 * j ≤ 600000 by omega, show 2000 + 119 * j ≤ 7302250 by omega⟩ (Nat.lt_of_lt_of_le (by decide) hNN) rfl rfl rfl (Nat.le_of_ble_eq_true rfl) dL_law_1043 (fun H locs h => ?_)
  refine lv_aload_n (pc := 1046) hx hb dL_law_1046 rfl (lv_at hl 2 rfl) ?_
  refine lRi (pc := 1047) (n := 0) (rest := [.int r]) hx hb hml hown hts hKm hN (c_X12_moons hf2) (gdV ml_L_136 im_X12_moons se_X12_moons in_X12 co_X12_moons) rfl (by decide +kernel) rfl (Nat.le_of_ble_eq_true rfl) (Nat.le_of_ble_eq_true rfl) h hA hl.1 ⟨show 100 + 16 * j ≤ 600000 by omega, show 2000 + 119 * j ≤ 7302250 by omega⟩ (by decide) rfl rfl rfl (Nat.le_of_ble_eq_true rfl) dL_law_1047 (fun H locs h => ?_)
  refine lv_icmp_eq (pc := 1050) (tgt := 1302) hx hb dL_law_1050 (by decide) (fun _ => ?_) (fun h9 => absurd rfl h9)
  refine W.widen (k := 100 + 16 * (j + 1)) (n := 2000 + 119 * (j + 1)) (by omega) (by omega) ?_
  exact hnext _ _ _ _ hi2 _ _ _ h hl
set_option maxRecDepth 100000 in
set_option maxHeartbeats 4000000 in
theorem law_open {p : Program} {l : Launch} {e : Env} {s : State} {m : MethodId} {below : List Frame} {meth : Method} {c : Code} {D : va_G} {cI cJ cR cZ : ClassId} {bS L : Nat} {xs : Nat → Int32} {tF tL tM : Nat} {I : Nat → St → St → Prop} {Q : State → Prop} (X0 : LCX p s m c D cI cJ cR cZ bS L xs tF tL tM) (hIN : Sp_N I) (hI : Sp_open I) {j : Nat} (hj : j ≤ 64) {x3 : Int32} (hin1 : vp_in (x3 + 1) L) (hin2 : vp_in (x3 + 2) L) (hin3 : vp_in (x3 + 3) L) (hin4 : vp_in (x3 + 4) L) (hin5 : vp_in (x3 + 5) L) {b : Nat → Nat} (hnext : ∀ (N : Nat) (a : Nat → Nat) (u μ : St), I N u μ → ∀ (H : Heap) (locs : List Loc) (ls : Array Slot), Hh D (fun q => s.heap.size ≤ q) (wX N a (EB a cI cJ cR) u ++ wX 21 b (EM b cI cZ) μ) s.heap H locs → lv_has ls 4 [(0, .ref bS), (1, .ref (a 0)), (2, .ref (b 0)), (3, .int x3)] → W p l e room_1 s m #[Value.ref bS] below meth c H locs (100 + 16 * (j + 1)) (2000 + 119 * (j + 1)) Q (F0 m 1302 ls [])) {N : Nat} {a : Nat → Nat} {u μ : St} (hi : I N u μ) {H : Heap} {locs : List Loc} {ls : Array Slot} (h : Hh D (fun q => s.heap.size ≤ q) (wX N a (EB a cI cJ cR) u ++ wX 21 b (EM b cI cZ) μ) s.heap H locs) (hl : lv_has ls 4 [(0, .ref bS), (1, .ref (a 0)), (2, .ref (b 0)), (3, .int x3)]) : W p l e room_1 s m #[Value.ref bS] below meth c H locs (100 + 16 * j) (2000 + 119 * j) Q (F0 m 1055 ls []) := by
  obtain ⟨hx, hb, hml, hown, hts, hKL, hN, hW0, hZ, hX, hbl⟩ := X0
  have hK : va_K D vwCl (tyB cI cJ cR) s := hKL.sub [0, 1, 2] rfl
  have hKm : va_K D vwCl (tyM cI cZ) s := hKL.sub [0, 3] rfl
  have hA : ∀ q : Nat, s.heap.size ≤ q → (fun q : Nat => s.heap.size ≤ q) q := fun _ h9 => h9
  have hbA : ¬ (fun q : Nat => s.heap.size ≤ q) bS := Nat.not_le.mpr hbl
  obtain ⟨hNN, hqA, hqB⟩ := hIN N u μ hi
  obtain ⟨y1, ey1⟩ : ∃ y : Int32, y = xs (x3 + 1).toNatClampNeg := ⟨_, rfl⟩
  obtain ⟨r, u2, μ2, hf1, hf2, hi2⟩ := hI N u μ y1 hi
  refine lv_aload_n (pc := 1055) hx hb dL_law_1055 rfl (lv_at hl 1 rfl) ?_
  refine lv_aload_n (pc := 1056) hx hb dL_law_1056 rfl (lv_at hl 0 rfl) ?_
  refine lv_iload_n (pc := 1057) hx hb dL_law_1057 rfl (lv_at hl 3 rfl) ?_
  refine lv_iconst (pc := 1058) (v := 1) hx hb dL_law_1058 (by decide) ?_
  refine lv_iadd (pc := 1059) hx hb dL_law_1059 ?_
  refine va_sld (pc := 1060) hx hb hX hbl hbA h.2.2 hin1 dL_law_1060 ?_
  refine rTop ey1 ?_
  refine lLi (pc := 1061) (n := 1) hx hb hml hown hts hK hN (c_X11_open hNN hf1) (gdV ml_L_137 im_X11_open se_X11_open in_X11 co_X11_open) rfl (by decide +kernel) rfl (Nat.le_of_ble_eq_true rfl) (Nat.le_of_ble_eq_true rfl) h hA hl.1 ⟨show 100 + 16 * j ≤ 600000 by omega, show 2000 + 119 * j ≤ 7302250 by omega⟩ (Nat.lt_of_lt_of_le (by decide) hNN) rfl rfl rfl (Nat.le_of_ble_eq_true rfl) dL_law_1061 (fun H locs h => ?_)
  refine lv_aload_n (pc := 1064) hx hb dL_law_1064 rfl (lv_at hl 2 rfl) ?_
  refine lv_aload_n (pc := 1065) hx hb dL_law_1065 rfl (lv_at hl 0 rfl) ?_
  refine lv_iload_n (pc := 1066) hx hb dL_law_1066 rfl (lv_at hl 3 rfl) ?_
  refine lv_iconst (pc := 1067) (v := 1) hx hb dL_law_1067 (by decide) ?_
  refine lv_iadd (pc := 1068) hx hb dL_law_1068 ?_
  refine va_sld (pc := 1069) hx hb hX hbl hbA h.2.2 hin1 dL_law_1069 ?_
  refine rTop ey1 ?_
  refine lRi (pc := 1070) (n := 1) (rest := [.int r]) hx hb hml hown hts hKm hN (c_X12_open hf2) (gdV ml_L_140 im_X12_open se_X12_open in_X12 co_X12_open) rfl (by decide +kernel) rfl (Nat.le_of_ble_eq_true rfl) (Nat.le_of_ble_eq_true rfl) h hA hl.1 ⟨show 100 + 16 * j ≤ 600000 by omega, show 2000 + 119 * j ≤ 7302250 by omega⟩ (by decide) rfl rfl rfl (Nat.le_of_ble_eq_true rfl) dL_law_1070 (fun H locs h => ?_)
  refine lv_icmp_eq (pc := 1073) (tgt := 1302) hx hb dL_law_1073 (by decide) (fun _ => ?_) (fun h9 => absurd rfl h9)
  refine W.widen (k := 100 + 16 * (j + 1)) (n := 2000 + 119 * (j + 1)) (by omega) (by omega) ?_
  exact hnext _ _ _ _ hi2 _ _ _ h hl
set_option maxRecDepth 100000 in
set_option maxHeartbeats 4000000 in
theorem law_shifts {p : Program} {l : Launch} {e : Env} {s : State} {m : MethodId} {below : List Frame} {meth : Method} {c : Code} {D : va_G} {cI cJ cR cZ : ClassId} {bS L : Nat} {xs : Nat → Int32} {tF tL tM : Nat} {I : Nat → St → St → Prop} {Q : State → Prop} (X0 : LCX p s m c D cI cJ cR cZ bS L xs tF tL tM) (hIN : Sp_N I) (hI : Sp_shifts I) {j : Nat} (hj : j ≤ 64) {x3 : Int32} (hin1 : vp_in (x3 + 1) L) (hin2 : vp_in (x3 + 2) L) (hin3 : vp_in (x3 + 3) L) (hin4 : vp_in (x3 + 4) L) (hin5 : vp_in (x3 + 5) L) {b : Nat → Nat} (hnext : ∀ (N : Nat) (a : Nat → Nat) (u μ : St), I N u μ → ∀ (H : Heap) (locs : List Loc) (ls : Array Slot), Hh D (fun q => s.heap.size ≤ q) (wX N a (EB a cI cJ cR) u ++ wX 21 b (EM b cI cZ) μ) s.heap H locs → lv_has ls 4 [(0, .ref bS), (1, .ref (a 0)), (2, .ref (b 0)), (3, .int x3)] → W p l e room_1 s m #[Value.ref bS] below meth c H locs (100 + 16 * (j + 1)) (2000 + 119 * (j + 1)) Q (F0 m 1302 ls [])) {N : Nat} {a : Nat → Nat} {u μ : St} (hi : I N u μ) {H : Heap} {locs : List Loc} {ls : Array Slot} (h : Hh D (fun q => s.heap.size ≤ q) (wX N a (EB a cI cJ cR) u ++ wX 21 b (EM b cI cZ) μ) s.heap H locs) (hl : lv_has ls 4 [(0, .ref bS), (1, .ref (a 0)), (2, .ref (b 0)), (3, .int x3)]) : W p l e room_1 s m #[Value.ref bS] below meth c H locs (100 + 16 * j) (2000 + 119 * j) Q (F0 m 1078 ls []) := by
  obtain ⟨hx, hb, hml, hown, hts, hKL, hN, hW0, hZ, hX, hbl⟩ := X0
  have hK : va_K D vwCl (tyB cI cJ cR) s := hKL.sub [0, 1, 2] rfl
  have hKm : va_K D vwCl (tyM cI cZ) s := hKL.sub [0, 3] rfl
  have hA : ∀ q : Nat, s.heap.size ≤ q → (fun q : Nat => s.heap.size ≤ q) q := fun _ h9 => h9
  have hbA : ¬ (fun q : Nat => s.heap.size ≤ q) bS := Nat.not_le.mpr hbl
  obtain ⟨hNN, hqA, hqB⟩ := hIN N u μ hi
  obtain ⟨y1, ey1⟩ : ∃ y : Int32, y = xs (x3 + 1).toNatClampNeg := ⟨_, rfl⟩
  obtain ⟨y2, ey2⟩ : ∃ y : Int32, y = xs (x3 + 2).toNatClampNeg := ⟨_, rfl⟩
  obtain ⟨y3, ey3⟩ : ∃ y : Int32, y = xs (x3 + 3).toNatClampNeg := ⟨_, rfl⟩
  obtain ⟨r, u2, hf1, hf2, hi2⟩ := hI N u μ y1 y2 y3 hi
  refine lv_aload_n (pc := 1078) hx hb dL_law_1078 rfl (lv_at hl 1 rfl) ?_
  refine lv_aload_n (pc := 1079) hx hb dL_law_1079 rfl (lv_at hl 0 rfl) ?_
  refine lv_iload_n (pc := 1080) hx hb dL_law_1080 rfl (lv_at hl 3 rfl) ?_
  refine lv_iconst (pc := 1081) (v := 1) hx hb dL_law_1081 (by decide) ?_
  refine lv_iadd (pc := 1082) hx hb dL_law_1082 ?_
  refine va_sld (pc := 1083) hx hb hX hbl hbA h.2.2 hin1 dL_law_1083 ?_
  refine rTop ey1 ?_
  refine lv_aload_n (pc := 1084) hx hb dL_law_1084 rfl (lv_at hl 0 rfl) ?_
  refine lv_iload_n (pc := 1085) hx hb dL_law_1085 rfl (lv_at hl 3 rfl) ?_
  refine lv_iconst (pc := 1086) (v := 2) hx hb dL_law_1086 (by decide) ?_
  refine lv_iadd (pc := 1087) hx hb dL_law_1087 ?_
  refine va_sld (pc := 1088) hx hb hX hbl hbA h.2.2 hin2 dL_law_1088 ?_
  refine rTop ey2 ?_
  refine lv_aload_n (pc := 1089) hx hb dL_law_1089 rfl (lv_at hl 0 rfl) ?_
  refine lv_iload_n (pc := 1090) hx hb dL_law_1090 rfl (lv_at hl 3 rfl) ?_
  refine lv_iconst (pc := 1091) (v := 3) hx hb dL_law_1091 (by decide) ?_
  refine lv_iadd (pc := 1092) hx hb dL_law_1092 ?_
  refine va_sld (pc := 1093) hx hb hX hbl hbA h.2.2 hin3 dL_law_1093 ?_
  refine rTop ey3 ?_
  refine lLi (pc := 1094) (n := 3) hx hb hml hown hts hK hN (c_X11_shifts hNN hf1) (gdV ml_L_141 im_X11_shifts se_X11_shifts in_X11 co_X11_shifts) rfl (by decide +kernel) rfl (Nat.le_of_ble_eq_true rfl) (Nat.le_of_ble_eq_true rfl) h hA hl.1 ⟨show 100 + 16 * j ≤ 600000 by omega, show 2000 + 119 * j ≤ 7302250 by omega⟩ (Nat.lt_of_lt_of_le (by decide) hNN) rfl rfl rfl (Nat.le_of_ble_eq_true rfl) dL_law_1094 (fun H locs h => ?_)
  refine lv_aload_n (pc := 1097) hx hb dL_law_1097 rfl (lv_at hl 2 rfl) ?_
  refine lv_aload_n (pc := 1098) hx hb dL_law_1098 rfl (lv_at hl 0 rfl) ?_
  refine lv_iload_n (pc := 1099) hx hb dL_law_1099 rfl (lv_at hl 3 rfl) ?_
  refine lv_iconst (pc := 1100) (v := 1) hx hb dL_law_1100 (by decide) ?_
  refine lv_iadd (pc := 1101) hx hb dL_law_1101 ?_
  refine va_sld (pc := 1102) hx hb hX hbl hbA h.2.2 hin1 dL_law_1102 ?_
  refine rTop ey1 ?_
  refine lv_aload_n (pc := 1103) hx hb dL_law_1103 rfl (lv_at hl 0 rfl) ?_
  refine lv_iload_n (pc := 1104) hx hb dL_law_1104 rfl (lv_at hl 3 rfl) ?_
  refine lv_iconst (pc := 1105) (v := 2) hx hb dL_law_1105 (by decide) ?_
  refine lv_iadd (pc := 1106) hx hb dL_law_1106 ?_
  refine va_sld (pc := 1107) hx hb hX hbl hbA h.2.2 hin2 dL_law_1107 ?_
  refine rTop ey2 ?_
  refine lv_aload_n (pc := 1108) hx hb dL_law_1108 rfl (lv_at hl 0 rfl) ?_
  refine lv_iload_n (pc := 1109) hx hb dL_law_1109 rfl (lv_at hl 3 rfl) ?_
  refine lv_iconst (pc := 1110) (v := 3) hx hb dL_law_1110 (by decide) ?_
  refine lv_iadd (pc := 1111) hx hb dL_law_1111 ?_
  refine va_sld (pc := 1112) hx hb hX hbl hbA h.2.2 hin3 dL_law_1112 ?_
  refine rTop ey3 ?_
  refine lRi (pc := 1113) (n := 3) (rest := [.int r]) hx hb hml hown hts hKm hN (c_X12_shifts hf2) (gdV ml_L_144 im_X12_shifts se_X12_shifts in_X12 co_X12_shifts) rfl (by decide +kernel) rfl (Nat.le_of_ble_eq_true rfl) (Nat.le_of_ble_eq_true rfl) h hA hl.1 ⟨show 100 + 16 * j ≤ 600000 by omega, show 2000 + 119 * j ≤ 7302250 by omega⟩ (by decide) rfl rfl rfl (Nat.le_of_ble_eq_true rfl) dL_law_1113 (fun H locs h => ?_)
  refine lv_icmp_eq (pc := 1116) (tgt := 1302) hx hb dL_law_1116 (by decide) (fun _ => ?_) (fun h9 => absurd rfl h9)
  refine W.widen (k := 100 + 16 * (j + 1)) (n := 2000 + 119 * (j + 1)) (by omega) (by omega) ?_
  exact hnext _ _ _ _ hi2 _ _ _ h hl
set_option maxRecDepth 100000 in
set_option maxHeartbeats 4000000 in
theorem law_drought {p : Program} {l : Launch} {e : Env} {s : State} {m : MethodId} {below : List Frame} {meth : Method} {c : Code} {D : va_G} {cI cJ cR cZ : ClassId} {bS L : Nat} {xs : Nat → Int32} {tF tL tM : Nat} {I : Nat → St → St → Prop} {Q : State → Prop} (X0 : LCX p s m c D cI cJ cR cZ bS L xs tF tL tM) (hIN : Sp_N I) (hI : Sp_drought I) {j : Nat} (hj : j ≤ 64) {x3 : Int32} (hin1 : vp_in (x3 + 1) L) (hin2 : vp_in (x3 + 2) L) (hin3 : vp_in (x3 + 3) L) (hin4 : vp_in (x3 + 4) L) (hin5 : vp_in (x3 + 5) L) {b : Nat → Nat} (hnext : ∀ (N : Nat) (a : Nat → Nat) (u μ : St), I N u μ → ∀ (H : Heap) (locs : List Loc) (ls : Array Slot), Hh D (fun q => s.heap.size ≤ q) (wX N a (EB a cI cJ cR) u ++ wX 21 b (EM b cI cZ) μ) s.heap H locs → lv_has ls 4 [(0, .ref bS), (1, .ref (a 0)), (2, .ref (b 0)), (3, .int x3)] → W p l e room_1 s m #[Value.ref bS] below meth c H locs (100 + 16 * (j + 1)) (2000 + 119 * (j + 1)) Q (F0 m 1302 ls [])) {N : Nat} {a : Nat → Nat} {u μ : St} (hi : I N u μ) {H : Heap} {locs : List Loc} {ls : Array Slot} (h : Hh D (fun q => s.heap.size ≤ q) (wX N a (EB a cI cJ cR) u ++ wX 21 b (EM b cI cZ) μ) s.heap H locs) (hl : lv_has ls 4 [(0, .ref bS), (1, .ref (a 0)), (2, .ref (b 0)), (3, .int x3)]) : W p l e room_1 s m #[Value.ref bS] below meth c H locs (100 + 16 * j) (2000 + 119 * j) Q (F0 m 1121 ls []) := by
  obtain ⟨hx, hb, hml, hown, hts, hKL, hN, hW0, hZ, hX, hbl⟩ := X0
  have hK : va_K D vwCl (tyB cI cJ cR) s := hKL.sub [0, 1, 2] rfl
  have hKm : va_K D vwCl (tyM cI cZ) s := hKL.sub [0, 3] rfl
  have hA : ∀ q : Nat, s.heap.size ≤ q → (fun q : Nat => s.heap.size ≤ q) q := fun _ h9 => h9
  have hbA : ¬ (fun q : Nat => s.heap.size ≤ q) bS := Nat.not_le.mpr hbl
  obtain ⟨hNN, hqA, hqB⟩ := hIN N u μ hi
  obtain ⟨y1, ey1⟩ : ∃ y : Int32, y = xs (x3 + 1).toNatClampNeg := ⟨_, rfl⟩
  obtain ⟨r, u2, μ2, hf1, hf2, hi2⟩ := hI N u μ y1 hi
  refine lv_aload_n (pc := 1121) hx hb dL_law_1121 rfl (lv_at hl 1 rfl) ?_
  refine lv_aload_n (pc := 1122) hx hb dL_law_1122 rfl (lv_at hl 0 rfl) ?_
  refine lv_iload_n (pc := 1123) hx hb dL_law_1123 rfl (lv_at hl 3 rfl) ?_
  refine lv_iconst (pc := 1124) (v := 1) hx hb dL_law_1124 (by decide) ?_
  refine lv_iadd (pc := 1125) hx hb dL_law_1125 ?_
  refine va_sld (pc := 1126) hx hb hX hbl hbA h.2.2 hin1 dL_law_1126 ?_
  refine rTop ey1 ?_
  refine lLi (pc := 1127) (n := 1) hx hb hml hown hts hK hN (c_X11_drought hNN hf1) (gdV ml_L_145 im_X11_drought se_X11_drought in_X11 co_X11_drought) rfl (by decide +kernel) rfl (Nat.le_of_ble_eq_true rfl) (Nat.le_of_ble_eq_true rfl) h hA hl.1 ⟨show 100 + 16 * j ≤ 600000 by omega, show 2000 + 119 * j ≤ 7302250 by omega⟩ (Nat.lt_of_lt_of_le (by decide) hNN) rfl rfl rfl (Nat.le_of_ble_eq_true rfl) dL_law_1127 (fun H locs h => ?_)
  refine lv_aload_n (pc := 1130) hx hb dL_law_1130 rfl (lv_at hl 2 rfl) ?_
  refine lv_aload_n (pc := 1131) hx hb dL_law_1131 rfl (lv_at hl 0 rfl) ?_
  refine lv_iload_n (pc := 1132) hx hb dL_law_1132 rfl (lv_at hl 3 rfl) ?_
  refine lv_iconst (pc := 1133) (v := 1) hx hb dL_law_1133 (by decide) ?_
  refine lv_iadd (pc := 1134) hx hb dL_law_1134 ?_
  refine va_sld (pc := 1135) hx hb hX hbl hbA h.2.2 hin1 dL_law_1135 ?_
  refine rTop ey1 ?_
  refine lRi (pc := 1136) (n := 1) (rest := [.int r]) hx hb hml hown hts hKm hN (c_X12_drought hf2) (gdV ml_L_148 im_X12_drought se_X12_drought in_X12 co_X12_drought) rfl (by decide +kernel) rfl (Nat.le_of_ble_eq_true rfl) (Nat.le_of_ble_eq_true rfl) h hA hl.1 ⟨show 100 + 16 * j ≤ 600000 by omega, show 2000 + 119 * j ≤ 7302250 by omega⟩ (by decide) rfl rfl rfl (Nat.le_of_ble_eq_true rfl) dL_law_1136 (fun H locs h => ?_)
  refine lv_icmp_eq (pc := 1139) (tgt := 1302) hx hb dL_law_1139 (by decide) (fun _ => ?_) (fun h9 => absurd rfl h9)
  refine W.widen (k := 100 + 16 * (j + 1)) (n := 2000 + 119 * (j + 1)) (by omega) (by omega) ?_
  exact hnext _ _ _ _ hi2 _ _ _ h hl
set_option maxRecDepth 100000 in
set_option maxHeartbeats 4000000 in
theorem law_quiet {p : Program} {l : Launch} {e : Env} {s : State} {m : MethodId} {below : List Frame} {meth : Method} {c : Code} {D : va_G} {cI cJ cR cZ : ClassId} {bS L : Nat} {xs : Nat → Int32} {tF tL tM : Nat} {I : Nat → St → St → Prop} {Q : State → Prop} (X0 : LCX p s m c D cI cJ cR cZ bS L xs tF tL tM) (hIN : Sp_N I) (hI : Sp_quiet I) {j : Nat} (hj : j ≤ 64) {x3 : Int32} (hin1 : vp_in (x3 + 1) L) (hin2 : vp_in (x3 + 2) L) (hin3 : vp_in (x3 + 3) L) (hin4 : vp_in (x3 + 4) L) (hin5 : vp_in (x3 + 5) L) {b : Nat → Nat} (hnext : ∀ (N : Nat) (a : Nat → Nat) (u μ : St), I N u μ → ∀ (H : Heap) (locs : List Loc) (ls : Array Slot), Hh D (fun q => s.heap.size ≤ q) (wX N a (EB a cI cJ cR) u ++ wX 21 b (EM b cI cZ) μ) s.heap H locs → lv_has ls 4 [(0, .ref bS), (1, .ref (a 0)), (2, .ref (b 0)), (3, .int x3)] → W p l e room_1 s m #[Value.ref bS] below meth c H locs (100 + 16 * (j + 1)) (2000 + 119 * (j + 1)) Q (F0 m 1302 ls [])) {N : Nat} {a : Nat → Nat} {u μ : St} (hi : I N u μ) {H : Heap} {locs : List Loc} {ls : Array Slot} (h : Hh D (fun q => s.heap.size ≤ q) (wX N a (EB a cI cJ cR) u ++ wX 21 b (EM b cI cZ) μ) s.heap H locs) (hl : lv_has ls 4 [(0, .ref bS), (1, .ref (a 0)), (2, .ref (b 0)), (3, .int x3)]) : W p l e room_1 s m #[Value.ref bS] below meth c H locs (100 + 16 * j) (2000 + 119 * j) Q (F0 m 1144 ls []) := by
  obtain ⟨hx, hb, hml, hown, hts, hKL, hN, hW0, hZ, hX, hbl⟩ := X0
  have hK : va_K D vwCl (tyB cI cJ cR) s := hKL.sub [0, 1, 2] rfl
  have hKm : va_K D vwCl (tyM cI cZ) s := hKL.sub [0, 3] rfl
  have hA : ∀ q : Nat, s.heap.size ≤ q → (fun q : Nat => s.heap.size ≤ q) q := fun _ h9 => h9
  have hbA : ¬ (fun q : Nat => s.heap.size ≤ q) bS := Nat.not_le.mpr hbl
  obtain ⟨hNN, hqA, hqB⟩ := hIN N u μ hi
  obtain ⟨y1, ey1⟩ : ∃ y : Int32, y = xs (x3 + 1).toNatClampNeg := ⟨_, rfl⟩
  obtain ⟨r, u2, hf1, hf2, hi2⟩ := hI N u μ y1 hi
  refine lv_aload_n (pc := 1144) hx hb dL_law_1144 rfl (lv_at hl 1 rfl) ?_
  refine lv_aload_n (pc := 1145) hx hb dL_law_1145 rfl (lv_at hl 0 rfl) ?_
  refine lv_iload_n (pc := 1146) hx hb dL_law_1146 rfl (lv_at hl 3 rfl) ?_
  refine lv_iconst (pc := 1147) (v := 1) hx hb dL_law_1147 (by decide) ?_
  refine lv_iadd (pc := 1148) hx hb dL_law_1148 ?_
  refine va_sld (pc := 1149) hx hb hX hbl hbA h.2.2 hin1 dL_law_1149 ?_
  refine rTop ey1 ?_
  refine lLi (pc := 1150) (n := 1) hx hb hml hown hts hK hN (c_X11_quiet hNN hf1) (gdV ml_L_149 im_X11_quiet se_X11_quiet in_X11 co_X11_quiet) rfl (by decide +kernel) rfl (Nat.le_of_ble_eq_true rfl) (Nat.le_of_ble_eq_true rfl) h hA hl.1 ⟨show 100 + 16 * j ≤ 600000 by omega, show 2000 + 119 * j ≤ 7302250 by omega⟩ (Nat.lt_of_lt_of_le (by decide) hNN) rfl rfl rfl (Nat.le_of_ble_eq_true rfl) dL_law_1150 (fun H locs h => ?_)
  refine lv_aload_n (pc := 1153) hx hb dL_law_1153 rfl (lv_at hl 2 rfl) ?_
  refine lv_aload_n (pc := 1154) hx hb dL_law_1154 rfl (lv_at hl 0 rfl) ?_
  refine lv_iload_n (pc := 1155) hx hb dL_law_1155 rfl (lv_at hl 3 rfl) ?_
  refine lv_iconst (pc := 1156) (v := 1) hx hb dL_law_1156 (by decide) ?_
  refine lv_iadd (pc := 1157) hx hb dL_law_1157 ?_
  refine va_sld (pc := 1158) hx hb hX hbl hbA h.2.2 hin1 dL_law_1158 ?_
  refine rTop ey1 ?_
  refine lRi (pc := 1159) (n := 1) (rest := [.int r]) hx hb hml hown hts hKm hN (c_X12_quiet hf2) (gdV ml_L_152 im_X12_quiet se_X12_quiet in_X12 co_X12_quiet) rfl (by decide +kernel) rfl (Nat.le_of_ble_eq_true rfl) (Nat.le_of_ble_eq_true rfl) h hA hl.1 ⟨show 100 + 16 * j ≤ 600000 by omega, show 2000 + 119 * j ≤ 7302250 by omega⟩ (by decide) rfl rfl rfl (Nat.le_of_ble_eq_true rfl) dL_law_1159 (fun H locs h => ?_)
  refine lv_icmp_eq (pc := 1162) (tgt := 1302) hx hb dL_law_1162 (by decide) (fun _ => ?_) (fun h9 => absurd rfl h9)
  refine W.widen (k := 100 + 16 * (j + 1)) (n := 2000 + 119 * (j + 1)) (by omega) (by omega) ?_
  exact hnext _ _ _ _ hi2 _ _ _ h hl
set_option maxRecDepth 100000 in
set_option maxHeartbeats 4000000 in
theorem law_period {p : Program} {l : Launch} {e : Env} {s : State} {m : MethodId} {below : List Frame} {meth : Method} {c : Code} {D : va_G} {cI cJ cR cZ : ClassId} {bS L : Nat} {xs : Nat → Int32} {tF tL tM : Nat} {I : Nat → St → St → Prop} {Q : State → Prop} (X0 : LCX p s m c D cI cJ cR cZ bS L xs tF tL tM) (hIN : Sp_N I) (hI : Sp_period I) {j : Nat} (hj : j ≤ 64) {x3 : Int32} (hin1 : vp_in (x3 + 1) L) (hin2 : vp_in (x3 + 2) L) (hin3 : vp_in (x3 + 3) L) (hin4 : vp_in (x3 + 4) L) (hin5 : vp_in (x3 + 5) L) {b : Nat → Nat} (hnext : ∀ (N : Nat) (a : Nat → Nat) (u μ : St), I N u μ → ∀ (H : Heap) (locs : List Loc) (ls : Array Slot), Hh D (fun q => s.heap.size ≤ q) (wX N a (EB a cI cJ cR) u ++ wX 21 b (EM b cI cZ) μ) s.heap H locs → lv_has ls 4 [(0, .ref bS), (1, .ref (a 0)), (2, .ref (b 0)), (3, .int x3)] → W p l e room_1 s m #[Value.ref bS] below meth c H locs (100 + 16 * (j + 1)) (2000 + 119 * (j + 1)) Q (F0 m 1302 ls [])) {N : Nat} {a : Nat → Nat} {u μ : St} (hi : I N u μ) {H : Heap} {locs : List Loc} {ls : Array Slot} (h : Hh D (fun q => s.heap.size ≤ q) (wX N a (EB a cI cJ cR) u ++ wX 21 b (EM b cI cZ) μ) s.heap H locs) (hl : lv_has ls 4 [(0, .ref bS), (1, .ref (a 0)), (2, .ref (b 0)), (3, .int x3)]) : W p l e room_1 s m #[Value.ref bS] below meth c H locs (100 + 16 * j) (2000 + 119 * j) Q (F0 m 1167 ls []) := by
  obtain ⟨hx, hb, hml, hown, hts, hKL, hN, hW0, hZ, hX, hbl⟩ := X0
  have hK : va_K D vwCl (tyB cI cJ cR) s := hKL.sub [0, 1, 2] rfl
  have hKm : va_K D vwCl (tyM cI cZ) s := hKL.sub [0, 3] rfl
  have hA : ∀ q : Nat, s.heap.size ≤ q → (fun q : Nat => s.heap.size ≤ q) q := fun _ h9 => h9
  have hbA : ¬ (fun q : Nat => s.heap.size ≤ q) bS := Nat.not_le.mpr hbl
  obtain ⟨hNN, hqA, hqB⟩ := hIN N u μ hi
  obtain ⟨r, hf1, hf2, hi2⟩ := hI N u μ hi
  refine lv_aload_n (pc := 1167) hx hb dL_law_1167 rfl (lv_at hl 1 rfl) ?_
  refine lLi (pc := 1168) (n := 0) hx hb hml hown hts hK hN (c_X11_period hNN hf1) (gdV ml_L_153 im_X11_period se_X11_period in_X11 co_X11_period) rfl (by decide +kernel) rfl (Nat.le_of_ble_eq_true rfl) (Nat.le_of_ble_eq_true rfl) h hA hl.1 ⟨show 100 + 16 * j ≤ 600000 by omega, show 2000 + 119 * j ≤ 7302250 by omega⟩ (Nat.lt_of_lt_of_le (by decide) hNN) rfl rfl rfl (Nat.le_of_ble_eq_true rfl) dL_law_1168 (fun H locs h => ?_)
  refine lv_aload_n (pc := 1171) hx hb dL_law_1171 rfl (lv_at hl 2 rfl) ?_
  refine lRi (pc := 1172) (n := 0) (rest := [.int r]) hx hb hml hown hts hKm hN (c_X12_period hf2) (gdV ml_L_156 im_X12_period se_X12_period in_X12 co_X12_period) rfl (by decide +kernel) rfl (Nat.le_of_ble_eq_true rfl) (Nat.le_of_ble_eq_true rfl) h hA hl.1 ⟨show 100 + 16 * j ≤ 600000 by omega, show 2000 + 119 * j ≤ 7302250 by omega⟩ (by decide) rfl rfl rfl (Nat.le_of_ble_eq_true rfl) dL_law_1172 (fun H locs h => ?_)
  refine lv_icmp_eq (pc := 1175) (tgt := 1302) hx hb dL_law_1175 (by decide) (fun _ => ?_) (fun h9 => absurd rfl h9)
  refine W.widen (k := 100 + 16 * (j + 1)) (n := 2000 + 119 * (j + 1)) (by omega) (by omega) ?_
  exact hnext _ _ _ _ hi2 _ _ _ h hl
set_option maxRecDepth 100000 in
set_option maxHeartbeats 4000000 in
theorem law_year {p : Program} {l : Launch} {e : Env} {s : State} {m : MethodId} {below : List Frame} {meth : Method} {c : Code} {D : va_G} {cI cJ cR cZ : ClassId} {bS L : Nat} {xs : Nat → Int32} {tF tL tM : Nat} {I : Nat → St → St → Prop} {Q : State → Prop} (X0 : LCX p s m c D cI cJ cR cZ bS L xs tF tL tM) (hIN : Sp_N I) (hI : Sp_year I) {j : Nat} (hj : j ≤ 64) {x3 : Int32} (hin1 : vp_in (x3 + 1) L) (hin2 : vp_in (x3 + 2) L) (hin3 : vp_in (x3 + 3) L) (hin4 : vp_in (x3 + 4) L) (hin5 : vp_in (x3 + 5) L) {b : Nat → Nat} (hnext : ∀ (N : Nat) (a : Nat → Nat) (u μ : St), I N u μ → ∀ (H : Heap) (locs : List Loc) (ls : Array Slot), Hh D (fun q => s.heap.size ≤ q) (wX N a (EB a cI cJ cR) u ++ wX 21 b (EM b cI cZ) μ) s.heap H locs → lv_has ls 4 [(0, .ref bS), (1, .ref (a 0)), (2, .ref (b 0)), (3, .int x3)] → W p l e room_1 s m #[Value.ref bS] below meth c H locs (100 + 16 * (j + 1)) (2000 + 119 * (j + 1)) Q (F0 m 1302 ls [])) {N : Nat} {a : Nat → Nat} {u μ : St} (hi : I N u μ) {H : Heap} {locs : List Loc} {ls : Array Slot} (h : Hh D (fun q => s.heap.size ≤ q) (wX N a (EB a cI cJ cR) u ++ wX 21 b (EM b cI cZ) μ) s.heap H locs) (hl : lv_has ls 4 [(0, .ref bS), (1, .ref (a 0)), (2, .ref (b 0)), (3, .int x3)]) : W p l e room_1 s m #[Value.ref bS] below meth c H locs (100 + 16 * j) (2000 + 119 * j) Q (F0 m 1180 ls []) := by
  obtain ⟨hx, hb, hml, hown, hts, hKL, hN, hW0, hZ, hX, hbl⟩ := X0
  have hK : va_K D vwCl (tyB cI cJ cR) s := hKL.sub [0, 1, 2] rfl
  have hKm : va_K D vwCl (tyM cI cZ) s := hKL.sub [0, 3] rfl
  have hA : ∀ q : Nat, s.heap.size ≤ q → (fun q : Nat => s.heap.size ≤ q) q := fun _ h9 => h9
  have hbA : ¬ (fun q : Nat => s.heap.size ≤ q) bS := Nat.not_le.mpr hbl
  obtain ⟨hNN, hqA, hqB⟩ := hIN N u μ hi
  obtain ⟨y1, ey1⟩ : ∃ y : Int32, y = xs (x3 + 1).toNatClampNeg := ⟨_, rfl⟩
  obtain ⟨y2, ey2⟩ : ∃ y : Int32, y = xs (x3 + 2).toNatClampNeg := ⟨_, rfl⟩
  obtain ⟨y3, ey3⟩ : ∃ y : Int32, y = xs (x3 + 3).toNatClampNeg := ⟨_, rfl⟩
  obtain ⟨y4, ey4⟩ : ∃ y : Int32, y = xs (x3 + 4).toNatClampNeg := ⟨_, rfl⟩
  obtain ⟨r, u2, μ2, hf1, hf2, hi2⟩ := hI N u μ y1 y2 y3 y4 hi
  refine lv_aload_n (pc := 1180) hx hb dL_law_1180 rfl (lv_at hl 1 rfl) ?_
  refine lv_aload_n (pc := 1181) hx hb dL_law_1181 rfl (lv_at hl 0 rfl) ?_
  refine lv_iload_n (pc := 1182) hx hb dL_law_1182 rfl (lv_at hl 3 rfl) ?_
  refine lv_iconst (pc := 1183) (v := 1) hx hb dL_law_1183 (by decide) ?_
  refine lv_iadd (pc := 1184) hx hb dL_law_1184 ?_
  refine va_sld (pc := 1185) hx hb hX hbl hbA h.2.2 hin1 dL_law_1185 ?_
  refine rTop ey1 ?_
  refine lv_aload_n (pc := 1186) hx hb dL_law_1186 rfl (lv_at hl 0 rfl) ?_
  refine lv_iload_n (pc := 1187) hx hb dL_law_1187 rfl (lv_at hl 3 rfl) ?_
  refine lv_iconst (pc := 1188) (v := 2) hx hb dL_law_1188 (by decide) ?_
  refine lv_iadd (pc := 1189) hx hb dL_law_1189 ?_
  refine va_sld (pc := 1190) hx hb hX hbl hbA h.2.2 hin2 dL_law_1190 ?_
  refine rTop ey2 ?_
  refine lv_aload_n (pc := 1191) hx hb dL_law_1191 rfl (lv_at hl 0 rfl) ?_
  refine lv_iload_n (pc := 1192) hx hb dL_law_1192 rfl (lv_at hl 3 rfl) ?_
  refine lv_iconst (pc := 1193) (v := 3) hx hb dL_law_1193 (by decide) ?_
  refine lv_iadd (pc := 1194) hx hb dL_law_1194 ?_
  refine va_sld (pc := 1195) hx hb hX hbl hbA h.2.2 hin3 dL_law_1195 ?_
  refine rTop ey3 ?_
  refine lv_aload_n (pc := 1196) hx hb dL_law_1196 rfl (lv_at hl 0 rfl) ?_
  refine lv_iload_n (pc := 1197) hx hb dL_law_1197 rfl (lv_at hl 3 rfl) ?_
  refine lv_iconst (pc := 1198) (v := 4) hx hb dL_law_1198 (by decide) ?_
  refine lv_iadd (pc := 1199) hx hb dL_law_1199 ?_
  refine va_sld (pc := 1200) hx hb hX hbl hbA h.2.2 hin4 dL_law_1200 ?_
  refine rTop ey4 ?_
  refine lLi (pc := 1201) (n := 4) hx hb hml hown hts hK hN (c_X11_year hNN hf1) (gdV ml_L_157 im_X11_year se_X11_year in_X11 co_X11_year) rfl (by decide +kernel) rfl (Nat.le_of_ble_eq_true rfl) (Nat.le_of_ble_eq_true rfl) h hA hl.1 ⟨show 100 + 16 * j ≤ 600000 by omega, show 2000 + 119 * j ≤ 7302250 by omega⟩ (Nat.lt_of_lt_of_le (by decide) hNN) rfl rfl rfl (Nat.le_of_ble_eq_true rfl) dL_law_1201 (fun H locs h => ?_)
  refine lv_aload_n (pc := 1204) hx hb dL_law_1204 rfl (lv_at hl 2 rfl) ?_
  refine lv_aload_n (pc := 1205) hx hb dL_law_1205 rfl (lv_at hl 0 rfl) ?_
  refine lv_iload_n (pc := 1206) hx hb dL_law_1206 rfl (lv_at hl 3 rfl) ?_
  refine lv_iconst (pc := 1207) (v := 1) hx hb dL_law_1207 (by decide) ?_
  refine lv_iadd (pc := 1208) hx hb dL_law_1208 ?_
  refine va_sld (pc := 1209) hx hb hX hbl hbA h.2.2 hin1 dL_law_1209 ?_
  refine rTop ey1 ?_
  refine lv_aload_n (pc := 1210) hx hb dL_law_1210 rfl (lv_at hl 0 rfl) ?_
  refine lv_iload_n (pc := 1211) hx hb dL_law_1211 rfl (lv_at hl 3 rfl) ?_
  refine lv_iconst (pc := 1212) (v := 2) hx hb dL_law_1212 (by decide) ?_
  refine lv_iadd (pc := 1213) hx hb dL_law_1213 ?_
  refine va_sld (pc := 1214) hx hb hX hbl hbA h.2.2 hin2 dL_law_1214 ?_
  refine rTop ey2 ?_
  refine lv_aload_n (pc := 1215) hx hb dL_law_1215 rfl (lv_at hl 0 rfl) ?_
  refine lv_iload_n (pc := 1216) hx hb dL_law_1216 rfl (lv_at hl 3 rfl) ?_
  refine lv_iconst (pc := 1217) (v := 3) hx hb dL_law_1217 (by decide) ?_
  refine lv_iadd (pc := 1218) hx hb dL_law_1218 ?_
  refine va_sld (pc := 1219) hx hb hX hbl hbA h.2.2 hin3 dL_law_1219 ?_
  refine rTop ey3 ?_
  refine lv_aload_n (pc := 1220) hx hb dL_law_1220 rfl (lv_at hl 0 rfl) ?_
  refine lv_iload_n (pc := 1221) hx hb dL_law_1221 rfl (lv_at hl 3 rfl) ?_
  refine lv_iconst (pc := 1222) (v := 4) hx hb dL_law_1222 (by decide) ?_
  refine lv_iadd (pc := 1223) hx hb dL_law_1223 ?_
  refine va_sld (pc := 1224) hx hb hX hbl hbA h.2.2 hin4 dL_law_1224 ?_
  refine rTop ey4 ?_
  refine lRi (pc := 1225) (n := 4) (rest := [.int r]) hx hb hml hown hts hKm hN (c_X12_year hf2) (gdV ml_L_161 im_X12_year se_X12_year in_X12 co_X12_year) rfl (by decide +kernel) rfl (Nat.le_of_ble_eq_true rfl) (Nat.le_of_ble_eq_true rfl) h hA hl.1 ⟨show 100 + 16 * j ≤ 600000 by omega, show 2000 + 119 * j ≤ 7302250 by omega⟩ (by decide) rfl rfl rfl (Nat.le_of_ble_eq_true rfl) dL_law_1225 (fun H locs h => ?_)
  refine lv_icmp_eq (pc := 1228) (tgt := 1302) hx hb dL_law_1228 (by decide) (fun _ => ?_) (fun h9 => absurd rfl h9)
  refine W.widen (k := 100 + 16 * (j + 1)) (n := 2000 + 119 * (j + 1)) (by omega) (by omega) ?_
  exact hnext _ _ _ _ hi2 _ _ _ h hl
set_option maxRecDepth 100000 in
set_option maxHeartbeats 4000000 in
theorem law_image {p : Program} {l : Launch} {e : Env} {s : State} {m : MethodId} {below : List Frame} {meth : Method} {c : Code} {D : va_G} {cI cJ cR cZ : ClassId} {bS L : Nat} {xs : Nat → Int32} {tF tL tM : Nat} {I : Nat → St → St → Prop} {Q : State → Prop} (X0 : LCX p s m c D cI cJ cR cZ bS L xs tF tL tM) (hIN : Sp_N I) (hI : Sp_image I) {j : Nat} (hj : j ≤ 64) {x3 : Int32} (hin1 : vp_in (x3 + 1) L) (hin2 : vp_in (x3 + 2) L) (hin3 : vp_in (x3 + 3) L) (hin4 : vp_in (x3 + 4) L) (hin5 : vp_in (x3 + 5) L) {b : Nat → Nat} (hnext : ∀ (N : Nat) (a : Nat → Nat) (u μ : St), I N u μ → ∀ (H : Heap) (locs : List Loc) (ls : Array Slot), Hh D (fun q => s.heap.size ≤ q) (wX N a (EB a cI cJ cR) u ++ wX 21 b (EM b cI cZ) μ) s.heap H locs → lv_has ls 4 [(0, .ref bS), (1, .ref (a 0)), (2, .ref (b 0)), (3, .int x3)] → W p l e room_1 s m #[Value.ref bS] below meth c H locs (100 + 16 * (j + 1)) (2000 + 119 * (j + 1)) Q (F0 m 1302 ls [])) {N : Nat} {a : Nat → Nat} {u μ : St} (hi : I N u μ) {H : Heap} {locs : List Loc} {ls : Array Slot} (h : Hh D (fun q => s.heap.size ≤ q) (wX N a (EB a cI cJ cR) u ++ wX 21 b (EM b cI cZ) μ) s.heap H locs) (hl : lv_has ls 4 [(0, .ref bS), (1, .ref (a 0)), (2, .ref (b 0)), (3, .int x3)]) : W p l e room_1 s m #[Value.ref bS] below meth c H locs (100 + 16 * j) (2000 + 119 * j) Q (F0 m 1233 ls []) := by
  obtain ⟨hx, hb, hml, hown, hts, hKL, hN, hW0, hZ, hX, hbl⟩ := X0
  have hK : va_K D vwCl (tyB cI cJ cR) s := hKL.sub [0, 1, 2] rfl
  have hKm : va_K D vwCl (tyM cI cZ) s := hKL.sub [0, 3] rfl
  have hA : ∀ q : Nat, s.heap.size ≤ q → (fun q : Nat => s.heap.size ≤ q) q := fun _ h9 => h9
  have hbA : ¬ (fun q : Nat => s.heap.size ≤ q) bS := Nat.not_le.mpr hbl
  obtain ⟨hNN, hqA, hqB⟩ := hIN N u μ hi
  obtain ⟨y1, ey1⟩ : ∃ y : Int32, y = xs (x3 + 1).toNatClampNeg := ⟨_, rfl⟩
  rcases hI N u μ y1 hi with ⟨r, u2, μ2, hf1, hf2, hi2⟩ | ⟨u2, μ2, hp1, hc0, hN38, hq0, hf1, hf2, hi2⟩ | ⟨u2, μ2, hp1, hc0, hN38, hq0, hf1, hf2, hi2⟩
  · refine lv_aload_n (pc := 1233) hx hb dL_law_1233 rfl (lv_at hl 1 rfl) ?_
    refine lv_aload_n (pc := 1234) hx hb dL_law_1234 rfl (lv_at hl 0 rfl) ?_
    refine lv_iload_n (pc := 1235) hx hb dL_law_1235 rfl (lv_at hl 3 rfl) ?_
    refine lv_iconst (pc := 1236) (v := 1) hx hb dL_law_1236 (by decide) ?_
    refine lv_iadd (pc := 1237) hx hb dL_law_1237 ?_
    refine va_sld (pc := 1238) hx hb hX hbl hbA h.2.2 hin1 dL_law_1238 ?_
    refine rTop ey1 ?_
    refine lLi (pc := 1239) (n := 1) hx hb hml hown hts hK hN (c_X11_image hNN hqA hqB hf1) (gdV ml_L_162 im_X11_image se_X11_image in_X11 co_X11_image) rfl (by decide +kernel) rfl (Nat.le_of_ble_eq_true rfl) (Nat.le_of_ble_eq_true rfl) h hA hl.1 ⟨show 100 + 16 * j ≤ 600000 by omega, show 2000 + 119 * j ≤ 7302250 by omega⟩ (Nat.lt_of_lt_of_le (by decide) hNN) rfl rfl rfl (Nat.le_of_ble_eq_true rfl) dL_law_1239 (fun H locs h => ?_)
    refine lv_aload_n (pc := 1242) hx hb dL_law_1242 rfl (lv_at hl 2 rfl) ?_
    refine lv_aload_n (pc := 1243) hx hb dL_law_1243 rfl (lv_at hl 0 rfl) ?_
    refine lv_iload_n (pc := 1244) hx hb dL_law_1244 rfl (lv_at hl 3 rfl) ?_
    refine lv_iconst (pc := 1245) (v := 1) hx hb dL_law_1245 (by decide) ?_
    refine lv_iadd (pc := 1246) hx hb dL_law_1246 ?_
    refine va_sld (pc := 1247) hx hb hX hbl hbA h.2.2 hin1 dL_law_1247 ?_
    refine rTop ey1 ?_
    refine lRi (pc := 1248) (n := 1) (rest := [.int r]) hx hb hml hown hts hKm hN (c_X12_image hf2) (gdV ml_L_165 im_X12_image se_X12_image in_X12 co_X12_image) rfl (by decide +kernel) rfl (Nat.le_of_ble_eq_true rfl) (Nat.le_of_ble_eq_true rfl) h hA hl.1 ⟨show 100 + 16 * j ≤ 600000 by omega, show 2000 + 119 * j ≤ 7302250 by omega⟩ (by decide) rfl rfl rfl (Nat.le_of_ble_eq_true rfl) dL_law_1248 (fun H locs h => ?_)
    refine lv_icmp_eq (pc := 1251) (tgt := 1302) hx hb dL_law_1251 (by decide) (fun _ => ?_) (fun h9 => absurd rfl h9)
    refine W.widen (k := 100 + 16 * (j + 1)) (n := 2000 + 119 * (j + 1)) (by omega) (by omega) ?_
    exact hnext _ _ _ _ hi2 _ _ _ h hl
  · subst hN38
    refine lv_aload_n (pc := 1233) hx hb dL_law_1233 rfl (lv_at hl 1 rfl) ?_
    refine lv_aload_n (pc := 1234) hx hb dL_law_1234 rfl (lv_at hl 0 rfl) ?_
    refine lv_iload_n (pc := 1235) hx hb dL_law_1235 rfl (lv_at hl 3 rfl) ?_
    refine lv_iconst (pc := 1236) (v := 1) hx hb dL_law_1236 (by decide) ?_
    refine lv_iadd (pc := 1237) hx hb dL_law_1237 ?_
    refine va_sld (pc := 1238) hx hb hX hbl hbA h.2.2 hin1 dL_law_1238 ?_
    refine rTop ey1 ?_
    have hFc : ∀ z, AB 38 a H.size z → s.heap.size ≤ z := AB_to (D := D) (A := fun q => s.heap.size ≤ q) (D_l h.2.1) h.2.2 hA
    refine va_calli (pc := 1239) (va_runV (As := [.int y1]) (rest := []) ⟨hx, hb, hml, hown, hts⟩ (c_X11_img38 (tF := tF) (tL := tL) (tM := tM) hp1 hc0 hq0 hf1 H.size) (cwV 1 hts (gdV ml_L_162 im_X11_image se_X11_image in_X11 co_X11_image) rfl rfl rfl (by decide +kernel) ⟨(Nat.le_of_ble_eq_true rfl), (Nat.le_of_ble_eq_true rfl)⟩) ⟨fun a U g mk q => ⟨q.1, (PB_blind (av := _) a U g mk ⟨q.1, q.2.1⟩).2, ZW.same (u := U) (U := U.calling g mk a) rfl q.2.2.1, SZ.moved (u := U) (U := U.calling g mk a) (Vm.Alike.refl U.vm) q.2.2.2⟩, va_recv hK (P_l h.1) (ci := 11) (q0 := 0) rfl (wX_at (by decide) rfl), fun U hU hW => ⟨rfl, ⟨by rw [hU], by rw [hU]; exact P_l h.1, va_K.moved hW.alike hK, (D_l h.2.1).weaken (fun _ _ _ _ => trivial), hN.warm hW⟩, hW0.warm hW, by rw [hU]; exact (((hZ.kept h.2.2.2.1).moved hW.alike).narrow hFc)⟩⟩ rfl rfl hl.1 rfl (lv_room (Nat.le_of_ble_eq_true rfl)) dL_law_1239 ⟨show 100 + 16 * j + 16 ≤ 600000 by omega, show 2000 + 119 * j + 119 ≤ 7302250 by omega⟩) h.2.2 (fun z _ h9 => hFc z h9) hFc (fun r v t H1 locs1 ht hvm hw hB hz hk hS => ?_)
    subst hw
    obtain ⟨hP2, hD2⟩ := J_l h.1 h.2.1 AB_in hk hFc (ht ▸ hB.1) hB.2
    have h : Hh D (fun q => s.heap.size ≤ q) _ s.heap H1 locs1 := ⟨hP2, hD2, hS⟩
    have hl : lv_has ls 4 [(0, .ref bS), (1, .ref (ext 38 a v 0)), (2, .ref (b 0)), (3, .int x3)] := hl
    refine lv_aload_n (pc := 1242) hx hb dL_law_1242 rfl (lv_at hl 2 rfl) ?_
    refine lv_aload_n (pc := 1243) hx hb dL_law_1243 rfl (lv_at hl 0 rfl) ?_
    refine lv_iload_n (pc := 1244) hx hb dL_law_1244 rfl (lv_at hl 3 rfl) ?_
    refine lv_iconst (pc := 1245) (v := 1) hx hb dL_law_1245 (by decide) ?_
    refine lv_iadd (pc := 1246) hx hb dL_law_1246 ?_
    refine va_sld (pc := 1247) hx hb hX hbl hbA h.2.2 hin1 dL_law_1247 ?_
    refine rTop ey1 ?_
    refine lRi (pc := 1248) (n := 1) (rest := [.int 1]) hx hb hml hown hts hKm hN (c_X12_image hf2) (gdV ml_L_165 im_X12_image se_X12_image in_X12 co_X12_image) rfl (by decide +kernel) rfl (Nat.le_of_ble_eq_true rfl) (Nat.le_of_ble_eq_true rfl) h hA hl.1 ⟨show 100 + 16 * j + 16 ≤ 600000 by omega, show 2000 + 119 * j + 119 ≤ 7302250 by omega⟩ (by decide) rfl rfl rfl (Nat.le_of_ble_eq_true rfl) dL_law_1248 (fun H locs h => ?_)
    refine lv_icmp_eq (pc := 1251) (tgt := 1302) hx hb dL_law_1251 (by decide) (fun _ => ?_) (fun h9 => absurd rfl h9)
    refine W.widen (k := 100 + 16 * (j + 1)) (n := 2000 + 119 * (j + 1)) (by omega) (by omega) ?_
    exact hnext _ _ _ _ hi2 _ _ _ h hl
  · subst hN38
    refine lv_aload_n (pc := 1233) hx hb dL_law_1233 rfl (lv_at hl 1 rfl) ?_
    refine lv_aload_n (pc := 1234) hx hb dL_law_1234 rfl (lv_at hl 0 rfl) ?_
    refine lv_iload_n (pc := 1235) hx hb dL_law_1235 rfl (lv_at hl 3 rfl) ?_
    refine lv_iconst (pc := 1236) (v := 1) hx hb dL_law_1236 (by decide) ?_
    refine lv_iadd (pc := 1237) hx hb dL_law_1237 ?_
    refine va_sld (pc := 1238) hx hb hX hbl hbA h.2.2 hin1 dL_law_1238 ?_
    refine rTop ey1 ?_
    have hFc : ∀ z, AB 54 a H.size z → s.heap.size ≤ z := AB_to (D := D) (A := fun q => s.heap.size ≤ q) (D_l h.2.1) h.2.2 hA
    refine va_calli (pc := 1239) (va_runV (As := [.int y1]) (rest := []) ⟨hx, hb, hml, hown, hts⟩ (c_X11_img54 (tF := tF) (tL := tL) (tM := tM) hp1 hc0 hq0 hf1 H.size) (cwV 1 hts (gdV ml_L_162 im_X11_image se_X11_image in_X11 co_X11_image) rfl rfl rfl (by decide +kernel) ⟨(Nat.le_of_ble_eq_true rfl), (Nat.le_of_ble_eq_true rfl)⟩) ⟨fun a U g mk q => ⟨q.1, (PB_blind (av := _) a U g mk ⟨q.1, q.2.1⟩).2, ZW.same (u := U) (U := U.calling g mk a) rfl q.2.2.1, SZ.moved (u := U) (U := U.calling g mk a) (Vm.Alike.refl U.vm) q.2.2.2⟩, va_recv hK (P_l h.1) (ci := 11) (q0 := 0) rfl (wX_at (by decide) rfl), fun U hU hW => ⟨rfl, ⟨by rw [hU], by rw [hU]; exact P_l h.1, va_K.moved hW.alike hK, (D_l h.2.1).weaken (fun _ _ _ _ => trivial), hN.warm hW⟩, hW0.warm hW, by rw [hU]; exact (((hZ.kept h.2.2.2.1).moved hW.alike).narrow hFc)⟩⟩ rfl rfl hl.1 rfl (lv_room (Nat.le_of_ble_eq_true rfl)) dL_law_1239 ⟨show 100 + 16 * j + 16 ≤ 600000 by omega, show 2000 + 119 * j + 119 ≤ 7302250 by omega⟩) h.2.2 (fun z _ h9 => hFc z h9) hFc (fun r v t H1 locs1 ht hvm hw hB hz hk hS => ?_)
    subst hw
    obtain ⟨hP2, hD2⟩ := J_l h.1 h.2.1 AB_in hk hFc (ht ▸ hB.1) hB.2
    have h : Hh D (fun q => s.heap.size ≤ q) _ s.heap H1 locs1 := ⟨hP2, hD2, hS⟩
    have hl : lv_has ls 4 [(0, .ref bS), (1, .ref (ext 54 a v 0)), (2, .ref (b 0)), (3, .int x3)] := hl
    refine lv_aload_n (pc := 1242) hx hb dL_law_1242 rfl (lv_at hl 2 rfl) ?_
    refine lv_aload_n (pc := 1243) hx hb dL_law_1243 rfl (lv_at hl 0 rfl) ?_
    refine lv_iload_n (pc := 1244) hx hb dL_law_1244 rfl (lv_at hl 3 rfl) ?_
    refine lv_iconst (pc := 1245) (v := 1) hx hb dL_law_1245 (by decide) ?_
    refine lv_iadd (pc := 1246) hx hb dL_law_1246 ?_
    refine va_sld (pc := 1247) hx hb hX hbl hbA h.2.2 hin1 dL_law_1247 ?_
    refine rTop ey1 ?_
    refine lRi (pc := 1248) (n := 1) (rest := [.int 1]) hx hb hml hown hts hKm hN (c_X12_image hf2) (gdV ml_L_165 im_X12_image se_X12_image in_X12 co_X12_image) rfl (by decide +kernel) rfl (Nat.le_of_ble_eq_true rfl) (Nat.le_of_ble_eq_true rfl) h hA hl.1 ⟨show 100 + 16 * j + 16 ≤ 600000 by omega, show 2000 + 119 * j + 119 ≤ 7302250 by omega⟩ (by decide) rfl rfl rfl (Nat.le_of_ble_eq_true rfl) dL_law_1248 (fun H locs h => ?_)
    refine lv_icmp_eq (pc := 1251) (tgt := 1302) hx hb dL_law_1251 (by decide) (fun _ => ?_) (fun h9 => absurd rfl h9)
    refine W.widen (k := 100 + 16 * (j + 1)) (n := 2000 + 119 * (j + 1)) (by omega) (by omega) ?_
    exact hnext _ _ _ _ hi2 _ _ _ h hl
set_option maxRecDepth 100000 in
set_option maxHeartbeats 4000000 in
theorem law_restore {p : Program} {l : Launch} {e : Env} {s : State} {m : MethodId} {below : List Frame} {meth : Method} {c : Code} {D : va_G} {cI cJ cR cZ : ClassId} {bS L : Nat} {xs : Nat → Int32} {tF tL tM : Nat} {I : Nat → St → St → Prop} {Q : State → Prop} (X0 : LCX p s m c D cI cJ cR cZ bS L xs tF tL tM) (hIN : Sp_N I) (hI : Sp_restore I) {j : Nat} (hj : j ≤ 64) {x3 : Int32} (hin1 : vp_in (x3 + 1) L) (hin2 : vp_in (x3 + 2) L) (hin3 : vp_in (x3 + 3) L) (hin4 : vp_in (x3 + 4) L) (hin5 : vp_in (x3 + 5) L) {b : Nat → Nat} (hnext : ∀ (N : Nat) (a : Nat → Nat) (u μ : St), I N u μ → ∀ (H : Heap) (locs : List Loc) (ls : Array Slot), Hh D (fun q => s.heap.size ≤ q) (wX N a (EB a cI cJ cR) u ++ wX 21 b (EM b cI cZ) μ) s.heap H locs → lv_has ls 4 [(0, .ref bS), (1, .ref (a 0)), (2, .ref (b 0)), (3, .int x3)] → W p l e room_1 s m #[Value.ref bS] below meth c H locs (100 + 16 * (j + 1)) (2000 + 119 * (j + 1)) Q (F0 m 1302 ls [])) {N : Nat} {a : Nat → Nat} {u μ : St} (hi : I N u μ) {H : Heap} {locs : List Loc} {ls : Array Slot} (h : Hh D (fun q => s.heap.size ≤ q) (wX N a (EB a cI cJ cR) u ++ wX 21 b (EM b cI cZ) μ) s.heap H locs) (hl : lv_has ls 4 [(0, .ref bS), (1, .ref (a 0)), (2, .ref (b 0)), (3, .int x3)]) : W p l e room_1 s m #[Value.ref bS] below meth c H locs (100 + 16 * j) (2000 + 119 * j) Q (F0 m 1256 ls []) := by
  obtain ⟨hx, hb, hml, hown, hts, hKL, hN, hW0, hZ, hX, hbl⟩ := X0
  have hK : va_K D vwCl (tyB cI cJ cR) s := hKL.sub [0, 1, 2] rfl
  have hKm : va_K D vwCl (tyM cI cZ) s := hKL.sub [0, 3] rfl
  have hA : ∀ q : Nat, s.heap.size ≤ q → (fun q : Nat => s.heap.size ≤ q) q := fun _ h9 => h9
  have hbA : ¬ (fun q : Nat => s.heap.size ≤ q) bS := Nat.not_le.mpr hbl
  obtain ⟨hNN, hqA, hqB⟩ := hIN N u μ hi
  obtain ⟨y1, ey1⟩ : ∃ y : Int32, y = xs (x3 + 1).toNatClampNeg := ⟨_, rfl⟩
  obtain ⟨r, u2, μ2, hf1, hf2, hi2⟩ := hI N u μ y1 hi
  refine lv_aload_n (pc := 1256) hx hb dL_law_1256 rfl (lv_at hl 1 rfl) ?_
  refine lv_aload_n (pc := 1257) hx hb dL_law_1257 rfl (lv_at hl 0 rfl) ?_
  refine lv_iload_n (pc := 1258) hx hb dL_law_1258 rfl (lv_at hl 3 rfl) ?_
  refine lv_iconst (pc := 1259) (v := 1) hx hb dL_law_1259 (by decide) ?_
  refine lv_iadd (pc := 1260) hx hb dL_law_1260 ?_
  refine va_sld (pc := 1261) hx hb hX hbl hbA h.2.2 hin1 dL_law_1261 ?_
  refine rTop ey1 ?_
  refine lLi (pc := 1262) (n := 1) hx hb hml hown hts hK hN (c_X11_restore hNN hqA hqB hf1) (gdV ml_L_166 im_X11_restore se_X11_restore in_X11 co_X11_restore) rfl (by decide +kernel) rfl (Nat.le_of_ble_eq_true rfl) (Nat.le_of_ble_eq_true rfl) h hA hl.1 ⟨show 100 + 16 * j ≤ 600000 by omega, show 2000 + 119 * j ≤ 7302250 by omega⟩ (Nat.lt_of_lt_of_le (by decide) hNN) rfl rfl rfl (Nat.le_of_ble_eq_true rfl) dL_law_1262 (fun H locs h => ?_)
  refine lv_aload_n (pc := 1265) hx hb dL_law_1265 rfl (lv_at hl 2 rfl) ?_
  refine lv_aload_n (pc := 1266) hx hb dL_law_1266 rfl (lv_at hl 0 rfl) ?_
  refine lv_iload_n (pc := 1267) hx hb dL_law_1267 rfl (lv_at hl 3 rfl) ?_
  refine lv_iconst (pc := 1268) (v := 1) hx hb dL_law_1268 (by decide) ?_
  refine lv_iadd (pc := 1269) hx hb dL_law_1269 ?_
  refine va_sld (pc := 1270) hx hb hX hbl hbA h.2.2 hin1 dL_law_1270 ?_
  refine rTop ey1 ?_
  refine lRi (pc := 1271) (n := 1) (rest := [.int r]) hx hb hml hown hts hKm hN (c_X12_restore hf2) (gdV ml_L_169 im_X12_restore se_X12_restore in_X12 co_X12_restore) rfl (by decide +kernel) rfl (Nat.le_of_ble_eq_true rfl) (Nat.le_of_ble_eq_true rfl) h hA hl.1 ⟨show 100 + 16 * j ≤ 600000 by omega, show 2000 + 119 * j ≤ 7302250 by omega⟩ (by decide) rfl rfl rfl (Nat.le_of_ble_eq_true rfl) dL_law_1271 (fun H locs h => ?_)
  refine lv_icmp_eq (pc := 1274) (tgt := 1302) hx hb dL_law_1274 (by decide) (fun _ => ?_) (fun h9 => absurd rfl h9)
  refine W.widen (k := 100 + 16 * (j + 1)) (n := 2000 + 119 * (j + 1)) (by omega) (by omega) ?_
  exact hnext _ _ _ _ hi2 _ _ _ h hl
set_option maxRecDepth 100000 in
set_option maxHeartbeats 4000000 in
theorem law_told {p : Program} {l : Launch} {e : Env} {s : State} {m : MethodId} {below : List Frame} {meth : Method} {c : Code} {D : va_G} {cI cJ cR cZ : ClassId} {bS L : Nat} {xs : Nat → Int32} {tF tL tM : Nat} {I : Nat → St → St → Prop} {Q : State → Prop} (X0 : LCX p s m c D cI cJ cR cZ bS L xs tF tL tM) (hIN : Sp_N I) (hI : Sp_told I) {j : Nat} (hj : j ≤ 64) {x3 : Int32} (hin1 : vp_in (x3 + 1) L) (hin2 : vp_in (x3 + 2) L) (hin3 : vp_in (x3 + 3) L) (hin4 : vp_in (x3 + 4) L) (hin5 : vp_in (x3 + 5) L) {b : Nat → Nat} (hnext : ∀ (N : Nat) (a : Nat → Nat) (u μ : St), I N u μ → ∀ (H : Heap) (locs : List Loc) (ls : Array Slot), Hh D (fun q => s.heap.size ≤ q) (wX N a (EB a cI cJ cR) u ++ wX 21 b (EM b cI cZ) μ) s.heap H locs → lv_has ls 4 [(0, .ref bS), (1, .ref (a 0)), (2, .ref (b 0)), (3, .int x3)] → W p l e room_1 s m #[Value.ref bS] below meth c H locs (100 + 16 * (j + 1)) (2000 + 119 * (j + 1)) Q (F0 m 1302 ls [])) {N : Nat} {a : Nat → Nat} {u μ : St} (hi : I N u μ) {H : Heap} {locs : List Loc} {ls : Array Slot} (h : Hh D (fun q => s.heap.size ≤ q) (wX N a (EB a cI cJ cR) u ++ wX 21 b (EM b cI cZ) μ) s.heap H locs) (hl : lv_has ls 4 [(0, .ref bS), (1, .ref (a 0)), (2, .ref (b 0)), (3, .int x3)]) : W p l e room_1 s m #[Value.ref bS] below meth c H locs (100 + 16 * j) (2000 + 119 * j) Q (F0 m 1279 ls []) := by
  obtain ⟨hx, hb, hml, hown, hts, hKL, hN, hW0, hZ, hX, hbl⟩ := X0
  have hK : va_K D vwCl (tyB cI cJ cR) s := hKL.sub [0, 1, 2] rfl
  have hKm : va_K D vwCl (tyM cI cZ) s := hKL.sub [0, 3] rfl
  have hA : ∀ q : Nat, s.heap.size ≤ q → (fun q : Nat => s.heap.size ≤ q) q := fun _ h9 => h9
  have hbA : ¬ (fun q : Nat => s.heap.size ≤ q) bS := Nat.not_le.mpr hbl
  obtain ⟨hNN, hqA, hqB⟩ := hIN N u μ hi
  obtain ⟨y1, ey1⟩ : ∃ y : Int32, y = xs (x3 + 1).toNatClampNeg := ⟨_, rfl⟩
  obtain ⟨r, hf1, hf2, hi2⟩ := hI N u μ y1 hi
  refine lv_aload_n (pc := 1279) hx hb dL_law_1279 rfl (lv_at hl 1 rfl) ?_
  refine lv_aload_n (pc := 1280) hx hb dL_law_1280 rfl (lv_at hl 0 rfl) ?_
  refine lv_iload_n (pc := 1281) hx hb dL_law_1281 rfl (lv_at hl 3 rfl) ?_
  refine lv_iconst (pc := 1282) (v := 1) hx hb dL_law_1282 (by decide) ?_
  refine lv_iadd (pc := 1283) hx hb dL_law_1283 ?_
  refine va_sld (pc := 1284) hx hb hX hbl hbA h.2.2 hin1 dL_law_1284 ?_
  refine rTop ey1 ?_
  refine lLi (pc := 1285) (n := 1) hx hb hml hown hts hK hN (c_X11_told hNN hf1) (gdV ml_L_170 im_X11_told se_X11_told in_X11 co_X11_told) rfl (by decide +kernel) rfl (Nat.le_of_ble_eq_true rfl) (Nat.le_of_ble_eq_true rfl) h hA hl.1 ⟨show 100 + 16 * j ≤ 600000 by omega, show 2000 + 119 * j ≤ 7302250 by omega⟩ (Nat.lt_of_lt_of_le (by decide) hNN) rfl rfl rfl (Nat.le_of_ble_eq_true rfl) dL_law_1285 (fun H locs h => ?_)
  refine lv_aload_n (pc := 1288) hx hb dL_law_1288 rfl (lv_at hl 2 rfl) ?_
  refine lv_aload_n (pc := 1289) hx hb dL_law_1289 rfl (lv_at hl 0 rfl) ?_
  refine lv_iload_n (pc := 1290) hx hb dL_law_1290 rfl (lv_at hl 3 rfl) ?_
  refine lv_iconst (pc := 1291) (v := 1) hx hb dL_law_1291 (by decide) ?_
  refine lv_iadd (pc := 1292) hx hb dL_law_1292 ?_
  refine va_sld (pc := 1293) hx hb hX hbl hbA h.2.2 hin1 dL_law_1293 ?_
  refine rTop ey1 ?_
  refine lRi (pc := 1294) (n := 1) (rest := [.int r]) hx hb hml hown hts hKm hN (c_X12_told hf2) (gdV ml_L_173 im_X12_told se_X12_told in_X12 co_X12_told) rfl (by decide +kernel) rfl (Nat.le_of_ble_eq_true rfl) (Nat.le_of_ble_eq_true rfl) h hA hl.1 ⟨show 100 + 16 * j ≤ 600000 by omega, show 2000 + 119 * j ≤ 7302250 by omega⟩ (by decide) rfl rfl rfl (Nat.le_of_ble_eq_true rfl) dL_law_1294 (fun H locs h => ?_)
  refine lv_icmp_eq (pc := 1297) (tgt := 1302) hx hb dL_law_1297 (by decide) (fun _ => ?_) (fun h9 => absurd rfl h9)
  refine W.widen (k := 100 + 16 * (j + 1)) (n := 2000 + 119 * (j + 1)) (by omega) (by omega) ?_
  exact hnext _ _ _ _ hi2 _ _ _ h hl
