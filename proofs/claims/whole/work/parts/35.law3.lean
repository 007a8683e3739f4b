def SpAll (I : Nat → St → St → Prop) : Prop := Sp_N I ∧ Sp_cellars I ∧ Sp_cellar I ∧ Sp_wall I ∧ Sp_barrel I ∧ Sp_drink I ∧ Sp_set I ∧ Sp_say I ∧ Sp_wipe I ∧ Sp_fault I ∧ Sp_table I ∧ Sp_level I ∧ Sp_breath I ∧ Sp_judge I ∧ Sp_behind I ∧ Sp_hands I ∧ Sp_acid I ∧ Sp_sours I ∧ Sp_lost I ∧ Sp_plan I ∧ Sp_value I ∧ Sp_opening I ∧ Sp_banquet I ∧ Sp_poured I ∧ Sp_likely I ∧ Sp_mean I ∧ Sp_seen I ∧ Sp_forget I ∧ Sp_walls I ∧ Sp_moons I ∧ Sp_open I ∧ Sp_shifts I ∧ Sp_drought I ∧ Sp_quiet I ∧ Sp_period I ∧ Sp_year I ∧ Sp_image I ∧ Sp_restore I ∧ Sp_told I
theorem lg_ix {j k L : Nat} {x3 : Int32} (hx : x3 = nI (6 * j)) (y : Int32) (hy : y = nI k) (h : 6 * j + k < L) (hL : L ≤ 384) : vp_in (x3 + y) L := by
  rw [hx, hy, nI_add]
  exact vp_in_nI h (by omega)
theorem lg_fit {j L : Nat} {x3 : Int32} (hx : x3 = nI (6 * j)) (hL : L ≤ 384) (hj : 6 * j ≤ 390) (h : ¬ Int32.ofNat L - 6 < x3) : 6 * j + 6 ≤ L := by
  rw [hx] at h
  have h1 : (Int32.ofNat L - 6).toInt = (L : Int) - 6 := pk_sub_toInt (a := L) (b := 6) (by omega) (by omega)
  have h2 : (nI (6 * j)).toInt = ((6 * j : Nat) : Int) := nI_toInt (by omega)
  have h3 : ¬ (Int32.ofNat L - 6).toInt < (nI (6 * j)).toInt := fun h9 => h (Int32.lt_iff_toInt_lt.mpr h9)
  rw [h1, h2] at h3
  omega
set_option maxRecDepth 100000 in
set_option maxHeartbeats 4000000 in
theorem law_loop {p : Program} {l : Launch} {e : Env} {s : State} {m : MethodId} {below : List Frame} {meth : Method} {c : Code} {D : va_G} {cI cJ cR cZ : ClassId} {bS L : Nat} {xs : Nat → Int32} {tF tL tM : Nat} {I : Nat → St → St → Prop} (X0 : LCX p s m c D cI cJ cR cZ bS L xs tF tL tM) (hr : meth.sig.returnType = ret) (hlocks : meth.locks = false) (hL : L ≤ 384) (hI : SpAll I) {b : Nat → Nat} :
    ∀ (n j : Nat), 6 * j ≤ L + 5 → 65 ≤ j + n → ∀ (N : Nat) (a : Nat → Nat) (u μ : St) (x3 : Int32), x3 = nI (6 * j) → I N u μ → ∀ (H : Heap) (locs : List Loc) (ls : Array Slot), Hh D (fun q => s.heap.size ≤ q) (wX N a (EB a cI cJ cR) u ++ wX 21 b (EM b cI cZ) μ) s.heap H locs → lv_has ls 4 [(0, .ref bS), (1, .ref (a 0)), (2, .ref (b 0)), (3, .int x3)] → W p l e room_1 s m #[Value.ref bS] below meth c H locs (100 + 16 * j) (2000 + 119 * j) (lw_Z below #[Value.ref bS] s) (F0 m 18 ls []) := by
  intro n
  induction n with
  | zero =>
    intro j h1 h2
    exact absurd h2 (by omega)
  | succ n ih =>
    intro j hj hjn N a u μ x3 ex3 hi H locs ls h hl
    obtain ⟨hx, hb, hml, hown, hts, hKL, hN, hW0, hZ, hX, hbl⟩ := id X0
    have hbA : ¬ (fun q : Nat => s.heap.size ≤ q) bS := Nat.not_le.mpr hbl
    refine lv_iload_n (pc := 18) hx hb dL_law_18 rfl (lv_at hl 3 rfl) ?_
    refine lv_aload_n (pc := 19) hx hb dL_law_19 rfl (lv_at hl 0 rfl) ?_
    refine va_slen (pc := 20) hx hb hX hbl hbA h.2.2 dL_law_20 ?_
    refine lv_bipush (pc := 21) (v := 6) hx hb dL_law_21 (by decide) ?_
    refine lv_isub (pc := 23) hx hb dL_law_23 ?_
    refine lv_icmp_gt (pc := 24) (tgt := 1308) hx hb dL_law_24 (by decide) (fun c10 => ?_) (fun c10 => ?_)
    · refine lv_iconst (pc := 1308) (v := 1) hx hb dL_law_1308 (by decide) ?_
      refine va_forget (fun q hq => h.2.2.2.2 q hq) ?_
      refine W.widen (k := 600000) (n := 7302250) (by omega) (by omega) ?_
      exact lw_ret hx hb hr hlocks dL_law_1309
    · have hfit : 6 * j + 6 ≤ L := lg_fit ex3 hL (by omega) c10
      have hj64 : j ≤ 64 := by omega
      have hin0 : vp_in x3 L := by rw [ex3]; exact vp_in_nI (by omega) (by omega)
      have hin1 : vp_in (x3 + 1) L := lg_ix (k := 1) ex3 1 rfl (by omega) hL
      have hin2 : vp_in (x3 + 2) L := lg_ix (k := 2) ex3 2 rfl (by omega) hL
      have hin3 : vp_in (x3 + 3) L := lg_ix (k := 3) ex3 3 rfl (by omega) hL
      have hin4 : vp_in (x3 + 4) L := lg_ix (k := 4) ex3 4 rfl (by omega) hL
      have hin5 : vp_in (x3 + 5) L := lg_ix (k := 5) ex3 5 rfl (by omega) hL
      have hnext : ∀ (N : Nat) (a : Nat → Nat) (u μ : St), I N u μ → ∀ (H : Heap) (locs : List Loc) (ls : Array Slot), Hh D (fun q => s.heap.size ≤ q) (wX N a (EB a cI cJ cR) u ++ wX 21 b (EM b cI cZ) μ) s.heap H locs → lv_has ls 4 [(0, .ref bS), (1, .ref (a 0)), (2, .ref (b 0)), (3, .int x3)] → W p l e room_1 s m #[Value.ref bS] below meth c H locs (100 + 16 * (j + 1)) (2000 + 119 * (j + 1)) (lw_Z below #[Value.ref bS] s) (F0 m 1302 ls []) := by
        intro N a u μ hi H locs ls h hl
        refine lv_iinc (pc := 1302) (v := x3 + 6) (lv' := [(3, .int (x3 + 6)), (0, .ref bS), (1, .ref (a 0)), (2, .ref (b 0))]) hx hb dL_law_1302 hl (k := 3) rfl rfl (by decide) rfl (fun ls hl => ?_)
        refine lv_goto (pc := 1305) (tgt := 18) hx hb dL_law_1305 (by decide) ?_
        exact ih (j + 1) (by omega) (by omega) N a u μ (x3 + 6) (by rw [ex3, show (6 : Int32) = nI 6 from rfl, nI_add, show 6 * j + 6 = 6 * (j + 1) by omega]) hi _ _ _ h (lv_sub hl [1, 2, 3, 0] rfl)
      refine lv_aload_n (pc := 27) hx hb dL_law_27 rfl (lv_at hl 0 rfl) ?_
      refine lv_iload_n (pc := 28) hx hb dL_law_28 rfl (lv_at hl 3 rfl) ?_
      refine va_sld (pc := 29) hx hb hX hbl hbA h.2.2 hin0 dL_law_29 ?_
      refine lv_bipush (pc := 30) (v := 63) hx hb dL_law_30 (by decide) ?_
      refine lv_iand (pc := 32) hx hb dL_law_32 ?_
      refine lv_topi (fun z _ => ?_)
      obtain ⟨hIN, i0, i1, i2, i3, i4, i5, i6, i7, i8, i9, i10, i11, i12, i13, i14, i15, i16, i17, i18, i19, i20, i21, i22, i23, i24, i25, i26, i27, i28, i29, i30, i31, i32, i33, i34, i35, i36, i37⟩ := hI
      by_cases c0 : z = 0
      · refine rSw (pc := 33) hx hb 200 dL_law_33 0 c0 (by decide) (by decide) (by rfl) (by decide) ?_
        exact law_cellars X0 hIN i0 hj64 hin1 hin2 hin3 hin4 hin5 hnext hi h hl
      by_cases c1 : z = 1
      · refine rSw (pc := 33) hx hb 223 dL_law_33 1 c1 (by decide) (by decide) (by rfl) (by decide) ?_
        exact law_cellar X0 hIN i1 hj64 hin1 hin2 hin3 hin4 hin5 hnext hi h hl
      by_cases c2 : z = 2
      · refine rSw (pc := 33) hx hb 266 dL_law_33 2 c2 (by decide) (by decide) (by rfl) (by decide) ?_
        exact law_wall X0 hIN i2 hj64 hin1 hin2 hin3 hin4 hin5 hnext hi h hl
      by_cases c3 : z = 3
      · refine rSw (pc := 33) hx hb 315 dL_law_33 3 c3 (by decide) (by decide) (by rfl) (by decide) ?_
        exact law_barrel X0 hIN i3 hj64 hin1 hin2 hin3 hin4 hin5 hnext hi h hl
      by_cases c4 : z = 4
      · refine rSw (pc := 33) hx hb 378 dL_law_33 4 c4 (by decide) (by decide) (by rfl) (by decide) ?_
        exact law_drink X0 hIN i4 hj64 hin1 hin2 hin3 hin4 hin5 hnext hi h hl
      by_cases c5 : z = 5
      · refine rSw (pc := 33) hx hb 401 dL_law_33 5 c5 (by decide) (by decide) (by rfl) (by decide) ?_
        exact law_set X0 hIN i5 hj64 hin1 hin2 hin3 hin4 hin5 hnext hi h hl
      by_cases c6 : z = 6
      · refine rSw (pc := 33) hx hb 434 dL_law_33 6 c6 (by decide) (by decide) (by rfl) (by decide) ?_
        exact law_say X0 hIN i6 hj64 hin1 hin2 hin3 hin4 hin5 hnext hi h hl
      by_cases c7 : z = 7
      · refine rSw (pc := 33) hx hb 457 dL_law_33 7 c7 (by decide) (by decide) (by rfl) (by decide) ?_
        exact law_wipe X0 hIN i7 hj64 hin1 hin2 hin3 hin4 hin5 hnext hi h hl
      by_cases c8 : z = 8
      · refine rSw (pc := 33) hx hb 470 dL_law_33 8 c8 (by decide) (by decide) (by rfl) (by decide) ?_
        exact law_fault X0 hIN i8 hj64 hin1 hin2 hin3 hin4 hin5 hnext hi h hl
      by_cases c9 : z = 9
      · refine rSw (pc := 33) hx hb 493 dL_law_33 9 c9 (by decide) (by decide) (by rfl) (by decide) ?_
        exact law_table X0 hIN i9 hj64 hin1 hin2 hin3 hin4 hin5 hnext hi h hl
      by_cases c10 : z = 10
      · refine rSw (pc := 33) hx hb 506 dL_law_33 10 c10 (by decide) (by decide) (by rfl) (by decide) ?_
        exact law_level X0 hIN i10 hj64 hin1 hin2 hin3 hin4 hin5 hnext hi h hl
      by_cases c11 : z = 11
      · refine rSw (pc := 33) hx hb 529 dL_law_33 11 c11 (by decide) (by decide) (by rfl) (by decide) ?_
        exact law_breath X0 hIN i11 hj64 hin1 hin2 hin3 hin4 hin5 hnext hi h hl
      by_cases c12 : z = 12
      · refine rSw (pc := 33) hx hb 562 dL_law_33 12 c12 (by decide) (by decide) (by rfl) (by decide) ?_
        exact law_judge X0 hIN i12 hj64 hin1 hin2 hin3 hin4 hin5 hnext hi h hl
      by_cases c13 : z = 13
      · refine rSw (pc := 33) hx hb 585 dL_law_33 13 c13 (by decide) (by decide) (by rfl) (by decide) ?_
        exact law_behind X0 hIN i13 hj64 hin1 hin2 hin3 hin4 hin5 hnext hi h hl
      by_cases c14 : z = 14
      · refine rSw (pc := 33) hx hb 618 dL_law_33 14 c14 (by decide) (by decide) (by rfl) (by decide) ?_
        exact law_hands X0 hIN i14 hj64 hin1 hin2 hin3 hin4 hin5 hnext hi h hl
      by_cases c15 : z = 15
      · refine rSw (pc := 33) hx hb 631 dL_law_33 15 c15 (by decide) (by decide) (by rfl) (by decide) ?_
        exact law_acid X0 hIN i15 hj64 hin1 hin2 hin3 hin4 hin5 hnext hi h hl
      by_cases c16 : z = 16
      · refine rSw (pc := 33) hx hb 664 dL_law_33 16 c16 (by decide) (by decide) (by rfl) (by decide) ?_
        exact law_sours X0 hIN i16 hj64 hin1 hin2 hin3 hin4 hin5 hnext hi h hl
      by_cases c17 : z = 17
      · refine rSw (pc := 33) hx hb 687 dL_law_33 17 c17 (by decide) (by decide) (by rfl) (by decide) ?_
        exact law_lost X0 hIN i17 hj64 hin1 hin2 hin3 hin4 hin5 hnext hi h hl
      by_cases c18 : z = 18
      · refine rSw (pc := 33) hx hb 710 dL_law_33 18 c18 (by decide) (by decide) (by rfl) (by decide) ?_
        exact law_plan X0 hIN i18 hj64 hin1 hin2 hin3 hin4 hin5 hnext hi h hl
      by_cases c19 : z = 19
      · refine rSw (pc := 33) hx hb 753 dL_law_33 19 c19 (by decide) (by decide) (by rfl) (by decide) ?_
        exact law_value X0 hIN i19 hj64 hin1 hin2 hin3 hin4 hin5 hnext hi h hl
      by_cases c20 : z = 20
      · refine rSw (pc := 33) hx hb 786 dL_law_33 20 c20 (by decide) (by decide) (by rfl) (by decide) ?_
        exact law_opening X0 hIN i20 hj64 hin1 hin2 hin3 hin4 hin5 hnext hi h hl
      by_cases c21 : z = 21
      · refine rSw (pc := 33) hx hb 819 dL_law_33 21 c21 (by decide) (by decide) (by rfl) (by decide) ?_
        exact law_banquet X0 hIN i21 hj64 hin1 hin2 hin3 hin4 hin5 hnext hi h hl
      by_cases c22 : z = 22
      · refine rSw (pc := 33) hx hb 842 dL_law_33 22 c22 (by decide) (by decide) (by rfl) (by decide) ?_
        exact law_poured X0 hIN i22 hj64 hin1 hin2 hin3 hin4 hin5 hnext hi h hl
      by_cases c23 : z = 23
      · refine rSw (pc := 33) hx hb 875 dL_law_33 23 c23 (by decide) (by decide) (by rfl) (by decide) ?_
        exact law_likely X0 hIN i23 hj64 hin1 hin2 hin3 hin4 hin5 hnext hi h hl
      by_cases c24 : z = 24
      · refine rSw (pc := 33) hx hb 929 dL_law_33 24 c24 (by decide) (by decide) (by rfl) (by decide) ?_
        exact law_mean X0 hIN i24 hj64 hin1 hin2 hin3 hin4 hin5 hnext hi h hl
      by_cases c25 : z = 25
      · refine rSw (pc := 33) hx hb 973 dL_law_33 25 c25 (by decide) (by decide) (by rfl) (by decide) ?_
        exact law_seen X0 hIN i25 hj64 hin1 hin2 hin3 hin4 hin5 hnext hi h hl
      by_cases c26 : z = 26
      · refine rSw (pc := 33) hx hb 1016 dL_law_33 26 c26 (by decide) (by decide) (by rfl) (by decide) ?_
        exact law_forget X0 hIN i26 hj64 hin1 hin2 hin3 hin4 hin5 hnext hi h hl
      by_cases c27 : z = 27
      · refine rSw (pc := 33) hx hb 1029 dL_law_33 27 c27 (by decide) (by decide) (by rfl) (by decide) ?_
        exact law_walls X0 hIN i27 hj64 hin1 hin2 hin3 hin4 hin5 hnext hi h hl
      by_cases c28 : z = 28
      · refine rSw (pc := 33) hx hb 1042 dL_law_33 28 c28 (by decide) (by decide) (by rfl) (by decide) ?_
        exact law_moons X0 hIN i28 hj64 hin1 hin2 hin3 hin4 hin5 hnext hi h hl
      by_cases c29 : z = 29
      · refine rSw (pc := 33) hx hb 1055 dL_law_33 29 c29 (by decide) (by decide) (by rfl) (by decide) ?_
        exact law_open X0 hIN i29 hj64 hin1 hin2 hin3 hin4 hin5 hnext hi h hl
      by_cases c30 : z = 30
      · refine rSw (pc := 33) hx hb 1078 dL_law_33 30 c30 (by decide) (by decide) (by rfl) (by decide) ?_
        exact law_shifts X0 hIN i30 hj64 hin1 hin2 hin3 hin4 hin5 hnext hi h hl
      by_cases c31 : z = 31
      · refine rSw (pc := 33) hx hb 1121 dL_law_33 31 c31 (by decide) (by decide) (by rfl) (by decide) ?_
        exact law_drought X0 hIN i31 hj64 hin1 hin2 hin3 hin4 hin5 hnext hi h hl
      by_cases c32 : z = 32
      · refine rSw (pc := 33) hx hb 1144 dL_law_33 32 c32 (by decide) (by decide) (by rfl) (by decide) ?_
        exact law_quiet X0 hIN i32 hj64 hin1 hin2 hin3 hin4 hin5 hnext hi h hl
      by_cases c33 : z = 33
      · refine rSw (pc := 33) hx hb 1167 dL_law_33 33 c33 (by decide) (by decide) (by rfl) (by decide) ?_
        exact law_period X0 hIN i33 hj64 hin1 hin2 hin3 hin4 hin5 hnext hi h hl
      by_cases c34 : z = 34
      · refine rSw (pc := 33) hx hb 1180 dL_law_33 34 c34 (by decide) (by decide) (by rfl) (by decide) ?_
        exact law_year X0 hIN i34 hj64 hin1 hin2 hin3 hin4 hin5 hnext hi h hl
      by_cases c35 : z = 35
      · refine rSw (pc := 33) hx hb 1233 dL_law_33 35 c35 (by decide) (by decide) (by rfl) (by decide) ?_
        exact law_image X0 hIN i35 hj64 hin1 hin2 hin3 hin4 hin5 hnext hi h hl
      by_cases c36 : z = 36
      · refine rSw (pc := 33) hx hb 1256 dL_law_33 36 c36 (by decide) (by decide) (by rfl) (by decide) ?_
        exact law_restore X0 hIN i36 hj64 hin1 hin2 hin3 hin4 hin5 hnext hi h hl
      by_cases c37 : z = 37
      · refine rSw (pc := 33) hx hb 1279 dL_law_33 37 c37 (by decide) (by decide) (by rfl) (by decide) ?_
        exact law_told X0 hIN i37 hj64 hin1 hin2 hin3 hin4 hin5 hnext hi h hl
      refine lv_tableOut (pc := 33) (tgt := 1302) hx hb dL_law_33 (tbOut38 c0 c1 c2 c3 c4 c5 c6 c7 c8 c9 c10 c11 c12 c13 c14 c15 c16 c17 c18 c19 c20 c21 c22 c23 c24 c25 c26 c27 c28 c29 c30 c31 c32 c33 c34 c35 c36 c37) (by decide) ?_
      refine W.widen (k := 100 + 16 * (j + 1)) (n := 2000 + 119 * (j + 1)) (by omega) (by omega) ?_
      exact hnext _ _ _ _ hi _ _ _ h hl
