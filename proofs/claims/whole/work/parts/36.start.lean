theorem arr_k {s : State} {args : Array Value} {ty : FieldType} (hty : ∀ C, ty ≠ .object C) (h : (Cond.arrayClass ty).before args s = true) : ∃ cA : ClassId, ArrOfT s cA ty ∧ va_RA s cA ty := by
  obtain ⟨cA, kA, comp, h1, h2, h3⟩ := Cond.arrayClass_spec h
  refine ⟨cA, fun N z => ⟨(fun k h => by cases h), kA, h2, comp, h3⟩, ?_⟩
  cases ty with
  | object C => exact absurd rfl (hty C)
  | _ => exact h1
theorem arr_q {s : State} {C : String} (h : va_AO C s) : ∃ cA : ClassId, ArrOfT s cA (.object C) ∧ va_RA s cA (.object C) := by
  obtain ⟨comp, cA, kA, h1, h2, h3, h4, h5⟩ := Cond.arrayOver_spec h
  exact ⟨cA, fun N z => ⟨(fun k h => by cases h), kA, h3, comp, h4⟩, kA, comp, h3, h4, h1, h5⟩
theorem tb_in {w : Cond} (i : Nat) (h : tables_1[i]? = some w) : w ∈ lw_tbl := List.mem_append_right _ (List.mem_of_getElem? h)
theorem st_FIRST_SETTINGS {s : State} {args : Array Value} {A : Nat → Prop} (hg : (Jvm.Cond.and given_1 narrow_1).before args s = true) (hl : (Cond.laysStatic "CellarTides" "FIRST_SETTINGS" "[I").before args s = true) (hi : (Cond.initialized "CellarTides").before args s = true) (hA : ∀ a : Nat, a < s.heap.size → ¬ A a) : ∃ t : Nat, (Term.static "CellarTides" "FIRST_SETTINGS" "[I").eval args s none [] s = some (.ref t) ∧ va_Z "CellarTides" "FIRST_SETTINGS" "[I" (.ref t) A s s.heap ∧ va_T .int t 7 (fun j => .int (fsS j)) A s s.heap := by
  have hs := flat_of_before _ hg
  have harr : (Cond.arrayOf (.static "CellarTides" "FIRST_SETTINGS" "[I") .int).before args s = true := hs _ (by decide +kernel)
  have hlen : (Cond.eq (.length (.static "CellarTides" "FIRST_SETTINGS" "[I")) (.int 7)).before args s = true := hs _ (by decide +kernel)
  have h0 : (Cond.eq (.elem (.static "CellarTides" "FIRST_SETTINGS" "[I") (.int 0)) (.int 20)).before args s = true := hs _ (by decide +kernel)
  have h1 : (Cond.eq (.elem (.static "CellarTides" "FIRST_SETTINGS" "[I") (.int 1)) (.int 20)).before args s = true := hs _ (by decide +kernel)
  have h2 : (Cond.eq (.elem (.static "CellarTides" "FIRST_SETTINGS" "[I") (.int 2)) (.int 0)).before args s = true := hs _ (by decide +kernel)
  have h3 : (Cond.eq (.elem (.static "CellarTides" "FIRST_SETTINGS" "[I") (.int 3)) (.int 20)).before args s = true := hs _ (by decide +kernel)
  have h4 : (Cond.eq (.elem (.static "CellarTides" "FIRST_SETTINGS" "[I") (.int 4)) (.int 20)).before args s = true := hs _ (by decide +kernel)
  have h5 : (Cond.eq (.elem (.static "CellarTides" "FIRST_SETTINGS" "[I") (.int 5)) (.int 20)).before args s = true := hs _ (by decide +kernel)
  have h6 : (Cond.eq (.elem (.static "CellarTides" "FIRST_SETTINGS" "[I") (.int 6)) (.int 20)).before args s = true := hs _ (by decide +kernel)
  obtain ⟨t, ht, hT⟩ := va_Tof (tm := .static "CellarTides" "FIRST_SETTINGS" "[I") (ty := .int) (N := 7) (f := fun j => .int (fsS j)) (A := A) (by decide) harr (va_eqt hlen) (fun j hj => by
    match j, hj with
    | 0, _ => exact va_eqt h0
    | 1, _ => exact va_eqt h1
    | 2, _ => exact va_eqt h2
    | 3, _ => exact va_eqt h3
    | 4, _ => exact va_eqt h4
    | 5, _ => exact va_eqt h5
    | 6, _ => exact va_eqt h6
    | n + 7, h9 => exact absurd h9 (by omega)) hA
  exact ⟨t, ht, va_Zref hl hi ht hA, hT⟩
theorem st_LEAST_SETTINGS {s : State} {args : Array Value} {A : Nat → Prop} (hg : (Jvm.Cond.and given_1 narrow_1).before args s = true) (hl : (Cond.laysStatic "CellarTides" "LEAST_SETTINGS" "[I").before args s = true) (hi : (Cond.initialized "CellarTides").before args s = true) (hA : ∀ a : Nat, a < s.heap.size → ¬ A a) : ∃ t : Nat, (Term.static "CellarTides" "LEAST_SETTINGS" "[I").eval args s none [] s = some (.ref t) ∧ va_Z "CellarTides" "LEAST_SETTINGS" "[I" (.ref t) A s s.heap ∧ va_T .int t 7 (fun j => .int (lsS j)) A s s.heap := by
  have hs := flat_of_before _ hg
  have harr : (Cond.arrayOf (.static "CellarTides" "LEAST_SETTINGS" "[I") .int).before args s = true := hs _ (by decide +kernel)
  have hlen : (Cond.eq (.length (.static "CellarTides" "LEAST_SETTINGS" "[I")) (.int 7)).before args s = true := hs _ (by decide +kernel)
  have h0 : (Cond.eq (.elem (.static "CellarTides" "LEAST_SETTINGS" "[I") (.int 0)) (.int 1)).before args s = true := hs _ (by decide +kernel)
  have h1 : (Cond.eq (.elem (.static "CellarTides" "LEAST_SETTINGS" "[I") (.int 1)) (.int 0)).before args s = true := hs _ (by decide +kernel)
  have h2 : (Cond.eq (.elem (.static "CellarTides" "LEAST_SETTINGS" "[I") (.int 2)) (.int 0)).before args s = true := hs _ (by decide +kernel)
  have h3 : (Cond.eq (.elem (.static "CellarTides" "LEAST_SETTINGS" "[I") (.int 3)) (.int 0)).before args s = true := hs _ (by decide +kernel)
  have h4 : (Cond.eq (.elem (.static "CellarTides" "LEAST_SETTINGS" "[I") (.int 4)) (.int 0)).before args s = true := hs _ (by decide +kernel)
  have h5 : (Cond.eq (.elem (.static "CellarTides" "LEAST_SETTINGS" "[I") (.int 5)) (.int 0)).before args s = true := hs _ (by decide +kernel)
  have h6 : (Cond.eq (.elem (.static "CellarTides" "LEAST_SETTINGS" "[I") (.int 6)) (.int 0)).before args s = true := hs _ (by decide +kernel)
  obtain ⟨t, ht, hT⟩ := va_Tof (tm := .static "CellarTides" "LEAST_SETTINGS" "[I") (ty := .int) (N := 7) (f := fun j => .int (lsS j)) (A := A) (by decide) harr (va_eqt hlen) (fun j hj => by
    match j, hj with
    | 0, _ => exact va_eqt h0
    | 1, _ => exact va_eqt h1
    | 2, _ => exact va_eqt h2
    | 3, _ => exact va_eqt h3
    | 4, _ => exact va_eqt h4
    | 5, _ => exact va_eqt h5
    | 6, _ => exact va_eqt h6
    | n + 7, h9 => exact absurd h9 (by omega)) hA
  exact ⟨t, ht, va_Zref hl hi ht hA, hT⟩
theorem st_MOST_SETTINGS {s : State} {args : Array Value} {A : Nat → Prop} (hg : (Jvm.Cond.and given_1 narrow_1).before args s = true) (hl : (Cond.laysStatic "CellarTides" "MOST_SETTINGS" "[I").before args s = true) (hi : (Cond.initialized "CellarTides").before args s = true) (hA : ∀ a : Nat, a < s.heap.size → ¬ A a) : ∃ t : Nat, (Term.static "CellarTides" "MOST_SETTINGS" "[I").eval args s none [] s = some (.ref t) ∧ va_Z "CellarTides" "MOST_SETTINGS" "[I" (.ref t) A s s.heap ∧ va_T .int t 7 (fun j => .int (msS j)) A s s.heap := by
  have hs := flat_of_before _ hg
  have harr : (Cond.arrayOf (.static "CellarTides" "MOST_SETTINGS" "[I") .int).before args s = true := hs _ (by decide +kernel)
  have hlen : (Cond.eq (.length (.static "CellarTides" "MOST_SETTINGS" "[I")) (.int 7)).before args s = true := hs _ (by decide +kernel)
  have h0 : (Cond.eq (.elem (.static "CellarTides" "MOST_SETTINGS" "[I") (.int 0)) (.int 99)).before args s = true := hs _ (by decide +kernel)
  have h1 : (Cond.eq (.elem (.static "CellarTides" "MOST_SETTINGS" "[I") (.int 1)) (.int 99)).before args s = true := hs _ (by decide +kernel)
  have h2 : (Cond.eq (.elem (.static "CellarTides" "MOST_SETTINGS" "[I") (.int 2)) (.int 29)).before args s = true := hs _ (by decide +kernel)
  have h3 : (Cond.eq (.elem (.static "CellarTides" "MOST_SETTINGS" "[I") (.int 3)) (.int 99)).before args s = true := hs _ (by decide +kernel)
  have h4 : (Cond.eq (.elem (.static "CellarTides" "MOST_SETTINGS" "[I") (.int 4)) (.int 99)).before args s = true := hs _ (by decide +kernel)
  have h5 : (Cond.eq (.elem (.static "CellarTides" "MOST_SETTINGS" "[I") (.int 5)) (.int 99)).before args s = true := hs _ (by decide +kernel)
  have h6 : (Cond.eq (.elem (.static "CellarTides" "MOST_SETTINGS" "[I") (.int 6)) (.int 99)).before args s = true := hs _ (by decide +kernel)
  obtain ⟨t, ht, hT⟩ := va_Tof (tm := .static "CellarTides" "MOST_SETTINGS" "[I") (ty := .int) (N := 7) (f := fun j => .int (msS j)) (A := A) (by decide) harr (va_eqt hlen) (fun j hj => by
    match j, hj with
    | 0, _ => exact va_eqt h0
    | 1, _ => exact va_eqt h1
    | 2, _ => exact va_eqt h2
    | 3, _ => exact va_eqt h3
    | 4, _ => exact va_eqt h4
    | 5, _ => exact va_eqt h5
    | 6, _ => exact va_eqt h6
    | n + 7, h9 => exact absurd h9 (by omega)) hA
  exact ⟨t, ht, va_Zref hl hi ht hA, hT⟩
theorem len_small {s : State} {args : Array Value} {tm : Term} {t : Nat} {cell : Cell} {v : Value} (ht : tm.eval args s none [] s = some (.ref t)) (harr : s.arrayAt? t = some cell) (hv : (Term.length tm).eval args s none [] s = some v) : cell.slots.size < 2 ^ 31 := by
  simp only [Term.eval, ht, harr, Option.bind_eq_bind, Option.bind_some] at hv
  by_cases hlt : cell.slots.size < 2147483648
  · exact hlt
  · simp [hlt] at hv
theorem st_SF {s : State} {args : Array Value} {A : Nat → Prop} {cI : ClassId} (hg : (Jvm.Cond.and given_1 narrow_1).before args s = true) (hnm : s.vm.findClass "[I" = some cI) {t : Nat} (ht : (Term.static "CellarTides" "FIRST_SETTINGS" "[I").eval args s none [] s = some (.ref t)) (hT : va_T .int t 7 (fun j => .int (fsS j)) A s s.heap) : SF cI t A s.heap := by
  have hs := flat_of_before _ hg
  have hex : (Cond.exactly (.static "CellarTides" "FIRST_SETTINGS" "[I") "[I").before args s = true := hs _ (by decide +kernel)
  have hlen : (Cond.eq (.length (.static "CellarTides" "FIRST_SETTINGS" "[I")) (.int 7)).before args s = true := hs _ (by decide +kernel)
  obtain ⟨a, c, cell, k, q1, q2, q3, q4, q5, q6, -⟩ := Cond.exactly_spec hex
  cases ht.symm.trans q1
  obtain ⟨cell2, g1, g2, g3, g4, g5, g6, g7⟩ := hT
  cases q3.symm.trans g1
  have hsz : cell.slots.size < 2 ^ 31 := by
    have hv := va_eqt hlen
    obtain ⟨b9, cell9, ht9, harr9, -⟩ := Term.length_spec hv
    cases ht.symm.trans ht9
    obtain ⟨hcell9, -, -, -⟩ := State.arrayAt?_spec harr9
    cases q3.symm.trans hcell9
    exact len_small ht harr9 hv
  have hs7 : cell.slots.size = 7 := by
    have h9 : Int32.ofNat cell.slots.size = Int32.ofNat 7 := g5
    exact (nI_eq (a := cell.slots.size) (b := 7) hsz (by decide)).mp h9
  refine ⟨cell, q3, ?_, g2.1, g3, ?_, g7⟩
  · rw [q6]; exact Option.some.inj (q2.symm.trans hnm)
  · apply Array.ext_getElem?
    intro i
    by_cases hi : i < 7
    · rw [g6 i hi]; simp [arrSlots, hi]
    · rw [Array.getElem?_eq_none (by omega), Array.getElem?_eq_none (by simp [arrSlots]; omega)]
set_option maxRecDepth 100000 in
set_option maxHeartbeats 4000000 in
theorem whole_of {I : Nat → St → St → Prop} (hI : SpAll I) (hi0 : I 38 uB0 muT) {p : Program} {e : Env} {s : State} {m : MethodId} {below : List Frame} {meth : Method} {c : Code} (l : Launch) {b L : Nat} {xs : Nat → Int32} (hL : L ≤ 384) (C0 : lw_At p s m meth c b L xs) : W p l e room_1 s m #[Value.ref b] below meth c s.heap [] 0 0 (lw_Z below #[Value.ref b] s) (entryFrame m ([Value.ref b] : List Value).toArray 4) := by
  obtain ⟨hx, hb, hr, hml, hown, hts0, hX, hbl, hlocks, hgv⟩ := id C0
  have hts : ∀ w ∈ Gd, w.before #[Value.ref b] s = true := fun w h => hts0 w (List.mem_filter.mp h).1
  have hown : s.vm.findClass RL = some m.cls := hown
  have hA : ∀ q : Nat, s.heap.size ≤ q → (fun q : Nat => s.heap.size ≤ q) q := fun _ h => h
  have hA2 : ∀ q : Nat, q < s.heap.size → ¬ (fun q : Nat => s.heap.size ≤ q) q := fun q h h2 => by simp at h2; omega
  obtain ⟨c0, iS0, hKn0⟩ := u_known (C := RX0) (T := TX0) (N := 5) (n := 5) hts ui_X0 (hts _ ia_X0)
  obtain ⟨c1, iS1, hKn1⟩ := u_known (C := RX1) (T := TX1) (N := 11) (n := 11) hts ui_X1 (hts _ ia_X1)
  obtain ⟨c2, iS2, hKn2⟩ := u_known (C := RX2) (T := TX2) (N := 4) (n := 4) hts ui_X2 (hts _ ia_X2)
  obtain ⟨c3, iS3, hKn3⟩ := u_known (C := RX3) (T := TX3) (N := 2) (n := 2) hts ui_X3 (hts _ ia_X3)
  obtain ⟨c4, iS4, hKn4⟩ := u_known (C := RX4) (T := TX4) (N := 8) (n := 8) hts ui_X4 (hts _ ia_X4)
  obtain ⟨c5, iS5, hKn5⟩ := u_known (C := RX5) (T := TX5) (N := 4) (n := 4) hts ui_X5 (hts _ ia_X5)
  obtain ⟨c6, iS6, hKn6⟩ := u_known (C := RX6) (T := TX6) (N := 4) (n := 4) hts ui_X6 (hts _ ia_X6)
  obtain ⟨c7, iS7, hKn7⟩ := u_known (C := RX7) (T := TX7) (N := 5) (n := 5) hts ui_X7 (hts _ ia_X7)
  obtain ⟨c8, iS8, hKn8⟩ := u_known (C := RX8) (T := TX8) (N := 2) (n := 2) hts ui_X8 (hts _ ia_X8)
  obtain ⟨c9, iS9, hKn9⟩ := u_known (C := RX9) (T := TX9) (N := 5) (n := 5) hts ui_X9 (hts _ ia_X9)
  obtain ⟨c10, iS10, hKn10⟩ := u_known (C := RX10) (T := TX10) (N := 4) (n := 4) hts ui_X10 (hts _ ia_X10)
  obtain ⟨c11, iS11, hKn11⟩ := u_known (C := RX11) (T := TX11) (N := 9) (n := 9) hts ui_X11 (hts _ ia_X11)
  obtain ⟨c12, iS12, hKn12⟩ := u_known (C := RX12) (T := TX12) (N := 40) (n := 40) hts ui_X12 (hts _ ia_X12)
  obtain ⟨dC, dI, hKc⟩ : ∃ (dC : Nat → ClassId) (dI : Nat → Nat → Nat), ∀ (k : Nat) (q : vw_C), vwCl[k]? = some q → u_Kn s q.1 q.2.1 q.2.2 (dC k) (dI k) := by
    refine ⟨fun k => [c0, c1, c2, c3, c4, c5, c6, c7, c8, c9, c10, c11, c12].getD k c0, fun k => [iS0, iS1, iS2, iS3, iS4, iS5, iS6, iS7, iS8, iS9, iS10, iS11, iS12].getD k iS0, ?_⟩
    intro k q hq
    match k, hq with
    | 0, hq => cases hq; exact hKn0
    | 1, hq => cases hq; exact hKn1
    | 2, hq => cases hq; exact hKn2
    | 3, hq => cases hq; exact hKn3
    | 4, hq => cases hq; exact hKn4
    | 5, hq => cases hq; exact hKn5
    | 6, hq => cases hq; exact hKn6
    | 7, hq => cases hq; exact hKn7
    | 8, hq => cases hq; exact hKn8
    | 9, hq => cases hq; exact hKn9
    | 10, hq => cases hq; exact hKn10
    | 11, hq => cases hq; exact hKn11
    | 12, hq => cases hq; exact hKn12
    | k + 13, hq => simp [vwCl] at hq
  have hW0 : ZW s := ⟨va_Nw.of rfl (hts0 _ (tb_in 144 (by decide +kernel))), va_Nw.of rfl (hts0 _ (tb_in 151 (by decide +kernel))), va_AO.of (hts0 _ (tb_in 184 (by decide +kernel)))⟩
  have hN : NB s := ⟨va_Nw.of rfl (hts0 _ (tb_in 27 (by decide +kernel))), va_Nw.of rfl (hts0 _ (tb_in 67 (by decide +kernel))), va_Nw.of rfl (hts0 _ (tb_in 123 (by decide +kernel))), va_Nw.of rfl (hts0 _ (tb_in 187 (by decide +kernel))), va_Nw.of rfl (hts0 _ (tb_in 407 (by decide +kernel))), va_Nw.of rfl (hts0 _ (tb_in 422 (by decide +kernel))), va_Nw.of rfl (hts0 _ (tb_in 458 (by decide +kernel))), va_Nw.of rfl (hts0 _ (tb_in 506 (by decide +kernel))), va_Nw.of rfl (hts0 _ (tb_in 582 (by decide +kernel))), va_Nw.of rfl (hts0 _ (tb_in 615 (by decide +kernel))), va_Nw.of rfl (hts0 _ (tb_in 657 (by decide +kernel))), va_Nw.of rfl (hts0 _ (tb_in 672 (by decide +kernel))), va_Nw.of rfl (hts0 _ (tb_in 702 (by decide +kernel))), va_Nw.of rfl (hts0 _ (tb_in 767 (by decide +kernel)))⟩
  obtain ⟨cI, hI1, hI2⟩ := arr_k (ty := .int) (fun _ h => by cases h) (hts _ ac_int)
  obtain ⟨cJ, hJ1, hJ2⟩ := arr_k (ty := .long) (fun _ h => by cases h) (hts _ ac_long)
  obtain ⟨cZ, hZ1, hZ2⟩ := arr_k (ty := .boolean) (fun _ h => by cases h) (hts _ ac_boolean)
  obtain ⟨cR, hR1, hR2⟩ := arr_q hW0.2.2
  have hK : va_K (dC, dI) vwCl (tyL cI cJ cR cZ) s := ⟨hKc, fun k q hq => by
    match k, hq with
    | 0, hq => cases hq; exact ⟨hI1, hI2⟩
    | 1, hq => cases hq; exact ⟨hJ1, hJ2⟩
    | 2, hq => cases hq; exact ⟨hR1, hR2⟩
    | 3, hq => cases hq; exact ⟨hZ1, hZ2⟩
    | k + 4, hq => simp [tyL] at hq⟩
  have hnmI : s.vm.findClass "[I" = some cI := by
    have hq2 : s.vm.findClass ("[" ++ FieldType.int.toString) = some cI := hI2
    rw [show ("[" ++ FieldType.int.toString) = "[I" by decide] at hq2
    exact hq2
  obtain ⟨tF, tF1, tF2, tF3⟩ := st_FIRST_SETTINGS (A := fun q : Nat => s.heap.size ≤ q) hgv (hts0 _ (tb_in 145 (by decide +kernel))) (hts _ in_X11) hA2
  obtain ⟨tL, tL1, tL2, tL3⟩ := st_LEAST_SETTINGS (A := fun q : Nat => s.heap.size ≤ q) hgv (hts0 _ (tb_in 439 (by decide +kernel))) (hts _ in_X11) hA2
  obtain ⟨tM, tM1, tM2, tM3⟩ := st_MOST_SETTINGS (A := fun q : Nat => s.heap.size ≤ q) hgv (hts0 _ (tb_in 441 (by decide +kernel))) (hts _ in_X11) hA2
  have hZ : SZ cI tF tL tM (fun q : Nat => s.heap.size ≤ q) s s.heap := ⟨tF2, tL2, tM2, tL3, tM3, st_SF hgv hnmI tF1 tF3⟩
  have X0 : LCX p s m c (dC, dI) cI cJ cR cZ b L xs tF tL tM := ⟨hx, hb, hml, hown, hts, hK, hN, hW0, hZ, hX, hbl⟩
  have hKB : va_K (dC, dI) vwCl (tyB cI cJ cR) s := hK.sub [0, 1, 2] rfl
  have hKM : va_K (dC, dI) vwCl (tyM cI cZ) s := hK.sub [0, 3] rfl
  have hS : va_S (fun q : Nat => s.heap.size ≤ q) s.heap s.heap [] := va_S.rf
  have hP : va_P (dC, dI) vwCl [] s.heap := fun k q h => by simp at h
  have hD : va_D (fun q : Nat => s.heap.size ≤ q) [] := ⟨fun i j p q h => by simp at h, fun k q h => by simp at h⟩
  have hl := lv_entry ([.ref b]) (n := 4) (Nat.le_of_ble_eq_true rfl)
  rw [lg_entry_eq]
  generalize (lg_sl ([.ref b]) ++ List.replicate (4 - (lg_sl ([.ref b])).length) Slot.unset).toArray = ls at hl ⊢
  have hl : lv_has ls 4 [(0, .ref b)] := hl
  refine va_new (pc := 0) (ci := 11) (fs := [.null, .null, .null, .null, .null, .null, .null, .null, .null]) (C := RX11) (T := TX11) (N := 9) hx hb hts ui_X11 tyX11 tyX11_ok hown (hts _ cl_L_7) (hts _ ia_X11) (hts _ in_X11) hK hP hD hS hA rfl (fun j hj => by rcases (show j = 0 ∨ j = 1 ∨ j = 2 ∨ j = 3 ∨ j = 4 ∨ j = 5 ∨ j = 6 ∨ j = 7 ∨ j = 8 by omega) with rfl | rfl | rfl | rfl | rfl | rfl | rfl | rfl | rfl <;> rfl) (Nat.le_of_ble_eq_true rfl) (Nat.le_of_ble_eq_true rfl) dL_law_0 (fun h0 H hP hD hS => ?_)
  have hP : va_P (dC, dI) vwCl [(h0, .inr (11, [.null, .null, .null, .null, .null, .null, .null, .null, .null]))] H := hP
  have hD : va_D (fun q : Nat => s.heap.size ≤ q) [(h0, .inr (11, [.null, .null, .null, .null, .null, .null, .null, .null, .null]))] := hD
  refine W.widen (k := 1) (n := 9) (Nat.le_refl _) (Nat.le_refl _) ?_
  refine lv_dup (pc := 3) hx hb dL_law_3 rfl ?_
  have hFc : ∀ z, va_A [(h0, .inr (11, [.null, .null, .null, .null, .null, .null, .null, .null, .null]))] H.size z → (fun q : Nat => s.heap.size ≤ q) z := va_free (wc := [(h0, .inr (11, [.null, .null, .null, .null, .null, .null, .null, .null, .null]))]) hD hS hA [0] rfl
  refine va_callv (pc := 4) (va_runI (As := []) (rest := [.ref h0]) ⟨hx, hb, hml, hown, hts⟩ (x_X11 l (dC, dI) cI cJ cR tF tL tM h0 H.size) (cwI 0 hts (gdC co_X11_init) rfl rfl rfl (hts _ in_X11) (hts _ ml_L_9) (hts _ im_X11_init) rfl (by decide +kernel) ⟨(Nat.le_of_ble_eq_true rfl), (Nat.le_of_ble_eq_true rfl)⟩) ⟨PZ_blind, fun U hU hW => ⟨rfl, ⟨by rw [hU], by rw [hU]; exact hP, va_K.moved hW.alike hKB, hD.weaken (fun _ _ _ _ => trivial), hN.warm hW⟩, hW0.warm hW, by rw [hU]; exact (((hZ.kept hS.2.1).moved hW.alike).narrow hFc)⟩⟩ rfl rfl hl.1 rfl (lv_room (Nat.le_of_ble_eq_true rfl)) dL_law_4 ⟨(Nat.le_of_ble_eq_true rfl), (Nat.le_of_ble_eq_true rfl)⟩) hS (fun q _ h9 => hFc q h9) hFc (fun v t H1 locs ht hvm hw hB hz1 hk1 hS => ?_)
  obtain ⟨hP1, hD1⟩ := hB
  rw [ht] at hP1
  have hD1 := hD1.weaken (B := fun q : Nat => s.heap.size ≤ q) (fun _ _ _ h9 => hFc _ h9)
  generalize H1 = H at hP1 hS ⊢
  obtain ⟨a, hae⟩ : ∃ a : Nat → Nat, a = hd0 h0 v := ⟨_, rfl⟩
  have ha0 : h0 = a 0 := by rw [hae]; rfl
  have hP : va_P (dC, dI) vwCl (wX 38 a (EB a cI cJ cR) uB0) H := by rw [hae]; exact hP1
  have hD : va_D (fun q : Nat => s.heap.size ≤ q) (wX 38 a (EB a cI cJ cR) uB0) := by rw [hae]; exact hD1
  refine W.widen (k := 60) (n := 800) (by decide) (by decide) ?_
  refine lv_astore_n (pc := 7) (lv' := [(1, .ref h0), (0, .ref b)]) hx hb dL_law_7 rfl hl (by decide) rfl (fun ls hl => ?_)
  refine va_new (pc := 8) (ci := 12) (fs := [.int 0, .null, .null, .int 0, .int 0, .null, .null, .null, .null, .null, .int 0, .int 0, .int 0, .int 0, .null, .null, .null, .null, .int 0, .null, .int 0, .long 0, .int 0, .null, .null, .int 0, .int 0, .int 0, .int 0, .int 0, .int 0, .null, .int 0, .null, .null, .null, .null, .null, .int 0, .int 0]) (C := RX12) (T := TX12) (N := 40) hx hb hts ui_X12 tyX12 tyX12_ok hown (hts _ cl_L_10) (hts _ ia_X12) (hts _ in_X12) hK hP hD hS hA rfl (fun j hj => by rcases (show j = 0 ∨ j = 1 ∨ j = 2 ∨ j = 3 ∨ j = 4 ∨ j = 5 ∨ j = 6 ∨ j = 7 ∨ j = 8 ∨ j = 9 ∨ j = 10 ∨ j = 11 ∨ j = 12 ∨ j = 13 ∨ j = 14 ∨ j = 15 ∨ j = 16 ∨ j = 17 ∨ j = 18 ∨ j = 19 ∨ j = 20 ∨ j = 21 ∨ j = 22 ∨ j = 23 ∨ j = 24 ∨ j = 25 ∨ j = 26 ∨ j = 27 ∨ j = 28 ∨ j = 29 ∨ j = 30 ∨ j = 31 ∨ j = 32 ∨ j = 33 ∨ j = 34 ∨ j = 35 ∨ j = 36 ∨ j = 37 ∨ j = 38 ∨ j = 39 by omega) with rfl | rfl | rfl | rfl | rfl | rfl | rfl | rfl | rfl | rfl | rfl | rfl | rfl | rfl | rfl | rfl | rfl | rfl | rfl | rfl | rfl | rfl | rfl | rfl | rfl | rfl | rfl | rfl | rfl | rfl | rfl | rfl | rfl | rfl | rfl | rfl | rfl | rfl | rfl | rfl <;> rfl) (Nat.le_of_ble_eq_true rfl) (Nat.le_of_ble_eq_true rfl) dL_law_8 (fun m0 H hP hD hS => ?_)
  refine W.widen (k := 61) (n := 840) (Nat.le_refl _) (Nat.le_refl _) ?_
  refine lv_dup (pc := 11) hx hb dL_law_11 rfl ?_
  have hPc : va_P (dC, dI) vwCl [(m0, .inr (12, [.int 0, .null, .null, .int 0, .int 0, .null, .null, .null, .null, .null, .int 0, .int 0, .int 0, .int 0, .null, .null, .null, .null, .int 0, .null, .int 0, .long 0, .int 0, .null, .null, .int 0, .int 0, .int 0, .int 0, .int 0, .int 0, .null, .int 0, .null, .null, .null, .null, .null, .int 0, .int 0]))] H := P_r hP
  have hDc : va_D (fun q : Nat => s.heap.size ≤ q) [(m0, .inr (12, [.int 0, .null, .null, .int 0, .int 0, .null, .null, .null, .null, .null, .int 0, .int 0, .int 0, .int 0, .null, .null, .null, .null, .int 0, .null, .int 0, .long 0, .int 0, .null, .null, .int 0, .int 0, .int 0, .int 0, .int 0, .int 0, .null, .int 0, .null, .null, .null, .null, .null, .int 0, .int 0]))] := D_r hD
  have hFc : ∀ z, va_A [(m0, .inr (12, [.int 0, .null, .null, .int 0, .int 0, .null, .null, .null, .null, .null, .int 0, .int 0, .int 0, .int 0, .null, .null, .null, .null, .int 0, .null, .int 0, .long 0, .int 0, .null, .null, .int 0, .int 0, .int 0, .int 0, .int 0, .int 0, .null, .int 0, .null, .null, .null, .null, .null, .int 0, .int 0]))] H.size z → (fun q : Nat => s.heap.size ≤ q) z := va_free (wc := [(m0, .inr (12, [.int 0, .null, .null, .int 0, .int 0, .null, .null, .null, .null, .null, .int 0, .int 0, .int 0, .int 0, .null, .null, .null, .null, .int 0, .null, .int 0, .long 0, .int 0, .null, .null, .int 0, .int 0, .int 0, .int 0, .int 0, .int 0, .null, .int 0, .null, .null, .null, .null, .null, .int 0, .int 0]))]) hDc hS hA [0] rfl
  refine va_callv (pc := 12) (va_runI (As := []) (rest := [.ref m0]) ⟨hx, hb, hml, hown, hts⟩ (x_X12 l (dC, dI) cI cZ m0 H.size) (cwI 0 hts (gdC co_X12_init) rfl rfl rfl (hts _ in_X12) (hts _ ml_L_12) (hts _ im_X12_init) rfl (by decide +kernel) ⟨(Nat.le_of_ble_eq_true rfl), (Nat.le_of_ble_eq_true rfl)⟩) ⟨PX_blind, fun U hU hW => ⟨rfl, by rw [hU], by rw [hU]; exact hPc, va_K.moved hW.alike hKM, hDc.weaken (fun _ _ _ _ => trivial), hN.warm hW⟩⟩ rfl rfl hl.1 rfl (lv_room (Nat.le_of_ble_eq_true rfl)) dL_law_12 ⟨(Nat.le_of_ble_eq_true rfl), (Nat.le_of_ble_eq_true rfl)⟩) hS (fun q _ h9 => hFc q h9) hFc (fun v2 t H1 locs ht hvm hw hB hz1 hk1 hS => ?_)
  obtain ⟨hP1, hD1⟩ := hB
  rw [ht] at hP1
  obtain ⟨hP, hD⟩ := J_r hP hD (fun z h9 => h9) hk1 hFc hP1 hD1
  generalize H1 = H at hP hS ⊢
  refine W.widen (k := 100) (n := 2000) (by decide) (by decide) ?_
  refine lv_astore_n (pc := 15) (lv' := [(2, .ref m0), (1, .ref h0), (0, .ref b)]) hx hb dL_law_15 rfl hl (by decide) rfl (fun ls hl => ?_)
  refine lv_iconst (pc := 16) (v := 0) hx hb dL_law_16 (by decide) ?_
  refine lv_istore_n (pc := 17) (lv' := [(3, .int 0), (2, .ref m0), (1, .ref h0), (0, .ref b)]) hx hb dL_law_17 rfl hl (by decide) rfl (fun ls hl => ?_)
  rw [ha0, ← hw] at hl
  exact law_loop X0 hr hlocks hL hI 65 0 (by omega) (by omega) 38 a uB0 muT 0 rfl hi0 _ _ _ ⟨hP, hD, hS⟩ (lv_sub hl [3, 2, 1, 0] rfl)
