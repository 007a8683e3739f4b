/-! ===== the course ===== -/
section CO
variable {u m v : St} {t : Nat → Nat → Nat} {wl : Nat} {L : Nat → Nat}
theorem lvl_tr {u v : St} (h : ∀ c, c ≤ 20 → v.1 c = u.1 c) (x : Int32) : f_X0_levelOn v x = f_X0_levelOn u x := by
  unfold f_X0_levelOn f_X8_digitAt
  rw [h 10 (by omega), h 11 (by omega), h 20 (by omega)]
theorem AL_tr {v2 : St} (hA : AL v t wl L) (h : ∀ c, c ≤ 20 → v2.1 c = v.1 c) : AL v2 t wl L := by
  refine ⟨fun c k hd => ?_, by rw [h 20 (by omega)]; exact hA.2.1, by rw [h 20 (by omega)]; exact hA.2.2.1, ⟨fun i hi => by rw [lvl_tr h]; exact hA.2.2.2.1.1 i hi, hA.2.2.2.1.2⟩, hA.2.2.2.2⟩
  have hc : c ≤ 16 := by unfold TD at hd; omega
  rw [h (0 + c) (by omega)]; exact hA.1 c k hd
theorem bgC (hU : UT v t 0) : ∃ w, f_X1_begin v = some w ∧ (∀ c, c ≠ 21 → c ≠ 22 → c ≠ 23 → w.1 c = v.1 c) ∧ (∀ k, k ≠ 5 → w.1 21 k = v.1 21 k) ∧ w.1 21 5 = nI 0 ∧ ∀ b, b < 8 → w.1 22 b = nI (t 6 b) ∧ w.1 23 b = nI 0 := by
  unfold f_X1_begin
  rw [bsE, jq1]
  refine mw_2 (P := fun i (w : St) (y : Int32) => y = nI i ∧ (∀ c, c ≠ 21 → c ≠ 22 → c ≠ 23 → w.1 c = v.1 c) ∧ (∀ k, k ≠ 5 → w.1 21 k = v.1 21 k) ∧ w.1 21 5 = nI 0 ∧ ∀ b, b < i → w.1 22 b = nI (t 6 b) ∧ w.1 23 b = nI 0) (Q := fun o => ∃ w : St, o = some w ∧ (∀ c, c ≠ 21 → c ≠ 22 → c ≠ 23 → w.1 c = v.1 c) ∧ (∀ k, k ≠ 5 → w.1 21 k = v.1 21 k) ∧ w.1 21 5 = nI 0 ∧ ∀ b, b < 8 → w.1 22 b = nI (t 6 b) ∧ w.1 23 b = nI 0) 8 ?_ ?_ (FU_lt (by decide)) ?_
  · rintro i w y hi ⟨rfl, h1, h2, h3, h4⟩
    have h6 : w.1 6 i = nI (t 6 i) := by rw [h1 6 (by omega) (by omega) (by omega)]; exact U_lie hU hi
    refine Or.inl ⟨_, _, fun rec => by unfold B_X1_begin_7; simp (disch := omega) only [h6, b1E, b2E, bsE, jq0, jq1, jq2, jq3, w_ev, in_ev2, nI_leI, nI_ltI, nI_eq, nI_add, ↓pk_rem, pk_div, pk_sub, pk_mul, ckiT, ckT, ixN, if_pos, if_neg, ↓reduceIte, ckTr, true_or, or_true, false_or, or_false, sI_o, sI_s, pk_un, pk_us, il_0, il_1, il_2, il_3, il_4, il_5, il_6, il_7, il_8, il_9, il_10, il_12, il_16, il_20, il_29, il_30, il_31, il_32, il_33, il_39, il_40, il_43, il_46, il_48, il_50, il_54, il_55, il_57, il_60, il_63, il_64, il_74, il_75, il_97, il_99, il_100, il_126, il_150, il_255, il_256, il_899, il_999, il_9999, il_65537, il_1000000, il_2147483647, nn1, nn6, m6lt, nn1s, nn6s]; rfl, ⟨rfl, ?_, ?_, ?_, ?_⟩⟩
    · intro c c1 c2 c3; simp (disch := omega) only [h1 c c1 c2 c3, b1E, b2E, bsE, jq0, jq1, jq2, jq3, w_ev, in_ev2, nI_leI, nI_ltI, nI_eq, nI_add, ↓pk_rem, pk_div, pk_sub, pk_mul, ckiT, ckT, ixN, if_pos, if_neg, ↓reduceIte, ckTr, true_or, or_true, false_or, or_false, sI_o, sI_s, pk_un, pk_us, il_0, il_1, il_2, il_3, il_4, il_5, il_6, il_7, il_8, il_9, il_10, il_12, il_16, il_20, il_29, il_30, il_31, il_32, il_33, il_39, il_40, il_43, il_46, il_48, il_50, il_54, il_55, il_57, il_60, il_63, il_64, il_74, il_75, il_97, il_99, il_100, il_126, il_150, il_255, il_256, il_899, il_999, il_9999, il_65537, il_1000000, il_2147483647, nn1, nn6, m6lt, nn1s, nn6s]
    · intro k hk; simp (disch := omega) only [h2 k hk, b1E, b2E, bsE, jq0, jq1, jq2, jq3, w_ev, in_ev2, nI_leI, nI_ltI, nI_eq, nI_add, ↓pk_rem, pk_div, pk_sub, pk_mul, ckiT, ckT, ixN, if_pos, if_neg, ↓reduceIte, ckTr, true_or, or_true, false_or, or_false, sI_o, sI_s, pk_un, pk_us, il_0, il_1, il_2, il_3, il_4, il_5, il_6, il_7, il_8, il_9, il_10, il_12, il_16, il_20, il_29, il_30, il_31, il_32, il_33, il_39, il_40, il_43, il_46, il_48, il_50, il_54, il_55, il_57, il_60, il_63, il_64, il_74, il_75, il_97, il_99, il_100, il_126, il_150, il_255, il_256, il_899, il_999, il_9999, il_65537, il_1000000, il_2147483647, nn1, nn6, m6lt, nn1s, nn6s]
    · simp (disch := omega) only [h3, b1E, b2E, bsE, jq0, jq1, jq2, jq3, w_ev, in_ev2, nI_leI, nI_ltI, nI_eq, nI_add, ↓pk_rem, pk_div, pk_sub, pk_mul, ckiT, ckT, ixN, if_pos, if_neg, ↓reduceIte, ckTr, true_or, or_true, false_or, or_false, sI_o, sI_s, pk_un, pk_us, il_0, il_1, il_2, il_3, il_4, il_5, il_6, il_7, il_8, il_9, il_10, il_12, il_16, il_20, il_29, il_30, il_31, il_32, il_33, il_39, il_40, il_43, il_46, il_48, il_50, il_54, il_55, il_57, il_60, il_63, il_64, il_74, il_75, il_97, il_99, il_100, il_126, il_150, il_255, il_256, il_899, il_999, il_9999, il_65537, il_1000000, il_2147483647, nn1, nn6, m6lt, nn1s, nn6s]
    · intro b hb
      by_cases h9 : b = i
      · subst h9; simp (disch := omega) only [and_self, b1E, b2E, bsE, jq0, jq1, jq2, jq3, w_ev, in_ev2, nI_leI, nI_ltI, nI_eq, nI_add, ↓pk_rem, pk_div, pk_sub, pk_mul, ckiT, ckT, ixN, if_pos, if_neg, ↓reduceIte, ckTr, true_or, or_true, false_or, or_false, sI_o, sI_s, pk_un, pk_us, il_0, il_1, il_2, il_3, il_4, il_5, il_6, il_7, il_8, il_9, il_10, il_12, il_16, il_20, il_29, il_30, il_31, il_32, il_33, il_39, il_40, il_43, il_46, il_48, il_50, il_54, il_55, il_57, il_60, il_63, il_64, il_74, il_75, il_97, il_99, il_100, il_126, il_150, il_255, il_256, il_899, il_999, il_9999, il_65537, il_1000000, il_2147483647, nn1, nn6, m6lt, nn1s, nn6s]
      · simp (disch := omega) only [h4 b (by omega), and_self, b1E, b2E, bsE, jq0, jq1, jq2, jq3, w_ev, in_ev2, nI_leI, nI_ltI, nI_eq, nI_add, ↓pk_rem, pk_div, pk_sub, pk_mul, ckiT, ckT, ixN, if_pos, if_neg, ↓reduceIte, ckTr, true_or, or_true, false_or, or_false, sI_o, sI_s, pk_un, pk_us, il_0, il_1, il_2, il_3, il_4, il_5, il_6, il_7, il_8, il_9, il_10, il_12, il_16, il_20, il_29, il_30, il_31, il_32, il_33, il_39, il_40, il_43, il_46, il_48, il_50, il_54, il_55, il_57, il_60, il_63, il_64, il_74, il_75, il_97, il_99, il_100, il_126, il_150, il_255, il_256, il_899, il_999, il_9999, il_65537, il_1000000, il_2147483647, nn1, nn6, m6lt, nn1s, nn6s]
  · rintro w y ⟨rfl, h⟩ rec
    unfold B_X1_begin_7
    rw [if_pos (show (8 : Int32) ≤ nI 8 by decide)]
    exact ⟨w, rfl, h⟩
  · exact ⟨rfl, fun c c1 c2 c3 => by simp (disch := omega) only [b1E, b2E, bsE, jq0, jq1, jq2, jq3, w_ev, in_ev2, nI_leI, nI_ltI, nI_eq, nI_add, ↓pk_rem, pk_div, pk_sub, pk_mul, ckiT, ckT, ixN, if_pos, if_neg, ↓reduceIte, ckTr, true_or, or_true, false_or, or_false, sI_o, sI_s, pk_un, pk_us, il_0, il_1, il_2, il_3, il_4, il_5, il_6, il_7, il_8, il_9, il_10, il_12, il_16, il_20, il_29, il_30, il_31, il_32, il_33, il_39, il_40, il_43, il_46, il_48, il_50, il_54, il_55, il_57, il_60, il_63, il_64, il_74, il_75, il_97, il_99, il_100, il_126, il_150, il_255, il_256, il_899, il_999, il_9999, il_65537, il_1000000, il_2147483647, nn1, nn6, m6lt, nn1s, nn6s], fun k hk => by simp (disch := omega) only [b1E, b2E, bsE, jq0, jq1, jq2, jq3, w_ev, in_ev2, nI_leI, nI_ltI, nI_eq, nI_add, ↓pk_rem, pk_div, pk_sub, pk_mul, ckiT, ckT, ixN, if_pos, if_neg, ↓reduceIte, ckTr, true_or, or_true, false_or, or_false, sI_o, sI_s, pk_un, pk_us, il_0, il_1, il_2, il_3, il_4, il_5, il_6, il_7, il_8, il_9, il_10, il_12, il_16, il_20, il_29, il_30, il_31, il_32, il_33, il_39, il_40, il_43, il_46, il_48, il_50, il_54, il_55, il_57, il_60, il_63, il_64, il_74, il_75, il_97, il_99, il_100, il_126, il_150, il_255, il_256, il_899, il_999, il_9999, il_65537, il_1000000, il_2147483647, nn1, nn6, m6lt, nn1s, nn6s], by simp (disch := omega) only [b1E, b2E, bsE, jq0, jq1, jq2, jq3, w_ev, in_ev2, nI_leI, nI_ltI, nI_eq, nI_add, ↓pk_rem, pk_div, pk_sub, pk_mul, ckiT, ckT, ixN, if_pos, if_neg, ↓reduceIte, ckTr, true_or, or_true, false_or, or_false, sI_o, sI_s, pk_un, pk_us, il_0, il_1, il_2, il_3, il_4, il_5, il_6, il_7, il_8, il_9, il_10, il_12, il_16, il_20, il_29, il_30, il_31, il_32, il_33, il_39, il_40, il_43, il_46, il_48, il_50, il_54, il_55, il_57, il_60, il_63, il_64, il_74, il_75, il_97, il_99, il_100, il_126, il_150, il_255, il_256, il_899, il_999, il_9999, il_65537, il_1000000, il_2147483647, nn1, nn6, m6lt, nn1s, nn6s], fun b hb => absurd hb (by omega)⟩
/-- the acid of one barrel behind a day -/
def nx (t : Nat → Nat → Nat) (wl lv : Nat) (at' A : Nat → Nat) (b : Nat) : Nat := if t 5 4 / 2 ^ b % 2 = 1 then min 99 (A b + (br t wl (at' b) lv - t 8 b)) else A b
theorem pdC (hT : TK t) (hA : AL v t wl L) {d mo : Nat} {at' A : Nat → Nat} (hd : v.1 21 5 = nI d) (hdl : d < 2000) (hmo : mo ≤ 1) (hat : ∀ b, b < 8 → v.1 22 b = nI (at' b)) (hac : ∀ b, b < 8 → v.1 23 b = nI (A b) ∧ A b ≤ 99) (hin : ∀ b, b < 8 → bt t b → at' b < t 2 2) : ∃ w, f_X1_passDay v (nI mo) = some w ∧ (∀ c, c ≠ 21 → c ≠ 23 → w.1 c = v.1 c) ∧ (∀ k, k ≠ 5 → w.1 21 k = v.1 21 k) ∧ w.1 21 5 = nI (d + 1) ∧ ∀ b, b < 8 → w.1 23 b = nI (nx t wl (L d + mo) at' A b) := by
  have hlv := hA.2.2.2.1.1 d hdl
  have hw := hA.2.2.2.2
  unfold f_X1_passDay
  rw [hd, hlv.1, b1E, jq1]
  have key : ∀ K : St → Option St, ∃ w, lq_2 (B_X1_passDay_16 (nI mo) (nI (L d)) K) FU v 0 = K w ∧ (∀ c, c ≠ 23 → w.1 c = v.1 c) ∧ ∀ b, b < 8 → w.1 23 b = nI (nx t wl (L d + mo) at' A b) := by
    intro K
    refine mw_2 (P := fun i (w : St) (y : Int32) => y = nI i ∧ (∀ c, c ≠ 23 → w.1 c = v.1 c) ∧ ∀ b, b < 8 → w.1 23 b = nI (if b < i then nx t wl (L d + mo) at' A b else A b)) (Q := fun o => ∃ w, o = K w ∧ (∀ c, c ≠ 23 → w.1 c = v.1 c) ∧ ∀ b, b < 8 → w.1 23 b = nI (nx t wl (L d + mo) at' A b)) 8 ?_ ?_ (FU_lt (by decide)) ?_
    · rintro i w y hi ⟨rfl, h1, h2⟩
      have hUw : UT w t 0 := fun c k hD => by
        have hc : c ≤ 16 := by unfold TD at hD; omega
        rw [h1 (0 + c) (by omega)]; exact hA.1 c k hD
      have h20 : w.1 20 2 = nI wl := by rw [h1 20 (by omega)]; exact hA.2.1
      have h22 : w.1 22 i = nI (at' i) := by rw [h1 22 (by omega)]; exact hat i hi
      have h23 : w.1 23 i = nI (A i) := by rw [h2 i hi, if_neg (by omega)]
      have ha := (hac i hi).2
      have hk := (K_bar hT hi).2.2.1
      unfold B_X1_passDay_16
      by_cases hbt : bt t i
      · have hb2 : t 5 4 / 2 ^ i % 2 = 1 := hbt
        have hbr := br_le (t := t) (wl := wl) (c := at' i) (lev := L d + mo)
        refine Or.inl ⟨_, _, fun rec => by simp (disch := omega) only [hbY hUw hT hi hbt, h22, U_cor hUw, h23, riC hUw hT h20 (by omega) (hin i hi hbt), mn_n, b1E, b2E, bsE, jq0, jq1, jq2, jq3, w_ev, in_ev2, nI_leI, nI_ltI, nI_eq, nI_add, ↓pk_rem, pk_div, pk_sub, pk_mul, ckiT, ckT, ixN, if_pos, if_neg, ↓reduceIte, ckTr, true_or, or_true, false_or, or_false, sI_o, sI_s, pk_un, pk_us, il_0, il_1, il_2, il_3, il_4, il_5, il_6, il_7, il_8, il_9, il_10, il_12, il_16, il_20, il_29, il_30, il_31, il_32, il_33, il_39, il_40, il_43, il_46, il_48, il_50, il_54, il_55, il_57, il_60, il_63, il_64, il_74, il_75, il_97, il_99, il_100, il_126, il_150, il_255, il_256, il_899, il_999, il_9999, il_65537, il_1000000, il_2147483647, nn1, nn6, m6lt, nn1s, nn6s]; rfl, ⟨rfl, ?_, ?_⟩⟩
        · intro c c1; simp (disch := omega) only [h1 c c1, b1E, b2E, bsE, jq0, jq1, jq2, jq3, w_ev, in_ev2, nI_leI, nI_ltI, nI_eq, nI_add, ↓pk_rem, pk_div, pk_sub, pk_mul, ckiT, ckT, ixN, if_pos, if_neg, ↓reduceIte, ckTr, true_or, or_true, false_or, or_false, sI_o, sI_s, pk_un, pk_us, il_0, il_1, il_2, il_3, il_4, il_5, il_6, il_7, il_8, il_9, il_10, il_12, il_16, il_20, il_29, il_30, il_31, il_32, il_33, il_39, il_40, il_43, il_46, il_48, il_50, il_54, il_55, il_57, il_60, il_63, il_64, il_74, il_75, il_97, il_99, il_100, il_126, il_150, il_255, il_256, il_899, il_999, il_9999, il_65537, il_1000000, il_2147483647, nn1, nn6, m6lt, nn1s, nn6s]
        · intro b hb
          by_cases h9 : b = i
          · subst h9; simp (disch := omega) only [b1E, b2E, bsE, jq0, jq1, jq2, jq3, w_ev, in_ev2, nI_leI, nI_ltI, nI_eq, nI_add, ↓pk_rem, pk_div, pk_sub, pk_mul, ckiT, ckT, ixN, if_pos, if_neg, ↓reduceIte, ckTr, true_or, or_true, false_or, or_false, sI_o, sI_s, pk_un, pk_us, il_0, il_1, il_2, il_3, il_4, il_5, il_6, il_7, il_8, il_9, il_10, il_12, il_16, il_20, il_29, il_30, il_31, il_32, il_33, il_39, il_40, il_43, il_46, il_48, il_50, il_54, il_55, il_57, il_60, il_63, il_64, il_74, il_75, il_97, il_99, il_100, il_126, il_150, il_255, il_256, il_899, il_999, il_9999, il_65537, il_1000000, il_2147483647, nn1, nn6, m6lt, nn1s, nn6s]; unfold nx; rw [if_pos hb2]
          · simp (disch := omega) only [h2 b hb, b1E, b2E, bsE, jq0, jq1, jq2, jq3, w_ev, in_ev2, nI_leI, nI_ltI, nI_eq, nI_add, ↓pk_rem, pk_div, pk_sub, pk_mul, ckiT, ckT, ixN, if_pos, if_neg, ↓reduceIte, ckTr, true_or, or_true, false_or, or_false, sI_o, sI_s, pk_un, pk_us, il_0, il_1, il_2, il_3, il_4, il_5, il_6, il_7, il_8, il_9, il_10, il_12, il_16, il_20, il_29, il_30, il_31, il_32, il_33, il_39, il_40, il_43, il_46, il_48, il_50, il_54, il_55, il_57, il_60, il_63, il_64, il_74, il_75, il_97, il_99, il_100, il_126, il_150, il_255, il_256, il_899, il_999, il_9999, il_65537, il_1000000, il_2147483647, nn1, nn6, m6lt, nn1s, nn6s]
            by_cases h8 : b < i
            · rw [if_pos h8, if_pos (by omega)]
            · rw [if_neg h8, if_neg (by omega)]
      · have hb2 : ¬ t 5 4 / 2 ^ i % 2 = 1 := hbt
        refine Or.inl ⟨_, _, fun rec => by simp (disch := omega) only [hbF hUw hT hi hbt, b1E, b2E, bsE, jq0, jq1, jq2, jq3, w_ev, in_ev2, nI_leI, nI_ltI, nI_eq, nI_add, ↓pk_rem, pk_div, pk_sub, pk_mul, ckiT, ckT, ixN, if_pos, if_neg, ↓reduceIte, ckTr, true_or, or_true, false_or, or_false, sI_o, sI_s, pk_un, pk_us, il_0, il_1, il_2, il_3, il_4, il_5, il_6, il_7, il_8, il_9, il_10, il_12, il_16, il_20, il_29, il_30, il_31, il_32, il_33, il_39, il_40, il_43, il_46, il_48, il_50, il_54, il_55, il_57, il_60, il_63, il_64, il_74, il_75, il_97, il_99, il_100, il_126, il_150, il_255, il_256, il_899, il_999, il_9999, il_65537, il_1000000, il_2147483647, nn1, nn6, m6lt, nn1s, nn6s], ⟨rfl, h1, ?_⟩⟩
        intro b hb
        rw [h2 b hb]
        by_cases h9 : b = i
        · subst h9; rw [if_neg (by omega), if_pos (by omega)]; unfold nx; rw [if_neg hb2]
        · by_cases h8 : b < i
          · rw [if_pos h8, if_pos (by omega)]
          · rw [if_neg h8, if_neg (by omega)]
    · rintro w y ⟨rfl, h1, h2⟩ rec
      unfold B_X1_passDay_16
      rw [if_pos (show (8 : Int32) ≤ nI 8 by decide)]
      exact ⟨w, rfl, h1, fun b hb => by rw [h2 b hb, if_pos hb]⟩
    · exact ⟨rfl, fun c _ => rfl, fun b hb => by rw [if_neg (by omega)]; exact (hac b hb).1⟩
  obtain ⟨w, e1, e2, e3⟩ := key (fun u5 : St => bs (sI u5 21 5 ((u5.1 21 5) + (1 : Int32))) (fun u6 : St => some u6))
  have e21 : w.1 21 5 = nI d := by rw [e2 21 (by omega)]; exact hd
  rw [e1, bsE, e21, nI_1]
  refine ⟨_, rfl, fun c c1 c2 => ?_, fun k hk => ?_, ?_, fun b hb => ?_⟩
  · simp (disch := omega) only [e2 c c2, b1E, b2E, bsE, jq0, jq1, jq2, jq3, w_ev, in_ev2, nI_leI, nI_ltI, nI_eq, nI_add, ↓pk_rem, pk_div, pk_sub, pk_mul, ckiT, ckT, ixN, if_pos, if_neg, ↓reduceIte, ckTr, true_or, or_true, false_or, or_false, sI_o, sI_s, pk_un, pk_us, il_0, il_1, il_2, il_3, il_4, il_5, il_6, il_7, il_8, il_9, il_10, il_12, il_16, il_20, il_29, il_30, il_31, il_32, il_33, il_39, il_40, il_43, il_46, il_48, il_50, il_54, il_55, il_57, il_60, il_63, il_64, il_74, il_75, il_97, il_99, il_100, il_126, il_150, il_255, il_256, il_899, il_999, il_9999, il_65537, il_1000000, il_2147483647, nn1, nn6, m6lt, nn1s, nn6s]
  · simp (disch := omega) only [e2 21, b1E, b2E, bsE, jq0, jq1, jq2, jq3, w_ev, in_ev2, nI_leI, nI_ltI, nI_eq, nI_add, ↓pk_rem, pk_div, pk_sub, pk_mul, ckiT, ckT, ixN, if_pos, if_neg, ↓reduceIte, ckTr, true_or, or_true, false_or, or_false, sI_o, sI_s, pk_un, pk_us, il_0, il_1, il_2, il_3, il_4, il_5, il_6, il_7, il_8, il_9, il_10, il_12, il_16, il_20, il_29, il_30, il_31, il_32, il_33, il_39, il_40, il_43, il_46, il_48, il_50, il_54, il_55, il_57, il_60, il_63, il_64, il_74, il_75, il_97, il_99, il_100, il_126, il_150, il_255, il_256, il_899, il_999, il_9999, il_65537, il_1000000, il_2147483647, nn1, nn6, m6lt, nn1s, nn6s]
  · simp (disch := omega) only [b1E, b2E, bsE, jq0, jq1, jq2, jq3, w_ev, in_ev2, nI_leI, nI_ltI, nI_eq, nI_add, ↓pk_rem, pk_div, pk_sub, pk_mul, ckiT, ckT, ixN, if_pos, if_neg, ↓reduceIte, ckTr, true_or, or_true, false_or, or_false, sI_o, sI_s, pk_un, pk_us, il_0, il_1, il_2, il_3, il_4, il_5, il_6, il_7, il_8, il_9, il_10, il_12, il_16, il_20, il_29, il_30, il_31, il_32, il_33, il_39, il_40, il_43, il_46, il_48, il_50, il_54, il_55, il_57, il_60, il_63, il_64, il_74, il_75, il_97, il_99, il_100, il_126, il_150, il_255, il_256, il_899, il_999, il_9999, il_65537, il_1000000, il_2147483647, nn1, nn6, m6lt, nn1s, nn6s]
  · simp (disch := omega) only [e3 b hb, b1E, b2E, bsE, jq0, jq1, jq2, jq3, w_ev, in_ev2, nI_leI, nI_ltI, nI_eq, nI_add, ↓pk_rem, pk_div, pk_sub, pk_mul, ckiT, ckT, ixN, if_pos, if_neg, ↓reduceIte, ckTr, true_or, or_true, false_or, or_false, sI_o, sI_s, pk_un, pk_us, il_0, il_1, il_2, il_3, il_4, il_5, il_6, il_7, il_8, il_9, il_10, il_12, il_16, il_20, il_29, il_30, il_31, il_32, il_33, il_39, il_40, il_43, il_46, il_48, il_50, il_54, il_55, il_57, il_60, il_63, il_64, il_74, il_75, il_97, il_99, il_100, il_126, il_150, il_255, il_256, il_899, il_999, il_9999, il_65537, il_1000000, il_2147483647, nn1, nn6, m6lt, nn1s, nn6s]
def wS (t : Nat → Nat → Nat) (set d : Nat) (A : Nat → Nat) : Nat → Nat := sm (fun b => if t 5 4 / 2 ^ b % 2 = 1 ∧ set / 2 ^ b % 2 = 1 then wo t b d (A b) else 0)
theorem wsC (hU : UT v t 0) (hT : TK t) {set d : Nat} {A : Nat → Nat} (hs : set < 2 ^ 30) (hd : v.1 21 5 = nI d) (hdl : d < 100) (hac : ∀ b, b < 8 → v.1 23 b = nI (A b) ∧ A b ≤ 99) : f_X1_worthOf v (nI set) = some (nI (wS t set d A 8)) := by
  unfold f_X1_worthOf
  rw [jq1]
  refine mr_2 (fun i => nI (wS t set d A i)) nI 8 ?_ ?_ (FU_lt (by decide)) rfl rfl
  · intro i hi rec
    have ha := hac i hi
    unfold B_X1_worthOf_4
    rw [if_neg (nle_l (l := 8) 8 rfl hi (by decide)), nI_1]
    show _ = rec (nI (wS t set d A i + (if t 5 4 / 2 ^ i % 2 = 1 ∧ set / 2 ^ i % 2 = 1 then wo t i d (A i) else 0))) _
    by_cases hbt : bt t i
    · have h2 : t 5 4 / 2 ^ i % 2 = 1 := hbt
      rw [hbY hU hT hi hbt, b1E, if_neg n10, hbit_ev (by omega) (by omega), b1E]
      by_cases h : set / 2 ^ i % 2 = 1
      · rw [if_pos h, if_neg n10, if_pos ⟨h2, h⟩, ckiT hi (by decide), ixN (by omega), hd, ha.1, woC hU hT hi hdl ha.2, b1E, nI_add]
      · rw [if_neg h, if_pos rfl, if_neg (fun h9 => h h9.2)]; rfl
    · rw [hbF hU hT hi hbt, b1E, if_pos rfl, if_neg (fun h9 => hbt h9.1)]; rfl
  · intro rec
    unfold B_X1_worthOf_4
    rw [if_pos (show (8 : Int32) ≤ nI 8 by decide)]
def lS (t : Nat → Nat → Nat) (A : Nat → Nat) : Nat → Nat := sm (fun b => if t 5 4 / 2 ^ b % 2 = 1 ∧ t 16 0 ≤ A b then t 7 b else 0)
theorem lnC (hU : UT v t 0) (hT : TK t) {A : Nat → Nat} (hac : ∀ b, b < 8 → v.1 23 b = nI (A b) ∧ A b ≤ 99) : f_X1_lostNow v = some (nI (lS t A 8)) := by
  unfold f_X1_lostNow
  rw [jq1]
  refine mr_2 (fun i => nI (lS t A i)) nI 8 ?_ ?_ (FU_lt (by decide)) rfl rfl
  · intro i hi rec
    have ha := hac i hi
    unfold B_X1_lostNow_4
    rw [if_neg (nle_l (l := 8) 8 rfl hi (by decide)), nI_1]
    show _ = rec (nI (lS t A i + (if t 5 4 / 2 ^ i % 2 = 1 ∧ t 16 0 ≤ A i then t 7 i else 0))) _
    by_cases hbt : bt t i
    · have h2 : t 5 4 / 2 ^ i % 2 = 1 := hbt
      rw [hbY hU hT hi hbt, b1E, if_neg n10, ckiT hi (by decide), ixN (by omega), ha.1, vgC hU hT (by omega), b1E]
      by_cases h : t 16 0 ≤ A i
      · rw [if_pos h, if_neg n10, if_pos ⟨h2, h⟩, ckiT hi (by decide), U_siz hU hi, nI_add]
      · rw [if_neg h, if_pos rfl, if_neg (fun h9 => h h9.2)]; rfl
    · rw [hbF hU hT hi hbt, b1E, if_pos rfl, if_neg (fun h9 => hbt h9.1)]; rfl
  · intro rec
    unfold B_X1_lostNow_4
    rw [if_pos (show (8 : Int32) ≤ nI 8 by decide)]
end CO
def bst (W : Nat → Int32) : Nat → Int32 × Int32
  | 0 => (0, -1)
  | n + 1 => if W n ≤ (bst W n).2 then bst W n else (nI n, W n)
/-- the acids by days -/
def aD (t : Nat → Nat → Nat) (d b : Nat) : Nat := if t 5 4 / 2 ^ b % 2 = 1 then ac t (t 2 3) (lev t) (t 6 b) (t 8 b) d else 0
theorem aD_le {t : Nat → Nat → Nat} {d b : Nat} : aD t d b ≤ 99 := by unfold aD; split; exact ac_le; omega
theorem aD_nx {t : Nat → Nat → Nat} {d b : Nat} : nx t (t 2 3) (lev t d + 0) (fun b => t 6 b) (aD t d) b = aD t (d + 1) b := by
  unfold nx aD
  by_cases h : t 5 4 / 2 ^ b % 2 = 1
  · rw [if_pos h, if_pos h, if_pos h]; exact mn_st
  · rw [if_neg h, if_neg h, if_neg h]
theorem bdC {u : St} {t : Nat → Nat → Nat} (hU : UT u t 0) (hT : TK t) {set n : Nat} {p2 : Int32} (hs : set < 2 ^ 30) (hn : n = 100) : ∃ v, f_X11_bestDay u (nI set) p2 = some (if p2 = 0 then (bst (fun d => nI (wS t set d (aD t d) 8)) n).1 else (bst (fun d => nI (wS t set d (aD t d) 8)) n).2, v) ∧ Kp u v := by
  obtain ⟨v, ev, hA⟩ := asI hU hT
  obtain ⟨w, ew, w1, w2, w3, w4⟩ := bgC hA.2.1
  unfold f_X11_bestDay
  rw [ev, b1E, ew, b1E, jq3]
  refine mw_4 (P := fun i (z : St) (x y q : Int32) => q = nI i ∧ x = (bst (fun d => nI (wS t set d (aD t d) 8)) i).1 ∧ y = (bst (fun d => nI (wS t set d (aD t d) 8)) i).2 ∧ Kp u z ∧ AL z t (t 2 3) (lev t) ∧ z.1 21 5 = nI i ∧ ∀ b, b < 8 → z.1 22 b = nI (t 6 b) ∧ z.1 23 b = nI (aD t i b)) (Q := fun o => ∃ v, o = some (if p2 = 0 then (bst (fun d => nI (wS t set d (aD t d) 8)) n).1 else (bst (fun d => nI (wS t set d (aD t d) 8)) n).2, v) ∧ Kp u v) n ?_ ?_ (FU_lt (by omega)) ?_
  · rintro i z x y q hi ⟨rfl, rfl, rfl, hk, hAL, h5, hb⟩
    obtain ⟨z2, e1, e2, e3, e4, e5⟩ := pdC hT hAL (mo := 0) (at' := fun b => t 6 b) (A := aD t i) h5 (by omega) (by omega) (fun b hb8 => (hb b hb8).1) (fun b hb8 => ⟨(hb b hb8).2, aD_le⟩) (fun b hb8 hbt => (K_there hT hb8 hbt).1)
    have hk2 : Kp u z2 := fun c hc => by rw [e2 c (by omega) (by omega)]; exact hk c hc
    refine Or.inl ⟨z2, _, _, _, fun rec => ?_, ⟨rfl, rfl, rfl, hk2, AL_tr hAL (fun c hc => e2 c (by omega) (by omega)), e4, fun b hb8 => ⟨by rw [e2 22 (by omega) (by omega)]; exact (hb b hb8).1, by rw [e5 b hb8, aD_nx]⟩⟩⟩
    unfold B_X11_bestDay_22
    rw [if_neg (show ¬ (99 : Int32) < nI i from fun h9 => absurd ((nI_ltI (a := 99) (by decide) (by omega)).mp h9) (by omega)), wsC hAL.1 hT hs h5 (by omega) (fun b hb8 => ⟨(hb b hb8).2, aD_le⟩), b1E, jq2, show (0 : Int32) = nI 0 from rfl]
    by_cases h : nI (wS t set i (aD t i) 8) ≤ (bst (fun d => nI (wS t set d (aD t d) 8)) i).2
    · rw [if_pos h]
      show b1 (f_X1_passDay z (nI 0)) _ = _
      rw [e1, b1E, nI_1]
      simp only [bst, h, if_true]
    · rw [if_neg h]
      show b1 (f_X1_passDay z (nI 0)) _ = _
      rw [e1, b1E, nI_1]
      simp only [bst, h, if_false]
  · rintro z x y q ⟨rfl, rfl, rfl, hk, -⟩ rec
    unfold B_X11_bestDay_22
    rw [if_pos (show (99 : Int32) < nI n by rw [hn]; decide)]
    by_cases h : p2 = 0
    · rw [if_pos h]; exact ⟨z, if_pos h, hk⟩
    · rw [if_neg h]; exact ⟨z, if_neg h, hk⟩
  · refine ⟨rfl, rfl, rfl, fun c hc => ?_, AL_tr (As_AL hT hA) (fun c hc => w1 c (by omega) (by omega) (by omega)), w3, fun b hb => ⟨(w4 b hb).1, ?_⟩⟩
    · rw [w1 c (by omega) (by omega) (by omega)]; exact hA.1 c hc
    · rw [(w4 b hb).2]; unfold aD ac; split <;> rfl
theorem s_opening : Sp_opening Inv := by
  intro N u m p1 p2 hi0
  obtain ⟨t, hU, hM, hT, hP, hI, hd, hr⟩ := id hi0
  unfold f_X11_opening f_X12_opening
  rcases bar_cs hU hM hT p1 with ⟨e1, e2⟩ | ⟨e1, e2, b, hb, rfl, hbt⟩
  · rw [e1, e2, b1E, b1E, if_pos rfl, if_pos rfl]
    exact ⟨_, _, rfl, rfl, hi0⟩
  rw [e1, e2, b1E, b1E, if_neg n10, if_neg n10, w_ev, b1E, in_ev (a := 0) (b := 1) (lo := 0) (hi := 1) rfl rfl, b1E]
  by_cases h : (0 : Int32) ≤ p2 ∧ p2 ≤ 1
  rotate_left
  · rw [if_neg h, if_pos rfl, if_pos rfl]
    exact ⟨_, _, rfl, rfl, hi0⟩
  obtain ⟨n, hn⟩ : ∃ n, n = 100 := ⟨_, rfl⟩
  have h2b : 2 ^ b < 2 ^ 30 := Nat.pow_lt_pow_right (by decide) (by omega)
  obtain ⟨v, ev, hk⟩ := bdC (p2 := p2) hU hT h2b hn
  have hLM := LM_is hM hT hd hr
  have hW : ∀ d, wS t (2 ^ b) d (aD t d) 8 = wo t b d (ac t (t 2 3) (lev t) (t 6 b) (t 8 b) d) := by
    intro d
    unfold wS
    rw [sm_congr (g := fun i => if i = b then wo t i d (aD t d i) else 0) (fun i hi => ?_), sm_one (f := fun i => wo t i d (aD t d i)) hb]
    · unfold aD; rw [if_pos (show t 5 4 / 2 ^ b % 2 = 1 from hbt)]
    · have := pw_bit b hb i hi
      by_cases h9 : i = b
      · subst h9; rw [if_pos ⟨hbt, this.mpr rfl⟩, if_pos rfl]
      · rw [if_neg (fun h8 => h9 (this.mp h8.2)), if_neg h9]
  rw [if_pos h, if_neg n10, if_neg n10, shlN (by omega), ev, b2E, jq2]
  refine ⟨_, _, rfl, ?_, Inv_keep hi0 hk Km_rf⟩
  refine mr_3 (fun i => (bst (fun d => nI (wS t (2 ^ b) d (aD t d) 8)) i).1) (fun i => (bst (fun d => nI (wS t (2 ^ b) d (aD t d) 8)) i).2) nI n ?_ ?_ (FU_lt (by omega)) rfl rfl rfl
  · intro i hi rec
    unfold B_X12_opening_31
    rw [if_neg (nle_l (l := 100) 100 rfl (by omega) (by decide)), voM hM hT hLM hb (by omega), ← hW, b1E, jq1, nI_1]
    by_cases h : nI (wS t (2 ^ b) i (aD t i) 8) ≤ (bst (fun d => nI (wS t (2 ^ b) d (aD t d) 8)) i).2
    · rw [if_pos h]
      refine (if_pos h).trans ?_
      simp only [bst, h, if_true]
    · rw [if_neg h]
      refine (if_neg h).trans ?_
      simp only [bst, h, if_false]
  · intro rec
    unfold B_X12_opening_31
    rw [if_pos (show (100 : Int32) ≤ nI n by rw [hn]; decide)]
    split <;> rfl
theorem s_banquet : Sp_banquet Inv := by
  intro N u m p2 hi0
  obtain ⟨t, hU, hM, hT, hP, hI, hd, hr⟩ := id hi0
  have h54 := K_the hT
  unfold f_X11_banquet f_X12_banquet
  rw [w_ev, b1E, in_ev (a := 0) (b := 1) (lo := 0) (hi := 1) rfl rfl, b1E]
  by_cases h : (0 : Int32) ≤ p2 ∧ p2 ≤ 1
  rotate_left
  · rw [if_neg h, if_pos rfl, if_pos rfl]
    exact ⟨_, _, rfl, rfl, hi0⟩
  obtain ⟨n, hn⟩ : ∃ n, n = 100 := ⟨_, rfl⟩
  obtain ⟨v, ev, hk⟩ := bdC (p2 := p2) hU hT (set := t 5 4) (by omega) hn
  have hLM := LM_is hM hT hd hr
  have hW : ∀ d, d < 100 → f_X12_valueOfAll m (nI d) = some (nI (wS t (t 5 4) d (aD t d) 8)) := by
    intro d hd1
    unfold f_X12_valueOfAll
    rw [jq1]
    refine mr_2 (fun i => nI (wS t (t 5 4) d (aD t d) i)) nI 8 ?_ ?_ (FU_lt (by decide)) rfl rfl
    · intro i hi rec
      unfold B_X12_valueOfAll_4
      rw [if_neg (nle_l (l := 8) 8 rfl hi (by decide)), nI_1, show nI (wS t (t 5 4) d (aD t d) i) + (0 : Int32) = nI (wS t (t 5 4) d (aD t d) i) from nI_add _ 0]
      show _ = rec (nI (wS t (t 5 4) d (aD t d) i + (if t 5 4 / 2 ^ i % 2 = 1 ∧ t 5 4 / 2 ^ i % 2 = 1 then wo t i d (aD t d i) else 0))) _
      by_cases hbt : bt t i
      · have h2 : t 5 4 / 2 ^ i % 2 = 1 := hbt
        rw [ibY hM hT hi hbt, b1E, if_neg n10, voM hM hT hLM hi hd1, b1E, nI_add, if_pos ⟨h2, h2⟩]
        unfold aD
        rw [if_pos h2]
      · rw [ibF hM hT hi hbt, b1E, if_pos rfl, if_neg (fun h9 => hbt h9.1)]; rfl
    · intro rec
      unfold B_X12_valueOfAll_4
      rw [if_pos (show (8 : Int32) ≤ nI 8 by decide)]
  rw [if_pos h, if_neg n10, if_neg n10, U_the hU, ev, b2E, jq2]
  refine ⟨_, _, rfl, ?_, Inv_keep hi0 hk Km_rf⟩
  refine mr_3 (fun i => (bst (fun d => nI (wS t (t 5 4) d (aD t d) 8)) i).1) (fun i => (bst (fun d => nI (wS t (t 5 4) d (aD t d) 8)) i).2) nI n ?_ ?_ (FU_lt (by omega)) rfl rfl rfl
  · intro i hi rec
    unfold B_X12_banquet_20
    rw [if_neg (nle_l (l := 100) 100 rfl (by omega) (by decide)), hW i (by omega), b1E, jq1, nI_1]
    by_cases h : nI (wS t (t 5 4) i (aD t i) 8) ≤ (bst (fun d => nI (wS t (t 5 4) d (aD t d) 8)) i).2
    · rw [if_pos h]
      refine (if_pos h).trans ?_
      simp only [bst, h, if_true]
    · rw [if_neg h]
      refine (if_neg h).trans ?_
      simp only [bst, h, if_false]
  · intro rec
    unfold B_X12_banquet_20
    rw [if_pos (show (100 : Int32) ≤ nI n by rw [hn]; decide)]
    split <;> rfl
