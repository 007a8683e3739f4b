/-! ===== table, period ===== -/
theorem m6lt : (-nI 6 < nI 0) = True := by decide
theorem nn1 {q : Nat} (h : q < 2 ^ 31) : (nI q = -nI 1) = False := eq_false (fun e => nge h (by rw [e]; decide))
theorem nn6 {q : Nat} (h : q < 2 ^ 31) : (nI q = -nI 6) = False := eq_false (fun e => nge h (by rw [e]; decide))
theorem nn1s {q : Nat} (h : q < 2 ^ 31) : (-nI 1 = nI q) = False := eq_false (fun e => nge h (by rw [← e]; decide))
theorem nn6s {q : Nat} (h : q < 2 ^ 31) : (-nI 6 = nI q) = False := eq_false (fun e => nge h (by rw [← e]; decide))
def tdg (t : Nat → Nat → Nat) (i k : Nat) : Nat := if k < i then t 19 k - 48 else t 11 k
theorem tdg_s {t : Nat → Nat → Nat} {i : Nat} : tdg t (i + 1) i = t 19 i - 48 := if_pos (by omega)
theorem tdg_o {t : Nat → Nat → Nat} {i k : Nat} (h : k ≠ i) : tdg t (i + 1) k = tdg t i k := by unfold tdg; by_cases h9 : k < i; rw [if_pos h9, if_pos (by omega)]; rw [if_neg h9, if_neg (by omega)]
section TB
variable {u m : St} {t : Nat → Nat → Nat}
theorem rdC (hU : UT u t 0) (hP : PD u m t) (h30 : t 18 1 ≤ 30) (hg : ∀ j, j < t 18 1 → 48 ≤ t 19 j ∧ t 19 j ≤ 57) : ∃ v, f_X8_readFrom u = some v ∧ (∀ c, c ≠ 10 → c ≠ 11 → v.1 c = u.1 c) ∧ v.1 10 1 = nI (t 18 1) ∧ ∀ k, k < 30 → v.1 11 k = nI (tdg t (t 18 1) k) := by
  unfold f_X8_readFrom
  simp (disch := omega) only [hP.1, mn_n, Nat.min_eq_left, b1E, b2E, bsE, jq0, jq1, jq2, jq3, w_ev, in_ev2, nI_leI, nI_ltI, nI_eq, nI_add, ↓pk_rem, pk_div, pk_sub, pk_mul, ckiT, ckT, ixN, if_pos, if_neg, ↓reduceIte, ckTr, true_or, or_true, false_or, or_false, sI_o, sI_s, pk_un, pk_us, il_0, il_1, il_2, il_3, il_4, il_5, il_6, il_7, il_8, il_9, il_10, il_12, il_16, il_20, il_29, il_30, il_31, il_32, il_33, il_39, il_40, il_43, il_46, il_48, il_50, il_54, il_55, il_57, il_60, il_63, il_64, il_74, il_75, il_97, il_99, il_100, il_126, il_150, il_255, il_256, il_899, il_999, il_9999, il_65537, il_1000000, il_2147483647, nn1, nn6, m6lt, nn1s, nn6s]
  refine mw_2 (P := fun i (v : St) (y : Int32) => y = nI i ∧ (∀ c, c ≠ 10 → c ≠ 11 → v.1 c = u.1 c) ∧ v.1 10 1 = nI (t 18 1) ∧ ∀ k, k < 30 → v.1 11 k = nI (tdg t i k)) (Q := fun o => ∃ v : St, o = some v ∧ (∀ c, c ≠ 10 → c ≠ 11 → v.1 c = u.1 c) ∧ v.1 10 1 = nI (t 18 1) ∧ ∀ k, k < 30 → v.1 11 k = nI (tdg t (t 18 1) k)) (t 18 1) ?_ ?_ (FU_lt (by omega)) ?_
  · rintro i v y hi ⟨rfl, h1, h2, h3⟩
    have h4 := hg i hi
    have h19 : v.1 19 i = nI (t 19 i) := by rw [h1 19 (by omega) (by omega)]; exact hP.2.1 i (by omega)
    refine Or.inl ⟨_, _, fun rec => by unfold B_X8_readFrom_15; simp (disch := omega) only [h2, h19, b1E, b2E, bsE, jq0, jq1, jq2, jq3, w_ev, in_ev2, nI_leI, nI_ltI, nI_eq, nI_add, ↓pk_rem, pk_div, pk_sub, pk_mul, ckiT, ckT, ixN, if_pos, if_neg, ↓reduceIte, ckTr, true_or, or_true, false_or, or_false, sI_o, sI_s, pk_un, pk_us, il_0, il_1, il_2, il_3, il_4, il_5, il_6, il_7, il_8, il_9, il_10, il_12, il_16, il_20, il_29, il_30, il_31, il_32, il_33, il_39, il_40, il_43, il_46, il_48, il_50, il_54, il_55, il_57, il_60, il_63, il_64, il_74, il_75, il_97, il_99, il_100, il_126, il_150, il_255, il_256, il_899, il_999, il_9999, il_65537, il_1000000, il_2147483647, nn1, nn6, m6lt, nn1s, nn6s]; rfl, ⟨rfl, ?_, ?_, ?_⟩⟩
    · intro c c1 c2; simp (disch := omega) only [h1 c c1 c2, b1E, b2E, bsE, jq0, jq1, jq2, jq3, w_ev, in_ev2, nI_leI, nI_ltI, nI_eq, nI_add, ↓pk_rem, pk_div, pk_sub, pk_mul, ckiT, ckT, ixN, if_pos, if_neg, ↓reduceIte, ckTr, true_or, or_true, false_or, or_false, sI_o, sI_s, pk_un, pk_us, il_0, il_1, il_2, il_3, il_4, il_5, il_6, il_7, il_8, il_9, il_10, il_12, il_16, il_20, il_29, il_30, il_31, il_32, il_33, il_39, il_40, il_43, il_46, il_48, il_50, il_54, il_55, il_57, il_60, il_63, il_64, il_74, il_75, il_97, il_99, il_100, il_126, il_150, il_255, il_256, il_899, il_999, il_9999, il_65537, il_1000000, il_2147483647, nn1, nn6, m6lt, nn1s, nn6s]
    · simp (disch := omega) only [h2, b1E, b2E, bsE, jq0, jq1, jq2, jq3, w_ev, in_ev2, nI_leI, nI_ltI, nI_eq, nI_add, ↓pk_rem, pk_div, pk_sub, pk_mul, ckiT, ckT, ixN, if_pos, if_neg, ↓reduceIte, ckTr, true_or, or_true, false_or, or_false, sI_o, sI_s, pk_un, pk_us, il_0, il_1, il_2, il_3, il_4, il_5, il_6, il_7, il_8, il_9, il_10, il_12, il_16, il_20, il_29, il_30, il_31, il_32, il_33, il_39, il_40, il_43, il_46, il_48, il_50, il_54, il_55, il_57, il_60, il_63, il_64, il_74, il_75, il_97, il_99, il_100, il_126, il_150, il_255, il_256, il_899, il_999, il_9999, il_65537, il_1000000, il_2147483647, nn1, nn6, m6lt, nn1s, nn6s]
    · intro k hk
      by_cases h9 : k = i
      · subst h9; simp (disch := omega) only [tdg_s, b1E, b2E, bsE, jq0, jq1, jq2, jq3, w_ev, in_ev2, nI_leI, nI_ltI, nI_eq, nI_add, ↓pk_rem, pk_div, pk_sub, pk_mul, ckiT, ckT, ixN, if_pos, if_neg, ↓reduceIte, ckTr, true_or, or_true, false_or, or_false, sI_o, sI_s, pk_un, pk_us, il_0, il_1, il_2, il_3, il_4, il_5, il_6, il_7, il_8, il_9, il_10, il_12, il_16, il_20, il_29, il_30, il_31, il_32, il_33, il_39, il_40, il_43, il_46, il_48, il_50, il_54, il_55, il_57, il_60, il_63, il_64, il_74, il_75, il_97, il_99, il_100, il_126, il_150, il_255, il_256, il_899, il_999, il_9999, il_65537, il_1000000, il_2147483647, nn1, nn6, m6lt, nn1s, nn6s]
      · simp (disch := omega) only [h3 k hk, tdg_o h9, b1E, b2E, bsE, jq0, jq1, jq2, jq3, w_ev, in_ev2, nI_leI, nI_ltI, nI_eq, nI_add, ↓pk_rem, pk_div, pk_sub, pk_mul, ckiT, ckT, ixN, if_pos, if_neg, ↓reduceIte, ckTr, true_or, or_true, false_or, or_false, sI_o, sI_s, pk_un, pk_us, il_0, il_1, il_2, il_3, il_4, il_5, il_6, il_7, il_8, il_9, il_10, il_12, il_16, il_20, il_29, il_30, il_31, il_32, il_33, il_39, il_40, il_43, il_46, il_48, il_50, il_54, il_55, il_57, il_60, il_63, il_64, il_74, il_75, il_97, il_99, il_100, il_126, il_150, il_255, il_256, il_899, il_999, il_9999, il_65537, il_1000000, il_2147483647, nn1, nn6, m6lt, nn1s, nn6s]
  · rintro v y ⟨rfl, h⟩ rec
    unfold B_X8_readFrom_15
    simp (disch := omega) only [h.2.1, b1E, b2E, bsE, jq0, jq1, jq2, jq3, w_ev, in_ev2, nI_leI, nI_ltI, nI_eq, nI_add, ↓pk_rem, pk_div, pk_sub, pk_mul, ckiT, ckT, ixN, if_pos, if_neg, ↓reduceIte, ckTr, true_or, or_true, false_or, or_false, sI_o, sI_s, pk_un, pk_us, il_0, il_1, il_2, il_3, il_4, il_5, il_6, il_7, il_8, il_9, il_10, il_12, il_16, il_20, il_29, il_30, il_31, il_32, il_33, il_39, il_40, il_43, il_46, il_48, il_50, il_54, il_55, il_57, il_60, il_63, il_64, il_74, il_75, il_97, il_99, il_100, il_126, il_150, il_255, il_256, il_899, il_999, il_9999, il_65537, il_1000000, il_2147483647, nn1, nn6, m6lt, nn1s, nn6s]
    exact ⟨v, rfl, h⟩
  · refine ⟨rfl, fun c c2 _ => ?_, ?_, fun k hk => ?_⟩
    · simp (disch := omega) only [b1E, b2E, bsE, jq0, jq1, jq2, jq3, w_ev, in_ev2, nI_leI, nI_ltI, nI_eq, nI_add, ↓pk_rem, pk_div, pk_sub, pk_mul, ckiT, ckT, ixN, if_pos, if_neg, ↓reduceIte, ckTr, true_or, or_true, false_or, or_false, sI_o, sI_s, pk_un, pk_us, il_0, il_1, il_2, il_3, il_4, il_5, il_6, il_7, il_8, il_9, il_10, il_12, il_16, il_20, il_29, il_30, il_31, il_32, il_33, il_39, il_40, il_43, il_46, il_48, il_50, il_54, il_55, il_57, il_60, il_63, il_64, il_74, il_75, il_97, il_99, il_100, il_126, il_150, il_255, il_256, il_899, il_999, il_9999, il_65537, il_1000000, il_2147483647, nn1, nn6, m6lt, nn1s, nn6s]
    · simp (disch := omega) only [b1E, b2E, bsE, jq0, jq1, jq2, jq3, w_ev, in_ev2, nI_leI, nI_ltI, nI_eq, nI_add, ↓pk_rem, pk_div, pk_sub, pk_mul, ckiT, ckT, ixN, if_pos, if_neg, ↓reduceIte, ckTr, true_or, or_true, false_or, or_false, sI_o, sI_s, pk_un, pk_us, il_0, il_1, il_2, il_3, il_4, il_5, il_6, il_7, il_8, il_9, il_10, il_12, il_16, il_20, il_29, il_30, il_31, il_32, il_33, il_39, il_40, il_43, il_46, il_48, il_50, il_54, il_55, il_57, il_60, il_63, il_64, il_74, il_75, il_97, il_99, il_100, il_126, il_150, il_255, il_256, il_899, il_999, il_9999, il_65537, il_1000000, il_2147483647, nn1, nn6, m6lt, nn1s, nn6s]
    · simp (disch := omega) only [U_dig hU, b1E, b2E, bsE, jq0, jq1, jq2, jq3, w_ev, in_ev2, nI_leI, nI_ltI, nI_eq, nI_add, ↓pk_rem, pk_div, pk_sub, pk_mul, ckiT, ckT, ixN, if_pos, if_neg, ↓reduceIte, ckTr, true_or, or_true, false_or, or_false, sI_o, sI_s, pk_un, pk_us, il_0, il_1, il_2, il_3, il_4, il_5, il_6, il_7, il_8, il_9, il_10, il_12, il_16, il_20, il_29, il_30, il_31, il_32, il_33, il_39, il_40, il_43, il_46, il_48, il_50, il_54, il_55, il_57, il_60, il_63, il_64, il_74, il_75, il_97, il_99, il_100, il_126, il_150, il_255, il_256, il_899, il_999, il_9999, il_65537, il_1000000, il_2147483647, nn1, nn6, m6lt, nn1s, nn6s]; unfold tdg; rw [if_neg (by omega)]
theorem rdM (hM : MT m t) (hP : PD u m t) (h30 : t 18 1 ≤ 30) (hg : ∀ j, j < t 18 1 → 48 ≤ t 19 j ∧ t 19 j ≤ 57) (K : St → Option (Int32 × St)) : ∃ v, lq_2 (B_X12_table_12 K) FU m 0 = K v ∧ (∀ c, c ≠ 7 → v.1 c = m.1 c) ∧ v.2 = m.2 ∧ ∀ k, k < 30 → v.1 7 k = nI (tdg t (t 18 1) k) := by
  refine mw_2 (P := fun i (v : St) (y : Int32) => y = nI i ∧ (∀ c, c ≠ 7 → v.1 c = m.1 c) ∧ v.2 = m.2 ∧ ∀ k, k < 30 → v.1 7 k = nI (tdg t i k)) (Q := fun o => ∃ v : St, o = K v ∧ (∀ c, c ≠ 7 → v.1 c = m.1 c) ∧ v.2 = m.2 ∧ ∀ k, k < 30 → v.1 7 k = nI (tdg t (t 18 1) k)) (t 18 1) ?_ ?_ (FU_lt (by omega)) ?_
  · rintro i v y hi ⟨rfl, h1, h2, h3⟩
    have h4 := hg i hi
    have h12 : v.1 12 i = nI (t 19 i) := by rw [h1 12 (by omega)]; exact hP.2.2.2.1 i (by omega)
    have h0 : v.1 0 20 = nI (t 18 1) := by rw [h1 0 (by omega)]; exact hP.2.2.1
    refine Or.inl ⟨_, _, fun rec => by unfold B_X12_table_12; simp (disch := omega) only [h0, h12, b1E, b2E, bsE, jq0, jq1, jq2, jq3, w_ev, in_ev2, nI_leI, nI_ltI, nI_eq, nI_add, ↓pk_rem, pk_div, pk_sub, pk_mul, ckiT, ckT, ixN, if_pos, if_neg, ↓reduceIte, ckTr, true_or, or_true, false_or, or_false, sI_o, sI_s, pk_un, pk_us, il_0, il_1, il_2, il_3, il_4, il_5, il_6, il_7, il_8, il_9, il_10, il_12, il_16, il_20, il_29, il_30, il_31, il_32, il_33, il_39, il_40, il_43, il_46, il_48, il_50, il_54, il_55, il_57, il_60, il_63, il_64, il_74, il_75, il_97, il_99, il_100, il_126, il_150, il_255, il_256, il_899, il_999, il_9999, il_65537, il_1000000, il_2147483647, nn1, nn6, m6lt, nn1s, nn6s]; rfl, ⟨rfl, ?_, ?_, ?_⟩⟩
    · intro c c1; simp (disch := omega) only [h1 c c1, b1E, b2E, bsE, jq0, jq1, jq2, jq3, w_ev, in_ev2, nI_leI, nI_ltI, nI_eq, nI_add, ↓pk_rem, pk_div, pk_sub, pk_mul, ckiT, ckT, ixN, if_pos, if_neg, ↓reduceIte, ckTr, true_or, or_true, false_or, or_false, sI_o, sI_s, pk_un, pk_us, il_0, il_1, il_2, il_3, il_4, il_5, il_6, il_7, il_8, il_9, il_10, il_12, il_16, il_20, il_29, il_30, il_31, il_32, il_33, il_39, il_40, il_43, il_46, il_48, il_50, il_54, il_55, il_57, il_60, il_63, il_64, il_74, il_75, il_97, il_99, il_100, il_126, il_150, il_255, il_256, il_899, il_999, il_9999, il_65537, il_1000000, il_2147483647, nn1, nn6, m6lt, nn1s, nn6s]
    · exact h2
    · intro k hk
      by_cases h9 : k = i
      · subst h9; simp (disch := omega) only [tdg_s, b1E, b2E, bsE, jq0, jq1, jq2, jq3, w_ev, in_ev2, nI_leI, nI_ltI, nI_eq, nI_add, ↓pk_rem, pk_div, pk_sub, pk_mul, ckiT, ckT, ixN, if_pos, if_neg, ↓reduceIte, ckTr, true_or, or_true, false_or, or_false, sI_o, sI_s, pk_un, pk_us, il_0, il_1, il_2, il_3, il_4, il_5, il_6, il_7, il_8, il_9, il_10, il_12, il_16, il_20, il_29, il_30, il_31, il_32, il_33, il_39, il_40, il_43, il_46, il_48, il_50, il_54, il_55, il_57, il_60, il_63, il_64, il_74, il_75, il_97, il_99, il_100, il_126, il_150, il_255, il_256, il_899, il_999, il_9999, il_65537, il_1000000, il_2147483647, nn1, nn6, m6lt, nn1s, nn6s]
      · simp (disch := omega) only [h3 k hk, tdg_o h9, b1E, b2E, bsE, jq0, jq1, jq2, jq3, w_ev, in_ev2, nI_leI, nI_ltI, nI_eq, nI_add, ↓pk_rem, pk_div, pk_sub, pk_mul, ckiT, ckT, ixN, if_pos, if_neg, ↓reduceIte, ckTr, true_or, or_true, false_or, or_false, sI_o, sI_s, pk_un, pk_us, il_0, il_1, il_2, il_3, il_4, il_5, il_6, il_7, il_8, il_9, il_10, il_12, il_16, il_20, il_29, il_30, il_31, il_32, il_33, il_39, il_40, il_43, il_46, il_48, il_50, il_54, il_55, il_57, il_60, il_63, il_64, il_74, il_75, il_97, il_99, il_100, il_126, il_150, il_255, il_256, il_899, il_999, il_9999, il_65537, il_1000000, il_2147483647, nn1, nn6, m6lt, nn1s, nn6s]
  · rintro v y ⟨rfl, h⟩ rec
    have h0 : v.1 0 20 = nI (t 18 1) := by rw [h.1 0 (by omega)]; exact hP.2.2.1
    unfold B_X12_table_12
    simp (disch := omega) only [h0, b1E, b2E, bsE, jq0, jq1, jq2, jq3, w_ev, in_ev2, nI_leI, nI_ltI, nI_eq, nI_add, ↓pk_rem, pk_div, pk_sub, pk_mul, ckiT, ckT, ixN, if_pos, if_neg, ↓reduceIte, ckTr, true_or, or_true, false_or, or_false, sI_o, sI_s, pk_un, pk_us, il_0, il_1, il_2, il_3, il_4, il_5, il_6, il_7, il_8, il_9, il_10, il_12, il_16, il_20, il_29, il_30, il_31, il_32, il_33, il_39, il_40, il_43, il_46, il_48, il_50, il_54, il_55, il_57, il_60, il_63, il_64, il_74, il_75, il_97, il_99, il_100, il_126, il_150, il_255, il_256, il_899, il_999, il_9999, il_65537, il_1000000, il_2147483647, nn1, nn6, m6lt, nn1s, nn6s]
    exact ⟨v, rfl, h⟩
  · refine ⟨rfl, fun c c2 => rfl, rfl, fun k hk => ?_⟩
    rw [M_dig hM hk]; unfold tdg; rw [if_neg (by omega)]
def ttab (t : Nat → Nat → Nat) : Nat → Nat → Nat := fun c k => if c = 10 ∧ k = 1 then t 18 1 else if c = 11 then tdg t (t 18 1) k else if c = 18 ∧ k = 1 then 0 else t c k
theorem ttab_o {c : Nat} (h : c ≠ 10 ∧ c ≠ 11 ∧ c ≠ 18) : ttab t c = t c := by funext k; unfold ttab; simp [h]
end TB
theorem s_table : Sp_table Inv := by
  intro N u m hi0
  obtain ⟨t, hU, hM, hT, hP, hI, hd, hr⟩ := id hi0
  have h60 := hP.2.2.2.2.1
  have hfl := fs_le (p := ftP t) (n := t 18 1)
  unfold f_X11_table f_X12_table
  rw [ftC hP, ftM hP, b1E, b1E]
  by_cases hf : fs (ftP t) (t 18 1) < t 18 1
  · unfold ftV; rw [if_pos hf]; simp (disch := omega) only [b1E, b2E, bsE, jq0, jq1, jq2, jq3, w_ev, in_ev2, nI_leI, nI_ltI, nI_eq, nI_add, ↓pk_rem, pk_div, pk_sub, pk_mul, ckiT, ckT, ixN, if_pos, if_neg, ↓reduceIte, ckTr, true_or, or_true, false_or, or_false, sI_o, sI_s, pk_un, pk_us, il_0, il_1, il_2, il_3, il_4, il_5, il_6, il_7, il_8, il_9, il_10, il_12, il_16, il_20, il_29, il_30, il_31, il_32, il_33, il_39, il_40, il_43, il_46, il_48, il_50, il_54, il_55, il_57, il_60, il_63, il_64, il_74, il_75, il_97, il_99, il_100, il_126, il_150, il_255, il_256, il_899, il_999, il_9999, il_65537, il_1000000, il_2147483647, nn1, nn6, m6lt, nn1s, nn6s]; exact ⟨_, _, _, rfl, rfl, hi0⟩
  by_cases h0 : t 18 1 = 0
  · unfold ftV; rw [if_neg hf, if_pos h0]; simp (disch := omega) only [b1E, b2E, bsE, jq0, jq1, jq2, jq3, w_ev, in_ev2, nI_leI, nI_ltI, nI_eq, nI_add, ↓pk_rem, pk_div, pk_sub, pk_mul, ckiT, ckT, ixN, if_pos, if_neg, ↓reduceIte, ckTr, true_or, or_true, false_or, or_false, sI_o, sI_s, pk_un, pk_us, il_0, il_1, il_2, il_3, il_4, il_5, il_6, il_7, il_8, il_9, il_10, il_12, il_16, il_20, il_29, il_30, il_31, il_32, il_33, il_39, il_40, il_43, il_46, il_48, il_50, il_54, il_55, il_57, il_60, il_63, il_64, il_74, il_75, il_97, il_99, il_100, il_126, il_150, il_255, il_256, il_899, il_999, il_9999, il_65537, il_1000000, il_2147483647, nn1, nn6, m6lt, nn1s, nn6s]; exact ⟨_, _, _, rfl, rfl, hi0⟩
  have hall : ∀ j, j < t 18 1 → ftP t j = false := fun j hj => fs_all (n := t 18 1) j (by omega)
  have h30 : t 18 1 ≤ 30 := by
    rcases Nat.lt_or_ge 30 (t 18 1) with h | h
    · have := hall 30 h; simp [ftP] at this
    · exact h
  have hg : ∀ j, j < t 18 1 → 48 ≤ t 19 j ∧ t 19 j ≤ 57 := by
    intro j hj
    have := hall j hj
    simp only [ftP, Bool.or_eq_false_iff, decide_eq_false_iff_not, Bool.not_eq_false', decide_eq_true_eq] at this
    exact this.2
  have e6 : ftV t = -nI 6 := by unfold ftV; rw [if_neg hf, if_neg h0]
  obtain ⟨v, e1, f1, f2, f3⟩ := rdC hU hP h30 hg
  rw [e6, if_pos (show -nI 6 = (-6 : Int32) from rfl), if_pos (show -nI 6 < (0 : Int32) by decide), e1]
  obtain ⟨w, g1, g2, g3, g4⟩ := rdM hM hP h30 hg (fun u6 : St => bs (sI u6 0 10 (u6.1 0 20)) (fun u7 : St => bs (sI u7 0 20 0) (fun u8 : St => some (u8.1 0 10, u8))))
  have g0 : w.1 0 20 = nI (t 18 1) := by rw [g2 0 (by omega)]; exact hP.2.2.1
  rw [jq1, g1]
  simp (disch := omega) only [f2, g0, b1E, b2E, bsE, jq0, jq1, jq2, jq3, w_ev, in_ev2, nI_leI, nI_ltI, nI_eq, nI_add, ↓pk_rem, pk_div, pk_sub, pk_mul, ckiT, ckT, ixN, if_pos, if_neg, ↓reduceIte, ckTr, true_or, or_true, false_or, or_false, sI_o, sI_s, pk_un, pk_us, il_0, il_1, il_2, il_3, il_4, il_5, il_6, il_7, il_8, il_9, il_10, il_12, il_16, il_20, il_29, il_30, il_31, il_32, il_33, il_39, il_40, il_43, il_46, il_48, il_50, il_54, il_55, il_57, il_60, il_63, il_64, il_74, il_75, il_97, il_99, il_100, il_126, il_150, il_255, il_256, il_899, il_999, il_9999, il_65537, il_1000000, il_2147483647, nn1, nn6, m6lt, nn1s, nn6s]
  refine ⟨_, _, _, rfl, rfl, ttab t, ?_, ?_, ?_, ?_, IM_keep hI ?_ ?_ ?_ ?_, ?_, ?_⟩
  · intro c k hD
    unfold TD at hD
    rw [Nat.zero_add, sI_o (by omega)]
    by_cases h11 : c = 11
    · subst h11; rw [f3 k (by omega)]; rfl
    by_cases h10 : c = 10
    · subst h10
      have : k = 1 := by omega
      subst this; rw [f2]; rfl
    · rw [f1 c h10 h11, ttab_o (by omega)]; exact U_at hU c k hD
  · refine ⟨?_, ?_, ?_, ?_, ?_, ?_, ?_, ?_, ?_, ?_, ?_, ?_, ?_, ?_, ?_, ?_, ?_, ?_, ?_⟩
    · simp (disch := omega) only [ttab_o, g2 0, M_cnt hM, b1E, b2E, bsE, jq0, jq1, jq2, jq3, w_ev, in_ev2, nI_leI, nI_ltI, nI_eq, nI_add, ↓pk_rem, pk_div, pk_sub, pk_mul, ckiT, ckT, ixN, if_pos, if_neg, ↓reduceIte, ckTr, true_or, or_true, false_or, or_false, sI_o, sI_s, pk_un, pk_us, il_0, il_1, il_2, il_3, il_4, il_5, il_6, il_7, il_8, il_9, il_10, il_12, il_16, il_20, il_29, il_30, il_31, il_32, il_33, il_39, il_40, il_43, il_46, il_48, il_50, il_54, il_55, il_57, il_60, il_63, il_64, il_74, il_75, il_97, il_99, il_100, il_126, il_150, il_255, il_256, il_899, il_999, il_9999, il_65537, il_1000000, il_2147483647, nn1, nn6, m6lt, nn1s, nn6s]
    · simp (disch := omega) only [ttab_o, g2 0, M_wal hM, b1E, b2E, bsE, jq0, jq1, jq2, jq3, w_ev, in_ev2, nI_leI, nI_ltI, nI_eq, nI_add, ↓pk_rem, pk_div, pk_sub, pk_mul, ckiT, ckT, ixN, if_pos, if_neg, ↓reduceIte, ckTr, true_or, or_true, false_or, or_false, sI_o, sI_s, pk_un, pk_us, il_0, il_1, il_2, il_3, il_4, il_5, il_6, il_7, il_8, il_9, il_10, il_12, il_16, il_20, il_29, il_30, il_31, il_32, il_33, il_39, il_40, il_43, il_46, il_48, il_50, il_54, il_55, il_57, il_60, il_63, il_64, il_74, il_75, il_97, il_99, il_100, il_126, il_150, il_255, il_256, il_899, il_999, il_9999, il_65537, il_1000000, il_2147483647, nn1, nn6, m6lt, nn1s, nn6s]
    · intro k hk; simp (disch := omega) only [ttab_o, g2 1, M_dep hM hk, b1E, b2E, bsE, jq0, jq1, jq2, jq3, w_ev, in_ev2, nI_leI, nI_ltI, nI_eq, nI_add, ↓pk_rem, pk_div, pk_sub, pk_mul, ckiT, ckT, ixN, if_pos, if_neg, ↓reduceIte, ckTr, true_or, or_true, false_or, or_false, sI_o, sI_s, pk_un, pk_us, il_0, il_1, il_2, il_3, il_4, il_5, il_6, il_7, il_8, il_9, il_10, il_12, il_16, il_20, il_29, il_30, il_31, il_32, il_33, il_39, il_40, il_43, il_46, il_48, il_50, il_54, il_55, il_57, il_60, il_63, il_64, il_74, il_75, il_97, il_99, il_100, il_126, il_150, il_255, il_256, il_899, il_999, il_9999, il_65537, il_1000000, il_2147483647, nn1, nn6, m6lt, nn1s, nn6s]
    · intro k hk; simp (disch := omega) only [ttab_o, g2 2, M_room hM hk, b1E, b2E, bsE, jq0, jq1, jq2, jq3, w_ev, in_ev2, nI_leI, nI_ltI, nI_eq, nI_add, ↓pk_rem, pk_div, pk_sub, pk_mul, ckiT, ckT, ixN, if_pos, if_neg, ↓reduceIte, ckTr, true_or, or_true, false_or, or_false, sI_o, sI_s, pk_un, pk_us, il_0, il_1, il_2, il_3, il_4, il_5, il_6, il_7, il_8, il_9, il_10, il_12, il_16, il_20, il_29, il_30, il_31, il_32, il_33, il_39, il_40, il_43, il_46, il_48, il_50, il_54, il_55, il_57, il_60, il_63, il_64, il_74, il_75, il_97, il_99, il_100, il_126, il_150, il_255, il_256, il_899, il_999, il_9999, il_65537, il_1000000, il_2147483647, nn1, nn6, m6lt, nn1s, nn6s]
    · simp (disch := omega) only [ttab_o, g2 0, M_the hM, b1E, b2E, bsE, jq0, jq1, jq2, jq3, w_ev, in_ev2, nI_leI, nI_ltI, nI_eq, nI_add, ↓pk_rem, pk_div, pk_sub, pk_mul, ckiT, ckT, ixN, if_pos, if_neg, ↓reduceIte, ckTr, true_or, or_true, false_or, or_false, sI_o, sI_s, pk_un, pk_us, il_0, il_1, il_2, il_3, il_4, il_5, il_6, il_7, il_8, il_9, il_10, il_12, il_16, il_20, il_29, il_30, il_31, il_32, il_33, il_39, il_40, il_43, il_46, il_48, il_50, il_54, il_55, il_57, il_60, il_63, il_64, il_74, il_75, il_97, il_99, il_100, il_126, il_150, il_255, il_256, il_899, il_999, il_9999, il_65537, il_1000000, il_2147483647, nn1, nn6, m6lt, nn1s, nn6s]
    · intro k hk; simp (disch := omega) only [ttab_o, g2 3, M_lie hM hk, b1E, b2E, bsE, jq0, jq1, jq2, jq3, w_ev, in_ev2, nI_leI, nI_ltI, nI_eq, nI_add, ↓pk_rem, pk_div, pk_sub, pk_mul, ckiT, ckT, ixN, if_pos, if_neg, ↓reduceIte, ckTr, true_or, or_true, false_or, or_false, sI_o, sI_s, pk_un, pk_us, il_0, il_1, il_2, il_3, il_4, il_5, il_6, il_7, il_8, il_9, il_10, il_12, il_16, il_20, il_29, il_30, il_31, il_32, il_33, il_39, il_40, il_43, il_46, il_48, il_50, il_54, il_55, il_57, il_60, il_63, il_64, il_74, il_75, il_97, il_99, il_100, il_126, il_150, il_255, il_256, il_899, il_999, il_9999, il_65537, il_1000000, il_2147483647, nn1, nn6, m6lt, nn1s, nn6s]
    · intro k hk; simp (disch := omega) only [ttab_o, g2 4, M_siz hM hk, b1E, b2E, bsE, jq0, jq1, jq2, jq3, w_ev, in_ev2, nI_leI, nI_ltI, nI_eq, nI_add, ↓pk_rem, pk_div, pk_sub, pk_mul, ckiT, ckT, ixN, if_pos, if_neg, ↓reduceIte, ckTr, true_or, or_true, false_or, or_false, sI_o, sI_s, pk_un, pk_us, il_0, il_1, il_2, il_3, il_4, il_5, il_6, il_7, il_8, il_9, il_10, il_12, il_16, il_20, il_29, il_30, il_31, il_32, il_33, il_39, il_40, il_43, il_46, il_48, il_50, il_54, il_55, il_57, il_60, il_63, il_64, il_74, il_75, il_97, il_99, il_100, il_126, il_150, il_255, il_256, il_899, il_999, il_9999, il_65537, il_1000000, il_2147483647, nn1, nn6, m6lt, nn1s, nn6s]
    · intro k hk; simp (disch := omega) only [ttab_o, g2 5, M_cor hM hk, b1E, b2E, bsE, jq0, jq1, jq2, jq3, w_ev, in_ev2, nI_leI, nI_ltI, nI_eq, nI_add, ↓pk_rem, pk_div, pk_sub, pk_mul, ckiT, ckT, ixN, if_pos, if_neg, ↓reduceIte, ckTr, true_or, or_true, false_or, or_false, sI_o, sI_s, pk_un, pk_us, il_0, il_1, il_2, il_3, il_4, il_5, il_6, il_7, il_8, il_9, il_10, il_12, il_16, il_20, il_29, il_30, il_31, il_32, il_33, il_39, il_40, il_43, il_46, il_48, il_50, il_54, il_55, il_57, il_60, il_63, il_64, il_74, il_75, il_97, il_99, il_100, il_126, il_150, il_255, il_256, il_899, il_999, il_9999, il_65537, il_1000000, il_2147483647, nn1, nn6, m6lt, nn1s, nn6s]
    · intro k hk; simp (disch := omega) only [ttab_o, g2 6, M_kin hM hk, b1E, b2E, bsE, jq0, jq1, jq2, jq3, w_ev, in_ev2, nI_leI, nI_ltI, nI_eq, nI_add, ↓pk_rem, pk_div, pk_sub, pk_mul, ckiT, ckT, ixN, if_pos, if_neg, ↓reduceIte, ckTr, true_or, or_true, false_or, or_false, sI_o, sI_s, pk_un, pk_us, il_0, il_1, il_2, il_3, il_4, il_5, il_6, il_7, il_8, il_9, il_10, il_12, il_16, il_20, il_29, il_30, il_31, il_32, il_33, il_39, il_40, il_43, il_46, il_48, il_50, il_54, il_55, il_57, il_60, il_63, il_64, il_74, il_75, il_97, il_99, il_100, il_126, il_150, il_255, il_256, il_899, il_999, il_9999, il_65537, il_1000000, il_2147483647, nn1, nn6, m6lt, nn1s, nn6s]
    · simp (disch := omega) only [b1E, b2E, bsE, jq0, jq1, jq2, jq3, w_ev, in_ev2, nI_leI, nI_ltI, nI_eq, nI_add, ↓pk_rem, pk_div, pk_sub, pk_mul, ckiT, ckT, ixN, if_pos, if_neg, ↓reduceIte, ckTr, true_or, or_true, false_or, or_false, sI_o, sI_s, pk_un, pk_us, il_0, il_1, il_2, il_3, il_4, il_5, il_6, il_7, il_8, il_9, il_10, il_12, il_16, il_20, il_29, il_30, il_31, il_32, il_33, il_39, il_40, il_43, il_46, il_48, il_50, il_54, il_55, il_57, il_60, il_63, il_64, il_74, il_75, il_97, il_99, il_100, il_126, il_150, il_255, il_256, il_899, il_999, il_9999, il_65537, il_1000000, il_2147483647, nn1, nn6, m6lt, nn1s, nn6s]; rfl
    · intro k hk; simp (disch := omega) only [g4 k hk, b1E, b2E, bsE, jq0, jq1, jq2, jq3, w_ev, in_ev2, nI_leI, nI_ltI, nI_eq, nI_add, ↓pk_rem, pk_div, pk_sub, pk_mul, ckiT, ckT, ixN, if_pos, if_neg, ↓reduceIte, ckTr, true_or, or_true, false_or, or_false, sI_o, sI_s, pk_un, pk_us, il_0, il_1, il_2, il_3, il_4, il_5, il_6, il_7, il_8, il_9, il_10, il_12, il_16, il_20, il_29, il_30, il_31, il_32, il_33, il_39, il_40, il_43, il_46, il_48, il_50, il_54, il_55, il_57, il_60, il_63, il_64, il_74, il_75, il_97, il_99, il_100, il_126, il_150, il_255, il_256, il_899, il_999, il_9999, il_65537, il_1000000, il_2147483647, nn1, nn6, m6lt, nn1s, nn6s]; rfl
    · simp (disch := omega) only [ttab_o, g2 0, M_sc hM, b1E, b2E, bsE, jq0, jq1, jq2, jq3, w_ev, in_ev2, nI_leI, nI_ltI, nI_eq, nI_add, ↓pk_rem, pk_div, pk_sub, pk_mul, ckiT, ckT, ixN, if_pos, if_neg, ↓reduceIte, ckTr, true_or, or_true, false_or, or_false, sI_o, sI_s, pk_un, pk_us, il_0, il_1, il_2, il_3, il_4, il_5, il_6, il_7, il_8, il_9, il_10, il_12, il_16, il_20, il_29, il_30, il_31, il_32, il_33, il_39, il_40, il_43, il_46, il_48, il_50, il_54, il_55, il_57, il_60, il_63, il_64, il_74, il_75, il_97, il_99, il_100, il_126, il_150, il_255, il_256, il_899, il_999, il_9999, il_65537, il_1000000, il_2147483647, nn1, nn6, m6lt, nn1s, nn6s]
    · intro k hk; simp (disch := omega) only [ttab_o, g2 9, M_sb hM hk, b1E, b2E, bsE, jq0, jq1, jq2, jq3, w_ev, in_ev2, nI_leI, nI_ltI, nI_eq, nI_add, ↓pk_rem, pk_div, pk_sub, pk_mul, ckiT, ckT, ixN, if_pos, if_neg, ↓reduceIte, ckTr, true_or, or_true, false_or, or_false, sI_o, sI_s, pk_un, pk_us, il_0, il_1, il_2, il_3, il_4, il_5, il_6, il_7, il_8, il_9, il_10, il_12, il_16, il_20, il_29, il_30, il_31, il_32, il_33, il_39, il_40, il_43, il_46, il_48, il_50, il_54, il_55, il_57, il_60, il_63, il_64, il_74, il_75, il_97, il_99, il_100, il_126, il_150, il_255, il_256, il_899, il_999, il_9999, il_65537, il_1000000, il_2147483647, nn1, nn6, m6lt, nn1s, nn6s]
    · intro k hk; simp (disch := omega) only [ttab_o, g2 10, M_sd hM hk, b1E, b2E, bsE, jq0, jq1, jq2, jq3, w_ev, in_ev2, nI_leI, nI_ltI, nI_eq, nI_add, ↓pk_rem, pk_div, pk_sub, pk_mul, ckiT, ckT, ixN, if_pos, if_neg, ↓reduceIte, ckTr, true_or, or_true, false_or, or_false, sI_o, sI_s, pk_un, pk_us, il_0, il_1, il_2, il_3, il_4, il_5, il_6, il_7, il_8, il_9, il_10, il_12, il_16, il_20, il_29, il_30, il_31, il_32, il_33, il_39, il_40, il_43, il_46, il_48, il_50, il_54, il_55, il_57, il_60, il_63, il_64, il_74, il_75, il_97, il_99, il_100, il_126, il_150, il_255, il_256, il_899, il_999, il_9999, il_65537, il_1000000, il_2147483647, nn1, nn6, m6lt, nn1s, nn6s]
    · intro k hk; simp (disch := omega) only [ttab_o, g2 11, M_sa hM hk, b1E, b2E, bsE, jq0, jq1, jq2, jq3, w_ev, in_ev2, nI_leI, nI_ltI, nI_eq, nI_add, ↓pk_rem, pk_div, pk_sub, pk_mul, ckiT, ckT, ixN, if_pos, if_neg, ↓reduceIte, ckTr, true_or, or_true, false_or, or_false, sI_o, sI_s, pk_un, pk_us, il_0, il_1, il_2, il_3, il_4, il_5, il_6, il_7, il_8, il_9, il_10, il_12, il_16, il_20, il_29, il_30, il_31, il_32, il_33, il_39, il_40, il_43, il_46, il_48, il_50, il_54, il_55, il_57, il_60, il_63, il_64, il_74, il_75, il_97, il_99, il_100, il_126, il_150, il_255, il_256, il_899, il_999, il_9999, il_65537, il_1000000, il_2147483647, nn1, nn6, m6lt, nn1s, nn6s]
    · simp (disch := omega) only [ttab_o, g2 0, M_sour hM, b1E, b2E, bsE, jq0, jq1, jq2, jq3, w_ev, in_ev2, nI_leI, nI_ltI, nI_eq, nI_add, ↓pk_rem, pk_div, pk_sub, pk_mul, ckiT, ckT, ixN, if_pos, if_neg, ↓reduceIte, ckTr, true_or, or_true, false_or, or_false, sI_o, sI_s, pk_un, pk_us, il_0, il_1, il_2, il_3, il_4, il_5, il_6, il_7, il_8, il_9, il_10, il_12, il_16, il_20, il_29, il_30, il_31, il_32, il_33, il_39, il_40, il_43, il_46, il_48, il_50, il_54, il_55, il_57, il_60, il_63, il_64, il_74, il_75, il_97, il_99, il_100, il_126, il_150, il_255, il_256, il_899, il_999, il_9999, il_65537, il_1000000, il_2147483647, nn1, nn6, m6lt, nn1s, nn6s]
    · simp (disch := omega) only [ttab_o, g2 0, M_hands hM, b1E, b2E, bsE, jq0, jq1, jq2, jq3, w_ev, in_ev2, nI_leI, nI_ltI, nI_eq, nI_add, ↓pk_rem, pk_div, pk_sub, pk_mul, ckiT, ckT, ixN, if_pos, if_neg, ↓reduceIte, ckTr, true_or, or_true, false_or, or_false, sI_o, sI_s, pk_un, pk_us, il_0, il_1, il_2, il_3, il_4, il_5, il_6, il_7, il_8, il_9, il_10, il_12, il_16, il_20, il_29, il_30, il_31, il_32, il_33, il_39, il_40, il_43, il_46, il_48, il_50, il_54, il_55, il_57, il_60, il_63, il_64, il_74, il_75, il_97, il_99, il_100, il_126, il_150, il_255, il_256, il_899, il_999, il_9999, il_65537, il_1000000, il_2147483647, nn1, nn6, m6lt, nn1s, nn6s]
    · simp (disch := omega) only [ttab_o, g2 0, M_ph hM, b1E, b2E, bsE, jq0, jq1, jq2, jq3, w_ev, in_ev2, nI_leI, nI_ltI, nI_eq, nI_add, ↓pk_rem, pk_div, pk_sub, pk_mul, ckiT, ckT, ixN, if_pos, if_neg, ↓reduceIte, ckTr, true_or, or_true, false_or, or_false, sI_o, sI_s, pk_un, pk_us, il_0, il_1, il_2, il_3, il_4, il_5, il_6, il_7, il_8, il_9, il_10, il_12, il_16, il_20, il_29, il_30, il_31, il_32, il_33, il_39, il_40, il_43, il_46, il_48, il_50, il_54, il_55, il_57, il_60, il_63, il_64, il_74, il_75, il_97, il_99, il_100, il_126, il_150, il_255, il_256, il_899, il_999, il_9999, il_65537, il_1000000, il_2147483647, nn1, nn6, m6lt, nn1s, nn6s]
    · intro k hk; simp (disch := omega) only [ttab_o, g2 8, M_peak hM hk, b1E, b2E, bsE, jq0, jq1, jq2, jq3, w_ev, in_ev2, nI_leI, nI_ltI, nI_eq, nI_add, ↓pk_rem, pk_div, pk_sub, pk_mul, ckiT, ckT, ixN, if_pos, if_neg, ↓reduceIte, ckTr, true_or, or_true, false_or, or_false, sI_o, sI_s, pk_un, pk_us, il_0, il_1, il_2, il_3, il_4, il_5, il_6, il_7, il_8, il_9, il_10, il_12, il_16, il_20, il_29, il_30, il_31, il_32, il_33, il_39, il_40, il_43, il_46, il_48, il_50, il_54, il_55, il_57, il_60, il_63, il_64, il_74, il_75, il_97, il_99, il_100, il_126, il_150, il_255, il_256, il_899, il_999, il_9999, il_65537, il_1000000, il_2147483647, nn1, nn6, m6lt, nn1s, nn6s]
  · have et : ∀ c, c ≤ 16 → c ≠ 10 → c ≠ 11 → ttab t c = t c := fun c h1 h2 h3 => ttab_o (by omega)
    have hl : ∀ c, lin (ttab t) c = lin t c := fun c => by unfold lin; rw [et 5 (by omega) (by omega) (by omega), et 6 (by omega) (by omega) (by omega)]
    have hb : ∀ b, bt (ttab t) b ↔ bt t b := fun b => by unfold bt; rw [et 5 (by omega) (by omega) (by omega)]
    obtain ⟨a1, a2, a3, a4, a5, a6, a7, a8, a9, a10, a11, a12, a13⟩ := hT
    unfold TK
    simp only [hl, hb, et 2 (by omega) (by omega) (by omega), et 3 (by omega) (by omega) (by omega), et 4 (by omega) (by omega) (by omega), et 5 (by omega) (by omega) (by omega), et 6 (by omega) (by omega) (by omega), et 7 (by omega) (by omega) (by omega), et 8 (by omega) (by omega) (by omega), et 9 (by omega) (by omega) (by omega), et 12 (by omega) (by omega) (by omega), et 13 (by omega) (by omega) (by omega), et 14 (by omega) (by omega) (by omega), et 15 (by omega) (by omega) (by omega), et 16 (by omega) (by omega) (by omega)]
    refine ⟨a1, a2, a3, a4, a5, a6, a7, ?_, ?_, a10, a11, a12, a13⟩
    · show 1 ≤ t 18 1 ∧ t 18 1 ≤ 30; omega
    · intro k hk
      show tdg t (t 18 1) k ≤ 9
      unfold tdg
      by_cases h9 : k < t 18 1
      · have := hg k h9; rw [if_pos h9]; omega
      · rw [if_neg h9]; exact a9 k hk
  · refine ⟨?_, ?_, ?_, ?_, ?_, ?_⟩
    · simp (disch := omega) only [b1E, b2E, bsE, jq0, jq1, jq2, jq3, w_ev, in_ev2, nI_leI, nI_ltI, nI_eq, nI_add, ↓pk_rem, pk_div, pk_sub, pk_mul, ckiT, ckT, ixN, if_pos, if_neg, ↓reduceIte, ckTr, true_or, or_true, false_or, or_false, sI_o, sI_s, pk_un, pk_us, il_0, il_1, il_2, il_3, il_4, il_5, il_6, il_7, il_8, il_9, il_10, il_12, il_16, il_20, il_29, il_30, il_31, il_32, il_33, il_39, il_40, il_43, il_46, il_48, il_50, il_54, il_55, il_57, il_60, il_63, il_64, il_74, il_75, il_97, il_99, il_100, il_126, il_150, il_255, il_256, il_899, il_999, il_9999, il_65537, il_1000000, il_2147483647, nn1, nn6, m6lt, nn1s, nn6s]; rfl
    · intro i hi; simp (disch := omega) only [ttab_o, f1 19, hP.2.1 i hi, b1E, b2E, bsE, jq0, jq1, jq2, jq3, w_ev, in_ev2, nI_leI, nI_ltI, nI_eq, nI_add, ↓pk_rem, pk_div, pk_sub, pk_mul, ckiT, ckT, ixN, if_pos, if_neg, ↓reduceIte, ckTr, true_or, or_true, false_or, or_false, sI_o, sI_s, pk_un, pk_us, il_0, il_1, il_2, il_3, il_4, il_5, il_6, il_7, il_8, il_9, il_10, il_12, il_16, il_20, il_29, il_30, il_31, il_32, il_33, il_39, il_40, il_43, il_46, il_48, il_50, il_54, il_55, il_57, il_60, il_63, il_64, il_74, il_75, il_97, il_99, il_100, il_126, il_150, il_255, il_256, il_899, il_999, il_9999, il_65537, il_1000000, il_2147483647, nn1, nn6, m6lt, nn1s, nn6s]
    · simp (disch := omega) only [b1E, b2E, bsE, jq0, jq1, jq2, jq3, w_ev, in_ev2, nI_leI, nI_ltI, nI_eq, nI_add, ↓pk_rem, pk_div, pk_sub, pk_mul, ckiT, ckT, ixN, if_pos, if_neg, ↓reduceIte, ckTr, true_or, or_true, false_or, or_false, sI_o, sI_s, pk_un, pk_us, il_0, il_1, il_2, il_3, il_4, il_5, il_6, il_7, il_8, il_9, il_10, il_12, il_16, il_20, il_29, il_30, il_31, il_32, il_33, il_39, il_40, il_43, il_46, il_48, il_50, il_54, il_55, il_57, il_60, il_63, il_64, il_74, il_75, il_97, il_99, il_100, il_126, il_150, il_255, il_256, il_899, il_999, il_9999, il_65537, il_1000000, il_2147483647, nn1, nn6, m6lt, nn1s, nn6s]; rfl
    · intro i hi; simp (disch := omega) only [ttab_o, g2 12, hP.2.2.2.1 i hi, b1E, b2E, bsE, jq0, jq1, jq2, jq3, w_ev, in_ev2, nI_leI, nI_ltI, nI_eq, nI_add, ↓pk_rem, pk_div, pk_sub, pk_mul, ckiT, ckT, ixN, if_pos, if_neg, ↓reduceIte, ckTr, true_or, or_true, false_or, or_false, sI_o, sI_s, pk_un, pk_us, il_0, il_1, il_2, il_3, il_4, il_5, il_6, il_7, il_8, il_9, il_10, il_12, il_16, il_20, il_29, il_30, il_31, il_32, il_33, il_39, il_40, il_43, il_46, il_48, il_50, il_54, il_55, il_57, il_60, il_63, il_64, il_74, il_75, il_97, il_99, il_100, il_126, il_150, il_255, il_256, il_899, il_999, il_9999, il_65537, il_1000000, il_2147483647, nn1, nn6, m6lt, nn1s, nn6s]
    · show 0 ≤ 60; omega
    · intro i hi; rw [ttab_o (by omega)]; exact hP.2.2.2.2.2 i hi
  · simp (disch := omega) only [f1 17, b1E, b2E, bsE, jq0, jq1, jq2, jq3, w_ev, in_ev2, nI_leI, nI_ltI, nI_eq, nI_add, ↓pk_rem, pk_div, pk_sub, pk_mul, ckiT, ckT, ixN, if_pos, if_neg, ↓reduceIte, ckTr, true_or, or_true, false_or, or_false, sI_o, sI_s, pk_un, pk_us, il_0, il_1, il_2, il_3, il_4, il_5, il_6, il_7, il_8, il_9, il_10, il_12, il_16, il_20, il_29, il_30, il_31, il_32, il_33, il_39, il_40, il_43, il_46, il_48, il_50, il_54, il_55, il_57, il_60, il_63, il_64, il_74, il_75, il_97, il_99, il_100, il_126, il_150, il_255, il_256, il_899, il_999, il_9999, il_65537, il_1000000, il_2147483647, nn1, nn6, m6lt, nn1s, nn6s]
  · intro c hc; simp (disch := omega) only [f1 c, b1E, b2E, bsE, jq0, jq1, jq2, jq3, w_ev, in_ev2, nI_leI, nI_ltI, nI_eq, nI_add, ↓pk_rem, pk_div, pk_sub, pk_mul, ckiT, ckT, ixN, if_pos, if_neg, ↓reduceIte, ckTr, true_or, or_true, false_or, or_false, sI_o, sI_s, pk_un, pk_us, il_0, il_1, il_2, il_3, il_4, il_5, il_6, il_7, il_8, il_9, il_10, il_12, il_16, il_20, il_29, il_30, il_31, il_32, il_33, il_39, il_40, il_43, il_46, il_48, il_50, il_54, il_55, il_57, il_60, il_63, il_64, il_74, il_75, il_97, il_99, il_100, il_126, il_150, il_255, il_256, il_899, il_999, il_9999, il_65537, il_1000000, il_2147483647, nn1, nn6, m6lt, nn1s, nn6s]
  · simp (disch := omega) only [g2 19, b1E, b2E, bsE, jq0, jq1, jq2, jq3, w_ev, in_ev2, nI_leI, nI_ltI, nI_eq, nI_add, ↓pk_rem, pk_div, pk_sub, pk_mul, ckiT, ckT, ixN, if_pos, if_neg, ↓reduceIte, ckTr, true_or, or_true, false_or, or_false, sI_o, sI_s, pk_un, pk_us, il_0, il_1, il_2, il_3, il_4, il_5, il_6, il_7, il_8, il_9, il_10, il_12, il_16, il_20, il_29, il_30, il_31, il_32, il_33, il_39, il_40, il_43, il_46, il_48, il_50, il_54, il_55, il_57, il_60, il_63, il_64, il_74, il_75, il_97, il_99, il_100, il_126, il_150, il_255, il_256, il_899, il_999, il_9999, il_65537, il_1000000, il_2147483647, nn1, nn6, m6lt, nn1s, nn6s]
  · simp (disch := omega) only [g2 20, b1E, b2E, bsE, jq0, jq1, jq2, jq3, w_ev, in_ev2, nI_leI, nI_ltI, nI_eq, nI_add, ↓pk_rem, pk_div, pk_sub, pk_mul, ckiT, ckT, ixN, if_pos, if_neg, ↓reduceIte, ckTr, true_or, or_true, false_or, or_false, sI_o, sI_s, pk_un, pk_us, il_0, il_1, il_2, il_3, il_4, il_5, il_6, il_7, il_8, il_9, il_10, il_12, il_16, il_20, il_29, il_30, il_31, il_32, il_33, il_39, il_40, il_43, il_46, il_48, il_50, il_54, il_55, il_57, il_60, il_63, il_64, il_74, il_75, il_97, il_99, il_100, il_126, il_150, il_255, il_256, il_899, il_999, il_9999, il_65537, il_1000000, il_2147483647, nn1, nn6, m6lt, nn1s, nn6s]
  · show w.2 0 21 = 0; rw [g3]; exact hd
  · simp (disch := omega) only [g2 0, hr, b1E, b2E, bsE, jq0, jq1, jq2, jq3, w_ev, in_ev2, nI_leI, nI_ltI, nI_eq, nI_add, ↓pk_rem, pk_div, pk_sub, pk_mul, ckiT, ckT, ixN, if_pos, if_neg, ↓reduceIte, ckTr, true_or, or_true, false_or, or_false, sI_o, sI_s, pk_un, pk_us, il_0, il_1, il_2, il_3, il_4, il_5, il_6, il_7, il_8, il_9, il_10, il_12, il_16, il_20, il_29, il_30, il_31, il_32, il_33, il_39, il_40, il_43, il_46, il_48, il_50, il_54, il_55, il_57, il_60, il_63, il_64, il_74, il_75, il_97, il_99, il_100, il_126, il_150, il_255, il_256, il_899, il_999, il_9999, il_65537, il_1000000, il_2147483647, nn1, nn6, m6lt, nn1s, nn6s]
def ppA (t : Nat → Nat → Nat) (p : Nat) : Nat → Bool := fun i => !decide (t 11 (p + i) = t 11 i)
/-- p is a period -/
def ppB (t : Nat → Nat → Nat) (p : Nat) : Bool := decide (t 10 1 % p = 0) && decide (fs (ppA t p) (t 10 1 - p) = t 10 1 - p)
def ppV (t : Nat → Nat → Nat) : Int32 := nI (fs (fun i => ppB t (i + 1)) (t 10 1 - 1) + 1)
section PE
variable {u m : St} {t : Nat → Nat → Nat}
theorem dgA (hU : UT u t 0) (hT : TK t) {p : Nat} (hp : p < 2 ^ 30) : f_X8_digitAt u (nI p) = some (nI (t 11 (p % t 10 1))) := by
  have hl := K_len hT
  have hm : p % t 10 1 < t 10 1 := Nat.mod_lt _ (by omega)
  unfold f_X8_digitAt
  rw [U_len hU]
  simp (disch := omega) only [U_dig hU, b1E, b2E, bsE, jq0, jq1, jq2, jq3, w_ev, in_ev2, nI_leI, nI_ltI, nI_eq, nI_add, ↓pk_rem, pk_div, pk_sub, pk_mul, ckiT, ckT, ixN, if_pos, if_neg, ↓reduceIte, ckTr, true_or, or_true, false_or, or_false, sI_o, sI_s, pk_un, pk_us, il_0, il_1, il_2, il_3, il_4, il_5, il_6, il_7, il_8, il_9, il_10, il_12, il_16, il_20, il_29, il_30, il_31, il_32, il_33, il_39, il_40, il_43, il_46, il_48, il_50, il_54, il_55, il_57, il_60, il_63, il_64, il_74, il_75, il_97, il_99, il_100, il_126, il_150, il_255, il_256, il_899, il_999, il_9999, il_65537, il_1000000, il_2147483647, nn1, nn6, m6lt, nn1s, nn6s]
theorem rpC (hU : UT u t 0) (hT : TK t) {p : Nat} (hp : 0 < p) (hp2 : p < t 10 1) : f_X8_repeats u (nI p) = some (if fs (ppA t p) (t 10 1 - p) = t 10 1 - p then nI 1 else nI 0) := by
  have hl := K_len hT
  unfold f_X8_repeats
  rw [jq0]
  refine mw_1 (P := fun i (y : Int32) => y = nI (p + i) ∧ ∀ j, j < i → ppA t p j = false) (Q := fun o => o = some (if fs (ppA t p) (t 10 1 - p) = t 10 1 - p then nI 1 else nI 0)) (t 10 1 - p) ?_ ?_ (FU_lt (by omega)) ⟨by rw [Nat.add_zero], fun j hj => absurd hj (by omega)⟩
  · rintro i y hi ⟨rfl, hn⟩
    have e1 := dgA hU hT (p := p + i) (by omega)
    have e2 := dgA hU hT (p := i) (by omega)
    rw [Nat.mod_eq_of_lt (by omega)] at e1 e2
    have b1 := K_dig hT (k := p + i) (by omega)
    have b2 := K_dig hT (k := i) (by omega)
    have e3 : p + i - p = i := by omega
    by_cases hp : ppA t p i = true
    · refine Or.inr fun rec => ?_
      rw [fs_hit hi hp hn, if_neg (show ¬ i = t 10 1 - p by omega)]
      unfold B_X8_repeats_2
      simp only [ppA, Bool.not_eq_true', decide_eq_false_iff_not] at hp
      simp (disch := omega) only [U_len hU, e1, e2, e3, b1E, b2E, bsE, jq0, jq1, jq2, jq3, w_ev, in_ev2, nI_leI, nI_ltI, nI_eq, nI_add, ↓pk_rem, pk_div, pk_sub, pk_mul, ckiT, ckT, ixN, if_pos, if_neg, ↓reduceIte, ckTr, true_or, or_true, false_or, or_false, sI_o, sI_s, pk_un, pk_us, il_0, il_1, il_2, il_3, il_4, il_5, il_6, il_7, il_8, il_9, il_10, il_12, il_16, il_20, il_29, il_30, il_31, il_32, il_33, il_39, il_40, il_43, il_46, il_48, il_50, il_54, il_55, il_57, il_60, il_63, il_64, il_74, il_75, il_97, il_99, il_100, il_126, il_150, il_255, il_256, il_899, il_999, il_9999, il_65537, il_1000000, il_2147483647, nn1, nn6, m6lt, nn1s, nn6s]
    · refine Or.inl ⟨_, fun rec => ?_, ⟨rfl, fun j hj => ?_⟩⟩
      · unfold B_X8_repeats_2
        simp only [ppA, Bool.not_eq_true', decide_eq_false_iff_not, Decidable.not_not] at hp
        simp (disch := omega) only [U_len hU, e1, e2, e3, Nat.add_assoc, b1E, b2E, bsE, jq0, jq1, jq2, jq3, w_ev, in_ev2, nI_leI, nI_ltI, nI_eq, nI_add, ↓pk_rem, pk_div, pk_sub, pk_mul, ckiT, ckT, ixN, if_pos, if_neg, ↓reduceIte, ckTr, true_or, or_true, false_or, or_false, sI_o, sI_s, pk_un, pk_us, il_0, il_1, il_2, il_3, il_4, il_5, il_6, il_7, il_8, il_9, il_10, il_12, il_16, il_20, il_29, il_30, il_31, il_32, il_33, il_39, il_40, il_43, il_46, il_48, il_50, il_54, il_55, il_57, il_60, il_63, il_64, il_74, il_75, il_97, il_99, il_100, il_126, il_150, il_255, il_256, il_899, il_999, il_9999, il_65537, il_1000000, il_2147483647, nn1, nn6, m6lt, nn1s, nn6s]
      · by_cases h9 : j = i
        · subst h9; exact Bool.eq_false_iff.mpr hp
        · exact hn j (by omega)
  · rintro y ⟨rfl, hn⟩ rec
    unfold B_X8_repeats_2
    rw [fs_none hn]
    simp (disch := omega) only [U_len hU, b1E, b2E, bsE, jq0, jq1, jq2, jq3, w_ev, in_ev2, nI_leI, nI_ltI, nI_eq, nI_add, ↓pk_rem, pk_div, pk_sub, pk_mul, ckiT, ckT, ixN, if_pos, if_neg, ↓reduceIte, ckTr, true_or, or_true, false_or, or_false, sI_o, sI_s, pk_un, pk_us, il_0, il_1, il_2, il_3, il_4, il_5, il_6, il_7, il_8, il_9, il_10, il_12, il_16, il_20, il_29, il_30, il_31, il_32, il_33, il_39, il_40, il_43, il_46, il_48, il_50, il_54, il_55, il_57, il_60, il_63, il_64, il_74, il_75, il_97, il_99, il_100, il_126, il_150, il_255, il_256, il_899, il_999, il_9999, il_65537, il_1000000, il_2147483647, nn1, nn6, m6lt, nn1s, nn6s]
theorem ipM (hM : MT m t) (hT : TK t) {p : Nat} (hp : 0 < p) (hp2 : p ≤ t 10 1) : f_X12_isPeriod m (nI p) = some (bI (ppB t p)) := by
  have hl := K_len hT
  unfold f_X12_isPeriod
  rw [M_len hM, ckT (show ¬ nI p = 0 from fun h9 => absurd ((nI_eq (b := 0) (by omega) (by decide)).mp h9) (by omega)), jq1, pk_rem (by omega) hp (by omega)]
  have key : ∀ b : Bool, lq_2 (B_X12_isPeriod_17 (nI p) m (fun x6 => ck (x6 = 0 ∨ x6 = 1) (some x6))) FU (bI b) (nI p) = some (bI (b && decide (fs (ppA t p) (t 10 1 - p) = t 10 1 - p))) := by
    intro b
    refine mw_2 (P := fun i (x y : Int32) => y = nI (p + i) ∧ x = bI (b && decide (fs (ppA t p) i = i))) (Q := fun o => o = some (bI (b && decide (fs (ppA t p) (t 10 1 - p) = t 10 1 - p)))) (t 10 1 - p) ?_ ?_ (FU_lt (by omega)) ⟨by rw [Nat.add_zero], by simp [fs]⟩
    · rintro i x y hi ⟨rfl, rfl⟩
      have b1 := K_dig hT (k := p + i) (by omega)
      have b2 := K_dig hT (k := i) (by omega)
      have e3 : p + i - p = i := by omega
      have hle := fs_le (p := ppA t p) (n := i)
      unfold B_X12_isPeriod_17
      refine Or.inl ⟨_, _, fun rec => ?_, ⟨rfl, rfl⟩⟩
      by_cases hb : (b && decide (fs (ppA t p) i = i)) = true
      · have hb' := hb
        simp only [Bool.and_eq_true, decide_eq_true_eq] at hb'
        have hs : fs (ppA t p) (i + 1) = if ppA t p i then i else i + 1 := by
          show (if fs (ppA t p) i < i then _ else _) = _
          rw [if_neg (by omega)]
        rw [hb, hs, hb'.1]
        by_cases hq : t 11 (p + i) = t 11 i
        · have : ppA t p i = false := by simp [ppA, hq]
          simp (disch := omega) only [M_len hM, M_dig hM, e3, this, bI, Bool.false_eq_true, decide_true, Bool.true_and, Nat.add_assoc, b1E, b2E, bsE, jq0, jq1, jq2, jq3, w_ev, in_ev2, nI_leI, nI_ltI, nI_eq, nI_add, ↓pk_rem, pk_div, pk_sub, pk_mul, ckiT, ckT, ixN, if_pos, if_neg, ↓reduceIte, ckTr, true_or, or_true, false_or, or_false, sI_o, sI_s, pk_un, pk_us, il_0, il_1, il_2, il_3, il_4, il_5, il_6, il_7, il_8, il_9, il_10, il_12, il_16, il_20, il_29, il_30, il_31, il_32, il_33, il_39, il_40, il_43, il_46, il_48, il_50, il_54, il_55, il_57, il_60, il_63, il_64, il_74, il_75, il_97, il_99, il_100, il_126, il_150, il_255, il_256, il_899, il_999, il_9999, il_65537, il_1000000, il_2147483647, nn1, nn6, m6lt, nn1s, nn6s]
        · have : ppA t p i = true := by simp [ppA, hq]
          simp (disch := omega) only [M_len hM, M_dig hM, e3, this, bI, Bool.false_eq_true, decide_true, Bool.true_and, Nat.add_assoc, show ¬ i = i + 1 by omega, decide_false, b1E, b2E, bsE, jq0, jq1, jq2, jq3, w_ev, in_ev2, nI_leI, nI_ltI, nI_eq, nI_add, ↓pk_rem, pk_div, pk_sub, pk_mul, ckiT, ckT, ixN, if_pos, if_neg, ↓reduceIte, ckTr, true_or, or_true, false_or, or_false, sI_o, sI_s, pk_un, pk_us, il_0, il_1, il_2, il_3, il_4, il_5, il_6, il_7, il_8, il_9, il_10, il_12, il_16, il_20, il_29, il_30, il_31, il_32, il_33, il_39, il_40, il_43, il_46, il_48, il_50, il_54, il_55, il_57, il_60, il_63, il_64, il_74, il_75, il_97, il_99, il_100, il_126, il_150, il_255, il_256, il_899, il_999, il_9999, il_65537, il_1000000, il_2147483647, nn1, nn6, m6lt, nn1s, nn6s]
      · have hb' := Bool.eq_false_iff.mpr hb
        have hs : (b && decide (fs (ppA t p) (i + 1) = i + 1)) = false := by
          rw [Bool.and_eq_false_iff] at hb' ⊢
          rcases hb' with h | h
          · exact Or.inl h
          · refine Or.inr ?_
            simp only [decide_eq_false_iff_not] at h ⊢
            have : fs (ppA t p) (i + 1) = fs (ppA t p) i := by
              show (if fs (ppA t p) i < i then _ else _) = _
              rw [if_pos (by omega)]
            omega
        rw [hb', hs]
        simp (disch := omega) only [M_len hM, bI, Bool.false_eq_true, Nat.add_assoc, b1E, b2E, bsE, jq0, jq1, jq2, jq3, w_ev, in_ev2, nI_leI, nI_ltI, nI_eq, nI_add, ↓pk_rem, pk_div, pk_sub, pk_mul, ckiT, ckT, ixN, if_pos, if_neg, ↓reduceIte, ckTr, true_or, or_true, false_or, or_false, sI_o, sI_s, pk_un, pk_us, il_0, il_1, il_2, il_3, il_4, il_5, il_6, il_7, il_8, il_9, il_10, il_12, il_16, il_20, il_29, il_30, il_31, il_32, il_33, il_39, il_40, il_43, il_46, il_48, il_50, il_54, il_55, il_57, il_60, il_63, il_64, il_74, il_75, il_97, il_99, il_100, il_126, il_150, il_255, il_256, il_899, il_999, il_9999, il_65537, il_1000000, il_2147483647, nn1, nn6, m6lt, nn1s, nn6s]
    · rintro x y ⟨rfl, rfl⟩ rec
      unfold B_X12_isPeriod_17
      cases (b && decide (fs (ppA t p) (t 10 1 - p) = t 10 1 - p)) <;> simp (disch := omega) only [M_len hM, bI, Bool.false_eq_true, b1E, b2E, bsE, jq0, jq1, jq2, jq3, w_ev, in_ev2, nI_leI, nI_ltI, nI_eq, nI_add, ↓pk_rem, pk_div, pk_sub, pk_mul, ckiT, ckT, ixN, if_pos, if_neg, ↓reduceIte, ckTr, true_or, or_true, false_or, or_false, sI_o, sI_s, pk_un, pk_us, il_0, il_1, il_2, il_3, il_4, il_5, il_6, il_7, il_8, il_9, il_10, il_12, il_16, il_20, il_29, il_30, il_31, il_32, il_33, il_39, il_40, il_43, il_46, il_48, il_50, il_54, il_55, il_57, il_60, il_63, il_64, il_74, il_75, il_97, il_99, il_100, il_126, il_150, il_255, il_256, il_899, il_999, il_9999, il_65537, il_1000000, il_2147483647, nn1, nn6, m6lt, nn1s, nn6s]
  by_cases h : t 10 1 % p = 0
  · rw [if_pos (by rw [h]; rfl)]
    have := key true
    rw [show ppB t p = (true && decide (fs (ppA t p) (t 10 1 - p) = t 10 1 - p)) by simp [ppB, h]]
    exact this
  · rw [if_neg (show ¬ nI (t 10 1 % p) = 0 from fun h9 => h ((nI_eq (b := 0) (Nat.lt_of_le_of_lt (Nat.mod_le _ _) (by omega)) (by decide)).mp h9))]
    have := key false
    rw [show ppB t p = (false && decide (fs (ppA t p) (t 10 1 - p) = t 10 1 - p)) by simp [ppB, h]]
    exact this
end PE
theorem s_period : Sp_period Inv := by
  intro N u m hi0
  obtain ⟨t, hU, hM, hT, hP, hI, hd, hr⟩ := id hi0
  have hl := K_len hT
  refine ⟨ppV t, ?_, ?_, hi0⟩
  · unfold f_X11_period
    rw [jq0]
    refine mw_1 (P := fun i (y : Int32) => y = nI (i + 1) ∧ ∀ j, j < i → ppB t (j + 1) = false) (Q := fun o => o = some (ppV t)) (t 10 1 - 1) ?_ ?_ (FU_lt (by omega)) ⟨rfl, fun j hj => absurd hj (by omega)⟩
    · rintro i y hi ⟨rfl, hn⟩
      have er := rpC hU hT (p := i + 1) (by omega) (by omega)
      have hm : t 10 1 % (i + 1) < 2 ^ 31 := Nat.lt_of_le_of_lt (Nat.mod_le _ _) (by omega)
      by_cases hp : ppB t (i + 1) = true
      · refine Or.inr fun rec => ?_
        have e : ppV t = nI (i + 1) := by unfold ppV; rw [fs_hit (p := fun i => ppB t (i + 1)) hi hp hn]
        simp only [ppB, Bool.and_eq_true, decide_eq_true_eq] at hp
        rw [if_pos hp.2] at er
        unfold B_X11_period_13
        rw [U_len hU, pk_rem (by omega) (by omega) (by omega), hp.1]
        simp (disch := omega) only [er, e, b1E, b2E, bsE, jq0, jq1, jq2, jq3, w_ev, in_ev2, nI_leI, nI_ltI, nI_eq, nI_add, ↓pk_rem, pk_div, pk_sub, pk_mul, ckiT, ckT, ixN, if_pos, if_neg, ↓reduceIte, ckTr, true_or, or_true, false_or, or_false, sI_o, sI_s, pk_un, pk_us, il_0, il_1, il_2, il_3, il_4, il_5, il_6, il_7, il_8, il_9, il_10, il_12, il_16, il_20, il_29, il_30, il_31, il_32, il_33, il_39, il_40, il_43, il_46, il_48, il_50, il_54, il_55, il_57, il_60, il_63, il_64, il_74, il_75, il_97, il_99, il_100, il_126, il_150, il_255, il_256, il_899, il_999, il_9999, il_65537, il_1000000, il_2147483647, nn1, nn6, m6lt, nn1s, nn6s]
      · refine Or.inl ⟨_, fun rec => ?_, ⟨rfl, fun j hj => ?_⟩⟩
        · unfold B_X11_period_13
          rw [U_len hU, pk_rem (by omega) (by omega) (by omega)]
          by_cases h1 : t 10 1 % (i + 1) = 0
          · have h2 : ¬ fs (ppA t (i + 1)) (t 10 1 - (i + 1)) = t 10 1 - (i + 1) := by
              intro h; apply hp; simp [ppB, h1, h]
            rw [if_neg h2] at er
            rw [h1]
            simp (disch := omega) only [er, b1E, b2E, bsE, jq0, jq1, jq2, jq3, w_ev, in_ev2, nI_leI, nI_ltI, nI_eq, nI_add, ↓pk_rem, pk_div, pk_sub, pk_mul, ckiT, ckT, ixN, if_pos, if_neg, ↓reduceIte, ckTr, true_or, or_true, false_or, or_false, sI_o, sI_s, pk_un, pk_us, il_0, il_1, il_2, il_3, il_4, il_5, il_6, il_7, il_8, il_9, il_10, il_12, il_16, il_20, il_29, il_30, il_31, il_32, il_33, il_39, il_40, il_43, il_46, il_48, il_50, il_54, il_55, il_57, il_60, il_63, il_64, il_74, il_75, il_97, il_99, il_100, il_126, il_150, il_255, il_256, il_899, il_999, il_9999, il_65537, il_1000000, il_2147483647, nn1, nn6, m6lt, nn1s, nn6s]
          · simp (disch := omega) only [b1E, b2E, bsE, jq0, jq1, jq2, jq3, w_ev, in_ev2, nI_leI, nI_ltI, nI_eq, nI_add, ↓pk_rem, pk_div, pk_sub, pk_mul, ckiT, ckT, ixN, if_pos, if_neg, ↓reduceIte, ckTr, true_or, or_true, false_or, or_false, sI_o, sI_s, pk_un, pk_us, il_0, il_1, il_2, il_3, il_4, il_5, il_6, il_7, il_8, il_9, il_10, il_12, il_16, il_20, il_29, il_30, il_31, il_32, il_33, il_39, il_40, il_43, il_46, il_48, il_50, il_54, il_55, il_57, il_60, il_63, il_64, il_74, il_75, il_97, il_99, il_100, il_126, il_150, il_255, il_256, il_899, il_999, il_9999, il_65537, il_1000000, il_2147483647, nn1, nn6, m6lt, nn1s, nn6s]
        · by_cases h9 : j = i
          · subst h9; exact Bool.eq_false_iff.mpr hp
          · exact hn j (by omega)
    · rintro y ⟨rfl, hn⟩ rec
      unfold B_X11_period_13 ppV
      rw [fs_none (p := fun i => ppB t (i + 1)) hn]
      simp (disch := omega) only [U_len hU, b1E, b2E, bsE, jq0, jq1, jq2, jq3, w_ev, in_ev2, nI_leI, nI_ltI, nI_eq, nI_add, ↓pk_rem, pk_div, pk_sub, pk_mul, ckiT, ckT, ixN, if_pos, if_neg, ↓reduceIte, ckTr, true_or, or_true, false_or, or_false, sI_o, sI_s, pk_un, pk_us, il_0, il_1, il_2, il_3, il_4, il_5, il_6, il_7, il_8, il_9, il_10, il_12, il_16, il_20, il_29, il_30, il_31, il_32, il_33, il_39, il_40, il_43, il_46, il_48, il_50, il_54, il_55, il_57, il_60, il_63, il_64, il_74, il_75, il_97, il_99, il_100, il_126, il_150, il_255, il_256, il_899, il_999, il_9999, il_65537, il_1000000, il_2147483647, nn1, nn6, m6lt, nn1s, nn6s]
      rw [Nat.sub_add_cancel (by omega)]
  · unfold f_X12_period
    rw [jq1]
    refine mw_1 (P := fun i (y : Int32) => y = nI (i + 1) ∧ ∀ j, j < i → ppB t (j + 1) = false) (Q := fun o => o = some (ppV t)) (t 10 1 - 1) ?_ ?_ (FU_lt (by omega)) ⟨rfl, fun j hj => absurd hj (by omega)⟩
    · rintro i y hi ⟨rfl, hn⟩
      have er := ipM hM hT (p := i + 1) (by omega) (by omega)
      unfold B_X12_period_2
      by_cases hp : ppB t (i + 1) = true
      · refine Or.inr fun rec => ?_
        have e : ppV t = nI (i + 1) := by unfold ppV; rw [fs_hit (p := fun i => ppB t (i + 1)) hi hp hn]
        rw [hp] at er
        simp (disch := omega) only [er, e, bI, b1E, b2E, bsE, jq0, jq1, jq2, jq3, w_ev, in_ev2, nI_leI, nI_ltI, nI_eq, nI_add, ↓pk_rem, pk_div, pk_sub, pk_mul, ckiT, ckT, ixN, if_pos, if_neg, ↓reduceIte, ckTr, true_or, or_true, false_or, or_false, sI_o, sI_s, pk_un, pk_us, il_0, il_1, il_2, il_3, il_4, il_5, il_6, il_7, il_8, il_9, il_10, il_12, il_16, il_20, il_29, il_30, il_31, il_32, il_33, il_39, il_40, il_43, il_46, il_48, il_50, il_54, il_55, il_57, il_60, il_63, il_64, il_74, il_75, il_97, il_99, il_100, il_126, il_150, il_255, il_256, il_899, il_999, il_9999, il_65537, il_1000000, il_2147483647, nn1, nn6, m6lt, nn1s, nn6s]
      · refine Or.inl ⟨_, fun rec => ?_, ⟨rfl, fun j hj => ?_⟩⟩
        · rw [Bool.eq_false_iff.mpr hp] at er
          simp (disch := omega) only [er, bI, Bool.false_eq_true, b1E, b2E, bsE, jq0, jq1, jq2, jq3, w_ev, in_ev2, nI_leI, nI_ltI, nI_eq, nI_add, ↓pk_rem, pk_div, pk_sub, pk_mul, ckiT, ckT, ixN, if_pos, if_neg, ↓reduceIte, ckTr, true_or, or_true, false_or, or_false, sI_o, sI_s, pk_un, pk_us, il_0, il_1, il_2, il_3, il_4, il_5, il_6, il_7, il_8, il_9, il_10, il_12, il_16, il_20, il_29, il_30, il_31, il_32, il_33, il_39, il_40, il_43, il_46, il_48, il_50, il_54, il_55, il_57, il_60, il_63, il_64, il_74, il_75, il_97, il_99, il_100, il_126, il_150, il_255, il_256, il_899, il_999, il_9999, il_65537, il_1000000, il_2147483647, nn1, nn6, m6lt, nn1s, nn6s]
        · by_cases h9 : j = i
          · subst h9; exact Bool.eq_false_iff.mpr hp
          · exact hn j (by omega)
    · rintro y ⟨rfl, hn⟩ rec
      have er := ipM hM hT (p := t 10 1 - 1 + 1) (by omega) (by omega)
      have hp : ppB t (t 10 1 - 1 + 1) = true := by
        rw [Nat.sub_add_cancel (by omega)]
        simp [ppB, fs]
      rw [hp] at er
      unfold B_X12_period_2 ppV
      rw [fs_none (p := fun i => ppB t (i + 1)) hn]
      simp (disch := omega) only [er, bI, b1E, b2E, bsE, jq0, jq1, jq2, jq3, w_ev, in_ev2, nI_leI, nI_ltI, nI_eq, nI_add, ↓pk_rem, pk_div, pk_sub, pk_mul, ckiT, ckT, ixN, if_pos, if_neg, ↓reduceIte, ckTr, true_or, or_true, false_or, or_false, sI_o, sI_s, pk_un, pk_us, il_0, il_1, il_2, il_3, il_4, il_5, il_6, il_7, il_8, il_9, il_10, il_12, il_16, il_20, il_29, il_30, il_31, il_32, il_33, il_39, il_40, il_43, il_46, il_48, il_50, il_54, il_55, il_57, il_60, il_63, il_64, il_74, il_75, il_97, il_99, il_100, il_126, il_150, il_255, il_256, il_899, il_999, il_9999, il_65537, il_1000000, il_2147483647, nn1, nn6, m6lt, nn1s, nn6s]
