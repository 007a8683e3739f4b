/-! ===== told, faults ===== -/
theorem nge {n : Nat} (h : n < 2 ^ 31) : ¬ nI n < nI 0 := by rw [nI_ltI h (by omega)]; omega
theorem r_100 {n : Nat} (h : n < 2 ^ 31) : nI n - nI n / 100 * 100 = nI (n % 100) := pk_rem (d := 100) h (by decide) (by decide)
theorem r_10 {n : Nat} (h : n < 2 ^ 31) : nI n - nI n / 10 * 10 = nI (n % 10) := pk_rem (d := 10) h (by decide) (by decide)
theorem hbN {u : St} {n k : Nat} (hn : n < 2 ^ 31) (hk : k < 31) : f_X11_hasBit u (nI n) (nI k) = some (nI (n / 2 ^ k % 2)) := by
  rw [hbit_ev hn hk]
  by_cases h : n / 2 ^ k % 2 = 1
  · rw [if_pos h, h]; rfl
  · rw [if_neg h, show n / 2 ^ k % 2 = 0 by omega]; rfl
theorem bitM {n k : Nat} (hn : n < 2 ^ 31) (hk : k < 31) : (nI n >>> (nI k &&& nI 31)) &&& nI 1 = nI (n / 2 ^ k % 2) := bitN hn hk
section TO
variable {u m : St} {t : Nat → Nat → Nat}
theorem tob (hU : UT u t 0) (hM : MT m t) (hT : TK t) {b k : Nat} (hb : b < 2 ^ 30) (hk : k < 2 ^ 30) : ∃ r, f_X11_toldOfBarrel u (nI b) (nI k) = some r ∧ f_X12_toldOfBarrel m (nI b) (nI k) = some r ∧ (8 ≤ b → r = -2) := by
  unfold f_X11_toldOfBarrel f_X12_toldOfBarrel
  by_cases h8 : b < 8
  · rw [hb_ev hU hT h8, ib_ev hM hT h8, b1E, b1E]
    by_cases h5 : t 5 4 / 2 ^ b % 2 = 1
    · rw [if_pos h5, if_neg n10, if_neg n10]
      by_cases k0 : k = 0
      · subst k0; simp (disch := omega) only [U_lie hU, M_lie hM, b1E, b2E, bsE, jq0, jq1, jq2, jq3, w_ev, in_ev2, nI_leI, nI_ltI, nI_eq, nI_add, ↓pk_rem, pk_div, pk_sub, pk_mul, ckiT, ckT, ixN, if_pos, if_neg, ↓reduceIte, ckTr, true_or, or_true, false_or, or_false, sI_o, sI_s, pk_un, pk_us, il_0, il_1, il_2, il_3, il_4, il_5, il_6, il_7, il_8, il_9, il_10, il_12, il_16, il_20, il_29, il_30, il_31, il_32, il_33, il_39, il_40, il_43, il_46, il_48, il_50, il_54, il_55, il_57, il_60, il_63, il_64, il_74, il_75, il_97, il_99, il_100, il_126, il_150, il_255, il_256, il_899, il_999, il_9999, il_65537, il_1000000, il_2147483647]; exact ⟨_, rfl, rfl, fun h => absurd h (by omega)⟩
      by_cases k1 : k = 1
      · subst k1; simp (disch := omega) only [U_siz hU, M_siz hM, b1E, b2E, bsE, jq0, jq1, jq2, jq3, w_ev, in_ev2, nI_leI, nI_ltI, nI_eq, nI_add, ↓pk_rem, pk_div, pk_sub, pk_mul, ckiT, ckT, ixN, if_pos, if_neg, ↓reduceIte, ckTr, true_or, or_true, false_or, or_false, sI_o, sI_s, pk_un, pk_us, il_0, il_1, il_2, il_3, il_4, il_5, il_6, il_7, il_8, il_9, il_10, il_12, il_16, il_20, il_29, il_30, il_31, il_32, il_33, il_39, il_40, il_43, il_46, il_48, il_50, il_54, il_55, il_57, il_60, il_63, il_64, il_74, il_75, il_97, il_99, il_100, il_126, il_150, il_255, il_256, il_899, il_999, il_9999, il_65537, il_1000000, il_2147483647]; exact ⟨_, rfl, rfl, fun h => absurd h (by omega)⟩
      by_cases k2 : k = 2
      · subst k2; simp (disch := omega) only [U_cor hU, M_cor hM, b1E, b2E, bsE, jq0, jq1, jq2, jq3, w_ev, in_ev2, nI_leI, nI_ltI, nI_eq, nI_add, ↓pk_rem, pk_div, pk_sub, pk_mul, ckiT, ckT, ixN, if_pos, if_neg, ↓reduceIte, ckTr, true_or, or_true, false_or, or_false, sI_o, sI_s, pk_un, pk_us, il_0, il_1, il_2, il_3, il_4, il_5, il_6, il_7, il_8, il_9, il_10, il_12, il_16, il_20, il_29, il_30, il_31, il_32, il_33, il_39, il_40, il_43, il_46, il_48, il_50, il_54, il_55, il_57, il_60, il_63, il_64, il_74, il_75, il_97, il_99, il_100, il_126, il_150, il_255, il_256, il_899, il_999, il_9999, il_65537, il_1000000, il_2147483647]; exact ⟨_, rfl, rfl, fun h => absurd h (by omega)⟩
      by_cases k3 : k = 3
      · subst k3; simp (disch := omega) only [U_kin hU, M_kin hM, b1E, b2E, bsE, jq0, jq1, jq2, jq3, w_ev, in_ev2, nI_leI, nI_ltI, nI_eq, nI_add, ↓pk_rem, pk_div, pk_sub, pk_mul, ckiT, ckT, ixN, if_pos, if_neg, ↓reduceIte, ckTr, true_or, or_true, false_or, or_false, sI_o, sI_s, pk_un, pk_us, il_0, il_1, il_2, il_3, il_4, il_5, il_6, il_7, il_8, il_9, il_10, il_12, il_16, il_20, il_29, il_30, il_31, il_32, il_33, il_39, il_40, il_43, il_46, il_48, il_50, il_54, il_55, il_57, il_60, il_63, il_64, il_74, il_75, il_97, il_99, il_100, il_126, il_150, il_255, il_256, il_899, il_999, il_9999, il_65537, il_1000000, il_2147483647]; exact ⟨_, rfl, rfl, fun h => absurd h (by omega)⟩
      simp (disch := omega) only [b1E, b2E, bsE, jq0, jq1, jq2, jq3, w_ev, in_ev2, nI_leI, nI_ltI, nI_eq, nI_add, ↓pk_rem, pk_div, pk_sub, pk_mul, ckiT, ckT, ixN, if_pos, if_neg, ↓reduceIte, ckTr, true_or, or_true, false_or, or_false, sI_o, sI_s, pk_un, pk_us, il_0, il_1, il_2, il_3, il_4, il_5, il_6, il_7, il_8, il_9, il_10, il_12, il_16, il_20, il_29, il_30, il_31, il_32, il_33, il_39, il_40, il_43, il_46, il_48, il_50, il_54, il_55, il_57, il_60, il_63, il_64, il_74, il_75, il_97, il_99, il_100, il_126, il_150, il_255, il_256, il_899, il_999, il_9999, il_65537, il_1000000, il_2147483647]
      exact ⟨_, rfl, rfl, fun h => absurd h (by omega)⟩
    · rw [if_neg h5, if_pos rfl, if_pos rfl]; exact ⟨_, rfl, rfl, fun h => rfl⟩
  · have h9 : nI 8 ≤ nI b := nI_le (by omega) (by omega)
    rw [hb_no _ (Or.inr h9), ib_no _ (Or.inr h9), b1E, b1E, if_pos rfl, if_pos rfl]; exact ⟨_, rfl, rfl, fun h => rfl⟩
theorem toc (hU : UT u t 0) (hM : MT m t) (hT : TK t) {b k : Nat} (hb : b < 2 ^ 30) (hk : k < 2 ^ 30) : ∃ r, f_X11_toldOfCellar u (nI b) (nI k) = some r ∧ f_X12_toldOfCellar m (nI b) (nI k) = some r := by
  have hc := K_cnt hT
  have hw := K_wal hT
  unfold f_X11_toldOfCellar f_X12_toldOfCellar
  by_cases h8 : k < t 2 2
  · rw [hc_yes hU hT h8, ic_yes hM hT h8, b1E, b1E, if_neg n10, if_neg n10, U_wal hU, M_wal hM]
    by_cases k1 : b = 1
    · subst k1; simp (disch := omega) only [U_dep hU, M_dep hM, b1E, b2E, bsE, jq0, jq1, jq2, jq3, w_ev, in_ev2, nI_leI, nI_ltI, nI_eq, nI_add, ↓pk_rem, pk_div, pk_sub, pk_mul, ckiT, ckT, ixN, if_pos, if_neg, ↓reduceIte, ckTr, true_or, or_true, false_or, or_false, sI_o, sI_s, pk_un, pk_us, il_0, il_1, il_2, il_3, il_4, il_5, il_6, il_7, il_8, il_9, il_10, il_12, il_16, il_20, il_29, il_30, il_31, il_32, il_33, il_39, il_40, il_43, il_46, il_48, il_50, il_54, il_55, il_57, il_60, il_63, il_64, il_74, il_75, il_97, il_99, il_100, il_126, il_150, il_255, il_256, il_899, il_999, il_9999, il_65537, il_1000000, il_2147483647]; exact ⟨_, rfl, rfl⟩
    by_cases k2 : b = 2
    · subst k2; simp (disch := omega) only [U_room hU, M_room hM, b1E, b2E, bsE, jq0, jq1, jq2, jq3, w_ev, in_ev2, nI_leI, nI_ltI, nI_eq, nI_add, ↓pk_rem, pk_div, pk_sub, pk_mul, ckiT, ckT, ixN, if_pos, if_neg, ↓reduceIte, ckTr, true_or, or_true, false_or, or_false, sI_o, sI_s, pk_un, pk_us, il_0, il_1, il_2, il_3, il_4, il_5, il_6, il_7, il_8, il_9, il_10, il_12, il_16, il_20, il_29, il_30, il_31, il_32, il_33, il_39, il_40, il_43, il_46, il_48, il_50, il_54, il_55, il_57, il_60, il_63, il_64, il_74, il_75, il_97, il_99, il_100, il_126, il_150, il_255, il_256, il_899, il_999, il_9999, il_65537, il_1000000, il_2147483647]; exact ⟨_, rfl, rfl⟩
    by_cases h : t 2 3 / 2 ^ k % 2 = 1
    · simp (disch := omega) only [hbN, bitM, h, b1E, b2E, bsE, jq0, jq1, jq2, jq3, w_ev, in_ev2, nI_leI, nI_ltI, nI_eq, nI_add, ↓pk_rem, pk_div, pk_sub, pk_mul, ckiT, ckT, ixN, if_pos, if_neg, ↓reduceIte, ckTr, true_or, or_true, false_or, or_false, sI_o, sI_s, pk_un, pk_us, il_0, il_1, il_2, il_3, il_4, il_5, il_6, il_7, il_8, il_9, il_10, il_12, il_16, il_20, il_29, il_30, il_31, il_32, il_33, il_39, il_40, il_43, il_46, il_48, il_50, il_54, il_55, il_57, il_60, il_63, il_64, il_74, il_75, il_97, il_99, il_100, il_126, il_150, il_255, il_256, il_899, il_999, il_9999, il_65537, il_1000000, il_2147483647]; exact ⟨_, rfl, rfl⟩
    · have h0 : t 2 3 / 2 ^ k % 2 = 0 := by omega
      simp (disch := omega) only [hbN, bitM, h0, b1E, b2E, bsE, jq0, jq1, jq2, jq3, w_ev, in_ev2, nI_leI, nI_ltI, nI_eq, nI_add, ↓pk_rem, pk_div, pk_sub, pk_mul, ckiT, ckT, ixN, if_pos, if_neg, ↓reduceIte, ckTr, true_or, or_true, false_or, or_false, sI_o, sI_s, pk_un, pk_us, il_0, il_1, il_2, il_3, il_4, il_5, il_6, il_7, il_8, il_9, il_10, il_12, il_16, il_20, il_29, il_30, il_31, il_32, il_33, il_39, il_40, il_43, il_46, il_48, il_50, il_54, il_55, il_57, il_60, il_63, il_64, il_74, il_75, il_97, il_99, il_100, il_126, il_150, il_255, il_256, il_899, il_999, il_9999, il_65537, il_1000000, il_2147483647]; exact ⟨_, rfl, rfl⟩
  · have h9 : nI (t 2 2) ≤ nI k := nI_le (by omega) (by omega)
    rw [hc_no hU (Or.inr h9), ic_no hM hT (Or.inr h9), b1E, b1E, if_pos rfl, if_pos rfl]; exact ⟨_, rfl, rfl⟩
end TO
theorem s_told : Sp_told Inv := by
  intro N u m p1 hi0
  obtain ⟨t, hU, hM, hT, hP, hI, hd, hr⟩ := id hi0
  suffices h : ∃ r, f_X11_told u p1 = some r ∧ f_X12_told m p1 = some r by
    obtain ⟨r, h1, h2⟩ := h; exact ⟨r, h1, h2, hi0⟩
  unfold f_X11_told f_X12_told
  by_cases hn : p1 < nI 0
  · have l : ∀ k, 0 < k → k < 2 ^ 31 → ¬ (nI k ≤ p1) := fun k _ h2 h => Int32.not_lt.mpr (Int32.le_trans (nI_pos' h2) h) hn
    have e : ∀ k, k < 2 ^ 31 → ¬ p1 = nI k := fun k h2 h => by subst h; exact nge h2 hn
    have h1 : p1 < nI 100 := Int32.lt_trans hn (by decide)
    simp (disch := omega) only [l, e, h1, false_and, b1E, b2E, bsE, jq0, jq1, jq2, jq3, w_ev, in_ev2, nI_leI, nI_ltI, nI_eq, nI_add, ↓pk_rem, pk_div, pk_sub, pk_mul, ckiT, ckT, ixN, if_pos, if_neg, ↓reduceIte, ckTr, true_or, or_true, false_or, or_false, sI_o, sI_s, pk_un, pk_us, il_0, il_1, il_2, il_3, il_4, il_5, il_6, il_7, il_8, il_9, il_10, il_12, il_16, il_20, il_29, il_30, il_31, il_32, il_33, il_39, il_40, il_43, il_46, il_48, il_50, il_54, il_55, il_57, il_60, il_63, il_64, il_74, il_75, il_97, il_99, il_100, il_126, il_150, il_255, il_256, il_899, il_999, il_9999, il_65537, il_1000000, il_2147483647, jl_0, jl_1, jl_3, jl_5, jl_6, jl_7, jl_8, jl_9, jl_10, jl_29, jl_30, jl_33, jl_39, jl_40, jl_43, jl_48, jl_55, jl_57, jl_99, jl_100, jl_126, jl_255, jl_899, jl_999, jl_9999]
    exact ⟨_, rfl, rfl⟩
  · obtain ⟨n, hn31, rfl⟩ := nI_of hn
    by_cases h1 : 100 ≤ n
    · by_cases h9 : n < 900
      · obtain ⟨r, e1, e2, -⟩ := tob hU hM hT (b := n / 100 - 1) (k := n % 100) (by omega) (by omega)
        simp (disch := omega) only [↓r_100, e1, e2, b1E, b2E, bsE, jq0, jq1, jq2, jq3, w_ev, in_ev2, nI_leI, nI_ltI, nI_eq, nI_add, ↓pk_rem, pk_div, pk_sub, pk_mul, ckiT, ckT, ixN, if_pos, if_neg, ↓reduceIte, ckTr, true_or, or_true, false_or, or_false, sI_o, sI_s, pk_un, pk_us, il_0, il_1, il_2, il_3, il_4, il_5, il_6, il_7, il_8, il_9, il_10, il_12, il_16, il_20, il_29, il_30, il_31, il_32, il_33, il_39, il_40, il_43, il_46, il_48, il_50, il_54, il_55, il_57, il_60, il_63, il_64, il_74, il_75, il_97, il_99, il_100, il_126, il_150, il_255, il_256, il_899, il_999, il_9999, il_65537, il_1000000, il_2147483647, jl_0, jl_1, jl_3, jl_5, jl_6, jl_7, jl_8, jl_9, jl_10, jl_29, jl_30, jl_33, jl_39, jl_40, jl_43, jl_48, jl_55, jl_57, jl_99, jl_100, jl_126, jl_255, jl_899, jl_999, jl_9999]
        exact ⟨_, rfl, rfl⟩
      · obtain ⟨r, e1, -, e2⟩ := tob hU hM hT (b := n / 100 - 1) (k := n % 100) (by omega) (by omega)
        simp (disch := omega) only [↓r_100, e1, e2 (by omega), b1E, b2E, bsE, jq0, jq1, jq2, jq3, w_ev, in_ev2, nI_leI, nI_ltI, nI_eq, nI_add, ↓pk_rem, pk_div, pk_sub, pk_mul, ckiT, ckT, ixN, if_pos, if_neg, ↓reduceIte, ckTr, true_or, or_true, false_or, or_false, sI_o, sI_s, pk_un, pk_us, il_0, il_1, il_2, il_3, il_4, il_5, il_6, il_7, il_8, il_9, il_10, il_12, il_16, il_20, il_29, il_30, il_31, il_32, il_33, il_39, il_40, il_43, il_46, il_48, il_50, il_54, il_55, il_57, il_60, il_63, il_64, il_74, il_75, il_97, il_99, il_100, il_126, il_150, il_255, il_256, il_899, il_999, il_9999, il_65537, il_1000000, il_2147483647, jl_0, jl_1, jl_3, jl_5, jl_6, jl_7, jl_8, jl_9, jl_10, jl_29, jl_30, jl_33, jl_39, jl_40, jl_43, jl_48, jl_55, jl_57, jl_99, jl_100, jl_126, jl_255, jl_899, jl_999, jl_9999]
        exact ⟨_, rfl, rfl⟩
    by_cases h2 : 10 ≤ n ∧ n ≤ 39
    · obtain ⟨r, e1, e2⟩ := toc hU hM hT (b := n / 10) (k := n % 10) (by omega) (by omega)
      simp (disch := omega) only [↓r_10, e1, e2, b1E, b2E, bsE, jq0, jq1, jq2, jq3, w_ev, in_ev2, nI_leI, nI_ltI, nI_eq, nI_add, ↓pk_rem, pk_div, pk_sub, pk_mul, ckiT, ckT, ixN, if_pos, if_neg, ↓reduceIte, ckTr, true_or, or_true, false_or, or_false, sI_o, sI_s, pk_un, pk_us, il_0, il_1, il_2, il_3, il_4, il_5, il_6, il_7, il_8, il_9, il_10, il_12, il_16, il_20, il_29, il_30, il_31, il_32, il_33, il_39, il_40, il_43, il_46, il_48, il_50, il_54, il_55, il_57, il_60, il_63, il_64, il_74, il_75, il_97, il_99, il_100, il_126, il_150, il_255, il_256, il_899, il_999, il_9999, il_65537, il_1000000, il_2147483647, jl_0, jl_1, jl_3, jl_5, jl_6, jl_7, jl_8, jl_9, jl_10, jl_29, jl_30, jl_33, jl_39, jl_40, jl_43, jl_48, jl_55, jl_57, jl_99, jl_100, jl_126, jl_255, jl_899, jl_999, jl_9999]
      exact ⟨_, rfl, rfl⟩
    by_cases h3 : 40 ≤ n ∧ n ≤ 43
    · have e : n = 40 ∨ n = 41 ∨ n = 42 ∨ n = 43 := by omega
      rcases e with rfl | rfl | rfl | rfl <;> (simp (disch := omega) only [U_set hU, M_peak hM, b1E, b2E, bsE, jq0, jq1, jq2, jq3, w_ev, in_ev2, nI_leI, nI_ltI, nI_eq, nI_add, ↓pk_rem, pk_div, pk_sub, pk_mul, ckiT, ckT, ixN, if_pos, if_neg, ↓reduceIte, ckTr, true_or, or_true, false_or, or_false, sI_o, sI_s, pk_un, pk_us, il_0, il_1, il_2, il_3, il_4, il_5, il_6, il_7, il_8, il_9, il_10, il_12, il_16, il_20, il_29, il_30, il_31, il_32, il_33, il_39, il_40, il_43, il_46, il_48, il_50, il_54, il_55, il_57, il_60, il_63, il_64, il_74, il_75, il_97, il_99, il_100, il_126, il_150, il_255, il_256, il_899, il_999, il_9999, il_65537, il_1000000, il_2147483647, jl_0, jl_1, jl_3, jl_5, jl_6, jl_7, jl_8, jl_9, jl_10, jl_29, jl_30, jl_33, jl_39, jl_40, jl_43, jl_48, jl_55, jl_57, jl_99, jl_100, jl_126, jl_255, jl_899, jl_999, jl_9999]; exact ⟨_, rfl, rfl⟩)
    by_cases h4 : n < 8
    · have e : n = 0 ∨ n = 1 ∨ n = 2 ∨ n = 3 ∨ n = 4 ∨ n = 5 ∨ n = 6 ∨ n = 7 := by omega
      rcases e with rfl | rfl | rfl | rfl | rfl | rfl | rfl | rfl <;> (simp (disch := omega) only [U_set hU, M_sour hM, M_hands hM, M_ph hM, U_cnt hU, M_cnt hM, U_the hU, M_the hM, U_len hU, M_len hM, U_sc hU, M_sc hM, hP.1, hP.2.2.1, b1E, b2E, bsE, jq0, jq1, jq2, jq3, w_ev, in_ev2, nI_leI, nI_ltI, nI_eq, nI_add, ↓pk_rem, pk_div, pk_sub, pk_mul, ckiT, ckT, ixN, if_pos, if_neg, ↓reduceIte, ckTr, true_or, or_true, false_or, or_false, sI_o, sI_s, pk_un, pk_us, il_0, il_1, il_2, il_3, il_4, il_5, il_6, il_7, il_8, il_9, il_10, il_12, il_16, il_20, il_29, il_30, il_31, il_32, il_33, il_39, il_40, il_43, il_46, il_48, il_50, il_54, il_55, il_57, il_60, il_63, il_64, il_74, il_75, il_97, il_99, il_100, il_126, il_150, il_255, il_256, il_899, il_999, il_9999, il_65537, il_1000000, il_2147483647, jl_0, jl_1, jl_3, jl_5, jl_6, jl_7, jl_8, jl_9, jl_10, jl_29, jl_30, jl_33, jl_39, jl_40, jl_43, jl_48, jl_55, jl_57, jl_99, jl_100, jl_126, jl_255, jl_899, jl_999, jl_9999]; exact ⟨_, rfl, rfl⟩)
    simp (disch := omega) only [b1E, b2E, bsE, jq0, jq1, jq2, jq3, w_ev, in_ev2, nI_leI, nI_ltI, nI_eq, nI_add, ↓pk_rem, pk_div, pk_sub, pk_mul, ckiT, ckT, ixN, if_pos, if_neg, ↓reduceIte, ckTr, true_or, or_true, false_or, or_false, sI_o, sI_s, pk_un, pk_us, il_0, il_1, il_2, il_3, il_4, il_5, il_6, il_7, il_8, il_9, il_10, il_12, il_16, il_20, il_29, il_30, il_31, il_32, il_33, il_39, il_40, il_43, il_46, il_48, il_50, il_54, il_55, il_57, il_60, il_63, il_64, il_74, il_75, il_97, il_99, il_100, il_126, il_150, il_255, il_256, il_899, il_999, il_9999, il_65537, il_1000000, il_2147483647, jl_0, jl_1, jl_3, jl_5, jl_6, jl_7, jl_8, jl_9, jl_10, jl_29, jl_30, jl_33, jl_39, jl_40, jl_43, jl_48, jl_55, jl_57, jl_99, jl_100, jl_126, jl_255, jl_899, jl_999, jl_9999]
    exact ⟨_, rfl, rfl⟩
/-! the first place with a property -/
def fs (p : Nat → Bool) : Nat → Nat
  | 0 => 0
  | n + 1 => if fs p n < n then fs p n else if p n then n else n + 1
theorem fs_none {p : Nat → Bool} : ∀ {n : Nat}, (∀ j, j < n → p j = false) → fs p n = n
  | 0, _ => rfl
  | n + 1, h => by
    unfold fs
    rw [fs_none (fun j hj => h j (by omega)), if_neg (by omega), h n (by omega)]; rfl
theorem fs_hit {p : Nat → Bool} : ∀ {n i : Nat}, i < n → p i = true → (∀ j, j < i → p j = false) → fs p n = i
  | 0, i, hi, _, _ => by omega
  | n + 1, i, hi, hp, hn => by
    unfold fs
    by_cases h9 : i = n
    · subst h9; rw [fs_none hn, if_neg (by omega), if_pos hp]
    · rw [fs_hit (n := n) (i := i) (by omega) hp hn, if_pos (by omega)]
theorem fs_le {p : Nat → Bool} : ∀ {n : Nat}, fs p n ≤ n
  | 0 => Nat.le_refl _
  | n + 1 => by
    unfold fs
    have := fs_le (p := p) (n := n)
    split
    · omega
    · split <;> omega
theorem fs_all {p : Nat → Bool} : ∀ {n : Nat}, ∀ j, j < fs p n → p j = false
  | 0, j, hj => absurd hj (by unfold fs; omega)
  | n + 1, j, hj => by
    unfold fs at hj
    have ih := fs_all (p := p) (n := n)
    have hl := fs_le (p := p) (n := n)
    split at hj
    · exact ih j hj
    · split at hj
      · exact ih j (by omega)
      · rename_i h1 h2
        by_cases h9 : j = n
        · subst h9; exact Bool.eq_false_iff.mpr h2
        · exact ih j (by omega)
theorem fs_at {p : Nat → Bool} : ∀ {n : Nat}, fs p n < n → p (fs p n) = true
  | 0, h => absurd h (by omega)
  | n + 1, h => by
    have hl := fs_le (p := p) (n := n)
    have ih := fs_at (p := p) (n := n)
    unfold fs at h ⊢
    split
    · exact ih (by assumption)
    · rename_i h1
      rw [if_neg h1] at h
      split
      · assumption
      · rename_i h2; rw [if_neg h2] at h; omega
