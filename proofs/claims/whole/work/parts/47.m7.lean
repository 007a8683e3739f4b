/-! ===== writers, second ===== -/
theorem tset_id {t : Nat → Nat → Nat} {c k v : Nat} (h : t c k = v) : tset t c k v = t := by
  funext c2 k2
  by_cases h9 : c2 = c ∧ k2 = k
  · rw [h9.1, h9.2, ts_s, h]
  · rw [ts_o h9]
theorem not_in2 {p : Int32} (h : ¬ (nI 0 ≤ p ∧ p ≤ nI 1)) : ¬ p = nI 0 ∧ ¬ p = nI 1 := ⟨fun e => h (by subst e; decide), fun e => h (by subst e; decide)⟩
theorem ci_0 {u : St} {t : Nat → Nat → Nat} (hU : UT u t 0) (hT : TK t) {c : Nat} (hc : c < 2 ^ 30) : f_X7_countIn u (nI c) (nI 0) = some (nI (cq (lin t c) 8)) := by
  rw [ci_ev hU hT hc (by decide)]
  congr 2
  exact cq_congr (fun i _ => by simp)
theorem s_cellar : Sp_cellar Inv := by
  intro N u m p1 p2 p3 hi0
  obtain ⟨t, hU, hM, hT, hP, hI, hd, hr⟩ := id hi0
  have hc := K_cnt hT
  unfold f_X11_cellar f_X12_cellar f_X11_changeDepth f_X11_changeRoom
  rcases pk_ix p1 (n := t 2 2) (by omega) with h | h | ⟨j, hj, rfl⟩
  · rw [hc_no hU (Or.inl h), ic_no hM hT (Or.inl h)]
    simp (disch := omega) only [b1E, b2E, bsE, jq0, jq1, jq2, jq3, w_ev, in_ev2, nI_leI, nI_ltI, nI_eq, nI_add, ↓pk_rem, pk_div, pk_sub, pk_mul, ckiT, ckT, ixN, if_pos, if_neg, ↓reduceIte, ckTr, true_or, or_true, false_or, or_false, sI_o, sI_s, pk_un, pk_us, il_0, il_1, il_2, il_3, il_4, il_5, il_6, il_7, il_8, il_9, il_10, il_12, il_16, il_20, il_29, il_30, il_31, il_32, il_33, il_39, il_40, il_43, il_46, il_48, il_50, il_54, il_55, il_57, il_60, il_63, il_64, il_74, il_75, il_97, il_99, il_100, il_126, il_150, il_255, il_256, il_899, il_999, il_9999, il_65537, il_1000000, il_2147483647]
    exact ⟨_, _, _, rfl, rfl, hi0⟩
  · rw [hc_no hU (Or.inr h), ic_no hM hT (Or.inr h)]
    simp (disch := omega) only [b1E, b2E, bsE, jq0, jq1, jq2, jq3, w_ev, in_ev2, nI_leI, nI_ltI, nI_eq, nI_add, ↓pk_rem, pk_div, pk_sub, pk_mul, ckiT, ckT, ixN, if_pos, if_neg, ↓reduceIte, ckTr, true_or, or_true, false_or, or_false, sI_o, sI_s, pk_un, pk_us, il_0, il_1, il_2, il_3, il_4, il_5, il_6, il_7, il_8, il_9, il_10, il_12, il_16, il_20, il_29, il_30, il_31, il_32, il_33, il_39, il_40, il_43, il_46, il_48, il_50, il_54, il_55, il_57, il_60, il_63, il_64, il_74, il_75, il_97, il_99, il_100, il_126, il_150, il_255, il_256, il_899, il_999, il_9999, il_65537, il_1000000, il_2147483647]
    exact ⟨_, _, _, rfl, rfl, hi0⟩
  · rw [hc_yes hU hT hj, ic_yes hM hT hj]
    have hq := cq_le (p := lin t j) (n := 8)
    have hro := K_room hT (k := j) (by omega)
    have hde := K_dep hT (k := j) (by omega)
    by_cases h2 : nI 0 ≤ p2 ∧ p2 ≤ nI 1
    · obtain ⟨k, -, hk, rfl⟩ := rng h2 (a := 0) (b := 1) rfl rfl (by decide) (by decide)
      by_cases hk0 : k = 0
      · subst hk0
        by_cases h3 : nI 0 ≤ p3 ∧ p3 ≤ nI 8
        · obtain ⟨v, -, hv, rfl⟩ := rng h3 (a := 0) (b := 8) rfl rfl (by decide) (by decide)
          simp (disch := omega) only [U_dep hU, M_dep hM, M_room hM, b1E, b2E, bsE, jq0, jq1, jq2, jq3, w_ev, in_ev2, nI_leI, nI_ltI, nI_eq, nI_add, ↓pk_rem, pk_div, pk_sub, pk_mul, ckiT, ckT, ixN, if_pos, if_neg, ↓reduceIte, ckTr, true_or, or_true, false_or, or_false, sI_o, sI_s, pk_un, pk_us, il_0, il_1, il_2, il_3, il_4, il_5, il_6, il_7, il_8, il_9, il_10, il_12, il_16, il_20, il_29, il_30, il_31, il_32, il_33, il_39, il_40, il_43, il_46, il_48, il_50, il_54, il_55, il_57, il_60, il_63, il_64, il_74, il_75, il_97, il_99, il_100, il_126, il_150, il_255, il_256, il_899, il_999, il_9999, il_65537, il_1000000, il_2147483647, jl_0, jl_1, jl_3, jl_5, jl_6, jl_7, jl_8, jl_9, jl_10, jl_29, jl_30, jl_33, jl_39, jl_40, jl_43, jl_48, jl_55, jl_57, jl_99, jl_100, jl_126, jl_255, jl_899, jl_999, jl_9999]
          refine ⟨_, _, _, rfl, rfl, Inv_mk (t2 := tset t 3 j v) (UT_s hU 3 j v) ?_ (TK_dep hT hv) hP (ts_o (by omega)) (ts_c (by omega)) hI hd hr (fun c hc => by simp (disch := omega) only [b1E, b2E, bsE, jq0, jq1, jq2, jq3, w_ev, in_ev2, nI_leI, nI_ltI, nI_eq, nI_add, ↓pk_rem, pk_div, pk_sub, pk_mul, ckiT, ckT, ixN, if_pos, if_neg, ↓reduceIte, ckTr, true_or, or_true, false_or, or_false, sI_o, sI_s, pk_un, pk_us, il_0, il_1, il_2, il_3, il_4, il_5, il_6, il_7, il_8, il_9, il_10, il_12, il_16, il_20, il_29, il_30, il_31, il_32, il_33, il_39, il_40, il_43, il_46, il_48, il_50, il_54, il_55, il_57, il_60, il_63, il_64, il_74, il_75, il_97, il_99, il_100, il_126, il_150, il_255, il_256, il_899, il_999, il_9999, il_65537, il_1000000, il_2147483647]) (fun c hc => by simp (disch := omega) only [b1E, b2E, bsE, jq0, jq1, jq2, jq3, w_ev, in_ev2, nI_leI, nI_ltI, nI_eq, nI_add, ↓pk_rem, pk_div, pk_sub, pk_mul, ckiT, ckT, ixN, if_pos, if_neg, ↓reduceIte, ckTr, true_or, or_true, false_or, or_false, sI_o, sI_s, pk_un, pk_us, il_0, il_1, il_2, il_3, il_4, il_5, il_6, il_7, il_8, il_9, il_10, il_12, il_16, il_20, il_29, il_30, il_31, il_32, il_33, il_39, il_40, il_43, il_46, il_48, il_50, il_54, il_55, il_57, il_60, il_63, il_64, il_74, il_75, il_97, il_99, il_100, il_126, il_150, il_255, il_256, il_899, il_999, il_9999, il_65537, il_1000000, il_2147483647]) (by simp (disch := omega) only [b1E, b2E, bsE, jq0, jq1, jq2, jq3, w_ev, in_ev2, nI_leI, nI_ltI, nI_eq, nI_add, ↓pk_rem, pk_div, pk_sub, pk_mul, ckiT, ckT, ixN, if_pos, if_neg, ↓reduceIte, ckTr, true_or, or_true, false_or, or_false, sI_o, sI_s, pk_un, pk_us, il_0, il_1, il_2, il_3, il_4, il_5, il_6, il_7, il_8, il_9, il_10, il_12, il_16, il_20, il_29, il_30, il_31, il_32, il_33, il_39, il_40, il_43, il_46, il_48, il_50, il_54, il_55, il_57, il_60, il_63, il_64, il_74, il_75, il_97, il_99, il_100, il_126, il_150, il_255, il_256, il_899, il_999, il_9999, il_65537, il_1000000, il_2147483647]) (by simp (disch := omega) only [b1E, b2E, bsE, jq0, jq1, jq2, jq3, w_ev, in_ev2, nI_leI, nI_ltI, nI_eq, nI_add, ↓pk_rem, pk_div, pk_sub, pk_mul, ckiT, ckT, ixN, if_pos, if_neg, ↓reduceIte, ckTr, true_or, or_true, false_or, or_false, sI_o, sI_s, pk_un, pk_us, il_0, il_1, il_2, il_3, il_4, il_5, il_6, il_7, il_8, il_9, il_10, il_12, il_16, il_20, il_29, il_30, il_31, il_32, il_33, il_39, il_40, il_43, il_46, il_48, il_50, il_54, il_55, il_57, il_60, il_63, il_64, il_74, il_75, il_97, il_99, il_100, il_126, il_150, il_255, il_256, il_899, il_999, il_9999, il_65537, il_1000000, il_2147483647]) rfl⟩
          have := MT_s (MT_s hM (c := 3) (k := j) (by unfold TD; omega) v rfl rfl) (c := 4) (k := j) (by unfold TD; omega) (t 4 j) rfl rfl
          rwa [tset_id (ts_o (by omega))] at this
        · simp (disch := omega) only [h3, b1E, b2E, bsE, jq0, jq1, jq2, jq3, w_ev, in_ev2, nI_leI, nI_ltI, nI_eq, nI_add, ↓pk_rem, pk_div, pk_sub, pk_mul, ckiT, ckT, ixN, if_pos, if_neg, ↓reduceIte, ckTr, true_or, or_true, false_or, or_false, sI_o, sI_s, pk_un, pk_us, il_0, il_1, il_2, il_3, il_4, il_5, il_6, il_7, il_8, il_9, il_10, il_12, il_16, il_20, il_29, il_30, il_31, il_32, il_33, il_39, il_40, il_43, il_46, il_48, il_50, il_54, il_55, il_57, il_60, il_63, il_64, il_74, il_75, il_97, il_99, il_100, il_126, il_150, il_255, il_256, il_899, il_999, il_9999, il_65537, il_1000000, il_2147483647, jl_0, jl_1, jl_3, jl_5, jl_6, jl_7, jl_8, jl_9, jl_10, jl_29, jl_30, jl_33, jl_39, jl_40, jl_43, jl_48, jl_55, jl_57, jl_99, jl_100, jl_126, jl_255, jl_899, jl_999, jl_9999]
          exact ⟨_, _, _, rfl, rfl, hi0⟩
      · have hk1 : k = 1 := by omega
        subst hk1
        by_cases h3 : nI 1 ≤ p3 ∧ p3 ≤ nI 8
        · obtain ⟨v, hv0, hv, rfl⟩ := rng h3 (a := 1) (b := 8) rfl rfl (by decide) (by decide)
          by_cases h4 : cq (lin t j) 8 ≤ v
          · simp (disch := omega) only [U_room hU, M_room hM, M_dep hM, ci_0 hU hT, li_ev hM hT, b1E, b2E, bsE, jq0, jq1, jq2, jq3, w_ev, in_ev2, nI_leI, nI_ltI, nI_eq, nI_add, ↓pk_rem, pk_div, pk_sub, pk_mul, ckiT, ckT, ixN, if_pos, if_neg, ↓reduceIte, ckTr, true_or, or_true, false_or, or_false, sI_o, sI_s, pk_un, pk_us, il_0, il_1, il_2, il_3, il_4, il_5, il_6, il_7, il_8, il_9, il_10, il_12, il_16, il_20, il_29, il_30, il_31, il_32, il_33, il_39, il_40, il_43, il_46, il_48, il_50, il_54, il_55, il_57, il_60, il_63, il_64, il_74, il_75, il_97, il_99, il_100, il_126, il_150, il_255, il_256, il_899, il_999, il_9999, il_65537, il_1000000, il_2147483647, jl_0, jl_1, jl_3, jl_5, jl_6, jl_7, jl_8, jl_9, jl_10, jl_29, jl_30, jl_33, jl_39, jl_40, jl_43, jl_48, jl_55, jl_57, jl_99, jl_100, jl_126, jl_255, jl_899, jl_999, jl_9999]
            refine ⟨_, _, _, rfl, rfl, Inv_mk (t2 := tset t 4 j v) (UT_s hU 4 j v) ?_ (TK_room hT ⟨hv0, hv⟩ h4) hP (ts_o (by omega)) (ts_c (by omega)) hI hd hr (fun c hc => by simp (disch := omega) only [b1E, b2E, bsE, jq0, jq1, jq2, jq3, w_ev, in_ev2, nI_leI, nI_ltI, nI_eq, nI_add, ↓pk_rem, pk_div, pk_sub, pk_mul, ckiT, ckT, ixN, if_pos, if_neg, ↓reduceIte, ckTr, true_or, or_true, false_or, or_false, sI_o, sI_s, pk_un, pk_us, il_0, il_1, il_2, il_3, il_4, il_5, il_6, il_7, il_8, il_9, il_10, il_12, il_16, il_20, il_29, il_30, il_31, il_32, il_33, il_39, il_40, il_43, il_46, il_48, il_50, il_54, il_55, il_57, il_60, il_63, il_64, il_74, il_75, il_97, il_99, il_100, il_126, il_150, il_255, il_256, il_899, il_999, il_9999, il_65537, il_1000000, il_2147483647]) (fun c hc => by simp (disch := omega) only [b1E, b2E, bsE, jq0, jq1, jq2, jq3, w_ev, in_ev2, nI_leI, nI_ltI, nI_eq, nI_add, ↓pk_rem, pk_div, pk_sub, pk_mul, ckiT, ckT, ixN, if_pos, if_neg, ↓reduceIte, ckTr, true_or, or_true, false_or, or_false, sI_o, sI_s, pk_un, pk_us, il_0, il_1, il_2, il_3, il_4, il_5, il_6, il_7, il_8, il_9, il_10, il_12, il_16, il_20, il_29, il_30, il_31, il_32, il_33, il_39, il_40, il_43, il_46, il_48, il_50, il_54, il_55, il_57, il_60, il_63, il_64, il_74, il_75, il_97, il_99, il_100, il_126, il_150, il_255, il_256, il_899, il_999, il_9999, il_65537, il_1000000, il_2147483647]) (by simp (disch := omega) only [b1E, b2E, bsE, jq0, jq1, jq2, jq3, w_ev, in_ev2, nI_leI, nI_ltI, nI_eq, nI_add, ↓pk_rem, pk_div, pk_sub, pk_mul, ckiT, ckT, ixN, if_pos, if_neg, ↓reduceIte, ckTr, true_or, or_true, false_or, or_false, sI_o, sI_s, pk_un, pk_us, il_0, il_1, il_2, il_3, il_4, il_5, il_6, il_7, il_8, il_9, il_10, il_12, il_16, il_20, il_29, il_30, il_31, il_32, il_33, il_39, il_40, il_43, il_46, il_48, il_50, il_54, il_55, il_57, il_60, il_63, il_64, il_74, il_75, il_97, il_99, il_100, il_126, il_150, il_255, il_256, il_899, il_999, il_9999, il_65537, il_1000000, il_2147483647]) (by simp (disch := omega) only [b1E, b2E, bsE, jq0, jq1, jq2, jq3, w_ev, in_ev2, nI_leI, nI_ltI, nI_eq, nI_add, ↓pk_rem, pk_div, pk_sub, pk_mul, ckiT, ckT, ixN, if_pos, if_neg, ↓reduceIte, ckTr, true_or, or_true, false_or, or_false, sI_o, sI_s, pk_un, pk_us, il_0, il_1, il_2, il_3, il_4, il_5, il_6, il_7, il_8, il_9, il_10, il_12, il_16, il_20, il_29, il_30, il_31, il_32, il_33, il_39, il_40, il_43, il_46, il_48, il_50, il_54, il_55, il_57, il_60, il_63, il_64, il_74, il_75, il_97, il_99, il_100, il_126, il_150, il_255, il_256, il_899, il_999, il_9999, il_65537, il_1000000, il_2147483647]) rfl⟩
            have := MT_s (MT_s hM (c := 3) (k := j) (by unfold TD; omega) (t 3 j) rfl rfl) (c := 4) (k := j) (by unfold TD; omega) v rfl rfl
            rwa [tset_id rfl] at this
          · simp (disch := omega) only [U_room hU, M_room hM, M_dep hM, ci_0 hU hT, li_ev hM hT, b1E, b2E, bsE, jq0, jq1, jq2, jq3, w_ev, in_ev2, nI_leI, nI_ltI, nI_eq, nI_add, ↓pk_rem, pk_div, pk_sub, pk_mul, ckiT, ckT, ixN, if_pos, if_neg, ↓reduceIte, ckTr, true_or, or_true, false_or, or_false, sI_o, sI_s, pk_un, pk_us, il_0, il_1, il_2, il_3, il_4, il_5, il_6, il_7, il_8, il_9, il_10, il_12, il_16, il_20, il_29, il_30, il_31, il_32, il_33, il_39, il_40, il_43, il_46, il_48, il_50, il_54, il_55, il_57, il_60, il_63, il_64, il_74, il_75, il_97, il_99, il_100, il_126, il_150, il_255, il_256, il_899, il_999, il_9999, il_65537, il_1000000, il_2147483647, jl_0, jl_1, jl_3, jl_5, jl_6, jl_7, jl_8, jl_9, jl_10, jl_29, jl_30, jl_33, jl_39, jl_40, jl_43, jl_48, jl_55, jl_57, jl_99, jl_100, jl_126, jl_255, jl_899, jl_999, jl_9999]
            exact ⟨_, _, _, rfl, rfl, hi0⟩
        · simp (disch := omega) only [h3, b1E, b2E, bsE, jq0, jq1, jq2, jq3, w_ev, in_ev2, nI_leI, nI_ltI, nI_eq, nI_add, ↓pk_rem, pk_div, pk_sub, pk_mul, ckiT, ckT, ixN, if_pos, if_neg, ↓reduceIte, ckTr, true_or, or_true, false_or, or_false, sI_o, sI_s, pk_un, pk_us, il_0, il_1, il_2, il_3, il_4, il_5, il_6, il_7, il_8, il_9, il_10, il_12, il_16, il_20, il_29, il_30, il_31, il_32, il_33, il_39, il_40, il_43, il_46, il_48, il_50, il_54, il_55, il_57, il_60, il_63, il_64, il_74, il_75, il_97, il_99, il_100, il_126, il_150, il_255, il_256, il_899, il_999, il_9999, il_65537, il_1000000, il_2147483647, jl_0, jl_1, jl_3, jl_5, jl_6, jl_7, jl_8, jl_9, jl_10, jl_29, jl_30, jl_33, jl_39, jl_40, jl_43, jl_48, jl_55, jl_57, jl_99, jl_100, jl_126, jl_255, jl_899, jl_999, jl_9999]
          exact ⟨_, _, _, rfl, rfl, hi0⟩
    · simp (disch := omega) only [h2, not_in2 h2, b1E, b2E, bsE, jq0, jq1, jq2, jq3, w_ev, in_ev2, nI_leI, nI_ltI, nI_eq, nI_add, ↓pk_rem, pk_div, pk_sub, pk_mul, ckiT, ckT, ixN, if_pos, if_neg, ↓reduceIte, ckTr, true_or, or_true, false_or, or_false, sI_o, sI_s, pk_un, pk_us, il_0, il_1, il_2, il_3, il_4, il_5, il_6, il_7, il_8, il_9, il_10, il_12, il_16, il_20, il_29, il_30, il_31, il_32, il_33, il_39, il_40, il_43, il_46, il_48, il_50, il_54, il_55, il_57, il_60, il_63, il_64, il_74, il_75, il_97, il_99, il_100, il_126, il_150, il_255, il_256, il_899, il_999, il_9999, il_65537, il_1000000, il_2147483647, jl_0, jl_1, jl_3, jl_5, jl_6, jl_7, jl_8, jl_9, jl_10, jl_29, jl_30, jl_33, jl_39, jl_40, jl_43, jl_48, jl_55, jl_57, jl_99, jl_100, jl_126, jl_255, jl_899, jl_999, jl_9999]
      exact ⟨_, _, _, rfl, rfl, hi0⟩
theorem s_drink : Sp_drink Inv := by
  intro N u m p1 hi0
  obtain ⟨t, hU, hM, hT, hP, hI, hd, hr⟩ := id hi0
  have h5 := K_the hT
  unfold f_X11_drink f_X12_drink
  rcases pk_ix p1 (n := 8) (by omega) with h | h | ⟨j, hj, rfl⟩
  · rw [hb_no _ (Or.inl h), ib_no _ (Or.inl h)]
    simp (disch := omega) only [b1E, b2E, bsE, jq0, jq1, jq2, jq3, w_ev, in_ev2, nI_leI, nI_ltI, nI_eq, nI_add, ↓pk_rem, pk_div, pk_sub, pk_mul, ckiT, ckT, ixN, if_pos, if_neg, ↓reduceIte, ckTr, true_or, or_true, false_or, or_false, sI_o, sI_s, pk_un, pk_us, il_0, il_1, il_2, il_3, il_4, il_5, il_6, il_7, il_8, il_9, il_10, il_12, il_16, il_20, il_29, il_30, il_31, il_32, il_33, il_39, il_40, il_43, il_46, il_48, il_50, il_54, il_55, il_57, il_60, il_63, il_64, il_74, il_75, il_97, il_99, il_100, il_126, il_150, il_255, il_256, il_899, il_999, il_9999, il_65537, il_1000000, il_2147483647]
    exact ⟨_, _, _, rfl, rfl, hi0⟩
  · rw [hb_no _ (Or.inr h), ib_no _ (Or.inr h)]
    simp (disch := omega) only [b1E, b2E, bsE, jq0, jq1, jq2, jq3, w_ev, in_ev2, nI_leI, nI_ltI, nI_eq, nI_add, ↓pk_rem, pk_div, pk_sub, pk_mul, ckiT, ckT, ixN, if_pos, if_neg, ↓reduceIte, ckTr, true_or, or_true, false_or, or_false, sI_o, sI_s, pk_un, pk_us, il_0, il_1, il_2, il_3, il_4, il_5, il_6, il_7, il_8, il_9, il_10, il_12, il_16, il_20, il_29, il_30, il_31, il_32, il_33, il_39, il_40, il_43, il_46, il_48, il_50, il_54, il_55, il_57, il_60, il_63, il_64, il_74, il_75, il_97, il_99, il_100, il_126, il_150, il_255, il_256, il_899, il_999, il_9999, il_65537, il_1000000, il_2147483647]
    exact ⟨_, _, _, rfl, rfl, hi0⟩
  · rw [hb_ev hU hT hj, ib_ev hM hT hj, U_the hU, M_the hM]
    by_cases hb : t 5 4 / 2 ^ j % 2 = 1
    · have hs := (set_lt (t 5 4) h5 j hj).2
      have hbt := fun i hi => (set_bit (t 5 4) h5 j hj i hi).2
      simp (disch := omega) only [anN, hb, b1E, b2E, bsE, jq0, jq1, jq2, jq3, w_ev, in_ev2, nI_leI, nI_ltI, nI_eq, nI_add, ↓pk_rem, pk_div, pk_sub, pk_mul, ckiT, ckT, ixN, if_pos, if_neg, ↓reduceIte, ckTr, true_or, or_true, false_or, or_false, sI_o, sI_s, pk_un, pk_us, il_0, il_1, il_2, il_3, il_4, il_5, il_6, il_7, il_8, il_9, il_10, il_12, il_16, il_20, il_29, il_30, il_31, il_32, il_33, il_39, il_40, il_43, il_46, il_48, il_50, il_54, il_55, il_57, il_60, il_63, il_64, il_74, il_75, il_97, il_99, il_100, il_126, il_150, il_255, il_256, il_899, il_999, il_9999, il_65537, il_1000000, il_2147483647]
      rw [bc_ev hs, on_ev hs]
      simp (disch := omega) only [b1E, b2E, bsE, jq0, jq1, jq2, jq3, w_ev, in_ev2, nI_leI, nI_ltI, nI_eq, nI_add, ↓pk_rem, pk_div, pk_sub, pk_mul, ckiT, ckT, ixN, if_pos, if_neg, ↓reduceIte, ckTr, true_or, or_true, false_or, or_false, sI_o, sI_s, pk_un, pk_us, il_0, il_1, il_2, il_3, il_4, il_5, il_6, il_7, il_8, il_9, il_10, il_12, il_16, il_20, il_29, il_30, il_31, il_32, il_33, il_39, il_40, il_43, il_46, il_48, il_50, il_54, il_55, il_57, il_60, il_63, il_64, il_74, il_75, il_97, il_99, il_100, il_126, il_150, il_255, il_256, il_899, il_999, il_9999, il_65537, il_1000000, il_2147483647]
      refine ⟨_, _, _, rfl, rfl, Inv_set hU hM hP hI hd hr (c := 5) (k := 4) (by unfold TD; omega) ?_⟩
      obtain ⟨a1, a2, a3, a4, a5, a6, a7, a8, a9, a10, a11, a12, a13⟩ := hT
      refine ⟨by simpa [tset] using a1, by simpa [tset] using a2, by simpa [tset] using a3, by simpa [tset] using a4, by simpa [tset] using hs, by simpa [tset] using a6, ?_, by simpa [tset] using a8, by simpa [tset] using a9, by simpa [tset] using a10, by simpa [tset] using a11, by simpa [tset] using a12, ?_⟩
      · intro b hb8 hh
        unfold bt at hh
        rw [ts_s, hbt b hb8] at hh
        rw [ts_o (by omega), ts_o (by omega), ts_o (by omega)]
        refine a7 b hb8 ?_
        unfold bt
        by_cases h9 : b = j
        · rw [if_pos h9] at hh; omega
        · rw [if_neg h9] at hh; exact hh
      · intro c hc
        rw [ts_o (by omega)] at hc ⊢
        refine Nat.le_trans (cq_mono ?_) (a13 c hc)
        intro i hi
        unfold lin
        rw [ts_s, ts_o (by omega), hbt i hi]
        by_cases h9 : i = j
        · rw [if_pos h9]; simp
        · rw [if_neg h9]; exact id
    · simp (disch := omega) only [hb, b1E, b2E, bsE, jq0, jq1, jq2, jq3, w_ev, in_ev2, nI_leI, nI_ltI, nI_eq, nI_add, ↓pk_rem, pk_div, pk_sub, pk_mul, ckiT, ckT, ixN, if_pos, if_neg, ↓reduceIte, ckTr, true_or, or_true, false_or, or_false, sI_o, sI_s, pk_un, pk_us, il_0, il_1, il_2, il_3, il_4, il_5, il_6, il_7, il_8, il_9, il_10, il_12, il_16, il_20, il_29, il_30, il_31, il_32, il_33, il_39, il_40, il_43, il_46, il_48, il_50, il_54, il_55, il_57, il_60, il_63, il_64, il_74, il_75, il_97, il_99, il_100, il_126, il_150, il_255, il_256, il_899, il_999, il_9999, il_65537, il_1000000, il_2147483647]
      exact ⟨_, _, _, rfl, rfl, hi0⟩
