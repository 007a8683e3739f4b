/-! ===== the pad ===== -/
def ftP (t : Nat → Nat → Nat) : Nat → Bool := fun i => decide (30 ≤ i) || !decide (48 ≤ t 19 i ∧ t 19 i ≤ 57)
def ftV (t : Nat → Nat → Nat) : Int32 := if fs (ftP t) (t 18 1) < t 18 1 then nI (fs (ftP t) (t 18 1)) else if t 18 1 = 0 then nI 0 else -nI 6
section PA
variable {u m : St} {t : Nat → Nat → Nat}
theorem ftC (hP : PD u m t) : f_X3_faultAsTable u = some (ftV t) := by
  have h60 := hP.2.2.2.2.1
  have h19 := hP.2.2.2.2.2
  unfold f_X3_faultAsTable
  simp (disch := omega) only [hP.1, b1E, b2E, bsE, jq0, jq1, jq2, jq3, w_ev, in_ev2, nI_leI, nI_ltI, nI_eq, nI_add, ↓pk_rem, pk_div, pk_sub, pk_mul, ckiT, ckT, ixN, if_pos, if_neg, ↓reduceIte, ckTr, true_or, or_true, false_or, or_false, sI_o, sI_s, pk_un, pk_us, il_0, il_1, il_2, il_3, il_4, il_5, il_6, il_7, il_8, il_9, il_10, il_12, il_16, il_20, il_29, il_30, il_31, il_32, il_33, il_39, il_40, il_43, il_46, il_48, il_50, il_54, il_55, il_57, il_60, il_63, il_64, il_74, il_75, il_97, il_99, il_100, il_126, il_150, il_255, il_256, il_899, il_999, il_9999, il_65537, il_1000000, il_2147483647]
  refine mw_1 (P := fun i (y : Int32) => y = nI i ∧ ∀ j, j < i → ftP t j = false) (Q := fun o => o = some (ftV t)) (t 18 1) ?_ ?_ (FU_lt (by omega)) ⟨rfl, fun j hj => absurd hj (by omega)⟩
  · rintro i y hi ⟨rfl, hn⟩
    have hi9 := h19 i (by omega)
    unfold B_X3_faultAsTable_2
    by_cases hp : ftP t i = true
    · refine Or.inr fun rec => ?_
      have e : ftV t = nI i := by unfold ftV; rw [fs_hit hi hp hn, if_pos hi]
      by_cases h3 : 30 ≤ i
      · simp (disch := omega) only [hP.1, e, b1E, b2E, bsE, jq0, jq1, jq2, jq3, w_ev, in_ev2, nI_leI, nI_ltI, nI_eq, nI_add, ↓pk_rem, pk_div, pk_sub, pk_mul, ckiT, ckT, ixN, if_pos, if_neg, ↓reduceIte, ckTr, true_or, or_true, false_or, or_false, sI_o, sI_s, pk_un, pk_us, il_0, il_1, il_2, il_3, il_4, il_5, il_6, il_7, il_8, il_9, il_10, il_12, il_16, il_20, il_29, il_30, il_31, il_32, il_33, il_39, il_40, il_43, il_46, il_48, il_50, il_54, il_55, il_57, il_60, il_63, il_64, il_74, il_75, il_97, il_99, il_100, il_126, il_150, il_255, il_256, il_899, il_999, il_9999, il_65537, il_1000000, il_2147483647]
      · simp only [ftP, h3, decide_false, Bool.false_or, Bool.not_eq_true', decide_eq_false_iff_not] at hp
        simp (disch := omega) only [hP.1, hP.2.1, e, b1E, b2E, bsE, jq0, jq1, jq2, jq3, w_ev, in_ev2, nI_leI, nI_ltI, nI_eq, nI_add, ↓pk_rem, pk_div, pk_sub, pk_mul, ckiT, ckT, ixN, if_pos, if_neg, ↓reduceIte, ckTr, true_or, or_true, false_or, or_false, sI_o, sI_s, pk_un, pk_us, il_0, il_1, il_2, il_3, il_4, il_5, il_6, il_7, il_8, il_9, il_10, il_12, il_16, il_20, il_29, il_30, il_31, il_32, il_33, il_39, il_40, il_43, il_46, il_48, il_50, il_54, il_55, il_57, il_60, il_63, il_64, il_74, il_75, il_97, il_99, il_100, il_126, il_150, il_255, il_256, il_899, il_999, il_9999, il_65537, il_1000000, il_2147483647]
    · have hp' := Bool.eq_false_iff.mpr hp
      refine Or.inl ⟨_, fun rec => ?_, ⟨rfl, fun j hj => ?_⟩⟩
      · simp only [ftP, Bool.or_eq_true, decide_eq_true_eq, Bool.not_eq_true', decide_eq_false_iff_not, not_or, Decidable.not_not] at hp
        simp (disch := omega) only [hP.1, hP.2.1, b1E, b2E, bsE, jq0, jq1, jq2, jq3, w_ev, in_ev2, nI_leI, nI_ltI, nI_eq, nI_add, ↓pk_rem, pk_div, pk_sub, pk_mul, ckiT, ckT, ixN, if_pos, if_neg, ↓reduceIte, ckTr, true_or, or_true, false_or, or_false, sI_o, sI_s, pk_un, pk_us, il_0, il_1, il_2, il_3, il_4, il_5, il_6, il_7, il_8, il_9, il_10, il_12, il_16, il_20, il_29, il_30, il_31, il_32, il_33, il_39, il_40, il_43, il_46, il_48, il_50, il_54, il_55, il_57, il_60, il_63, il_64, il_74, il_75, il_97, il_99, il_100, il_126, il_150, il_255, il_256, il_899, il_999, il_9999, il_65537, il_1000000, il_2147483647]
      · by_cases h9 : j = i
        · subst h9; exact hp'
        · exact hn j (by omega)
  · rintro y ⟨rfl, hn⟩ rec
    unfold B_X3_faultAsTable_2 ftV
    rw [fs_none hn]
    simp (disch := omega) only [hP.1, b1E, b2E, bsE, jq0, jq1, jq2, jq3, w_ev, in_ev2, nI_leI, nI_ltI, nI_eq, nI_add, ↓pk_rem, pk_div, pk_sub, pk_mul, ckiT, ckT, ixN, if_pos, if_neg, ↓reduceIte, ckTr, true_or, or_true, false_or, or_false, sI_o, sI_s, pk_un, pk_us, il_0, il_1, il_2, il_3, il_4, il_5, il_6, il_7, il_8, il_9, il_10, il_12, il_16, il_20, il_29, il_30, il_31, il_32, il_33, il_39, il_40, il_43, il_46, il_48, il_50, il_54, il_55, il_57, il_60, il_63, il_64, il_74, il_75, il_97, il_99, il_100, il_126, il_150, il_255, il_256, il_899, il_999, il_9999, il_65537, il_1000000, il_2147483647]
    split <;> rfl
theorem ftM (hP : PD u m t) : f_X12_faultOfTable m = some (ftV t) := by
  have h60 := hP.2.2.2.2.1
  have h19 := hP.2.2.2.2.2
  unfold f_X12_faultOfTable
  simp (disch := omega) only [hP.2.2.1, b1E, b2E, bsE, jq0, jq1, jq2, jq3, w_ev, in_ev2, nI_leI, nI_ltI, nI_eq, nI_add, ↓pk_rem, pk_div, pk_sub, pk_mul, ckiT, ckT, ixN, if_pos, if_neg, ↓reduceIte, ckTr, true_or, or_true, false_or, or_false, sI_o, sI_s, pk_un, pk_us, il_0, il_1, il_2, il_3, il_4, il_5, il_6, il_7, il_8, il_9, il_10, il_12, il_16, il_20, il_29, il_30, il_31, il_32, il_33, il_39, il_40, il_43, il_46, il_48, il_50, il_54, il_55, il_57, il_60, il_63, il_64, il_74, il_75, il_97, il_99, il_100, il_126, il_150, il_255, il_256, il_899, il_999, il_9999, il_65537, il_1000000, il_2147483647]
  refine mw_1 (P := fun i (y : Int32) => y = nI i ∧ ∀ j, j < i → ftP t j = false) (Q := fun o => o = some (ftV t)) (t 18 1) ?_ ?_ (FU_lt (by omega)) ⟨rfl, fun j hj => absurd hj (by omega)⟩
  · rintro i y hi ⟨rfl, hn⟩
    have hi9 := h19 i (by omega)
    have h30 : i ≤ 30 := by
      rcases Nat.lt_or_ge 30 i with h | h
      · have := hn 30 h; simp [ftP] at this
      · exact h
    unfold B_X12_faultOfTable_2
    by_cases hp : ftP t i = true
    · refine Or.inr fun rec => ?_
      have e : ftV t = nI i := by unfold ftV; rw [fs_hit hi hp hn, if_pos hi]
      by_cases h3 : i = 30
      · simp (disch := omega) only [hP.2.2.1, e, b1E, b2E, bsE, jq0, jq1, jq2, jq3, w_ev, in_ev2, nI_leI, nI_ltI, nI_eq, nI_add, ↓pk_rem, pk_div, pk_sub, pk_mul, ckiT, ckT, ixN, if_pos, if_neg, ↓reduceIte, ckTr, true_or, or_true, false_or, or_false, sI_o, sI_s, pk_un, pk_us, il_0, il_1, il_2, il_3, il_4, il_5, il_6, il_7, il_8, il_9, il_10, il_12, il_16, il_20, il_29, il_30, il_31, il_32, il_33, il_39, il_40, il_43, il_46, il_48, il_50, il_54, il_55, il_57, il_60, il_63, il_64, il_74, il_75, il_97, il_99, il_100, il_126, il_150, il_255, il_256, il_899, il_999, il_9999, il_65537, il_1000000, il_2147483647, jl_0, jl_1, jl_3, jl_5, jl_6, jl_7, jl_8, jl_9, jl_10, jl_29, jl_30, jl_33, jl_39, jl_40, jl_43, jl_48, jl_55, jl_57, jl_99, jl_100, jl_126, jl_255, jl_899, jl_999, jl_9999]
      · simp only [ftP, show ¬ 30 ≤ i by omega, decide_false, Bool.false_or, Bool.not_eq_true', decide_eq_false_iff_not] at hp
        simp (disch := omega) only [hP.2.2.1, hP.2.2.2.1, e, b1E, b2E, bsE, jq0, jq1, jq2, jq3, w_ev, in_ev2, nI_leI, nI_ltI, nI_eq, nI_add, ↓pk_rem, pk_div, pk_sub, pk_mul, ckiT, ckT, ixN, if_pos, if_neg, ↓reduceIte, ckTr, true_or, or_true, false_or, or_false, sI_o, sI_s, pk_un, pk_us, il_0, il_1, il_2, il_3, il_4, il_5, il_6, il_7, il_8, il_9, il_10, il_12, il_16, il_20, il_29, il_30, il_31, il_32, il_33, il_39, il_40, il_43, il_46, il_48, il_50, il_54, il_55, il_57, il_60, il_63, il_64, il_74, il_75, il_97, il_99, il_100, il_126, il_150, il_255, il_256, il_899, il_999, il_9999, il_65537, il_1000000, il_2147483647, jl_0, jl_1, jl_3, jl_5, jl_6, jl_7, jl_8, jl_9, jl_10, jl_29, jl_30, jl_33, jl_39, jl_40, jl_43, jl_48, jl_55, jl_57, jl_99, jl_100, jl_126, jl_255, jl_899, jl_999, jl_9999]
    · have hp' := Bool.eq_false_iff.mpr hp
      refine Or.inl ⟨_, fun rec => ?_, ⟨rfl, fun j hj => ?_⟩⟩
      · simp only [ftP, Bool.or_eq_true, decide_eq_true_eq, Bool.not_eq_true', decide_eq_false_iff_not, not_or, Decidable.not_not] at hp
        simp (disch := omega) only [hP.2.2.1, hP.2.2.2.1, b1E, b2E, bsE, jq0, jq1, jq2, jq3, w_ev, in_ev2, nI_leI, nI_ltI, nI_eq, nI_add, ↓pk_rem, pk_div, pk_sub, pk_mul, ckiT, ckT, ixN, if_pos, if_neg, ↓reduceIte, ckTr, true_or, or_true, false_or, or_false, sI_o, sI_s, pk_un, pk_us, il_0, il_1, il_2, il_3, il_4, il_5, il_6, il_7, il_8, il_9, il_10, il_12, il_16, il_20, il_29, il_30, il_31, il_32, il_33, il_39, il_40, il_43, il_46, il_48, il_50, il_54, il_55, il_57, il_60, il_63, il_64, il_74, il_75, il_97, il_99, il_100, il_126, il_150, il_255, il_256, il_899, il_999, il_9999, il_65537, il_1000000, il_2147483647, jl_0, jl_1, jl_3, jl_5, jl_6, jl_7, jl_8, jl_9, jl_10, jl_29, jl_30, jl_33, jl_39, jl_40, jl_43, jl_48, jl_55, jl_57, jl_99, jl_100, jl_126, jl_255, jl_899, jl_999, jl_9999]
      · by_cases h9 : j = i
        · subst h9; exact hp'
        · exact hn j (by omega)
  · rintro y ⟨rfl, hn⟩ rec
    unfold B_X12_faultOfTable_2 ftV
    rw [fs_none hn]
    simp (disch := omega) only [hP.2.2.1, b1E, b2E, bsE, jq0, jq1, jq2, jq3, w_ev, in_ev2, nI_leI, nI_ltI, nI_eq, nI_add, ↓pk_rem, pk_div, pk_sub, pk_mul, ckiT, ckT, ixN, if_pos, if_neg, ↓reduceIte, ckTr, true_or, or_true, false_or, or_false, sI_o, sI_s, pk_un, pk_us, il_0, il_1, il_2, il_3, il_4, il_5, il_6, il_7, il_8, il_9, il_10, il_12, il_16, il_20, il_29, il_30, il_31, il_32, il_33, il_39, il_40, il_43, il_46, il_48, il_50, il_54, il_55, il_57, il_60, il_63, il_64, il_74, il_75, il_97, il_99, il_100, il_126, il_150, il_255, il_256, il_899, il_999, il_9999, il_65537, il_1000000, il_2147483647]
    split <;> rfl
/-- a letter is due -/
def du (t : Nat → Nat → Nat) : Nat → Bool
  | 0 => false
  | i + 1 => !du t i && !decide (t 19 i = 46)
def fmP (t : Nat → Nat → Nat) : Nat → Bool := fun i => if du t i then !decide (97 ≤ t 19 i ∧ t 19 i ≤ 96 + t 2 2) else !decide (t 19 i = 46 ∨ (48 ≤ t 19 i ∧ t 19 i ≤ 55))
def fmV (t : Nat → Nat → Nat) : Int32 := if fs (fmP t) (t 18 1) < t 18 1 then nI (fs (fmP t) (t 18 1)) else if du t (t 18 1) then nI (t 18 1) else -nI 6
def bI (b : Bool) : Int32 := if b then nI 1 else nI 0
theorem bI_0 {b : Bool} : (bI b = nI 0) ↔ b = false := by cases b <;> decide
theorem fmC (hP : PD u m t) (hT : TK t) : f_X3_faultAsMoves u (nI (t 2 2)) = some (fmV t) := by
  have h60 := hP.2.2.2.2.1
  have h19 := hP.2.2.2.2.2
  have hc := K_cnt hT
  unfold f_X3_faultAsMoves
  simp (disch := omega) only [hP.1, b1E, b2E, bsE, jq0, jq1, jq2, jq3, w_ev, in_ev2, nI_leI, nI_ltI, nI_eq, nI_add, ↓pk_rem, pk_div, pk_sub, pk_mul, ckiT, ckT, ixN, if_pos, if_neg, ↓reduceIte, ckTr, true_or, or_true, false_or, or_false, sI_o, sI_s, pk_un, pk_us, il_0, il_1, il_2, il_3, il_4, il_5, il_6, il_7, il_8, il_9, il_10, il_12, il_16, il_20, il_29, il_30, il_31, il_32, il_33, il_39, il_40, il_43, il_46, il_48, il_50, il_54, il_55, il_57, il_60, il_63, il_64, il_74, il_75, il_97, il_99, il_100, il_126, il_150, il_255, il_256, il_899, il_999, il_9999, il_65537, il_1000000, il_2147483647]
  refine mw_2 (P := fun i (x y : Int32) => y = nI i ∧ x = bI (du t i) ∧ ∀ j, j < i → fmP t j = false) (Q := fun o => o = some (fmV t)) (t 18 1) ?_ ?_ (FU_lt (by omega)) ⟨rfl, rfl, fun j hj => absurd hj (by omega)⟩
  · rintro i x y hi ⟨rfl, rfl, hn⟩
    have hi9 := h19 i (by omega)
    unfold B_X3_faultAsMoves_4 f_X3_isBarrel
    by_cases hp : fmP t i = true
    · refine Or.inr fun rec => ?_
      have e : fmV t = nI i := by unfold fmV; rw [fs_hit hi hp hn, if_pos hi]
      cases hdu : du t i with
      | true =>
        simp only [fmP, hdu, if_true, Bool.not_eq_true', decide_eq_false_iff_not] at hp
        simp (disch := omega) only [hP.1, hP.2.1, e, bI, b1E, b2E, bsE, jq0, jq1, jq2, jq3, w_ev, in_ev2, nI_leI, nI_ltI, nI_eq, nI_add, ↓pk_rem, pk_div, pk_sub, pk_mul, ckiT, ckT, ixN, if_pos, if_neg, ↓reduceIte, ckTr, true_or, or_true, false_or, or_false, sI_o, sI_s, pk_un, pk_us, il_0, il_1, il_2, il_3, il_4, il_5, il_6, il_7, il_8, il_9, il_10, il_12, il_16, il_20, il_29, il_30, il_31, il_32, il_33, il_39, il_40, il_43, il_46, il_48, il_50, il_54, il_55, il_57, il_60, il_63, il_64, il_74, il_75, il_97, il_99, il_100, il_126, il_150, il_255, il_256, il_899, il_999, il_9999, il_65537, il_1000000, il_2147483647]
      | false =>
        simp only [fmP, hdu, Bool.false_eq_true, if_false, Bool.not_eq_true', decide_eq_false_iff_not] at hp
        simp (disch := omega) only [hP.1, hP.2.1, e, bI, Bool.false_eq_true, b1E, b2E, bsE, jq0, jq1, jq2, jq3, w_ev, in_ev2, nI_leI, nI_ltI, nI_eq, nI_add, ↓pk_rem, pk_div, pk_sub, pk_mul, ckiT, ckT, ixN, if_pos, if_neg, ↓reduceIte, ckTr, true_or, or_true, false_or, or_false, sI_o, sI_s, pk_un, pk_us, il_0, il_1, il_2, il_3, il_4, il_5, il_6, il_7, il_8, il_9, il_10, il_12, il_16, il_20, il_29, il_30, il_31, il_32, il_33, il_39, il_40, il_43, il_46, il_48, il_50, il_54, il_55, il_57, il_60, il_63, il_64, il_74, il_75, il_97, il_99, il_100, il_126, il_150, il_255, il_256, il_899, il_999, il_9999, il_65537, il_1000000, il_2147483647]
    · have hp' := Bool.eq_false_iff.mpr hp
      cases hdu : du t i with
      | true =>
        simp only [fmP, hdu, if_true, Bool.not_eq_true', decide_eq_false_iff_not, Decidable.not_not] at hp
        refine Or.inl ⟨_, _, fun rec => ?_, ⟨rfl, rfl, fun j hj => ?_⟩⟩
        rotate_left
        · by_cases h9 : j = i
          · subst h9; exact hp'
          · exact hn j (by omega)
        · simp only [du, hdu, Bool.not_true, Bool.false_and]
          simp (disch := omega) only [hP.1, hP.2.1, bI, Bool.false_eq_true, b1E, b2E, bsE, jq0, jq1, jq2, jq3, w_ev, in_ev2, nI_leI, nI_ltI, nI_eq, nI_add, ↓pk_rem, pk_div, pk_sub, pk_mul, ckiT, ckT, ixN, if_pos, if_neg, ↓reduceIte, ckTr, true_or, or_true, false_or, or_false, sI_o, sI_s, pk_un, pk_us, il_0, il_1, il_2, il_3, il_4, il_5, il_6, il_7, il_8, il_9, il_10, il_12, il_16, il_20, il_29, il_30, il_31, il_32, il_33, il_39, il_40, il_43, il_46, il_48, il_50, il_54, il_55, il_57, il_60, il_63, il_64, il_74, il_75, il_97, il_99, il_100, il_126, il_150, il_255, il_256, il_899, il_999, il_9999, il_65537, il_1000000, il_2147483647]
      | false =>
        simp only [fmP, hdu, Bool.false_eq_true, if_false, Bool.not_eq_true', decide_eq_false_iff_not, Decidable.not_not] at hp
        refine Or.inl ⟨_, _, fun rec => ?_, ⟨rfl, rfl, fun j hj => ?_⟩⟩
        rotate_left
        · by_cases h9 : j = i
          · subst h9; exact hp'
          · exact hn j (by omega)
        · simp only [du, hdu, Bool.not_false, Bool.true_and]
          by_cases h46 : t 19 i = 46
          · simp (disch := omega) only [hP.1, hP.2.1, bI, Bool.false_eq_true, h46, decide_true, Bool.not_true, b1E, b2E, bsE, jq0, jq1, jq2, jq3, w_ev, in_ev2, nI_leI, nI_ltI, nI_eq, nI_add, ↓pk_rem, pk_div, pk_sub, pk_mul, ckiT, ckT, ixN, if_pos, if_neg, ↓reduceIte, ckTr, true_or, or_true, false_or, or_false, sI_o, sI_s, pk_un, pk_us, il_0, il_1, il_2, il_3, il_4, il_5, il_6, il_7, il_8, il_9, il_10, il_12, il_16, il_20, il_29, il_30, il_31, il_32, il_33, il_39, il_40, il_43, il_46, il_48, il_50, il_54, il_55, il_57, il_60, il_63, il_64, il_74, il_75, il_97, il_99, il_100, il_126, il_150, il_255, il_256, il_899, il_999, il_9999, il_65537, il_1000000, il_2147483647]
          · simp (disch := omega) only [hP.1, hP.2.1, bI, Bool.false_eq_true, h46, decide_false, Bool.not_false, b1E, b2E, bsE, jq0, jq1, jq2, jq3, w_ev, in_ev2, nI_leI, nI_ltI, nI_eq, nI_add, ↓pk_rem, pk_div, pk_sub, pk_mul, ckiT, ckT, ixN, if_pos, if_neg, ↓reduceIte, ckTr, true_or, or_true, false_or, or_false, sI_o, sI_s, pk_un, pk_us, il_0, il_1, il_2, il_3, il_4, il_5, il_6, il_7, il_8, il_9, il_10, il_12, il_16, il_20, il_29, il_30, il_31, il_32, il_33, il_39, il_40, il_43, il_46, il_48, il_50, il_54, il_55, il_57, il_60, il_63, il_64, il_74, il_75, il_97, il_99, il_100, il_126, il_150, il_255, il_256, il_899, il_999, il_9999, il_65537, il_1000000, il_2147483647]
  · rintro x y ⟨rfl, rfl, hn⟩ rec
    unfold B_X3_faultAsMoves_4 fmV
    rw [fs_none hn]
    cases hdu : du t (t 18 1) <;> simp (disch := omega) only [hP.1, bI, Bool.false_eq_true, b1E, b2E, bsE, jq0, jq1, jq2, jq3, w_ev, in_ev2, nI_leI, nI_ltI, nI_eq, nI_add, ↓pk_rem, pk_div, pk_sub, pk_mul, ckiT, ckT, ixN, if_pos, if_neg, ↓reduceIte, ckTr, true_or, or_true, false_or, or_false, sI_o, sI_s, pk_un, pk_us, il_0, il_1, il_2, il_3, il_4, il_5, il_6, il_7, il_8, il_9, il_10, il_12, il_16, il_20, il_29, il_30, il_31, il_32, il_33, il_39, il_40, il_43, il_46, il_48, il_50, il_54, il_55, il_57, il_60, il_63, il_64, il_74, il_75, il_97, il_99, il_100, il_126, il_150, il_255, il_256, il_899, il_999, il_9999, il_65537, il_1000000, il_2147483647]
theorem ic_97 (hM : MT m t) (hT : TK t) {s : Nat} (hs : s ≤ 126) : f_X12_isCellar m (nI s - nI 97) = some (bI (decide (97 ≤ s ∧ s ≤ 96 + t 2 2))) := by
  have hc := K_cnt hT
  by_cases h : 97 ≤ s
  · rw [pk_sub h]
    by_cases h2 : s ≤ 96 + t 2 2
    · rw [ic_yes hM hT (by omega)]; simp [h, h2, bI]; rfl
    · rw [ic_no hM hT (Or.inr (nI_le (by omega) (by omega)))]; simp [h2, bI]; rfl
  · rw [ic_no hM hT (Or.inl (pk_sneg (by omega) (by omega)))]; simp [h, bI]; rfl
theorem fmM (hM : MT m t) (hP : PD u m t) (hT : TK t) : f_X12_faultOfMoves m = some (fmV t) := by
  have h60 := hP.2.2.2.2.1
  have h19 := hP.2.2.2.2.2
  have hc := K_cnt hT
  unfold f_X12_faultOfMoves
  simp (disch := omega) only [hP.2.2.1, b1E, b2E, bsE, jq0, jq1, jq2, jq3, w_ev, in_ev2, nI_leI, nI_ltI, nI_eq, nI_add, ↓pk_rem, pk_div, pk_sub, pk_mul, ckiT, ckT, ixN, if_pos, if_neg, ↓reduceIte, ckTr, true_or, or_true, false_or, or_false, sI_o, sI_s, pk_un, pk_us, il_0, il_1, il_2, il_3, il_4, il_5, il_6, il_7, il_8, il_9, il_10, il_12, il_16, il_20, il_29, il_30, il_31, il_32, il_33, il_39, il_40, il_43, il_46, il_48, il_50, il_54, il_55, il_57, il_60, il_63, il_64, il_74, il_75, il_97, il_99, il_100, il_126, il_150, il_255, il_256, il_899, il_999, il_9999, il_65537, il_1000000, il_2147483647]
  refine mw_2 (P := fun i (x y : Int32) => y = nI i ∧ x = bI (du t i) ∧ ∀ j, j < i → fmP t j = false) (Q := fun o => o = some (fmV t)) (t 18 1) ?_ ?_ (FU_lt (by omega)) ⟨rfl, rfl, fun j hj => absurd hj (by omega)⟩
  · rintro i x y hi ⟨rfl, rfl, hn⟩
    have hi9 := h19 i (by omega)
    unfold B_X12_faultOfMoves_4
    by_cases hp : fmP t i = true
    · refine Or.inr fun rec => ?_
      have e : fmV t = nI i := by unfold fmV; rw [fs_hit hi hp hn, if_pos hi]
      cases hdu : du t i with
      | true =>
        simp only [fmP, hdu, if_true, Bool.not_eq_true', decide_eq_false_iff_not] at hp
        simp (disch := omega) only [hP.2.2.1, hP.2.2.2.1, e, bI, ic_97 hM hT, hp, decide_false, Bool.false_eq_true, b1E, b2E, bsE, jq0, jq1, jq2, jq3, w_ev, in_ev2, nI_leI, nI_ltI, nI_eq, nI_add, ↓pk_rem, pk_div, pk_mul, ckiT, ckT, ixN, if_pos, if_neg, ↓reduceIte, ckTr, true_or, or_true, false_or, or_false, sI_o, sI_s, pk_un, pk_us, il_0, il_1, il_2, il_3, il_4, il_5, il_6, il_7, il_8, il_9, il_10, il_12, il_16, il_20, il_29, il_30, il_31, il_32, il_33, il_39, il_40, il_43, il_46, il_48, il_50, il_54, il_55, il_57, il_60, il_63, il_64, il_74, il_75, il_97, il_99, il_100, il_126, il_150, il_255, il_256, il_899, il_999, il_9999, il_65537, il_1000000, il_2147483647, jl_0, jl_1, jl_3, jl_5, jl_6, jl_7, jl_8, jl_9, jl_10, jl_29, jl_30, jl_33, jl_39, jl_40, jl_43, jl_48, jl_55, jl_57, jl_99, jl_100, jl_126, jl_255, jl_899, jl_999, jl_9999]
      | false =>
        simp only [fmP, hdu, Bool.false_eq_true, if_false, Bool.not_eq_true', decide_eq_false_iff_not] at hp
        simp (disch := omega) only [hP.2.2.1, hP.2.2.2.1, e, bI, Bool.false_eq_true, b1E, b2E, bsE, jq0, jq1, jq2, jq3, w_ev, in_ev2, nI_leI, nI_ltI, nI_eq, nI_add, ↓pk_rem, pk_div, pk_mul, ckiT, ckT, ixN, if_pos, if_neg, ↓reduceIte, ckTr, true_or, or_true, false_or, or_false, sI_o, sI_s, pk_un, pk_us, il_0, il_1, il_2, il_3, il_4, il_5, il_6, il_7, il_8, il_9, il_10, il_12, il_16, il_20, il_29, il_30, il_31, il_32, il_33, il_39, il_40, il_43, il_46, il_48, il_50, il_54, il_55, il_57, il_60, il_63, il_64, il_74, il_75, il_97, il_99, il_100, il_126, il_150, il_255, il_256, il_899, il_999, il_9999, il_65537, il_1000000, il_2147483647, jl_0, jl_1, jl_3, jl_5, jl_6, jl_7, jl_8, jl_9, jl_10, jl_29, jl_30, jl_33, jl_39, jl_40, jl_43, jl_48, jl_55, jl_57, jl_99, jl_100, jl_126, jl_255, jl_899, jl_999, jl_9999]
    · have hp' := Bool.eq_false_iff.mpr hp
      cases hdu : du t i with
      | true =>
        simp only [fmP, hdu, if_true, Bool.not_eq_true', decide_eq_false_iff_not, Decidable.not_not] at hp
        refine Or.inl ⟨_, _, fun rec => ?_, ⟨rfl, rfl, fun j hj => ?_⟩⟩
        rotate_left
        · by_cases h9 : j = i
          · subst h9; exact hp'
          · exact hn j (by omega)
        · simp only [du, hdu, Bool.not_true, Bool.false_and]
          simp (disch := omega) only [hP.2.2.1, hP.2.2.2.1, bI, Bool.false_eq_true, ic_97 hM hT, hp, decide_true, and_self, b1E, b2E, bsE, jq0, jq1, jq2, jq3, w_ev, in_ev2, nI_leI, nI_ltI, nI_eq, nI_add, ↓pk_rem, pk_div, pk_mul, ckiT, ckT, ixN, if_pos, if_neg, ↓reduceIte, ckTr, true_or, or_true, false_or, or_false, sI_o, sI_s, pk_un, pk_us, il_0, il_1, il_2, il_3, il_4, il_5, il_6, il_7, il_8, il_9, il_10, il_12, il_16, il_20, il_29, il_30, il_31, il_32, il_33, il_39, il_40, il_43, il_46, il_48, il_50, il_54, il_55, il_57, il_60, il_63, il_64, il_74, il_75, il_97, il_99, il_100, il_126, il_150, il_255, il_256, il_899, il_999, il_9999, il_65537, il_1000000, il_2147483647, jl_0, jl_1, jl_3, jl_5, jl_6, jl_7, jl_8, jl_9, jl_10, jl_29, jl_30, jl_33, jl_39, jl_40, jl_43, jl_48, jl_55, jl_57, jl_99, jl_100, jl_126, jl_255, jl_899, jl_999, jl_9999]
      | false =>
        simp only [fmP, hdu, Bool.false_eq_true, if_false, Bool.not_eq_true', decide_eq_false_iff_not, Decidable.not_not] at hp
        refine Or.inl ⟨_, _, fun rec => ?_, ⟨rfl, rfl, fun j hj => ?_⟩⟩
        rotate_left
        · by_cases h9 : j = i
          · subst h9; exact hp'
          · exact hn j (by omega)
        · simp only [du, hdu, Bool.not_false, Bool.true_and]
          by_cases h46 : t 19 i = 46
          · simp (disch := omega) only [hP.2.2.1, hP.2.2.2.1, bI, Bool.false_eq_true, h46, decide_true, Bool.not_true, b1E, b2E, bsE, jq0, jq1, jq2, jq3, w_ev, in_ev2, nI_leI, nI_ltI, nI_eq, nI_add, ↓pk_rem, pk_div, pk_mul, ckiT, ckT, ixN, if_pos, if_neg, ↓reduceIte, ckTr, true_or, or_true, false_or, or_false, sI_o, sI_s, pk_un, pk_us, il_0, il_1, il_2, il_3, il_4, il_5, il_6, il_7, il_8, il_9, il_10, il_12, il_16, il_20, il_29, il_30, il_31, il_32, il_33, il_39, il_40, il_43, il_46, il_48, il_50, il_54, il_55, il_57, il_60, il_63, il_64, il_74, il_75, il_97, il_99, il_100, il_126, il_150, il_255, il_256, il_899, il_999, il_9999, il_65537, il_1000000, il_2147483647, jl_0, jl_1, jl_3, jl_5, jl_6, jl_7, jl_8, jl_9, jl_10, jl_29, jl_30, jl_33, jl_39, jl_40, jl_43, jl_48, jl_55, jl_57, jl_99, jl_100, jl_126, jl_255, jl_899, jl_999, jl_9999]
          · simp (disch := omega) only [hP.2.2.1, hP.2.2.2.1, bI, Bool.false_eq_true, h46, decide_false, Bool.not_false, b1E, b2E, bsE, jq0, jq1, jq2, jq3, w_ev, in_ev2, nI_leI, nI_ltI, nI_eq, nI_add, ↓pk_rem, pk_div, pk_mul, ckiT, ckT, ixN, if_pos, if_neg, ↓reduceIte, ckTr, true_or, or_true, false_or, or_false, sI_o, sI_s, pk_un, pk_us, il_0, il_1, il_2, il_3, il_4, il_5, il_6, il_7, il_8, il_9, il_10, il_12, il_16, il_20, il_29, il_30, il_31, il_32, il_33, il_39, il_40, il_43, il_46, il_48, il_50, il_54, il_55, il_57, il_60, il_63, il_64, il_74, il_75, il_97, il_99, il_100, il_126, il_150, il_255, il_256, il_899, il_999, il_9999, il_65537, il_1000000, il_2147483647, jl_0, jl_1, jl_3, jl_5, jl_6, jl_7, jl_8, jl_9, jl_10, jl_29, jl_30, jl_33, jl_39, jl_40, jl_43, jl_48, jl_55, jl_57, jl_99, jl_100, jl_126, jl_255, jl_899, jl_999, jl_9999]
  · rintro x y ⟨rfl, rfl, hn⟩ rec
    unfold B_X12_faultOfMoves_4 fmV
    rw [fs_none hn]
    cases hdu : du t (t 18 1) <;> simp (disch := omega) only [hP.2.2.1, bI, Bool.false_eq_true, b1E, b2E, bsE, jq0, jq1, jq2, jq3, w_ev, in_ev2, nI_leI, nI_ltI, nI_eq, nI_add, ↓pk_rem, pk_div, pk_sub, pk_mul, ckiT, ckT, ixN, if_pos, if_neg, ↓reduceIte, ckTr, true_or, or_true, false_or, or_false, sI_o, sI_s, pk_un, pk_us, il_0, il_1, il_2, il_3, il_4, il_5, il_6, il_7, il_8, il_9, il_10, il_12, il_16, il_20, il_29, il_30, il_31, il_32, il_33, il_39, il_40, il_43, il_46, il_48, il_50, il_54, il_55, il_57, il_60, il_63, il_64, il_74, il_75, il_97, il_99, il_100, il_126, il_150, il_255, il_256, il_899, il_999, il_9999, il_65537, il_1000000, il_2147483647]
end PA
theorem s_fault : Sp_fault Inv := by
  intro N u m p1 hi0
  obtain ⟨t, hU, hM, hT, hP, hI, hd, hr⟩ := id hi0
  unfold f_X11_fault f_X12_fault
  by_cases h0 : p1 = 0
  · rw [if_pos h0, if_pos h0, ftC hP, ftM hP]; exact ⟨_, rfl, rfl, hi0⟩
  · rw [if_neg h0, if_neg h0]
    by_cases h1 : p1 = 1
    · rw [if_pos h1, if_pos h1, U_cnt hU, fmC hP hT, fmM hM hP hT]; exact ⟨_, rfl, rfl, hi0⟩
    · rw [if_neg h1, if_neg h1]; exact ⟨_, rfl, rfl, hi0⟩
