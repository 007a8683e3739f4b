/-! ===== judge, behind, hands ===== -/
section SI
variable {u m : St} {t : Nat → Nat → Nat}
theorem sgn (hall : ∀ j, j < t 18 1 → fmP t j = false) (hend : du t (t 18 1) = false) {i : Nat} (hi : i < t 18 1) (hdu : du t i = false) : (t 19 i = 46 ∧ du t (i + 1) = false) ∨ (48 ≤ t 19 i ∧ t 19 i ≤ 55 ∧ i + 1 < t 18 1 ∧ 97 ≤ t 19 (i + 1) ∧ t 19 (i + 1) ≤ 96 + t 2 2 ∧ du t (i + 2) = false) := by
  have h := hall i hi
  simp only [fmP, hdu, Bool.false_eq_true, if_false, Bool.not_eq_false', decide_eq_true_eq] at h
  rcases h with h | h
  · exact Or.inl ⟨h, by simp [du, h]⟩
  · have h1 : du t (i + 1) = true := by simp [du, hdu]; omega
    have h2 : i + 1 < t 18 1 := by
      rcases Nat.lt_or_ge (i + 1) (t 18 1) with h9 | h9
      · exact h9
      · have : i + 1 = t 18 1 := by omega
        rw [this, hend] at h1; cases h1
    have h3 := hall (i + 1) h2
    simp only [fmP, h1, if_true, Bool.not_eq_false', decide_eq_true_eq] at h3
    exact Or.inr ⟨h.1, h.2, h2, h3.1, h3.2, by show (!du t (i + 1) && _) = false; rw [h1]; rfl⟩
theorem sim (hU : UT u t 0) (hM : MT m t) (hT : TK t) (hP : PD u m t) (hd0 : m.2 0 21 = 0) (hr0 : m.1 0 22 = 0) (hall : ∀ j, j < t 18 1 → fmP t j = false) (hend : du t (t 18 1) = false) {pl ql : Nat} (hpq : ∀ x, x ≤ 10000 → (x ≤ pl ↔ x ≤ ql)) (hpl : pl < 2 ^ 31) (hql : ql < 2 ^ 31) :
    ∀ n i d pa wo dw mx p A v w (x : Int32) F G, t 18 1 ≤ i + n → i ≤ t 18 1 → du t i = false → RJ u m v w t i d pa wo dw mx p A → n + 2 < F → n + 2 < G → ∃ v2 w2, lq_3 (B_X1_follow_13 (nI pl) (fun u7 : St => some u7)) F v x (nI i) = some v2 ∧ lq_3 (B_X12_goMoves_69 (nI ql) (fun u15 : St => some u15)) G w (nI pa) (nI i) = some w2 ∧ OJ u m v2 w2 t := by
  have h60 := hP.2.2.2.2.1
  have h19 := hP.2.2.2.2.2
  have hcn := K_cnt hT
  intro n
  induction n using Nat.strongRecOn with
  | _ n ih =>
  intro i d pa wo dw mx p A v w x F G hn hi hdu hR hF hG
  obtain ⟨F, rfl⟩ : ∃ F', F = F' + 1 := ⟨F - 1, by omega⟩
  obtain ⟨G, rfl⟩ : ∃ F', G = F' + 1 := ⟨G - 1, by omega⟩
  obtain ⟨⟨c1, c2, c3, c4, c5, c6, c7, c8, c9, c10⟩, ⟨r1, r2, r3, r4, r5, r6, r7, r8⟩, ⟨a1, a2, a3, a4, a5, a6, a7⟩⟩ := id hR
  have k1 : v.1 18 1 = nI (t 18 1) := by rw [c1 18 (by omega)]; exact hP.1
  have k2 : ∀ i, i < 60 → v.1 19 i = nI (t 19 i) := fun i hi => by rw [c1 19 (by omega)]; exact hP.2.1 i hi
  have k3 : w.1 0 20 = nI (t 18 1) := by rw [r1.2.1 20 (by omega)]; exact hP.2.2.1
  have k4 : ∀ i, i < 60 → w.1 12 i = nI (t 19 i) := fun i hi => by rw [r1.1 12 (by omega)]; exact hP.2.2.2.1 i hi
  rw [lq3S, lq3S]
  by_cases hc : i = t 18 1
  · refine ⟨v, w, ?_, ?_, c1, r1, Or.inl ⟨c5, r2, r3, by rw [c6, r4], by rw [c3, r7], by rw [c8, r6], fun b hb => ⟨by rw [(c9 b hb).1, (r8 b hb).1], by rw [(c9 b hb).2, (r8 b hb).2]⟩⟩⟩
    · unfold B_X1_follow_13; rw [k1, hc, if_pos (Int32.le_refl _)]
    · unfold B_X12_goMoves_69; rw [k3, hc, if_pos (Int32.le_refl _)]
  have hi2 : i < t 18 1 := by omega
  have h25 : ¬ (0 : Int32) ≤ -nI 6 := by decide
  rcases sgn hall hend hi2 hdu with ⟨s1, s2⟩ | ⟨s1, s2, s3, s4, s5, s6⟩
  · obtain ⟨v2, w2, e1, e2, e3, hR2⟩ := RJ_day hM hT hd0 hr0 (by omega) hR
    obtain ⟨v3, w3, g1, g2, g3⟩ := ih (n - 1) (by omega) (i + 1) _ _ _ _ _ _ _ _ _ x F G (by omega) (by omega) s2 hR2 (by omega) (by omega)
    refine ⟨v3, w3, ?_, ?_, g3⟩
    · unfold B_X1_follow_13
      rw [k1, if_neg (nI_ge hi2 (by omega)), if_neg (nle_l (l := 60) 60 rfl (by omega) (by decide)), c5, if_pos (show nI 0 = 0 from rfl), ckiT (by omega) (by decide), ixN (by omega), k2 i (by omega), s1, if_pos (show nI 46 = 46 from rfl), e1, b1E, bsE, bsE, nI_1]
      rw [show (sI v2 21 9 0).1 21 6 = nI pa by rw [sI_s, pk_un (by omega)]; exact e3, nI_1]
      exact g1
    · unfold B_X12_goMoves_69
      rw [k3, if_neg (nI_ge hi2 (by omega)), r2, if_neg h25, ckiT (by omega) (by decide), ixN (by omega), k4 i (by omega), s1, if_pos (show nI 46 = 46 from rfl), e2, b1E, nI_1, nI_1]
      exact g2
  · obtain ⟨F, rfl⟩ : ∃ F', F = F' + 1 := ⟨F - 1, by omega⟩
    have e48 : nI (t 19 i) - 48 = nI (t 19 i - 48) := pk_sub (b := 48) s1
    have e97 : nI (t 19 (i + 1)) - 97 = nI (t 19 (i + 1) - 97) := pk_sub (b := 97) s4
    have h126 := h19 i (by omega)
    have h127 := h19 (i + 1) (by omega)
    have ne46 : ¬ nI (t 19 i) = 46 := fun h9 => absurd ((nI_eq (b := 46) (by omega) (by decide)).mp h9) (by omega)
    have ne46' : ¬ nI (t 19 (i + 1)) = 46 := fun h9 => absurd ((nI_eq (b := 46) (by omega) (by decide)).mp h9) (by omega)
    have ib1 : f_X3_isBarrel v (nI (t 19 i)) = some 1 := by
      unfold f_X3_isBarrel
      rw [w_ev, b1E, ckT z01, if_pos ⟨le_l (l := 48) 48 rfl s1 (by omega), nI_le (b := 55) s2 (by omega)⟩]
    have ib0 : f_X3_isBarrel v (nI (t 19 (i + 1))) = some 0 := by
      unfold f_X3_isBarrel
      rw [w_ev, b1E, ckT z01, if_neg (fun h9 => absurd ((nI_leI (b := 55) (by omega) (by decide)).mp h9.2) (by omega))]
    have st1 : ∀ rec, B_X1_follow_13 (nI pl) (fun u7 : St => some u7) rec v x (nI i) = rec v (nI (t 19 i - 48)) (nI (i + 1)) := by
      intro rec
      unfold B_X1_follow_13
      rw [k1, if_neg (nI_ge hi2 (by omega)), if_neg (nle_l (l := 60) 60 rfl (by omega) (by decide)), c5, if_pos (show nI 0 = 0 from rfl), ckiT (by omega) (by decide), ixN (by omega), k2 i (by omega), if_neg ne46, ib1, b1E, if_neg n10, bsE, e48, nI_1]
    have st2 : ∀ rec, B_X1_follow_13 (nI pl) (fun u7 : St => some u7) rec v (nI (t 19 i - 48)) (nI (i + 1)) = b1 (f_X1_move v (nI (t 19 i - 48)) (nI (t 19 (i + 1) - 97)) (nI pl)) (fun (u15 : St) => rec u15 (nI (t 19 i - 48)) (nI (i + 2))) := by
      intro rec
      unfold B_X1_follow_13
      rw [k1, if_neg (nI_ge s3 (by omega)), if_neg (nle_l (l := 60) 60 rfl (by omega) (by decide)), c5, if_pos (show nI 0 = 0 from rfl), ckiT (by omega) (by decide), ixN (by omega), k2 (i + 1) (by omega), if_neg ne46', ib0, b1E, if_pos rfl, e97, nI_1]
    have st3 : ∀ rec, B_X12_goMoves_69 (nI ql) (fun u15 : St => some u15) rec w (nI pa) (nI i) = b2 (f_X12_tryMove w (nI (t 19 i - 48)) (nI (t 19 (i + 1) - 97)) (nI ql)) (fun (x20 : Int32) (u21 : St) => jq_1 (fun (x23 : Int32) => bs (sI u21 0 25 x23) (fun u24 : St => if x20 ≤ 0 then bs (sI u24 0 26 ((-6))) (fun u26 : St => rec u26 (nI (pa + 1)) (nI (i + 2))) else bs (sI u24 0 26 x20) (fun u27 : St => rec u27 (nI (pa + 1)) (nI (i + 2))))) (fun (k22 : Int32 → Option (St)) => if x20 ≤ 0 then k22 ((-6)) else k22 (nI pa))) := by
      intro rec
      unfold B_X12_goMoves_69
      rw [k3, if_neg (nI_ge hi2 (by omega)), r2, if_neg h25, ckiT (by omega) (by decide), ixN (show i < 2 ^ 31 by omega), k4 i (by omega), if_neg ne46, ckiT (by omega) (by decide), nI_1 i, ckiT (show i + 1 < 60 by omega) (by decide), ixN (show i + 1 < 2 ^ 31 by omega), k4 (i + 1) (by omega), e48, e97, nI_1 pa, nI_1 (i + 1)]
    rw [st1, lq3S, st2, st3]
    rcases RJ_move hM hT (by omega) hpq hpl hql (b := t 19 i - 48) (c := t 19 (i + 1) - 97) (by omega) (by omega) hR with ⟨v2, w2, wo2, dw2, mx2, p2, e1, e2, hR2⟩ | ⟨wy, y1, y2, e1, e2⟩
    · have hR3 : RJ u m v2 (sI (sI w2 0 25 (-nI 6)) 0 26 (-nI 6)) t (i + 2) d (pa + 1) wo2 dw2 mx2 p2 A := by
        obtain ⟨q1, ⟨q2, q3, q4, q5, q6, q7, q8, q9⟩, q10⟩ := hR2
        exact ⟨q1, ⟨Km_s0 (Km_s0 q2 (by omega)) (by omega), by simp (disch := omega) only [b1E, b2E, bsE, jq0, jq1, jq2, jq3, w_ev, in_ev2, nI_leI, nI_ltI, nI_eq, nI_add, ↓pk_rem, pk_div, pk_sub, pk_mul, ckiT, ckT, ixN, if_pos, if_neg, ↓reduceIte, ckTr, true_or, or_true, false_or, or_false, sI_o, sI_s, pk_un, pk_us, il_0, il_1, il_2, il_3, il_4, il_5, il_6, il_7, il_8, il_9, il_10, il_12, il_16, il_20, il_29, il_30, il_31, il_32, il_33, il_39, il_40, il_43, il_46, il_48, il_50, il_54, il_55, il_57, il_60, il_63, il_64, il_74, il_75, il_97, il_99, il_100, il_126, il_150, il_255, il_256, il_899, il_999, il_9999, il_65537, il_1000000, il_2147483647, nn1, nn6, m6lt, nn1s, nn6s], by simp (disch := omega) only [b1E, b2E, bsE, jq0, jq1, jq2, jq3, w_ev, in_ev2, nI_leI, nI_ltI, nI_eq, nI_add, ↓pk_rem, pk_div, pk_sub, pk_mul, ckiT, ckT, ixN, if_pos, if_neg, ↓reduceIte, ckTr, true_or, or_true, false_or, or_false, sI_o, sI_s, pk_un, pk_us, il_0, il_1, il_2, il_3, il_4, il_5, il_6, il_7, il_8, il_9, il_10, il_12, il_16, il_20, il_29, il_30, il_31, il_32, il_33, il_39, il_40, il_43, il_46, il_48, il_50, il_54, il_55, il_57, il_60, il_63, il_64, il_74, il_75, il_97, il_99, il_100, il_126, il_150, il_255, il_256, il_899, il_999, il_9999, il_65537, il_1000000, il_2147483647, nn1, nn6, m6lt, nn1s, nn6s], by simp (disch := omega) only [q5, b1E, b2E, bsE, jq0, jq1, jq2, jq3, w_ev, in_ev2, nI_leI, nI_ltI, nI_eq, nI_add, ↓pk_rem, pk_div, pk_sub, pk_mul, ckiT, ckT, ixN, if_pos, if_neg, ↓reduceIte, ckTr, true_or, or_true, false_or, or_false, sI_o, sI_s, pk_un, pk_us, il_0, il_1, il_2, il_3, il_4, il_5, il_6, il_7, il_8, il_9, il_10, il_12, il_16, il_20, il_29, il_30, il_31, il_32, il_33, il_39, il_40, il_43, il_46, il_48, il_50, il_54, il_55, il_57, il_60, il_63, il_64, il_74, il_75, il_97, il_99, il_100, il_126, il_150, il_255, il_256, il_899, il_999, il_9999, il_65537, il_1000000, il_2147483647, nn1, nn6, m6lt, nn1s, nn6s], by simp (disch := omega) only [q6, b1E, b2E, bsE, jq0, jq1, jq2, jq3, w_ev, in_ev2, nI_leI, nI_ltI, nI_eq, nI_add, ↓pk_rem, pk_div, pk_sub, pk_mul, ckiT, ckT, ixN, if_pos, if_neg, ↓reduceIte, ckTr, true_or, or_true, false_or, or_false, sI_o, sI_s, pk_un, pk_us, il_0, il_1, il_2, il_3, il_4, il_5, il_6, il_7, il_8, il_9, il_10, il_12, il_16, il_20, il_29, il_30, il_31, il_32, il_33, il_39, il_40, il_43, il_46, il_48, il_50, il_54, il_55, il_57, il_60, il_63, il_64, il_74, il_75, il_97, il_99, il_100, il_126, il_150, il_255, il_256, il_899, il_999, il_9999, il_65537, il_1000000, il_2147483647, nn1, nn6, m6lt, nn1s, nn6s], by simp (disch := omega) only [q7, b1E, b2E, bsE, jq0, jq1, jq2, jq3, w_ev, in_ev2, nI_leI, nI_ltI, nI_eq, nI_add, ↓pk_rem, pk_div, pk_sub, pk_mul, ckiT, ckT, ixN, if_pos, if_neg, ↓reduceIte, ckTr, true_or, or_true, false_or, or_false, sI_o, sI_s, pk_un, pk_us, il_0, il_1, il_2, il_3, il_4, il_5, il_6, il_7, il_8, il_9, il_10, il_12, il_16, il_20, il_29, il_30, il_31, il_32, il_33, il_39, il_40, il_43, il_46, il_48, il_50, il_54, il_55, il_57, il_60, il_63, il_64, il_74, il_75, il_97, il_99, il_100, il_126, il_150, il_255, il_256, il_899, il_999, il_9999, il_65537, il_1000000, il_2147483647, nn1, nn6, m6lt, nn1s, nn6s], by simp (disch := omega) only [q8, b1E, b2E, bsE, jq0, jq1, jq2, jq3, w_ev, in_ev2, nI_leI, nI_ltI, nI_eq, nI_add, ↓pk_rem, pk_div, pk_sub, pk_mul, ckiT, ckT, ixN, if_pos, if_neg, ↓reduceIte, ckTr, true_or, or_true, false_or, or_false, sI_o, sI_s, pk_un, pk_us, il_0, il_1, il_2, il_3, il_4, il_5, il_6, il_7, il_8, il_9, il_10, il_12, il_16, il_20, il_29, il_30, il_31, il_32, il_33, il_39, il_40, il_43, il_46, il_48, il_50, il_54, il_55, il_57, il_60, il_63, il_64, il_74, il_75, il_97, il_99, il_100, il_126, il_150, il_255, il_256, il_899, il_999, il_9999, il_65537, il_1000000, il_2147483647, nn1, nn6, m6lt, nn1s, nn6s], fun b hb => ⟨by simp (disch := omega) only [(q9 b hb).1, b1E, b2E, bsE, jq0, jq1, jq2, jq3, w_ev, in_ev2, nI_leI, nI_ltI, nI_eq, nI_add, ↓pk_rem, pk_div, pk_sub, pk_mul, ckiT, ckT, ixN, if_pos, if_neg, ↓reduceIte, ckTr, true_or, or_true, false_or, or_false, sI_o, sI_s, pk_un, pk_us, il_0, il_1, il_2, il_3, il_4, il_5, il_6, il_7, il_8, il_9, il_10, il_12, il_16, il_20, il_29, il_30, il_31, il_32, il_33, il_39, il_40, il_43, il_46, il_48, il_50, il_54, il_55, il_57, il_60, il_63, il_64, il_74, il_75, il_97, il_99, il_100, il_126, il_150, il_255, il_256, il_899, il_999, il_9999, il_65537, il_1000000, il_2147483647, nn1, nn6, m6lt, nn1s, nn6s], by simp (disch := omega) only [(q9 b hb).2, b1E, b2E, bsE, jq0, jq1, jq2, jq3, w_ev, in_ev2, nI_leI, nI_ltI, nI_eq, nI_add, ↓pk_rem, pk_div, pk_sub, pk_mul, ckiT, ckT, ixN, if_pos, if_neg, ↓reduceIte, ckTr, true_or, or_true, false_or, or_false, sI_o, sI_s, pk_un, pk_us, il_0, il_1, il_2, il_3, il_4, il_5, il_6, il_7, il_8, il_9, il_10, il_12, il_16, il_20, il_29, il_30, il_31, il_32, il_33, il_39, il_40, il_43, il_46, il_48, il_50, il_54, il_55, il_57, il_60, il_63, il_64, il_74, il_75, il_97, il_99, il_100, il_126, il_150, il_255, il_256, il_899, il_999, il_9999, il_65537, il_1000000, il_2147483647, nn1, nn6, m6lt, nn1s, nn6s]⟩⟩, q10⟩
      obtain ⟨v3, w3, g1, g2, g3⟩ := ih (n - 2) (by omega) (i + 2) _ _ _ _ _ _ _ _ _ (nI (t 19 i - 48)) F G (by omega) (by omega) s6 hR3 (by omega) (by omega)
      refine ⟨v3, w3, ?_, ?_, g3⟩
      · rw [e1, b1E]; exact g1
      · rw [e2, b2E, jq1, if_pos (show nI 0 ≤ (0 : Int32) by decide)]
        exact g2
    · obtain ⟨F, rfl⟩ : ∃ F', F = F' + 1 := ⟨F - 1, by omega⟩
      obtain ⟨G, rfl⟩ : ∃ F', G = F' + 1 := ⟨G - 1, by omega⟩
      have hny : ¬ nI wy ≤ (0 : Int32) := nI_ge (a := 0) (by omega) (by omega)
      refine ⟨sI v 21 7 (nI wy), sI (sI w 0 25 (nI pa)) 0 26 (nI wy), ?_, ?_, Kp_sI c1 (by omega), Km_s0 (Km_s0 r1 (by omega)) (by omega), Or.inr ⟨pa, wy, by omega, y1, y2, by simp (disch := omega) only [c4, b1E, b2E, bsE, jq0, jq1, jq2, jq3, w_ev, in_ev2, nI_leI, nI_ltI, nI_eq, nI_add, ↓pk_rem, pk_div, pk_sub, pk_mul, ckiT, ckT, ixN, if_pos, if_neg, ↓reduceIte, ckTr, true_or, or_true, false_or, or_false, sI_o, sI_s, pk_un, pk_us, il_0, il_1, il_2, il_3, il_4, il_5, il_6, il_7, il_8, il_9, il_10, il_12, il_16, il_20, il_29, il_30, il_31, il_32, il_33, il_39, il_40, il_43, il_46, il_48, il_50, il_54, il_55, il_57, il_60, il_63, il_64, il_74, il_75, il_97, il_99, il_100, il_126, il_150, il_255, il_256, il_899, il_999, il_9999, il_65537, il_1000000, il_2147483647, nn1, nn6, m6lt, nn1s, nn6s], by simp (disch := omega) only [b1E, b2E, bsE, jq0, jq1, jq2, jq3, w_ev, in_ev2, nI_leI, nI_ltI, nI_eq, nI_add, ↓pk_rem, pk_div, pk_sub, pk_mul, ckiT, ckT, ixN, if_pos, if_neg, ↓reduceIte, ckTr, true_or, or_true, false_or, or_false, sI_o, sI_s, pk_un, pk_us, il_0, il_1, il_2, il_3, il_4, il_5, il_6, il_7, il_8, il_9, il_10, il_12, il_16, il_20, il_29, il_30, il_31, il_32, il_33, il_39, il_40, il_43, il_46, il_48, il_50, il_54, il_55, il_57, il_60, il_63, il_64, il_74, il_75, il_97, il_99, il_100, il_126, il_150, il_255, il_256, il_899, il_999, il_9999, il_65537, il_1000000, il_2147483647, nn1, nn6, m6lt, nn1s, nn6s], by simp (disch := omega) only [b1E, b2E, bsE, jq0, jq1, jq2, jq3, w_ev, in_ev2, nI_leI, nI_ltI, nI_eq, nI_add, ↓pk_rem, pk_div, pk_sub, pk_mul, ckiT, ckT, ixN, if_pos, if_neg, ↓reduceIte, ckTr, true_or, or_true, false_or, or_false, sI_o, sI_s, pk_un, pk_us, il_0, il_1, il_2, il_3, il_4, il_5, il_6, il_7, il_8, il_9, il_10, il_12, il_16, il_20, il_29, il_30, il_31, il_32, il_33, il_39, il_40, il_43, il_46, il_48, il_50, il_54, il_55, il_57, il_60, il_63, il_64, il_74, il_75, il_97, il_99, il_100, il_126, il_150, il_255, il_256, il_899, il_999, il_9999, il_65537, il_1000000, il_2147483647, nn1, nn6, m6lt, nn1s, nn6s], by simp (disch := omega) only [b1E, b2E, bsE, jq0, jq1, jq2, jq3, w_ev, in_ev2, nI_leI, nI_ltI, nI_eq, nI_add, ↓pk_rem, pk_div, pk_sub, pk_mul, ckiT, ckT, ixN, if_pos, if_neg, ↓reduceIte, ckTr, true_or, or_true, false_or, or_false, sI_o, sI_s, pk_un, pk_us, il_0, il_1, il_2, il_3, il_4, il_5, il_6, il_7, il_8, il_9, il_10, il_12, il_16, il_20, il_29, il_30, il_31, il_32, il_33, il_39, il_40, il_43, il_46, il_48, il_50, il_54, il_55, il_57, il_60, il_63, il_64, il_74, il_75, il_97, il_99, il_100, il_126, il_150, il_255, il_256, il_899, il_999, il_9999, il_65537, il_1000000, il_2147483647, nn1, nn6, m6lt, nn1s, nn6s]⟩⟩
      · rw [e1, b1E, lq3S]
        unfold B_X1_follow_13
        rw [if_neg (show ¬ (sI v 21 7 (nI wy)).1 21 7 = 0 by rw [sI_s, pk_us]; exact fun h9 => absurd ((nI_eq (b := 0) (by omega) (by decide)).mp h9) (by omega))]
        split
        · rfl
        · split <;> rfl
      · rw [e2, b2E, jq1, if_neg hny]
        refine Eq.trans (if_neg hny) ?_
        rw [bsE, lq3S]
        unfold B_X12_goMoves_69
        rw [if_pos (show (0 : Int32) ≤ (sI (sI w 0 25 (nI pa)) 0 26 (nI wy)).1 0 25 by rw [sI_s, pk_un (by omega), sI_s, pk_us]; exact nI_pos' (by omega))]
        split <;> rfl
/-- both follow the pad -/
theorem fol (hU : UT u t 0) (hM : MT m t) (hT : TK t) (hP : PD u m t) (hd0 : m.2 0 21 = 0) (hr0 : m.1 0 22 = 0) (hfm : fmV t = -nI 6) {pl ql : Nat} (hpq : ∀ x, x ≤ 10000 → (x ≤ pl ↔ x ≤ ql)) (hpl : pl < 2 ^ 31) (hql : ql < 2 ^ 31) : ∃ v2 w2, f_X11_followPad u (nI pl) = some (1, v2) ∧ f_X12_goMoves m (nI ql) = some w2 ∧ OJ u m v2 w2 t := by
  have h60 := hP.2.2.2.2.1
  have hle := fs_le (p := fmP t) (n := t 18 1)
  have hall : (∀ j, j < t 18 1 → fmP t j = false) ∧ du t (t 18 1) = false := by
    unfold fmV at hfm
    by_cases h1 : fs (fmP t) (t 18 1) < t 18 1
    · rw [if_pos h1] at hfm; exact absurd hfm (by rw [nn6 (by omega)]; exact id)
    · rw [if_neg h1] at hfm
      refine ⟨fun j hj => fs_all (n := t 18 1) j (by omega), ?_⟩
      cases h2 : du t (t 18 1) with
      | false => rfl
      | true => rw [h2, if_pos rfl] at hfm; exact absurd hfm (by rw [nn6 (by omega)]; exact id)
  obtain ⟨v, ev, hA⟩ := asI hU hT
  obtain ⟨v1, ev1, w1, w2, w3, w4⟩ := bgC hA.2.1
  have hU1 : UT v1 t 0 := fun c k hD => by
    have hc : c ≤ 16 := by unfold TD at hD; omega
    rw [w1 (0 + c) (by omega) (by omega) (by omega)]; exact hA.2.1 c k hD
  obtain ⟨v2, ev2, x1, x2, x3, x4, x5, x6, x7, x8⟩ := bmC hU1 hT
  have gM : ∃ z, (∀ K : St → Option St, lq_2 (B_X12_goMoves_2 K) FU m 0 = K z) ∧ (∀ c, c ≠ 13 → c ≠ 14 → z.1 c = m.1 c) ∧ z.2 = m.2 ∧ ∀ b, b < 8 → z.1 13 b = nI (t 6 b) ∧ z.1 14 b = nI 0 := by
    suffices hh : ∃ z y, (∀ K, lq_2 (B_X12_goMoves_2 K) FU m 0 = (fun (K : St → Option St) (z : St) (_ : Int32) => K z) K z y) ∧ (y = nI 8 ∧ (∀ c, c ≠ 13 → c ≠ 14 → z.1 c = m.1 c) ∧ z.2 = m.2 ∧ ∀ b, b < 8 → z.1 13 b = nI (t 6 b) ∧ z.1 14 b = nI 0) by
      obtain ⟨z, y, e, -, h⟩ := hh
      exact ⟨z, e, h⟩
    refine mz_2 (P := fun j (z : St) (y : Int32) => y = nI j ∧ (∀ c, c ≠ 13 → c ≠ 14 → z.1 c = m.1 c) ∧ z.2 = m.2 ∧ ∀ b, b < j → z.1 13 b = nI (t 6 b) ∧ z.1 14 b = nI 0) (G := fun (K : St → Option St) (z : St) (_ : Int32) => K z) 8 ?_ ?_ (FU_lt (by decide)) ⟨rfl, fun _ _ _ => rfl, rfl, fun b hb => absurd hb (by omega)⟩
    · rintro i z y hi ⟨rfl, h1, h2, h3⟩
      have h6 : z.1 3 i = nI (t 6 i) := by rw [h1 3 (by omega) (by omega)]; exact M_lie hM hi
      refine ⟨_, _, fun K rec => by unfold B_X12_goMoves_2; simp (disch := omega) only [h6, b1E, b2E, bsE, jq0, jq1, jq2, jq3, w_ev, in_ev2, nI_leI, nI_ltI, nI_eq, nI_add, ↓pk_rem, pk_div, pk_sub, pk_mul, ckiT, ckT, ixN, if_pos, if_neg, ↓reduceIte, ckTr, true_or, or_true, false_or, or_false, sI_o, sI_s, pk_un, pk_us, il_0, il_1, il_2, il_3, il_4, il_5, il_6, il_7, il_8, il_9, il_10, il_12, il_16, il_20, il_29, il_30, il_31, il_32, il_33, il_39, il_40, il_43, il_46, il_48, il_50, il_54, il_55, il_57, il_60, il_63, il_64, il_74, il_75, il_97, il_99, il_100, il_126, il_150, il_255, il_256, il_899, il_999, il_9999, il_65537, il_1000000, il_2147483647, nn1, nn6, m6lt, nn1s, nn6s]; rfl, ⟨rfl, ?_, ?_, ?_⟩⟩
      · intro c c1 c2; simp (disch := omega) only [h1 c c1 c2, b1E, b2E, bsE, jq0, jq1, jq2, jq3, w_ev, in_ev2, nI_leI, nI_ltI, nI_eq, nI_add, ↓pk_rem, pk_div, pk_sub, pk_mul, ckiT, ckT, ixN, if_pos, if_neg, ↓reduceIte, ckTr, true_or, or_true, false_or, or_false, sI_o, sI_s, pk_un, pk_us, il_0, il_1, il_2, il_3, il_4, il_5, il_6, il_7, il_8, il_9, il_10, il_12, il_16, il_20, il_29, il_30, il_31, il_32, il_33, il_39, il_40, il_43, il_46, il_48, il_50, il_54, il_55, il_57, il_60, il_63, il_64, il_74, il_75, il_97, il_99, il_100, il_126, il_150, il_255, il_256, il_899, il_999, il_9999, il_65537, il_1000000, il_2147483647, nn1, nn6, m6lt, nn1s, nn6s]
      · exact h2
      · intro b hb
        by_cases h9 : b = i
        · subst h9; simp (disch := omega) only [and_self, b1E, b2E, bsE, jq0, jq1, jq2, jq3, w_ev, in_ev2, nI_leI, nI_ltI, nI_eq, nI_add, ↓pk_rem, pk_div, pk_sub, pk_mul, ckiT, ckT, ixN, if_pos, if_neg, ↓reduceIte, ckTr, true_or, or_true, false_or, or_false, sI_o, sI_s, pk_un, pk_us, il_0, il_1, il_2, il_3, il_4, il_5, il_6, il_7, il_8, il_9, il_10, il_12, il_16, il_20, il_29, il_30, il_31, il_32, il_33, il_39, il_40, il_43, il_46, il_48, il_50, il_54, il_55, il_57, il_60, il_63, il_64, il_74, il_75, il_97, il_99, il_100, il_126, il_150, il_255, il_256, il_899, il_999, il_9999, il_65537, il_1000000, il_2147483647, nn1, nn6, m6lt, nn1s, nn6s]
        · simp (disch := omega) only [h3 b (by omega), and_self, b1E, b2E, bsE, jq0, jq1, jq2, jq3, w_ev, in_ev2, nI_leI, nI_ltI, nI_eq, nI_add, ↓pk_rem, pk_div, pk_sub, pk_mul, ckiT, ckT, ixN, if_pos, if_neg, ↓reduceIte, ckTr, true_or, or_true, false_or, or_false, sI_o, sI_s, pk_un, pk_us, il_0, il_1, il_2, il_3, il_4, il_5, il_6, il_7, il_8, il_9, il_10, il_12, il_16, il_20, il_29, il_30, il_31, il_32, il_33, il_39, il_40, il_43, il_46, il_48, il_50, il_54, il_55, il_57, il_60, il_63, il_64, il_74, il_75, il_97, il_99, il_100, il_126, il_150, il_255, il_256, il_899, il_999, il_9999, il_65537, il_1000000, il_2147483647, nn1, nn6, m6lt, nn1s, nn6s]
    · rintro z y ⟨rfl, h⟩ K rec
      unfold B_X12_goMoves_2
      rw [if_pos (show (8 : Int32) ≤ nI 8 by decide)]
  obtain ⟨z, ez, z1, z2, z3⟩ := gM
  have hR : RJ u m v2 (sI (sI (sI (sI (sI (sI z 0 25 ((-6))) 0 26 ((-6))) 0 27 0) 0 28 0) 0 29 0) 0 30 0) t 0 0 0 0 0 0 (fun b => t 6 b) (fun _ => 0) := by
    refine ⟨⟨?_, ?_, ?_, x3, x4, x5, x6, x7, ?_, x8⟩, ⟨?_, ?_, ?_, ?_, ?_, ?_, ?_, ?_⟩, ⟨by omega, by omega, by omega, by omega, by omega, fun b hb => ⟨(K_bar hT hb).1, Nat.zero_le _, fun _ => rfl⟩, fun b hb hbt => (K_there hT hb hbt).1⟩⟩
    · intro c hc; rw [x1 c (by omega) (by omega), w1 c (by omega) (by omega) (by omega)]; exact hA.1 c hc
    · exact AL_tr (As_AL hT hA) (fun c hc => by rw [x1 c (by omega) (by omega), w1 c (by omega) (by omega) (by omega)])
    · rw [x2]; exact w3
    · intro b hb; rw [x1 22 (by omega) (by omega), x1 23 (by omega) (by omega)]; exact w4 b hb
    · exact Km_s0 (Km_s0 (Km_s0 (Km_s0 (Km_s0 (Km_s0 ⟨fun c hc => z1 c (by omega) (by omega), fun k hk => by rw [z1 0 (by omega) (by omega)], by rw [z2]⟩ (by omega)) (by omega)) (by omega)) (by omega)) (by omega)) (by omega)
    · simp (disch := omega) only [b1E, b2E, bsE, jq0, jq1, jq2, jq3, w_ev, in_ev2, nI_leI, nI_ltI, nI_eq, nI_add, ↓pk_rem, pk_div, pk_sub, pk_mul, ckiT, ckT, ixN, if_pos, if_neg, ↓reduceIte, ckTr, true_or, or_true, false_or, or_false, sI_o, sI_s, pk_un, pk_us, il_0, il_1, il_2, il_3, il_4, il_5, il_6, il_7, il_8, il_9, il_10, il_12, il_16, il_20, il_29, il_30, il_31, il_32, il_33, il_39, il_40, il_43, il_46, il_48, il_50, il_54, il_55, il_57, il_60, il_63, il_64, il_74, il_75, il_97, il_99, il_100, il_126, il_150, il_255, il_256, il_899, il_999, il_9999, il_65537, il_1000000, il_2147483647, nn1, nn6, m6lt, nn1s, nn6s]
    · simp (disch := omega) only [b1E, b2E, bsE, jq0, jq1, jq2, jq3, w_ev, in_ev2, nI_leI, nI_ltI, nI_eq, nI_add, ↓pk_rem, pk_div, pk_sub, pk_mul, ckiT, ckT, ixN, if_pos, if_neg, ↓reduceIte, ckTr, true_or, or_true, false_or, or_false, sI_o, sI_s, pk_un, pk_us, il_0, il_1, il_2, il_3, il_4, il_5, il_6, il_7, il_8, il_9, il_10, il_12, il_16, il_20, il_29, il_30, il_31, il_32, il_33, il_39, il_40, il_43, il_46, il_48, il_50, il_54, il_55, il_57, il_60, il_63, il_64, il_74, il_75, il_97, il_99, il_100, il_126, il_150, il_255, il_256, il_899, il_999, il_9999, il_65537, il_1000000, il_2147483647, nn1, nn6, m6lt, nn1s, nn6s]
    · simp (disch := omega) only [b1E, b2E, bsE, jq0, jq1, jq2, jq3, w_ev, in_ev2, nI_leI, nI_ltI, nI_eq, nI_add, ↓pk_rem, pk_div, pk_sub, pk_mul, ckiT, ckT, ixN, if_pos, if_neg, ↓reduceIte, ckTr, true_or, or_true, false_or, or_false, sI_o, sI_s, pk_un, pk_us, il_0, il_1, il_2, il_3, il_4, il_5, il_6, il_7, il_8, il_9, il_10, il_12, il_16, il_20, il_29, il_30, il_31, il_32, il_33, il_39, il_40, il_43, il_46, il_48, il_50, il_54, il_55, il_57, il_60, il_63, il_64, il_74, il_75, il_97, il_99, il_100, il_126, il_150, il_255, il_256, il_899, il_999, il_9999, il_65537, il_1000000, il_2147483647, nn1, nn6, m6lt, nn1s, nn6s]
    · simp (disch := omega) only [b1E, b2E, bsE, jq0, jq1, jq2, jq3, w_ev, in_ev2, nI_leI, nI_ltI, nI_eq, nI_add, ↓pk_rem, pk_div, pk_sub, pk_mul, ckiT, ckT, ixN, if_pos, if_neg, ↓reduceIte, ckTr, true_or, or_true, false_or, or_false, sI_o, sI_s, pk_un, pk_us, il_0, il_1, il_2, il_3, il_4, il_5, il_6, il_7, il_8, il_9, il_10, il_12, il_16, il_20, il_29, il_30, il_31, il_32, il_33, il_39, il_40, il_43, il_46, il_48, il_50, il_54, il_55, il_57, il_60, il_63, il_64, il_74, il_75, il_97, il_99, il_100, il_126, il_150, il_255, il_256, il_899, il_999, il_9999, il_65537, il_1000000, il_2147483647, nn1, nn6, m6lt, nn1s, nn6s]
    · simp (disch := omega) only [b1E, b2E, bsE, jq0, jq1, jq2, jq3, w_ev, in_ev2, nI_leI, nI_ltI, nI_eq, nI_add, ↓pk_rem, pk_div, pk_sub, pk_mul, ckiT, ckT, ixN, if_pos, if_neg, ↓reduceIte, ckTr, true_or, or_true, false_or, or_false, sI_o, sI_s, pk_un, pk_us, il_0, il_1, il_2, il_3, il_4, il_5, il_6, il_7, il_8, il_9, il_10, il_12, il_16, il_20, il_29, il_30, il_31, il_32, il_33, il_39, il_40, il_43, il_46, il_48, il_50, il_54, il_55, il_57, il_60, il_63, il_64, il_74, il_75, il_97, il_99, il_100, il_126, il_150, il_255, il_256, il_899, il_999, il_9999, il_65537, il_1000000, il_2147483647, nn1, nn6, m6lt, nn1s, nn6s]
    · simp (disch := omega) only [b1E, b2E, bsE, jq0, jq1, jq2, jq3, w_ev, in_ev2, nI_leI, nI_ltI, nI_eq, nI_add, ↓pk_rem, pk_div, pk_sub, pk_mul, ckiT, ckT, ixN, if_pos, if_neg, ↓reduceIte, ckTr, true_or, or_true, false_or, or_false, sI_o, sI_s, pk_un, pk_us, il_0, il_1, il_2, il_3, il_4, il_5, il_6, il_7, il_8, il_9, il_10, il_12, il_16, il_20, il_29, il_30, il_31, il_32, il_33, il_39, il_40, il_43, il_46, il_48, il_50, il_54, il_55, il_57, il_60, il_63, il_64, il_74, il_75, il_97, il_99, il_100, il_126, il_150, il_255, il_256, il_899, il_999, il_9999, il_65537, il_1000000, il_2147483647, nn1, nn6, m6lt, nn1s, nn6s]
    · intro b hb; exact ⟨by simp (disch := omega) only [(z3 b hb).1, b1E, b2E, bsE, jq0, jq1, jq2, jq3, w_ev, in_ev2, nI_leI, nI_ltI, nI_eq, nI_add, ↓pk_rem, pk_div, pk_sub, pk_mul, ckiT, ckT, ixN, if_pos, if_neg, ↓reduceIte, ckTr, true_or, or_true, false_or, or_false, sI_o, sI_s, pk_un, pk_us, il_0, il_1, il_2, il_3, il_4, il_5, il_6, il_7, il_8, il_9, il_10, il_12, il_16, il_20, il_29, il_30, il_31, il_32, il_33, il_39, il_40, il_43, il_46, il_48, il_50, il_54, il_55, il_57, il_60, il_63, il_64, il_74, il_75, il_97, il_99, il_100, il_126, il_150, il_255, il_256, il_899, il_999, il_9999, il_65537, il_1000000, il_2147483647, nn1, nn6, m6lt, nn1s, nn6s], by simp (disch := omega) only [(z3 b hb).2, b1E, b2E, bsE, jq0, jq1, jq2, jq3, w_ev, in_ev2, nI_leI, nI_ltI, nI_eq, nI_add, ↓pk_rem, pk_div, pk_sub, pk_mul, ckiT, ckT, ixN, if_pos, if_neg, ↓reduceIte, ckTr, true_or, or_true, false_or, or_false, sI_o, sI_s, pk_un, pk_us, il_0, il_1, il_2, il_3, il_4, il_5, il_6, il_7, il_8, il_9, il_10, il_12, il_16, il_20, il_29, il_30, il_31, il_32, il_33, il_39, il_40, il_43, il_46, il_48, il_50, il_54, il_55, il_57, il_60, il_63, il_64, il_74, il_75, il_97, il_99, il_100, il_126, il_150, il_255, il_256, il_899, il_999, il_9999, il_65537, il_1000000, il_2147483647, nn1, nn6, m6lt, nn1s, nn6s]⟩
  obtain ⟨v3, w3', g1, g2, g3⟩ := sim hU hM hT hP hd0 hr0 hall.1 hall.2 hpq hpl hql (t 18 1) 0 _ _ _ _ _ _ _ _ _ 0 FU FU (by omega) (by omega) rfl hR (by show _ < 100000; omega) (by show _ < 100000; omega)
  refine ⟨v3, w3', ?_, ?_, g3⟩
  · unfold f_X11_followPad f_X1_follow
    rw [U_cnt hU, fmC hP hT, b1E, hfm, if_pos (show -nI 6 = (-6 : Int32) from rfl), ev, b1E, ev1, b1E, ev2, b1E, jq1]
    rw [show lq_3 (B_X1_follow_13 (nI pl) fun u7 => some u7) FU v2 0 0 = some v3 from g1]; rfl
  · unfold f_X12_goMoves
    rw [jq1, ez, bsE, bsE, bsE, bsE, bsE, bsE, jq1]
    exact g2
theorem folN (hU : UT u t 0) (hT : TK t) (hP : PD u m t) (hfm : ¬ fmV t = -nI 6) (x : Int32) : f_X11_followPad u x = some (0, u) := by
  unfold f_X11_followPad
  rw [U_cnt hU, fmC hP hT, b1E, if_neg (show ¬ fmV t = -6 from hfm)]
theorem fm_cs (hP : PD u m t) : fmV t = -nI 6 ∨ ∃ k, k ≤ 60 ∧ fmV t = nI k := by
  have h60 := hP.2.2.2.2.1
  have hle := fs_le (p := fmP t) (n := t 18 1)
  unfold fmV
  by_cases h1 : fs (fmP t) (t 18 1) < t 18 1
  · rw [if_pos h1]; exact Or.inr ⟨_, by omega, rfl⟩
  · rw [if_neg h1]
    cases du t (t 18 1) with
    | false => exact Or.inl rfl
    | true => exact Or.inr ⟨_, h60, rfl⟩
end SI
theorem s_judge : Sp_judge Inv := by
  intro N u m p1 hi0
  obtain ⟨t, hU, hM, hT, hP, hI, hd, hr⟩ := id hi0
  have h1 := (K_set hT).2.2 1 (by omega)
  unfold f_X11_judge f_X12_judge
  rw [w_ev, b1E, in_ev (a := 0) (b := 3) (lo := 0) (hi := 3) rfl rfl, b1E]
  by_cases h : (0 : Int32) ≤ p1 ∧ p1 ≤ 3
  rotate_left
  · rw [if_neg h, if_pos rfl, if_pos rfl]
    exact ⟨_, _, _, rfl, rfl, hi0⟩
  rw [if_pos h, if_neg n10, if_neg n10, ckiT' (i := 1) (k := 1) rfl (by decide) (by decide), show ix 1 = 1 from rfl, U_set hU (by omega), fmM hM hP hT, b1E]
  rcases fm_cs hP with hf | ⟨k, hk, hf⟩
  rotate_left
  · rw [folN hU hT hP (by rw [hf, nn6 (by omega)]; exact id), b2E, if_pos rfl, hf, if_neg (show ¬ nI k < 0 from nge (by omega))]
    exact ⟨_, _, _, rfl, rfl, hi0⟩
  obtain ⟨v2, w2, e1, e2, hO⟩ := fol hU hM hT hP hd hr hf (pl := t 16 1) (ql := t 16 1) (fun _ _ => Iff.rfl) (by omega) (by omega)
  rw [e1, b2E, if_neg n10, hf, if_pos (show -nI 6 < 0 by decide), M_hands hM, e2, b1E, jq0, jq1]
  obtain ⟨o1, o2, o3⟩ := hO
  have hI2 := Inv_keep hi0 o1 o2
  obtain ⟨q, -, hq, rfl⟩ := rng h (a := 0) (b := 3) rfl rfl (by decide) (by decide)
  have hq4 : q = 0 ∨ q = 1 ∨ q = 2 ∨ q = 3 := by omega
  rcases o3 with ⟨y1, y2, y3, y4, y5, y6, y7⟩ | ⟨pa, wy, x1, x2, x3, x4, x5, x6, x7⟩
  · rw [y1, y2, y3, y4, y5]
    rcases hq4 with rfl | rfl | rfl | rfl <;> exact ⟨_, _, _, rfl, rfl, hI2⟩
  · have hw : ¬ nI wy = (0 : Int32) := fun h9 => absurd ((nI_eq (b := 0) (by omega) (by decide)).mp h9) (by omega)
    have hp : ¬ nI pa < (0 : Int32) := nge (by omega)
    rw [x4, x5, x6, x7, if_neg hw, if_neg hp]
    rcases hq4 with rfl | rfl | rfl | rfl <;> exact ⟨_, _, _, rfl, rfl, hI2⟩
theorem s_behind : Sp_behind Inv := by
  intro N u m p1 p2 hi0
  obtain ⟨t, hU, hM, hT, hP, hI, hd, hr⟩ := id hi0
  have h1 := (K_set hT).2.2 1 (by omega)
  unfold f_X11_behind f_X12_behind
  rcases bar_cs hU hM hT p1 with ⟨e1, e2⟩ | ⟨e1, e2, b, hb, rfl, hbt⟩
  · rw [e1, e2, b1E, b1E, if_pos rfl, if_pos rfl]
    exact ⟨_, _, _, rfl, rfl, hi0⟩
  rw [e1, e2, b1E, b1E, if_neg n10, if_neg n10, w_ev, b1E, in_ev (a := 0) (b := 1) (lo := 0) (hi := 1) rfl rfl, b1E]
  by_cases h : (0 : Int32) ≤ p2 ∧ p2 ≤ 1
  rotate_left
  · rw [if_neg h, if_pos rfl, if_pos rfl]
    exact ⟨_, _, _, rfl, rfl, hi0⟩
  rw [if_pos h, if_neg n10, if_neg n10, ckiT' (i := 1) (k := 1) rfl (by decide) (by decide), show ix 1 = 1 from rfl, U_set hU (by omega), fmM hM hP hT, b1E]
  rcases fm_cs hP with hf | ⟨k, hk, hf⟩
  rotate_left
  · rw [folN hU hT hP (by rw [hf, nn6 (by omega)]; exact id), b2E, if_pos rfl, hf, if_neg (show ¬ nI k < 0 from nge (by omega))]
    exact ⟨_, _, _, rfl, rfl, hi0⟩
  obtain ⟨v2, w2, e1, e2, hO⟩ := fol hU hM hT hP hd hr hf (pl := t 16 1) (ql := t 16 1) (fun _ _ => Iff.rfl) (by omega) (by omega)
  rw [e1, b2E, if_neg n10, hf, if_pos (show -nI 6 < 0 by decide), M_hands hM, e2, b1E, ckiT hb (by decide), ckiT hb (by decide), ixN (by omega)]
  obtain ⟨o1, o2, o3⟩ := hO
  have hI2 := Inv_keep hi0 o1 o2
  rcases o3 with ⟨y1, y2, y3, y4, y5, y6, y7⟩ | ⟨pa, wy, x1, x2, x3, x4, x5, x6, x7⟩
  · rw [y1, y2, if_pos (show nI 0 = 0 from rfl), if_pos (show -nI 6 < 0 by decide), (y7 b hb).1, (y7 b hb).2, ckiT hb (by decide), ckiT hb (by decide)]
    by_cases h0 : p2 = 0
    · rw [if_pos h0, if_pos h0]; exact ⟨_, _, _, rfl, rfl, hI2⟩
    · rw [if_neg h0, if_neg h0]; exact ⟨_, _, _, rfl, rfl, hI2⟩
  · have hw : ¬ nI wy = (0 : Int32) := fun h9 => absurd ((nI_eq (b := 0) (by omega) (by decide)).mp h9) (by omega)
    have hp : ¬ nI pa < (0 : Int32) := nge (by omega)
    rw [x5, x6, if_neg hw, if_neg hp]
    exact ⟨_, _, _, rfl, rfl, hI2⟩
theorem s_hands : Sp_hands Inv := by
  intro N u m hi0
  obtain ⟨t, hU, hM, hT, hP, hI, hd, hr⟩ := id hi0
  unfold f_X11_hands f_X12_hands
  rw [fmM hM hP hT, b1E]
  rcases fm_cs hP with hf | ⟨k, hk, hf⟩
  rotate_left
  · rw [folN hU hT hP (by rw [hf, nn6 (by omega)]; exact id), b2E, if_pos rfl, hf, if_neg (show ¬ nI k < 0 from nge (by omega))]
    exact ⟨_, _, _, rfl, rfl, hi0⟩
  obtain ⟨v2, w2, e1, e2, hO⟩ := fol hU hM hT hP hd hr hf (pl := 1000000) (ql := 1000000) (fun _ _ => ⟨fun _ => by omega, fun _ => by omega⟩) (by omega) (by omega)
  rw [show f_X11_followPad u 1000000 = some (1, v2) from e1, show f_X12_goMoves m 1000000 = some w2 from e2, b2E, if_neg n10, hf, if_pos (show -nI 6 < 0 by decide), b1E]
  obtain ⟨o1, o2, o3⟩ := hO
  have hI2 := Inv_keep hi0 o1 o2
  rcases o3 with ⟨y1, y2, y3, y4, y5, y6, y7⟩ | ⟨pa, wy, x1, x2, x3, x4, x5, x6, x7⟩
  · rw [y1, y2, if_pos (show nI 0 = 0 from rfl), if_pos (show -nI 6 < 0 by decide), y6]
    exact ⟨_, _, _, rfl, rfl, hI2⟩
  · have hw : ¬ nI wy = (0 : Int32) := fun h9 => absurd ((nI_eq (b := 0) (by omega) (by decide)).mp h9) (by omega)
    have hp : ¬ nI pa < (0 : Int32) := nge (by omega)
    rw [x5, x6, if_neg hw, if_neg hp]
    exact ⟨_, _, _, rfl, rfl, hI2⟩
