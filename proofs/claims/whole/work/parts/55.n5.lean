/-! ===== drought, value, quiet ===== -/
def dL (t : Nat → Nat → Nat) (ls : Nat) : Nat → Nat := fun d => dig t (d + t 16 2) - ls
def drP (t : Nat → Nat → Nat) (d : Nat) : Nat → Bool := fun ls => decide (lo t (t 2 3) (dL t ls) d 8 = 0)
theorem dr9 {t : Nat → Nat → Nat} (hT : TK t) (d : Nat) : lo t (t 2 3) (dL t 9) d 8 = 0 := by
  have hs := (K_set hT).1
  unfold lo
  rw [sm_congr (g := fun _ => 0) (fun b hb => ?_), sm_zero]
  rw [if_neg]
  rintro ⟨-, h⟩
  have : ac t (t 2 3) (dL t 9) (t 6 b) (t 8 b) d = 0 := by
    unfold ac
    rw [sm_congr (g := fun _ => 0) (fun i hi => ?_), sm_zero]; rfl
    have h1 := dig_le hT (i + t 16 2)
    have h2 := br_le (t := t) (wl := t 2 3) (c := t 6 b) (lev := dL t 9 i)
    unfold dL at h2
    show br t (t 2 3) (t 6 b) (dL t 9 i) - t 8 b = 0
    unfold dL
    omega
  omega
theorem s_drought : Sp_drought Inv := by
  intro N u m p1 hi0
  obtain ⟨t, hU, hM, hT, hP, hI, hd, hr⟩ := id hi0
  have hph := (K_set hT).2.1
  unfold f_X11_drought f_X12_drought
  by_cases h : (0 : Int32) ≤ p1 ∧ p1 ≤ 999
  rotate_left
  · rw [(days_no (u := u) (m := m) h).1, (days_no (u := u) (m := m) h).2, b1E, b1E, if_pos rfl, if_pos rfl]
    exact ⟨_, _, _, rfl, rfl, hi0⟩
  obtain ⟨e1, e2, d, hd9, rfl⟩ := days_yes (u := u) (m := m) h
  obtain ⟨v, ev, hA⟩ := asI hU hT
  rw [e1, e2, b1E, b1E, if_neg n10, if_neg n10, ev, b1E, bsE, jq1, jq1]
  have hC : ∃ v2, lq_2 (B_X11_drought_23 (nI d) (fun u7 : St => some (9, u7))) FU v 0 = some (nI (fs (drP t d) 9), v2) ∧ Kp u v2 := by
    refine mw_2 (P := fun i (w : St) (y : Int32) => y = nI i ∧ Kp u w ∧ w.1 20 1 = nI (t 16 2) ∧ w.1 20 2 = nI (t 2 3) ∧ w.1 20 3 = -nI 1 ∧ ∀ j, j < i → drP t d j = false) (Q := fun o => ∃ v2, o = some (nI (fs (drP t d) 9), v2) ∧ Kp u v2) 9 ?_ ?_ (FU_lt (by decide)) ⟨rfl, hA.1, hA.2.2.1, hA.2.2.2.1, hA.2.2.2.2.1, fun j hj => absurd hj (by omega)⟩
    · rintro i w y hi ⟨rfl, hk, h1, h2, h3, hn⟩
      have hk2 : Kp u (sI w 20 4 (nI i)) := Kp_sI hk (by omega)
      have hU2 := UT_kp hU (Or.inl rfl) hk2
      have g1 : (sI w 20 4 (nI i)).1 20 1 = nI (t 16 2) := by simp (disch := omega) only [h1, b1E, b2E, bsE, jq0, jq1, jq2, jq3, w_ev, in_ev2, nI_leI, nI_ltI, nI_eq, nI_add, ↓pk_rem, pk_div, pk_sub, pk_mul, ckiT, ckT, ixN, if_pos, if_neg, ↓reduceIte, ckTr, true_or, or_true, false_or, or_false, sI_o, sI_s, pk_un, pk_us, il_0, il_1, il_2, il_3, il_4, il_5, il_6, il_7, il_8, il_9, il_10, il_12, il_16, il_20, il_29, il_30, il_31, il_32, il_33, il_39, il_40, il_43, il_46, il_48, il_50, il_54, il_55, il_57, il_60, il_63, il_64, il_74, il_75, il_97, il_99, il_100, il_126, il_150, il_255, il_256, il_899, il_999, il_9999, il_65537, il_1000000, il_2147483647, nn1, nn6, m6lt, nn1s, nn6s]
      have g2 : (sI w 20 4 (nI i)).1 20 2 = nI (t 2 3) := by simp (disch := omega) only [h2, b1E, b2E, bsE, jq0, jq1, jq2, jq3, w_ev, in_ev2, nI_leI, nI_ltI, nI_eq, nI_add, ↓pk_rem, pk_div, pk_sub, pk_mul, ckiT, ckT, ixN, if_pos, if_neg, ↓reduceIte, ckTr, true_or, or_true, false_or, or_false, sI_o, sI_s, pk_un, pk_us, il_0, il_1, il_2, il_3, il_4, il_5, il_6, il_7, il_8, il_9, il_10, il_12, il_16, il_20, il_29, il_30, il_31, il_32, il_33, il_39, il_40, il_43, il_46, il_48, il_50, il_54, il_55, il_57, il_60, il_63, il_64, il_74, il_75, il_97, il_99, il_100, il_126, il_150, il_255, il_256, il_899, il_999, il_9999, il_65537, il_1000000, il_2147483647, nn1, nn6, m6lt, nn1s, nn6s]
      have g3 : (sI w 20 4 (nI i)).1 20 3 = -nI 1 := by simp (disch := omega) only [h3, b1E, b2E, bsE, jq0, jq1, jq2, jq3, w_ev, in_ev2, nI_leI, nI_ltI, nI_eq, nI_add, ↓pk_rem, pk_div, pk_sub, pk_mul, ckiT, ckT, ixN, if_pos, if_neg, ↓reduceIte, ckTr, true_or, or_true, false_or, or_false, sI_o, sI_s, pk_un, pk_us, il_0, il_1, il_2, il_3, il_4, il_5, il_6, il_7, il_8, il_9, il_10, il_12, il_16, il_20, il_29, il_30, il_31, il_32, il_33, il_39, il_40, il_43, il_46, il_48, il_50, il_54, il_55, il_57, il_60, il_63, il_64, il_74, il_75, il_97, il_99, il_100, il_126, il_150, il_255, il_256, il_899, il_999, il_9999, il_65537, il_1000000, il_2147483647, nn1, nn6, m6lt, nn1s, nn6s]
      have g4 : (sI w 20 4 (nI i)).1 20 4 = nI i := by simp (disch := omega) only [b1E, b2E, bsE, jq0, jq1, jq2, jq3, w_ev, in_ev2, nI_leI, nI_ltI, nI_eq, nI_add, ↓pk_rem, pk_div, pk_sub, pk_mul, ckiT, ckT, ixN, if_pos, if_neg, ↓reduceIte, ckTr, true_or, or_true, false_or, or_false, sI_o, sI_s, pk_un, pk_us, il_0, il_1, il_2, il_3, il_4, il_5, il_6, il_7, il_8, il_9, il_10, il_12, il_16, il_20, il_29, il_30, il_31, il_32, il_33, il_39, il_40, il_43, il_46, il_48, il_50, il_54, il_55, il_57, il_60, il_63, il_64, il_74, il_75, il_97, il_99, il_100, il_126, il_150, il_255, il_256, il_899, il_999, il_9999, il_65537, il_1000000, il_2147483647, nn1, nn6, m6lt, nn1s, nn6s]
      have hAL : AL (sI w 20 4 (nI i)) t (t 2 3) (dL t i) := ⟨hU2, g2, g3, LC_mk hU2 hT g1 g4 hph (by omega), K_wal hT⟩
      have e : ∀ rec, B_X11_drought_23 (nI d) (fun u7 : St => some (9, u7)) rec w (nI i) = if lo t (t 2 3) (dL t i) d 8 = 0 then some (nI i, sI w 20 4 (nI i)) else rec (sI w 20 4 (nI i)) (nI (i + 1)) := by
        intro rec
        have hlo := lo_le (wl := t 2 3) (L := dL t i) hT (d := d) (n := 8) (by omega)
        unfold B_X11_drought_23
        rw [if_neg (nle_l (l := 9) 9 rfl hi (by decide)), bsE, loC hT hAL (by omega), b1E, nI_1]
        by_cases h0 : lo t (t 2 3) (dL t i) d 8 = 0
        · rw [if_pos h0, h0, if_pos (show nI 0 = 0 from rfl)]
        · rw [if_neg h0, if_neg (show ¬ nI (lo t (t 2 3) (dL t i) d 8) = 0 from fun h9 => h0 ((nI_eq (b := 0) (by omega) (by decide)).mp h9))]
      by_cases hp : drP t d i = true
      · refine Or.inr fun rec => ?_
        rw [e, if_pos (of_decide_eq_true hp), fs_hit hi hp hn]
        exact ⟨_, rfl, hk2⟩
      · refine Or.inl ⟨_, _, fun rec => by rw [e, if_neg (fun h9 => hp (decide_eq_true h9))], ⟨rfl, hk2, g1, g2, g3, fun j hj => ?_⟩⟩
        by_cases h9 : j = i
        · subst h9; exact Bool.eq_false_iff.mpr hp
        · exact hn j (by omega)
    · rintro w y ⟨rfl, hk, -, -, -, hn⟩ rec
      unfold B_X11_drought_23
      rw [fs_none hn, if_pos (show (9 : Int32) ≤ nI 9 by decide)]
      exact ⟨_, rfl, hk⟩
  have hMm : ∃ v2, lq_1 (B_X12_drought_15 (nI d) (fun (u6 : St) => bs (sI u6 0 22 0) (fun u7 : St => some (u6.1 0 22, u7)))) FU (sI m 0 22 0) = some (nI (fs (drP t d) 9), v2) ∧ Km m v2 := by
    refine mw_1 (P := fun i (w : St) => w.1 0 22 = nI i ∧ (∀ c, c ≠ 0 → w.1 c = m.1 c) ∧ (∀ k, k ≠ 22 → w.1 0 k = m.1 0 k) ∧ w.2 = m.2 ∧ ∀ j, j < i → drP t d j = false) (Q := fun o => ∃ v2, o = some (nI (fs (drP t d) 9), v2) ∧ Km m v2) 9 ?_ ?_ (FU_lt (by decide)) ⟨by simp (disch := omega) only [b1E, b2E, bsE, jq0, jq1, jq2, jq3, w_ev, in_ev2, nI_leI, nI_ltI, nI_eq, nI_add, ↓pk_rem, pk_div, pk_sub, pk_mul, ckiT, ckT, ixN, if_pos, if_neg, ↓reduceIte, ckTr, true_or, or_true, false_or, or_false, sI_o, sI_s, pk_un, pk_us, il_0, il_1, il_2, il_3, il_4, il_5, il_6, il_7, il_8, il_9, il_10, il_12, il_16, il_20, il_29, il_30, il_31, il_32, il_33, il_39, il_40, il_43, il_46, il_48, il_50, il_54, il_55, il_57, il_60, il_63, il_64, il_74, il_75, il_97, il_99, il_100, il_126, il_150, il_255, il_256, il_899, il_999, il_9999, il_65537, il_1000000, il_2147483647, nn1, nn6, m6lt, nn1s, nn6s], fun c hc => by simp (disch := omega) only [b1E, b2E, bsE, jq0, jq1, jq2, jq3, w_ev, in_ev2, nI_leI, nI_ltI, nI_eq, nI_add, ↓pk_rem, pk_div, pk_sub, pk_mul, ckiT, ckT, ixN, if_pos, if_neg, ↓reduceIte, ckTr, true_or, or_true, false_or, or_false, sI_o, sI_s, pk_un, pk_us, il_0, il_1, il_2, il_3, il_4, il_5, il_6, il_7, il_8, il_9, il_10, il_12, il_16, il_20, il_29, il_30, il_31, il_32, il_33, il_39, il_40, il_43, il_46, il_48, il_50, il_54, il_55, il_57, il_60, il_63, il_64, il_74, il_75, il_97, il_99, il_100, il_126, il_150, il_255, il_256, il_899, il_999, il_9999, il_65537, il_1000000, il_2147483647, nn1, nn6, m6lt, nn1s, nn6s], fun k hk => by simp (disch := omega) only [b1E, b2E, bsE, jq0, jq1, jq2, jq3, w_ev, in_ev2, nI_leI, nI_ltI, nI_eq, nI_add, ↓pk_rem, pk_div, pk_sub, pk_mul, ckiT, ckT, ixN, if_pos, if_neg, ↓reduceIte, ckTr, true_or, or_true, false_or, or_false, sI_o, sI_s, pk_un, pk_us, il_0, il_1, il_2, il_3, il_4, il_5, il_6, il_7, il_8, il_9, il_10, il_12, il_16, il_20, il_29, il_30, il_31, il_32, il_33, il_39, il_40, il_43, il_46, il_48, il_50, il_54, il_55, il_57, il_60, il_63, il_64, il_74, il_75, il_97, il_99, il_100, il_126, il_150, il_255, il_256, il_899, il_999, il_9999, il_65537, il_1000000, il_2147483647, nn1, nn6, m6lt, nn1s, nn6s], rfl, fun j hj => absurd hj (by omega)⟩
    all_goals
      have stp : ∀ i w, i ≤ 9 → w.1 0 22 = nI i → (∀ c, c ≠ 0 → w.1 c = m.1 c) → (∀ k, k ≠ 22 → w.1 0 k = m.1 0 k) → w.2 = m.2 → ∀ rec, B_X12_drought_15 (nI d) (fun (u6 : St) => bs (sI u6 0 22 0) (fun u7 : St => some (u6.1 0 22, u7))) rec w = if lo t (t 2 3) (dL t i) d 8 = 0 then some (nI i, sI w 0 22 0) else rec (sI w 0 22 (nI (i + 1))) := by
        intro i w hi h1 h2 h3 h4 rec
        have hMw : MT w t := MT_congr hM (fun c hc _ => h2 c (by omega)) (fun k hk => h3 k (by omega)) (fun c _ => rfl)
        have hLw : LM w (fun d => dig t (d + t 16 2) + (fun _ => 0) d - i) := LM_mk (x := fun _ => 0) hMw hT (by rw [h4, hd]; exact DX_0) h1 (by omega)
        have hlo := lo_le (wl := t 2 3) (L := dL t i) hT (d := d) (n := 8) (by omega)
        have e0 := loM hMw hT hLw (d := d) (by omega)
        rw [show (fun d => dig t (d + t 16 2) + (fun _ => 0) d - i) = dL t i from rfl] at e0
        unfold B_X12_drought_15
        rw [e0, b1E, bsE, h1, nI_1]
        by_cases h0 : lo t (t 2 3) (dL t i) d 8 = 0
        · rw [if_pos h0, h0, if_pos (show nI 0 ≤ 0 by decide)]; show some (w.1 0 22, sI w 0 22 0) = _; rw [h1]
        · rw [if_neg h0, if_neg (show ¬ nI (lo t (t 2 3) (dL t i) d 8) ≤ 0 from nI_ge (a := 0) (by omega) (by omega))]
      have kmm : ∀ w, (∀ c, c ≠ 0 → w.1 c = m.1 c) → (∀ k, k ≠ 22 → w.1 0 k = m.1 0 k) → w.2 = m.2 → Km m (sI w 0 22 0) := by
        intro w h2 h3 h4
        refine ⟨fun c hc => by rw [sI_o (by omega)]; exact h2 c (by omega), fun k hk => ?_, by show w.2 0 21 = _; rw [h4]⟩
        rw [sI_s]
        by_cases h9 : k = 22
        · subst h9; rw [pk_us, hr]
        · rw [pk_un h9]; exact h3 k h9
    · rintro i w hi ⟨h1, h2, h3, h4, hn⟩
      have e := stp i w (by omega) h1 h2 h3 h4
      by_cases hp : drP t d i = true
      · refine Or.inr fun rec => ?_
        rw [e, if_pos (of_decide_eq_true hp), fs_hit hi hp hn]
        exact ⟨_, rfl, kmm w h2 h3 h4⟩
      · refine Or.inl ⟨_, fun rec => by rw [e, if_neg (fun h9 => hp (decide_eq_true h9))], ⟨by simp (disch := omega) only [b1E, b2E, bsE, jq0, jq1, jq2, jq3, w_ev, in_ev2, nI_leI, nI_ltI, nI_eq, nI_add, ↓pk_rem, pk_div, pk_sub, pk_mul, ckiT, ckT, ixN, if_pos, if_neg, ↓reduceIte, ckTr, true_or, or_true, false_or, or_false, sI_o, sI_s, pk_un, pk_us, il_0, il_1, il_2, il_3, il_4, il_5, il_6, il_7, il_8, il_9, il_10, il_12, il_16, il_20, il_29, il_30, il_31, il_32, il_33, il_39, il_40, il_43, il_46, il_48, il_50, il_54, il_55, il_57, il_60, il_63, il_64, il_74, il_75, il_97, il_99, il_100, il_126, il_150, il_255, il_256, il_899, il_999, il_9999, il_65537, il_1000000, il_2147483647, nn1, nn6, m6lt, nn1s, nn6s], fun c hc => by simp (disch := omega) only [h2 c hc, b1E, b2E, bsE, jq0, jq1, jq2, jq3, w_ev, in_ev2, nI_leI, nI_ltI, nI_eq, nI_add, ↓pk_rem, pk_div, pk_sub, pk_mul, ckiT, ckT, ixN, if_pos, if_neg, ↓reduceIte, ckTr, true_or, or_true, false_or, or_false, sI_o, sI_s, pk_un, pk_us, il_0, il_1, il_2, il_3, il_4, il_5, il_6, il_7, il_8, il_9, il_10, il_12, il_16, il_20, il_29, il_30, il_31, il_32, il_33, il_39, il_40, il_43, il_46, il_48, il_50, il_54, il_55, il_57, il_60, il_63, il_64, il_74, il_75, il_97, il_99, il_100, il_126, il_150, il_255, il_256, il_899, il_999, il_9999, il_65537, il_1000000, il_2147483647, nn1, nn6, m6lt, nn1s, nn6s], fun k hk => by simp (disch := omega) only [h3 k hk, b1E, b2E, bsE, jq0, jq1, jq2, jq3, w_ev, in_ev2, nI_leI, nI_ltI, nI_eq, nI_add, ↓pk_rem, pk_div, pk_sub, pk_mul, ckiT, ckT, ixN, if_pos, if_neg, ↓reduceIte, ckTr, true_or, or_true, false_or, or_false, sI_o, sI_s, pk_un, pk_us, il_0, il_1, il_2, il_3, il_4, il_5, il_6, il_7, il_8, il_9, il_10, il_12, il_16, il_20, il_29, il_30, il_31, il_32, il_33, il_39, il_40, il_43, il_46, il_48, il_50, il_54, il_55, il_57, il_60, il_63, il_64, il_74, il_75, il_97, il_99, il_100, il_126, il_150, il_255, il_256, il_899, il_999, il_9999, il_65537, il_1000000, il_2147483647, nn1, nn6, m6lt, nn1s, nn6s], ?_, fun j hj => ?_⟩⟩
        · exact h4
        · by_cases h9 : j = i
          · subst h9; exact Bool.eq_false_iff.mpr hp
          · exact hn j (by omega)
    · rintro w ⟨h1, h2, h3, h4, hn⟩ rec
      rw [stp 9 w (by omega) h1 h2 h3 h4, if_pos (dr9 hT d), fs_none hn]
      exact ⟨_, rfl, kmm w h2 h3 h4⟩
  obtain ⟨v2, f1, f2⟩ := hC
  obtain ⟨m2, g1, g2⟩ := hMm
  exact ⟨_, _, _, f1, g1, Inv_keep hi0 f2 g2⟩
/-! value -/
def wo (t : Nat → Nat → Nat) (b d a : Nat) : Nat := if t 16 0 ≤ a then 0 else t 7 b * (50 - ((d - t 16 (3 + t 9 b)) + (t 16 (3 + t 9 b) - d) + a))
theorem sub3 {c x y : Int32} : (c - x) - y = c - (x + y) := by
  apply Int32.toBitVec_inj.mp
  simp only [Int32.toBitVec_sub, Int32.toBitVec_add]
  bv_omega
theorem s50 : ∀ s, s < 10 → ∀ w, w < 300 → mxI 0 (nI s * ((50 : Int32) - nI w)) = nI (s * (50 - w)) := by decide +kernel
theorem ab_n {a b : Nat} {R : Type} (ha : a < 2 ^ 30) (hb : b < 2 ^ 30) (K : Int32 → Option R) : jq_1 K (fun k3 => if 0 ≤ nI a - nI b then k3 (nI a - nI b) else k3 (-(nI a - nI b))) = K (nI ((a - b) + (b - a))) := by
  rw [← ab_sub ha hb, jq1]
  unfold abI
  have hz : ∀ z : Int32, -z = 0 - z := fun z => by apply Int32.toBitVec_inj.mp; simp [Int32.toBitVec_sub]
  rw [hz]
  by_cases h : 0 ≤ nI a - nI b
  · rw [if_pos h, if_pos h]
  · rw [if_neg h, if_neg h]
section VA
variable {u m v : St} {t : Nat → Nat → Nat}
theorem wo_le (hT : TK t) {b d a : Nat} (hb : b < 8) : wo t b d a ≤ 450 := by
  have := (K_bar hT hb).2.1
  unfold wo
  split
  · omega
  · exact Nat.le_trans (Nat.mul_le_mul this (Nat.sub_le 50 _)) (by omega)
theorem woC (hU : UT v t 0) (hT : TK t) {b d a : Nat} (hb : b < 8) (hd : d < 100) (ha : a ≤ 99) : f_X9_worth v (nI b) (nI d) (nI a) = some (nI (wo t b d a)) := by
  have hk := K_bar hT hb
  have hs := (K_set hT).2.2 (3 + t 9 b) (by omega)
  unfold f_X9_worth wo
  rw [ckiT hb (by decide), vgC hU hT (by omega), b1E, ixN (by omega), U_kin hU hb]
  by_cases h : t 16 0 ≤ a
  · rw [if_pos h, if_neg n10, if_pos h]; rfl
  · rw [if_neg h, if_pos rfl, if_neg h, w_ev, b1E, if_pos (show (0 : Int32) ≤ nI (t 9 b) ∧ nI (t 9 b) ≤ 3 from ⟨nI_pos' (by omega), nI_le (b := 3) (by omega) (by omega)⟩), if_neg n10, show (3 : Int32) + nI (t 9 b) = nI (3 + t 9 b) from nI_add 3 _, ckiT (by omega) (by decide), ixN (by omega), U_set hU (by omega), bsE, ckiT hb (by decide), U_siz hU hb, ab_sub (by omega) (by omega), sub3, nI_add, s50 _ (by omega) _ (by omega)]
theorem voM (hM : MT m t) (hT : TK t) {L : Nat → Nat} (hL : LM m L) {b d : Nat} (hb : b < 8) (hd : d < 100) : f_X12_valueOn m (nI b) (nI d) = some (nI (wo t b d (ac t (t 2 3) L (t 6 b) (t 8 b) d))) := by
  have hk := K_bar hT hb
  have hs := (K_set hT).2.2 (3 + t 9 b) (by omega)
  have hs0 := (K_set hT).2.2 0 (by omega)
  have ha := ac_le (t := t) (wl := t 2 3) (L := L) (c := t 6 b) (k := t 8 b) (d := d)
  unfold f_X12_valueOn wo
  rw [abM hM hT hL hb (by omega), b1E, ckiT hb (by decide), ixN (by omega), M_kin hM hb, ckiT (show t 9 b < 4 by omega) (by decide), ixN (by omega), M_peak hM (by omega), bsE, ab_n (by omega) (by omega), M_sour hM]
  by_cases h : t 16 0 ≤ ac t (t 2 3) L (t 6 b) (t 8 b) d
  · rw [if_pos h, if_pos (nI_le h (by omega))]; rfl
  · rw [if_neg h, if_neg (nI_ge (by omega) (by omega)), ckiT hb (by decide), M_siz hM hb, sub3, nI_add]
    by_cases h2 : (d - t 16 (3 + t 9 b)) + (t 16 (3 + t 9 b) - d) + ac t (t 2 3) L (t 6 b) (t 8 b) d ≤ 50
    · rw [show (50 : Int32) = nI 50 from rfl, pk_sub h2, if_pos (nI_pos' (by omega)), pk_mul]
    · rw [show (50 : Int32) = nI 50 from rfl, if_neg (fun h9 => Int32.not_lt.mpr h9 (pk_sneg (by omega) (by omega))), show 50 - ((d - t 16 (3 + t 9 b)) + (t 16 (3 + t 9 b) - d) + ac t (t 2 3) L (t 6 b) (t 8 b) d) = 0 by omega]; rfl
end VA
theorem s_value : Sp_value Inv := by
  intro N u m p1 p2 hi0
  obtain ⟨t, hU, hM, hT, hP, hI, hd, hr⟩ := id hi0
  unfold f_X11_value f_X12_value
  rcases bar_cs hU hM hT p1 with ⟨e1, e2⟩ | ⟨e1, e2, b, hb, rfl, hbt⟩
  · rw [e1, e2, b1E, b1E, if_pos rfl, if_pos rfl]
    exact ⟨_, _, rfl, rfl, hi0⟩
  rw [e1, e2, b1E, b1E, if_neg n10, if_neg n10, w_ev, b1E, in_ev (a := 0) (b := 99) (lo := 0) (hi := 99) rfl rfl, b1E]
  by_cases h : (0 : Int32) ≤ p2 ∧ p2 ≤ 99
  · obtain ⟨d, -, hd9, rfl⟩ := rng h (a := 0) (b := 99) rfl rfl (by decide) (by decide)
    obtain ⟨v, ev, hA⟩ := asI hU hT
    rw [if_pos h, if_neg n10, if_neg n10, ev, b1E, aoA hT hA hb hbt (by omega), b1E, woC hA.2.1 hT hb (by omega) ac_le, voM hM hT (LM_is hM hT hd hr) hb (by omega)]
    exact ⟨_, _, rfl, rfl, Inv_keep hi0 hA.1 Km_rf⟩
  · rw [if_neg h, if_pos rfl, if_pos rfl]
    exact ⟨_, _, rfl, rfl, hi0⟩
/-! quiet -/
def qn (p : Nat → Bool) : Nat → Nat
  | 0 => 0
  | n + 1 => if p n then qn p n + 1 else 0
def qm (p : Nat → Bool) : Nat → Nat
  | 0 => 0
  | n + 1 => max (qm p n) (qn p (n + 1))
theorem qn_le {p : Nat → Bool} {n : Nat} : qn p n ≤ n := by
  induction n with
  | zero => exact Nat.le_refl _
  | succ n ih => unfold qn; split <;> omega
theorem qm_le {p : Nat → Bool} {n : Nat} : qm p n ≤ n := by
  induction n with
  | zero => exact Nat.le_refl _
  | succ n ih => have := qn_le (p := p) (n := n + 1); unfold qm; omega
theorem s_quiet : Sp_quiet Inv := by
  intro N u m p1 hi0
  obtain ⟨t, hU, hM, hT, hP, hI, hd, hr⟩ := id hi0
  have hcn := K_cnt hT
  have hl := K_len hT
  have hw := K_wal hT
  unfold f_X11_quiet f_X12_quiet
  rcases cel_cs hU hM hT p1 with ⟨e1, e2⟩ | ⟨e1, e2, c, hcc, rfl⟩
  · rw [e1, e2, b1E, b1E, if_pos rfl, if_pos rfl]
    exact ⟨_, _, rfl, rfl, hi0⟩
  obtain ⟨v, ev, hA⟩ := asI hU hT
  have hLM := LM_is hM hT hd hr
  rw [e1, e2, b1E, b1E, if_neg n10, if_neg n10, ev, b1E, jq1, jq1]
  have hC : ∀ K, lq_3 (B_X11_quiet_42 (nI c) v K) FU 0 0 0 = K (nI (qm (fun i => decide (br t (t 2 3) c (lev t i) = 0)) (2 * t 10 1))) := by
    intro K
    refine mr_3 (fun i => nI (qm (fun i => decide (br t (t 2 3) c (lev t i) = 0)) i)) (fun i => nI (qn (fun i => decide (br t (t 2 3) c (lev t i) = 0)) i)) nI (2 * t 10 1) ?_ ?_ (FU_lt (by omega)) rfl rfl rfl
    · intro i hi rec
      have h1 := hA.2.2.2.2.2.2.1 i (by omega)
      have hq1 := qn_le (p := fun i => decide (br t (t 2 3) c (lev t i) = 0)) (n := i)
      have hq2 := qm_le (p := fun i => decide (br t (t 2 3) c (lev t i) = 0)) (n := i)
      have hb := br_le (t := t) (wl := t 2 3) (c := c) (lev := lev t i)
      unfold B_X11_quiet_42
      rw [U_len hA.2.1, show (2 : Int32) * nI (t 10 1) = nI (2 * t 10 1) from pk_mul 2 _, if_neg (nI_ge hi (by omega)), h1.1, b1E, brC hA.2.1 hT hA.2.2.2.1 (by omega) hcc (by omega), b1E, jq1, nI_1, nI_1]
      show _ = rec (nI (max (qm _ i) (qn _ (i + 1)))) (nI (qn _ (i + 1))) _
      by_cases h0 : br t (t 2 3) c (lev t i) = 0
      · rw [h0, if_pos (show nI 0 = 0 from rfl)]
        show rec (mxI (nI (qm (fun i => decide (br t (t 2 3) c (lev t i) = 0)) i)) (nI (qn (fun i => decide (br t (t 2 3) c (lev t i) = 0)) i + 1))) (nI (qn (fun i => decide (br t (t 2 3) c (lev t i) = 0)) i + 1)) (nI (i + 1)) = _
        rw [mx_nI (by omega) (by omega)]
        simp only [qn, h0, decide_true, if_true]
      · rw [if_neg (show ¬ nI (br t (t 2 3) c (lev t i)) = 0 from fun h9 => h0 ((nI_eq (b := 0) (by omega) (by decide)).mp h9))]
        show rec (mxI (nI (qm (fun i => decide (br t (t 2 3) c (lev t i) = 0)) i)) (nI 0)) (nI 0) (nI (i + 1)) = _
        rw [mx_nI (by omega) (by omega)]
        simp only [qn, h0, decide_false, Bool.false_eq_true, if_false]
    · intro rec
      unfold B_X11_quiet_42
      rw [U_len hA.2.1, show (2 : Int32) * nI (t 10 1) = nI (2 * t 10 1) from pk_mul 2 _, if_pos (Int32.le_refl _)]
  have hM2 : ∀ K, lq_3 (B_X12_quiet_17 (nI c) m K) FU 0 0 0 = K (nI (qm (fun i => decide (br t (t 2 3) c (lev t i) = 0)) (2 * t 10 1))) := by
    intro K
    refine mr_3 (fun i => nI (qm (fun i => decide (br t (t 2 3) c (lev t i) = 0)) i)) (fun i => nI (qn (fun i => decide (br t (t 2 3) c (lev t i) = 0)) i)) nI (2 * t 10 1) ?_ ?_ (FU_lt (by omega)) rfl rfl rfl
    · intro i hi rec
      have hq1 := qn_le (p := fun i => decide (br t (t 2 3) c (lev t i) = 0)) (n := i)
      have hq2 := qm_le (p := fun i => decide (br t (t 2 3) c (lev t i) = 0)) (n := i)
      have hle := lev_le hT i
      have hb := br_le (t := t) (wl := t 2 3) (c := c) (lev := lev t i)
      have fin : ∀ k, k ≤ i + 1 → (if nI k ≤ nI (qm (fun i => decide (br t (t 2 3) c (lev t i) = 0)) i) then rec (nI (qm (fun i => decide (br t (t 2 3) c (lev t i) = 0)) i)) (nI k) (nI (i + 1)) else rec (nI k) (nI k) (nI (i + 1))) = rec (nI (max (qm (fun i => decide (br t (t 2 3) c (lev t i) = 0)) i) k)) (nI k) (nI (i + 1)) := by
        intro k hk
        by_cases h9 : k ≤ qm (fun i => decide (br t (t 2 3) c (lev t i) = 0)) i
        · rw [if_pos (nI_le h9 (by omega)), Nat.max_eq_left h9]
        · rw [if_neg (nI_ge (by omega) (by omega)), Nat.max_eq_right (by omega)]
      unfold B_X12_quiet_17
      rw [M_len hM, show (2 : Int32) * nI (t 10 1) = nI (2 * t 10 1) from pk_mul 2 _, if_neg (nI_ge hi (by omega)), brM hM hT hLM (by omega) (by omega), b1E, jq1, nI_1, nI_1]
      show _ = rec (nI (max (qm _ i) (qn _ (i + 1)))) (nI (qn _ (i + 1))) _
      by_cases h0 : br t (t 2 3) c (lev t i) = 0
      · rw [h0, if_pos (show nI 0 = 0 from rfl)]
        refine (fin (qn (fun i => decide (br t (t 2 3) c (lev t i) = 0)) i + 1) (by omega)).trans ?_
        simp only [qn, h0, decide_true, if_true]
      · rw [if_neg (show ¬ nI (br t (t 2 3) c (lev t i)) = 0 from fun h9 => h0 ((nI_eq (b := 0) (by omega) (by decide)).mp h9))]
        refine (fin 0 (by omega)).trans ?_
        simp only [qn, h0, decide_false, Bool.false_eq_true, if_false]
    · intro rec
      unfold B_X12_quiet_17
      rw [M_len hM, show (2 : Int32) * nI (t 10 1) = nI (2 * t 10 1) from pk_mul 2 _, if_pos (Int32.le_refl _)]
  rw [hC, hM2, U_len hA.2.1, M_len hM]
  split
  · exact ⟨_, _, rfl, rfl, Inv_keep hi0 hA.1 Km_rf⟩
  · exact ⟨_, _, rfl, rfl, Inv_keep hi0 hA.1 Km_rf⟩
