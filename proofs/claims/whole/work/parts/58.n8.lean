/-! ===== moves ===== -/
/-- how many lie in a cellar, the barrels being at places -/
def hdl (t : Nat → Nat → Nat) (p : Nat → Nat) (c : Nat) : Nat := cq (fun b => decide (t 5 4 / 2 ^ b % 2 = 1) && decide (p b = c)) 8
section MV
variable {u m v w : St} {t : Nat → Nat → Nat}
theorem hdl_le {p : Nat → Nat} {c : Nat} : hdl t p c ≤ 8 := cq_le
theorem hdl_mv {p : Nat → Nat} {b c d : Nat} (hb : b < 8) (hbt : bt t b) (hne : p b ≠ c) : hdl t (fun i => if i = b then c else p i) d + (if p b = d then 1 else 0) = hdl t p d + (if c = d then 1 else 0) := by
  have h5 : t 5 4 / 2 ^ b % 2 = 1 := hbt
  unfold hdl
  rw [cq_at (p := fun i => decide (t 5 4 / 2 ^ i % 2 = 1) && decide ((if i = b then c else p i) = d)) hb, cq_at (p := fun i => decide (t 5 4 / 2 ^ i % 2 = 1) && decide (p i = d)) hb]
  have e : cq (fun i => (decide (t 5 4 / 2 ^ i % 2 = 1) && decide ((if i = b then c else p i) = d)) && decide (i ≠ b)) 8 = cq (fun i => (decide (t 5 4 / 2 ^ i % 2 = 1) && decide (p i = d)) && decide (i ≠ b)) 8 := cq_congr (fun i _ => by
    by_cases h9 : i = b
    · simp [h9]
    · simp [h9])
  rw [e]
  simp only [h5, if_true, decide_true, Bool.true_and, decide_eq_true_eq]
  omega
theorem tiM (hM : MT w t) (hT : TK t) {p : Nat → Nat} {c : Nat} (hc : c < 2 ^ 30) (hp : ∀ b, b < 8 → w.1 13 b = nI (p b) ∧ p b < 6) : f_X12_takenIn w (nI c) = some (nI (hdl t p c)) := by
  unfold f_X12_takenIn
  rw [jq1]
  refine mr_2 (fun i => nI (cq (fun b => decide (t 5 4 / 2 ^ b % 2 = 1) && decide (p b = c)) i)) nI 8 ?_ ?_ (FU_lt (by decide)) rfl rfl
  · intro i hi rec
    have hl := hp i hi
    unfold B_X12_takenIn_4
    rw [if_neg (nle_l (l := 8) 8 rfl hi (by decide)), ib_ev hM hT hi, b1E, nI_1, ckiT hi (by decide), ixN (by omega), hl.1, nI_1, show nI (cq (fun b => decide (t 5 4 / 2 ^ b % 2 = 1) && decide (p b = c)) i) + (0 : Int32) = nI (cq (fun b => decide (t 5 4 / 2 ^ b % 2 = 1) && decide (p b = c)) i) from nI_add _ 0]
    show _ = rec (nI (cq _ i + _)) _
    by_cases h1 : t 5 4 / 2 ^ i % 2 = 1
    · rw [if_pos h1, if_neg n10]
      by_cases h3 : p i = c
      · rw [if_pos (by rw [h3])]; simp [h1, h3]
      · rw [if_neg (fun h9 => h3 ((nI_eq (by omega) (by omega)).mp h9))]; simp [h3]
    · rw [if_neg h1, if_pos rfl]; simp [h1]
  · intro rec
    unfold B_X12_takenIn_4
    rw [if_pos (show (8 : Int32) ≤ nI 8 by decide)]; rfl
/-- the work of a move -/
def wk (t : Nat → Nat → Nat) (b c d : Nat) : Nat := t 7 b * ((t 3 c - t 3 d) + (t 3 d - t 3 c) + 1)
theorem wk_le (hT : TK t) {b c d : Nat} (hb : b < 8) (hc : c < 6) (hd : d < 6) : wk t b c d ≤ 81 := by
  have h1 := (K_bar hT hb).2.1
  have h2 := K_dep hT hc
  have h3 := K_dep hT hd
  unfold wk
  exact Nat.le_trans (Nat.mul_le_mul h1 (show _ ≤ 9 by omega)) (by omega)
theorem wkC (hU : UT v t 0) (hT : TK t) {b c d : Nat} (hb : b < 8) (hc : c < 6) (hd : d < 6) : f_X9_workOf v (nI b) (nI c) (nI d) = some (nI (wk t b c d)) := by
  have h2 := K_dep hT hc
  have h3 := K_dep hT hd
  unfold f_X9_workOf
  rw [ckiT hc (by decide), ckiT hd (by decide), ixN (by omega), ixN (by omega), U_dep hU hc, U_dep hU hd, ab_sub (by omega) (by omega), bsE, ckiT hb (by decide), ixN (by omega), U_siz hU hb, nI_1, pk_mul]; rfl
theorem wkM (hM : MT w t) (hT : TK t) {b c d : Nat} (hb : b < 8) (hc : c < 6) (hd : d < 6) : f_X12_workOf w (nI b) (nI c) (nI d) = some (nI (wk t b c d)) := by
  have h2 := K_dep hT hc
  have h3 := K_dep hT hd
  have e : f_X12_far w (nI c) (nI d) = some (nI ((t 3 c - t 3 d) + (t 3 d - t 3 c))) := by
    unfold f_X12_far
    rw [ckiT hc (by decide), ckiT hd (by decide), ixN (by omega), ixN (by omega), M_dep hM hc, M_dep hM hd, bsE]
    exact ab_n (R := Int32) (by omega) (by omega) some
  unfold f_X12_workOf
  rw [ckiT hb (by decide), e, b1E, ixN (by omega), M_siz hM hb, nI_1, pk_mul]; rfl
theorem bmC (hU : UT v t 0) (hT : TK t) : ∃ z, f_X1_beginMoves v = some z ∧ (∀ c, c ≠ 21 → c ≠ 24 → z.1 c = v.1 c) ∧ z.1 21 5 = v.1 21 5 ∧ z.1 21 6 = nI 0 ∧ z.1 21 7 = nI 0 ∧ z.1 21 8 = nI 0 ∧ z.1 21 9 = nI 0 ∧ z.1 21 10 = nI 0 ∧ ∀ k, k < 6 → z.1 24 k = nI (hdl t (fun b => t 6 b) k) := by
  unfold f_X1_beginMoves
  rw [bsE, bsE, bsE, bsE, bsE, jq1]
  refine mw_2 (P := fun i (z : St) (y : Int32) => y = nI i ∧ (∀ c, c ≠ 21 → c ≠ 24 → z.1 c = v.1 c) ∧ z.1 21 5 = v.1 21 5 ∧ z.1 21 6 = nI 0 ∧ z.1 21 7 = nI 0 ∧ z.1 21 8 = nI 0 ∧ z.1 21 9 = nI 0 ∧ z.1 21 10 = nI 0 ∧ ∀ k, k < i → z.1 24 k = nI (hdl t (fun b => t 6 b) k)) (Q := fun o => ∃ z : St, o = some z ∧ (∀ c, c ≠ 21 → c ≠ 24 → z.1 c = v.1 c) ∧ z.1 21 5 = v.1 21 5 ∧ z.1 21 6 = nI 0 ∧ z.1 21 7 = nI 0 ∧ z.1 21 8 = nI 0 ∧ z.1 21 9 = nI 0 ∧ z.1 21 10 = nI 0 ∧ ∀ k, k < 6 → z.1 24 k = nI (hdl t (fun b => t 6 b) k)) 6 ?_ ?_ (FU_lt (by decide)) ?_
  · rintro i z y hi ⟨rfl, h1, h2, h3, h4, h5, h6, h7, h8⟩
    have hUz : UT z t 0 := fun c k hD => by
      have hc : c ≤ 16 := by unfold TD at hD; omega
      rw [h1 (0 + c) (by omega) (by omega)]; exact hU c k hD
    refine Or.inl ⟨sI z 24 i (nI (hdl t (fun b => t 6 b) i)), _, fun rec => ?_, ⟨rfl, ?_, ?_, ?_, ?_, ?_, ?_, ?_, ?_⟩⟩
    · unfold B_X1_beginMoves_27
      rw [if_neg (nle_l (l := 6) 6 rfl hi (by decide)), show (0 : Int32) = nI 0 from rfl, ci_0 hUz hT (by omega), b1E, ckiT hi (by decide), ixN (by omega), bsE, nI_1]; rfl
    · intro c c1 c2; rw [sI_o c2]; exact h1 c c1 c2
    · rw [sI_o (by omega)]; exact h2
    · rw [sI_o (by omega)]; exact h3
    · rw [sI_o (by omega)]; exact h4
    · rw [sI_o (by omega)]; exact h5
    · rw [sI_o (by omega)]; exact h6
    · rw [sI_o (by omega)]; exact h7
    · intro k hk
      rw [sI_s]
      by_cases h9 : k = i
      · subst h9; rw [pk_us]
      · rw [pk_un h9]; exact h8 k (by omega)
  · rintro z y ⟨rfl, h⟩ rec
    unfold B_X1_beginMoves_27
    rw [if_pos (show (6 : Int32) ≤ nI 6 by decide)]
    exact ⟨z, rfl, h⟩
  · exact ⟨rfl, fun c c1 _ => by simp (disch := omega) only [b1E, b2E, bsE, jq0, jq1, jq2, jq3, w_ev, in_ev2, nI_leI, nI_ltI, nI_eq, nI_add, ↓pk_rem, pk_div, pk_sub, pk_mul, ckiT, ckT, ixN, if_pos, if_neg, ↓reduceIte, ckTr, true_or, or_true, false_or, or_false, sI_o, sI_s, pk_un, pk_us, il_0, il_1, il_2, il_3, il_4, il_5, il_6, il_7, il_8, il_9, il_10, il_12, il_16, il_20, il_29, il_30, il_31, il_32, il_33, il_39, il_40, il_43, il_46, il_48, il_50, il_54, il_55, il_57, il_60, il_63, il_64, il_74, il_75, il_97, il_99, il_100, il_126, il_150, il_255, il_256, il_899, il_999, il_9999, il_65537, il_1000000, il_2147483647, nn1, nn6, m6lt, nn1s, nn6s], by simp (disch := omega) only [b1E, b2E, bsE, jq0, jq1, jq2, jq3, w_ev, in_ev2, nI_leI, nI_ltI, nI_eq, nI_add, ↓pk_rem, pk_div, pk_sub, pk_mul, ckiT, ckT, ixN, if_pos, if_neg, ↓reduceIte, ckTr, true_or, or_true, false_or, or_false, sI_o, sI_s, pk_un, pk_us, il_0, il_1, il_2, il_3, il_4, il_5, il_6, il_7, il_8, il_9, il_10, il_12, il_16, il_20, il_29, il_30, il_31, il_32, il_33, il_39, il_40, il_43, il_46, il_48, il_50, il_54, il_55, il_57, il_60, il_63, il_64, il_74, il_75, il_97, il_99, il_100, il_126, il_150, il_255, il_256, il_899, il_999, il_9999, il_65537, il_1000000, il_2147483647, nn1, nn6, m6lt, nn1s, nn6s], by simp (disch := omega) only [b1E, b2E, bsE, jq0, jq1, jq2, jq3, w_ev, in_ev2, nI_leI, nI_ltI, nI_eq, nI_add, ↓pk_rem, pk_div, pk_sub, pk_mul, ckiT, ckT, ixN, if_pos, if_neg, ↓reduceIte, ckTr, true_or, or_true, false_or, or_false, sI_o, sI_s, pk_un, pk_us, il_0, il_1, il_2, il_3, il_4, il_5, il_6, il_7, il_8, il_9, il_10, il_12, il_16, il_20, il_29, il_30, il_31, il_32, il_33, il_39, il_40, il_43, il_46, il_48, il_50, il_54, il_55, il_57, il_60, il_63, il_64, il_74, il_75, il_97, il_99, il_100, il_126, il_150, il_255, il_256, il_899, il_999, il_9999, il_65537, il_1000000, il_2147483647, nn1, nn6, m6lt, nn1s, nn6s], by simp (disch := omega) only [b1E, b2E, bsE, jq0, jq1, jq2, jq3, w_ev, in_ev2, nI_leI, nI_ltI, nI_eq, nI_add, ↓pk_rem, pk_div, pk_sub, pk_mul, ckiT, ckT, ixN, if_pos, if_neg, ↓reduceIte, ckTr, true_or, or_true, false_or, or_false, sI_o, sI_s, pk_un, pk_us, il_0, il_1, il_2, il_3, il_4, il_5, il_6, il_7, il_8, il_9, il_10, il_12, il_16, il_20, il_29, il_30, il_31, il_32, il_33, il_39, il_40, il_43, il_46, il_48, il_50, il_54, il_55, il_57, il_60, il_63, il_64, il_74, il_75, il_97, il_99, il_100, il_126, il_150, il_255, il_256, il_899, il_999, il_9999, il_65537, il_1000000, il_2147483647, nn1, nn6, m6lt, nn1s, nn6s], by simp (disch := omega) only [b1E, b2E, bsE, jq0, jq1, jq2, jq3, w_ev, in_ev2, nI_leI, nI_ltI, nI_eq, nI_add, ↓pk_rem, pk_div, pk_sub, pk_mul, ckiT, ckT, ixN, if_pos, if_neg, ↓reduceIte, ckTr, true_or, or_true, false_or, or_false, sI_o, sI_s, pk_un, pk_us, il_0, il_1, il_2, il_3, il_4, il_5, il_6, il_7, il_8, il_9, il_10, il_12, il_16, il_20, il_29, il_30, il_31, il_32, il_33, il_39, il_40, il_43, il_46, il_48, il_50, il_54, il_55, il_57, il_60, il_63, il_64, il_74, il_75, il_97, il_99, il_100, il_126, il_150, il_255, il_256, il_899, il_999, il_9999, il_65537, il_1000000, il_2147483647, nn1, nn6, m6lt, nn1s, nn6s], by simp (disch := omega) only [b1E, b2E, bsE, jq0, jq1, jq2, jq3, w_ev, in_ev2, nI_leI, nI_ltI, nI_eq, nI_add, ↓pk_rem, pk_div, pk_sub, pk_mul, ckiT, ckT, ixN, if_pos, if_neg, ↓reduceIte, ckTr, true_or, or_true, false_or, or_false, sI_o, sI_s, pk_un, pk_us, il_0, il_1, il_2, il_3, il_4, il_5, il_6, il_7, il_8, il_9, il_10, il_12, il_16, il_20, il_29, il_30, il_31, il_32, il_33, il_39, il_40, il_43, il_46, il_48, il_50, il_54, il_55, il_57, il_60, il_63, il_64, il_74, il_75, il_97, il_99, il_100, il_126, il_150, il_255, il_256, il_899, il_999, il_9999, il_65537, il_1000000, il_2147483647, nn1, nn6, m6lt, nn1s, nn6s], by simp (disch := omega) only [b1E, b2E, bsE, jq0, jq1, jq2, jq3, w_ev, in_ev2, nI_leI, nI_ltI, nI_eq, nI_add, ↓pk_rem, pk_div, pk_sub, pk_mul, ckiT, ckT, ixN, if_pos, if_neg, ↓reduceIte, ckTr, true_or, or_true, false_or, or_false, sI_o, sI_s, pk_un, pk_us, il_0, il_1, il_2, il_3, il_4, il_5, il_6, il_7, il_8, il_9, il_10, il_12, il_16, il_20, il_29, il_30, il_31, il_32, il_33, il_39, il_40, il_43, il_46, il_48, il_50, il_54, il_55, il_57, il_60, il_63, il_64, il_74, il_75, il_97, il_99, il_100, il_126, il_150, il_255, il_256, il_899, il_999, il_9999, il_65537, il_1000000, il_2147483647, nn1, nn6, m6lt, nn1s, nn6s], fun k hk => absurd hk (by omega)⟩
theorem pdM (hM : MT w t) (hT : TK t) (hL : LM w (lev t)) {d : Nat} {p A : Nat → Nat} (hd : w.1 0 30 = nI d) (hdl : d < 2000) (hat : ∀ b, b < 8 → w.1 13 b = nI (p b) ∧ p b < 6) (hac : ∀ b, b < 8 → w.1 14 b = nI (A b) ∧ A b ≤ 99 ∧ (¬ t 5 4 / 2 ^ b % 2 = 1 → A b = 0)) : ∃ z, f_X12_passDay w = some z ∧ (∀ c, c ≠ 0 → c ≠ 14 → z.1 c = w.1 c) ∧ z.2 = w.2 ∧ (∀ k, k ≠ 28 → k ≠ 30 → z.1 0 k = w.1 0 k) ∧ z.1 0 30 = nI (d + 1) ∧ z.1 0 28 = nI 0 ∧ ∀ b, b < 8 → z.1 14 b = nI (nx t (t 2 3) (lev t d) p A b) := by
  unfold f_X12_passDay
  rw [jq1]
  have key : ∀ K : St → Option St, ∃ z, lq_2 (B_X12_passDay_2 K) FU w 0 = K z ∧ (∀ c, c ≠ 14 → z.1 c = w.1 c) ∧ z.2 = w.2 ∧ ∀ b, b < 8 → z.1 14 b = nI (nx t (t 2 3) (lev t d) p A b) := by
    intro K
    refine mw_2 (P := fun i (z : St) (y : Int32) => y = nI i ∧ (∀ c, c ≠ 14 → z.1 c = w.1 c) ∧ z.2 = w.2 ∧ ∀ b, b < 8 → z.1 14 b = nI (if b < i then nx t (t 2 3) (lev t d) p A b else A b)) (Q := fun o => ∃ z, o = K z ∧ (∀ c, c ≠ 14 → z.1 c = w.1 c) ∧ z.2 = w.2 ∧ ∀ b, b < 8 → z.1 14 b = nI (nx t (t 2 3) (lev t d) p A b)) 8 ?_ ?_ (FU_lt (by decide)) ⟨rfl, fun _ _ => rfl, rfl, fun b hb => by rw [if_neg (by omega)]; exact (hac b hb).1⟩
    · rintro i z y hi ⟨rfl, h1, h2, h3⟩
      have hMz : MT z t := MT_congr hM (fun c _ _ => h1 c (by omega)) (fun k _ => by rw [h1 0 (by omega)]) (fun c _ => rfl)
      have hLz : LM z (lev t) := fun j hj => by
        have e : f_X12_levelOn z (nI j) = f_X12_levelOn w (nI j) := by unfold f_X12_levelOn; rw [h1 0 (by omega), h1 7 (by omega), h2]
        rw [e]; exact hL j hj
      have h14 : z.1 14 i = nI (A i) := by rw [h3 i hi, if_neg (by omega)]
      have h13 : z.1 13 i = nI (p i) := by rw [h1 13 (by omega)]; exact (hat i hi).1
      have h30 : z.1 0 30 = nI d := by rw [h1 0 (by omega)]; exact hd
      have ha := (hac i hi).2.1
      have hfin : ∀ x, x = nx t (t 2 3) (lev t d) p A i → ∀ b, b < 8 → (sI z 14 i (nI x)).1 14 b = nI (if b < i + 1 then nx t (t 2 3) (lev t d) p A b else A b) := by
        intro x hx b hb
        rw [sI_s]
        by_cases h9 : b = i
        · subst h9; rw [pk_us, if_pos (by omega), hx]
        · rw [pk_un h9, h3 b hb]
          by_cases h8 : b < i
          · rw [if_pos h8, if_pos (by omega)]
          · rw [if_neg h8, if_neg (by omega)]
      by_cases hbt : bt t i
      · have h5 : t 5 4 / 2 ^ i % 2 = 1 := hbt
        have hbr := br_le (t := t) (wl := t 2 3) (c := p i) (lev := lev t d)
        have hle := lev_le hT d
        refine Or.inl ⟨sI z 14 i (nI (min 99 (A i + (br t (t 2 3) (p i) (lev t d) - t 8 i)))), _, fun rec => ?_, ⟨rfl, fun c c1 => by rw [sI_o c1]; exact h1 c c1, h2, hfin _ (by unfold nx; rw [if_pos h5])⟩⟩
        unfold B_X12_passDay_2
        rw [if_neg (nle_l (l := 8) 8 rfl hi (by decide)), ibY hMz hT hi hbt, b1E, if_neg n10, ckiT hi (by decide), ckiT hi (by decide), ixN (by omega), h13, h30, riM hMz hT hLz hi (hat i hi).2 hdl, b1E, h14, nI_add, upM (by omega), b1E, ckiT hi (by decide), bsE, nI_1]
      · have h5 : ¬ t 5 4 / 2 ^ i % 2 = 1 := hbt
        refine Or.inl ⟨sI z 14 i (nI 0), _, fun rec => ?_, ⟨rfl, fun c c1 => by rw [sI_o c1]; exact h1 c c1, h2, hfin _ (by unfold nx; rw [if_neg h5]; exact ((hac i hi).2.2 h5).symm)⟩⟩
        unfold B_X12_passDay_2
        rw [if_neg (nle_l (l := 8) 8 rfl hi (by decide)), ibF hMz hT hi hbt, b1E, if_pos rfl, ckiT hi (by decide), ixN (by omega), bsE, nI_1]; rfl
    · rintro z y ⟨rfl, h1, h2, h3⟩ rec
      unfold B_X12_passDay_2
      rw [if_pos (show (8 : Int32) ≤ nI 8 by decide)]
      exact ⟨z, rfl, h1, h2, fun b hb => by rw [h3 b hb, if_pos hb]⟩
  obtain ⟨z, e1, e2, e3, e4⟩ := key (fun u4 : St => bs (sI u4 0 30 ((u4.1 0 30) + (1 : Int32))) (fun u5 : St => bs (sI u5 0 28 0) (fun u6 : St => some u6)))
  have h30 : z.1 0 30 = nI d := by rw [e2 0 (by omega)]; exact hd
  rw [e1, bsE, bsE, h30, nI_1]
  refine ⟨_, rfl, fun c c1 c2 => ?_, e3, fun k k1 k2 => ?_, ?_, ?_, fun b hb => ?_⟩
  · simp (disch := omega) only [e2 c c2, b1E, b2E, bsE, jq0, jq1, jq2, jq3, w_ev, in_ev2, nI_leI, nI_ltI, nI_eq, nI_add, ↓pk_rem, pk_div, pk_sub, pk_mul, ckiT, ckT, ixN, if_pos, if_neg, ↓reduceIte, ckTr, true_or, or_true, false_or, or_false, sI_o, sI_s, pk_un, pk_us, il_0, il_1, il_2, il_3, il_4, il_5, il_6, il_7, il_8, il_9, il_10, il_12, il_16, il_20, il_29, il_30, il_31, il_32, il_33, il_39, il_40, il_43, il_46, il_48, il_50, il_54, il_55, il_57, il_60, il_63, il_64, il_74, il_75, il_97, il_99, il_100, il_126, il_150, il_255, il_256, il_899, il_999, il_9999, il_65537, il_1000000, il_2147483647, nn1, nn6, m6lt, nn1s, nn6s]
  · simp (disch := omega) only [e2 0, b1E, b2E, bsE, jq0, jq1, jq2, jq3, w_ev, in_ev2, nI_leI, nI_ltI, nI_eq, nI_add, ↓pk_rem, pk_div, pk_sub, pk_mul, ckiT, ckT, ixN, if_pos, if_neg, ↓reduceIte, ckTr, true_or, or_true, false_or, or_false, sI_o, sI_s, pk_un, pk_us, il_0, il_1, il_2, il_3, il_4, il_5, il_6, il_7, il_8, il_9, il_10, il_12, il_16, il_20, il_29, il_30, il_31, il_32, il_33, il_39, il_40, il_43, il_46, il_48, il_50, il_54, il_55, il_57, il_60, il_63, il_64, il_74, il_75, il_97, il_99, il_100, il_126, il_150, il_255, il_256, il_899, il_999, il_9999, il_65537, il_1000000, il_2147483647, nn1, nn6, m6lt, nn1s, nn6s]
  · simp (disch := omega) only [b1E, b2E, bsE, jq0, jq1, jq2, jq3, w_ev, in_ev2, nI_leI, nI_ltI, nI_eq, nI_add, ↓pk_rem, pk_div, pk_sub, pk_mul, ckiT, ckT, ixN, if_pos, if_neg, ↓reduceIte, ckTr, true_or, or_true, false_or, or_false, sI_o, sI_s, pk_un, pk_us, il_0, il_1, il_2, il_3, il_4, il_5, il_6, il_7, il_8, il_9, il_10, il_12, il_16, il_20, il_29, il_30, il_31, il_32, il_33, il_39, il_40, il_43, il_46, il_48, il_50, il_54, il_55, il_57, il_60, il_63, il_64, il_74, il_75, il_97, il_99, il_100, il_126, il_150, il_255, il_256, il_899, il_999, il_9999, il_65537, il_1000000, il_2147483647, nn1, nn6, m6lt, nn1s, nn6s]
  · simp (disch := omega) only [b1E, b2E, bsE, jq0, jq1, jq2, jq3, w_ev, in_ev2, nI_leI, nI_ltI, nI_eq, nI_add, ↓pk_rem, pk_div, pk_sub, pk_mul, ckiT, ckT, ixN, if_pos, if_neg, ↓reduceIte, ckTr, true_or, or_true, false_or, or_false, sI_o, sI_s, pk_un, pk_us, il_0, il_1, il_2, il_3, il_4, il_5, il_6, il_7, il_8, il_9, il_10, il_12, il_16, il_20, il_29, il_30, il_31, il_32, il_33, il_39, il_40, il_43, il_46, il_48, il_50, il_54, il_55, il_57, il_60, il_63, il_64, il_74, il_75, il_97, il_99, il_100, il_126, il_150, il_255, il_256, il_899, il_999, il_9999, il_65537, il_1000000, il_2147483647, nn1, nn6, m6lt, nn1s, nn6s]
  · simp (disch := omega) only [e4 b hb, b1E, b2E, bsE, jq0, jq1, jq2, jq3, w_ev, in_ev2, nI_leI, nI_ltI, nI_eq, nI_add, ↓pk_rem, pk_div, pk_sub, pk_mul, ckiT, ckT, ixN, if_pos, if_neg, ↓reduceIte, ckTr, true_or, or_true, false_or, or_false, sI_o, sI_s, pk_un, pk_us, il_0, il_1, il_2, il_3, il_4, il_5, il_6, il_7, il_8, il_9, il_10, il_12, il_16, il_20, il_29, il_30, il_31, il_32, il_33, il_39, il_40, il_43, il_46, il_48, il_50, il_54, il_55, il_57, il_60, il_63, il_64, il_74, il_75, il_97, il_99, il_100, il_126, il_150, il_255, il_256, il_899, il_999, il_9999, il_65537, il_1000000, il_2147483647, nn1, nn6, m6lt, nn1s, nn6s]
theorem nx_le {wl lv : Nat} {p A : Nat → Nat} {b : Nat} (h : A b ≤ 99) : nx t wl lv p A b ≤ 99 := by unfold nx; split; exact Nat.min_le_left _ _; exact h
theorem nx_0 {wl lv : Nat} {p A : Nat → Nat} {b : Nat} (h5 : ¬ t 5 4 / 2 ^ b % 2 = 1) (h : A b = 0) : nx t wl lv p A b = 0 := by unfold nx; rw [if_neg h5]; exact h
end MV
