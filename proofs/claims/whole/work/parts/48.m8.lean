/-! ===== writers, third ===== -/
theorem n10 : ¬ (1 : Int32) = 0 := by decide
theorem le_l' {b : Nat} (h : b < 8) : nI b ≤ 7 := nI_le (a := b) (b := 7) (by omega) (by omega)
theorem sh1 {b : Nat} (h : b < 31) : nI 1 <<< (nI b &&& nI 31) = nI (2 ^ b) := shlN h
/-- the barrels of a cellar, but one -/
def oth (t : Nat → Nat → Nat) (c b : Nat) : Nat := cq (fun i => lin t c i && decide (i ≠ b)) 8
theorem ci_b {u : St} {t : Nat → Nat → Nat} (hU : UT u t 0) (hT : TK t) {c b : Nat} (hc : c < 2 ^ 30) (hb : b < 8) : f_X7_countIn u (nI c) (nI (2 ^ b)) = some (nI (oth t c b)) := by
  have h2 : 2 ^ b < 2 ^ 31 := Nat.pow_lt_pow_right (by decide) (by omega)
  rw [ci_ev hU hT hc h2]
  congr 2
  refine cq_congr (fun i hi => ?_)
  have := pw_bit b hb i hi
  simp only [this, ne_eq]
theorem oth_eq {t : Nat → Nat → Nat} {c b : Nat} (hb : b < 8) : cq (lin t c) 8 = oth t c b + (if lin t c b then 1 else 0) := cq_at hb
def tbar (t : Nat → Nat → Nat) (b c s k d : Nat) : Nat → Nat → Nat := tset (tset (tset (tset (tset t 5 4 (setb (t 5 4) b)) 6 b c) 7 b s) 8 b k) 9 b d
theorem TK_bar {t : Nat → Nat → Nat} (hT : TK t) {b c s k d : Nat} (hb : b < 8) (hc : c < t 2 2) (hs : 1 ≤ s ∧ s ≤ 9) (hk : k ≤ 9) (hd : d ≤ 3) (ho : oth t c b < t 4 c) : TK (tbar t b c s k d) := by
  have h5 := K_the hT
  have hs8 := (set_lt (t 5 4) h5 b hb).1
  have hbt := fun i hi => (set_bit (t 5 4) h5 b hb i hi).1
  obtain ⟨a1, a2, a3, a4, a5, a6, a7, a8, a9, a10, a11, a12, a13⟩ := hT
  have e54 : tbar t b c s k d 5 4 = setb (t 5 4) b := by unfold tbar; rw [ts_o (by omega), ts_o (by omega), ts_o (by omega), ts_o (by omega), ts_s]
  have e6 : ∀ i, tbar t b c s k d 6 i = if i = b then c else t 6 i := fun i => by simp [tbar, tset]
  have e7 : ∀ i, tbar t b c s k d 7 i = if i = b then s else t 7 i := fun i => by simp [tbar, tset]
  have e8 : ∀ i, tbar t b c s k d 8 i = if i = b then k else t 8 i := fun i => by simp [tbar, tset]
  have e9 : ∀ i, tbar t b c s k d 9 i = if i = b then d else t 9 i := fun i => by simp [tbar, tset]
  have eo : ∀ x, x ≠ 5 → x ≠ 6 → x ≠ 7 → x ≠ 8 → x ≠ 9 → tbar t b c s k d x = t x := fun x h1 h2 h3 h4 h5 => by unfold tbar; rw [ts_c h5, ts_c h4, ts_c h3, ts_c h2, ts_c h1]
  refine ⟨?_, ?_, ?_, ?_, ?_, ?_, ?_, ?_, ?_, ?_, ?_, ?_, ?_⟩
  · rw [eo 2 (by omega) (by omega) (by omega) (by omega) (by omega)]; exact a1
  · rw [eo 2 (by omega) (by omega) (by omega) (by omega) (by omega)]; exact a2
  · rw [eo 3 (by omega) (by omega) (by omega) (by omega) (by omega)]; exact a3
  · rw [eo 4 (by omega) (by omega) (by omega) (by omega) (by omega)]; exact a4
  · rw [e54]; exact hs8
  · intro i hi
    have := a6 i hi
    rw [e6, e7, e8, e9]
    by_cases h9 : i = b
    · rw [if_pos h9, if_pos h9, if_pos h9, if_pos h9]; omega
    · rw [if_neg h9, if_neg h9, if_neg h9, if_neg h9]; exact this
  · intro i hi hh
    unfold bt at hh
    rw [e54, hbt i hi] at hh
    rw [e6, e7, eo 2 (by omega) (by omega) (by omega) (by omega) (by omega)]
    by_cases h9 : i = b
    · rw [if_pos h9, if_pos h9]; omega
    · rw [if_neg h9] at hh; rw [if_neg h9, if_neg h9]; exact a7 i hi hh
  · rw [eo 10 (by omega) (by omega) (by omega) (by omega) (by omega)]; exact a8
  · rw [eo 11 (by omega) (by omega) (by omega) (by omega) (by omega)]; exact a9
  · rw [eo 12 (by omega) (by omega) (by omega) (by omega) (by omega)]; exact a10
  · rw [eo 13 (by omega) (by omega) (by omega) (by omega) (by omega), eo 14 (by omega) (by omega) (by omega) (by omega) (by omega), eo 15 (by omega) (by omega) (by omega) (by omega) (by omega)]; exact a11
  · rw [eo 16 (by omega) (by omega) (by omega) (by omega) (by omega)]; exact a12
  · intro x hx
    rw [eo 2 (by omega) (by omega) (by omega) (by omega) (by omega)] at hx
    rw [eo 4 (by omega) (by omega) (by omega) (by omega) (by omega), oth_eq (b := b) hb]
    have e1 : oth (tbar t b c s k d) x b = oth t x b := by
      unfold oth
      refine cq_congr (fun i hi => ?_)
      by_cases h9 : i = b
      · simp [h9]
      · unfold lin; rw [e54, e6, hbt i hi, if_neg h9, if_neg h9]
    have e2 : lin (tbar t b c s k d) x b = decide (c = x) := by
      unfold lin; rw [e54, e6, hbt b hb, if_pos rfl, if_pos rfl]; simp
    rw [e1, e2]
    by_cases h9 : c = x
    · subst h9; simp; omega
    · have := a13 x hx
      have h7 := oth_eq (t := t) (c := x) (b := b) hb
      simp [h9]; omega
theorem wi_no {u : St} {p : Int32} (h : p < 0 ∨ nI 8 ≤ p) : f_X11_within u p 0 7 = some 0 := by
  rw [w_ev, if_neg]
  rintro ⟨h1, h2⟩
  rcases h with h | h
  · exact Int32.not_lt.mpr h1 h
  · exact absurd (Int32.le_trans h h2) (by decide)
theorem wi_yes {u : St} {b : Nat} (h : b < 8) : f_X11_within u (nI b) 0 7 = some 1 := by
  rw [w_ev, if_pos ⟨nI_pos' (by omega), le_l' h⟩]
theorem s_barrel : Sp_barrel Inv := by
  intro N u m p1 p2 p3 p4 p5 hi0
  obtain ⟨t, hU, hM, hT, hP, hI, hd, hr⟩ := id hi0
  have hc := K_cnt hT
  have h54 := K_the hT
  unfold f_X11_barrel f_X12_barrel
  rcases pk_ix p1 (n := 8) (by omega) with h | h | ⟨b, hb, rfl⟩
  · rw [wi_no (Or.inl h), in_no _ (Or.inl h), b1E, b1E, if_pos rfl, if_pos rfl]
    exact ⟨_, _, _, rfl, rfl, hi0⟩
  · rw [wi_no (Or.inr h), in_no _ (Or.inr h), b1E, b1E, if_pos rfl, if_pos rfl]
    exact ⟨_, _, _, rfl, rfl, hi0⟩
  rw [in_yes hb, wi_yes hb, b1E, b1E, if_neg n10, if_neg n10]
  rcases pk_ix p2 (n := t 2 2) (by omega) with h | h | ⟨j, hj, rfl⟩
  · rw [hc_no hU (Or.inl h), ic_no hM hT (Or.inl h), b1E, b1E, if_pos rfl, if_pos rfl]
    exact ⟨_, _, _, rfl, rfl, hi0⟩
  · rw [hc_no hU (Or.inr h), ic_no hM hT (Or.inr h), b1E, b1E, if_pos rfl, if_pos rfl]
    exact ⟨_, _, _, rfl, rfl, hi0⟩
  rw [hc_yes hU hT hj, ic_yes hM hT hj, b1E, b1E, if_neg n10, if_neg n10, w_ev, b1E, in_ev (a := 1) (b := 9) (lo := 1) (hi := 9) rfl rfl, b1E]
  by_cases h3 : (1 : Int32) ≤ p3 ∧ p3 ≤ 9
  rotate_left
  · rw [if_neg h3, if_pos rfl, if_pos rfl]
    exact ⟨_, _, _, rfl, rfl, hi0⟩
  rw [if_pos h3, if_neg n10, if_neg n10, w_ev, b1E, in_ev (a := 0) (b := 9) (lo := 0) (hi := 9) rfl rfl, b1E]
  by_cases h4 : (0 : Int32) ≤ p4 ∧ p4 ≤ 9
  rotate_left
  · rw [if_neg h4, if_pos rfl, if_pos rfl]
    exact ⟨_, _, _, rfl, rfl, hi0⟩
  rw [if_pos h4, if_neg n10, if_neg n10, w_ev, b1E, in_ev (a := 0) (b := 3) (lo := 0) (hi := 3) rfl rfl, b1E]
  by_cases h5 : (0 : Int32) ≤ p5 ∧ p5 ≤ 3
  rotate_left
  · rw [if_neg h5, if_pos rfl, if_pos rfl]
    exact ⟨_, _, _, rfl, rfl, hi0⟩
  obtain ⟨s, hs0, hs, rfl⟩ := rng h3 (a := 1) (b := 9) rfl rfl (by decide) (by decide)
  obtain ⟨k, -, hk, rfl⟩ := rng h4 (a := 0) (b := 9) rfl rfl (by decide) (by decide)
  obtain ⟨d, -, hd3, rfl⟩ := rng h5 (a := 0) (b := 3) rfl rfl (by decide) (by decide)
  rw [if_pos h5, if_neg n10, if_neg n10]
  have hro := K_room hT (k := j) (by omega)
  have hoe := oth_eq (t := t) (c := j) (b := b) (by omega)
  have hq := cq_le (p := lin t j) (n := 8)
  have hs8 := (set_lt (t 5 4) h54 b (by omega)).1
  have hl6 := K_bar hT (b := b) (by omega)
  have e2 : f_X12_liesIn m (nI j) = some (nI (oth t j b + (if lin t j b then 1 else 0))) := by rw [li_ev hM hT (by omega), hoe]
  have hfin : oth t j b < t 4 j → ∃ (r : Int32) (u2 μ2 : St), b1 (f_X7_put u (nI b) (nI j) (nI s) (nI k) (nI d)) (fun (u13 : St) => b1 (f_J6_bitCount_0f7a4 u13 (u13.1 5 4)) (fun (x14 : Int32) => some (x14, u13))) = some (r, u2) ∧ cki (nI b) 8 (bs (sI m 3 (ix (nI b)) (nI j)) (fun u16 : St => cki (nI b) 8 (bs (sI u16 4 (ix (nI b)) (nI s)) (fun u17 : St => cki (nI b) 8 (bs (sI u17 5 (ix (nI b)) (nI k)) (fun u18 : St => cki (nI b) 8 (bs (sI u18 6 (ix (nI b)) (nI d)) (fun u19 : St => bs (sI u19 0 4 ((u19.1 0 4) ||| ((1 : Int32) <<< (nI b &&& 31)))) (fun u20 : St => b1 (f_X12_ones u20 (u20.1 0 4)) (fun (x21 : Int32) => some (x21, u20))))))))))) = some (r, μ2) ∧ Inv N u2 μ2 := by
    intro ho
    unfold f_X7_put
    rw [wi_yes hb, b1E, if_neg n10]
    simp (disch := omega) only [U_the hU, M_the hM, orN, bc_ev hs8, on_ev hs8, b1E, b2E, bsE, jq0, jq1, jq2, jq3, w_ev, in_ev2, nI_leI, nI_ltI, nI_eq, nI_add, ↓pk_rem, pk_div, pk_sub, pk_mul, ckiT, ckT, ixN, if_pos, if_neg, ↓reduceIte, ckTr, true_or, or_true, false_or, or_false, sI_o, sI_s, pk_un, pk_us, il_0, il_1, il_2, il_3, il_4, il_5, il_6, il_7, il_8, il_9, il_10, il_12, il_16, il_20, il_29, il_30, il_31, il_32, il_33, il_39, il_40, il_43, il_46, il_48, il_50, il_54, il_55, il_57, il_60, il_63, il_64, il_74, il_75, il_97, il_99, il_100, il_126, il_150, il_255, il_256, il_899, il_999, il_9999, il_65537, il_1000000, il_2147483647]
    refine ⟨_, _, _, rfl, rfl, Inv_mk (t2 := tbar t b j s k d) ?_ ?_ (TK_bar hT hb hj ⟨hs0, hs⟩ hk hd3 ho) hP (by simp [tbar, tset]) (by unfold tbar; rw [ts_c (by omega), ts_c (by omega), ts_c (by omega), ts_c (by omega), ts_c (by omega)]) hI hd hr (fun c hc => by simp (disch := omega) only [b1E, b2E, bsE, jq0, jq1, jq2, jq3, w_ev, in_ev2, nI_leI, nI_ltI, nI_eq, nI_add, ↓pk_rem, pk_div, pk_sub, pk_mul, ckiT, ckT, ixN, if_pos, if_neg, ↓reduceIte, ckTr, true_or, or_true, false_or, or_false, sI_o, sI_s, pk_un, pk_us, il_0, il_1, il_2, il_3, il_4, il_5, il_6, il_7, il_8, il_9, il_10, il_12, il_16, il_20, il_29, il_30, il_31, il_32, il_33, il_39, il_40, il_43, il_46, il_48, il_50, il_54, il_55, il_57, il_60, il_63, il_64, il_74, il_75, il_97, il_99, il_100, il_126, il_150, il_255, il_256, il_899, il_999, il_9999, il_65537, il_1000000, il_2147483647]) (fun c hc => by simp (disch := omega) only [b1E, b2E, bsE, jq0, jq1, jq2, jq3, w_ev, in_ev2, nI_leI, nI_ltI, nI_eq, nI_add, ↓pk_rem, pk_div, pk_sub, pk_mul, ckiT, ckT, ixN, if_pos, if_neg, ↓reduceIte, ckTr, true_or, or_true, false_or, or_false, sI_o, sI_s, pk_un, pk_us, il_0, il_1, il_2, il_3, il_4, il_5, il_6, il_7, il_8, il_9, il_10, il_12, il_16, il_20, il_29, il_30, il_31, il_32, il_33, il_39, il_40, il_43, il_46, il_48, il_50, il_54, il_55, il_57, il_60, il_63, il_64, il_74, il_75, il_97, il_99, il_100, il_126, il_150, il_255, il_256, il_899, il_999, il_9999, il_65537, il_1000000, il_2147483647]) (by simp (disch := omega) only [b1E, b2E, bsE, jq0, jq1, jq2, jq3, w_ev, in_ev2, nI_leI, nI_ltI, nI_eq, nI_add, ↓pk_rem, pk_div, pk_sub, pk_mul, ckiT, ckT, ixN, if_pos, if_neg, ↓reduceIte, ckTr, true_or, or_true, false_or, or_false, sI_o, sI_s, pk_un, pk_us, il_0, il_1, il_2, il_3, il_4, il_5, il_6, il_7, il_8, il_9, il_10, il_12, il_16, il_20, il_29, il_30, il_31, il_32, il_33, il_39, il_40, il_43, il_46, il_48, il_50, il_54, il_55, il_57, il_60, il_63, il_64, il_74, il_75, il_97, il_99, il_100, il_126, il_150, il_255, il_256, il_899, il_999, il_9999, il_65537, il_1000000, il_2147483647]) (by simp (disch := omega) only [b1E, b2E, bsE, jq0, jq1, jq2, jq3, w_ev, in_ev2, nI_leI, nI_ltI, nI_eq, nI_add, ↓pk_rem, pk_div, pk_sub, pk_mul, ckiT, ckT, ixN, if_pos, if_neg, ↓reduceIte, ckTr, true_or, or_true, false_or, or_false, sI_o, sI_s, pk_un, pk_us, il_0, il_1, il_2, il_3, il_4, il_5, il_6, il_7, il_8, il_9, il_10, il_12, il_16, il_20, il_29, il_30, il_31, il_32, il_33, il_39, il_40, il_43, il_46, il_48, il_50, il_54, il_55, il_57, il_60, il_63, il_64, il_74, il_75, il_97, il_99, il_100, il_126, il_150, il_255, il_256, il_899, il_999, il_9999, il_65537, il_1000000, il_2147483647]) rfl⟩
    · exact UT_s (UT_s (UT_s (UT_s (UT_s hU 5 4 _) 6 b j) 7 b s) 8 b k) 9 b d
    · have e := MT_s (MT_s (MT_s (MT_s (MT_s hM (c := 6) (k := b) (a := 3) (b := b) (by unfold TD; omega) j rfl rfl) (c := 7) (k := b) (by unfold TD; omega) s rfl rfl) (c := 8) (k := b) (by unfold TD; omega) k rfl rfl) (c := 9) (k := b) (by unfold TD; omega) d rfl rfl) (c := 5) (k := 4) (by unfold TD; omega) (setb (t 5 4) b) rfl rfl
      have e3 : tset (tset (tset (tset (tset t 6 b j) 7 b s) 8 b k) 9 b d) 5 4 (setb (t 5 4) b) = tbar t b j s k d := by
        funext x y
        by_cases h9 : x = 5
        · subst h9; simp [tbar, tset]
        · unfold tbar; rw [ts_o (fun h => h9 h.1)]; simp only [tset]; simp [h9]
      rw [e3] at e; exact e
  have e4 : ∀ (K : Int32 → Option (Int32 × St)), jq_1 K (fun (k13 : Int32 → Option (Int32 × St)) => if (if t 5 4 / 2 ^ b % 2 = 1 then (1 : Int32) else 0) = 0 then k13 0 else cki (nI b) 8 (if m.1 3 (ix (nI b)) = nI j then k13 1 else k13 0)) = K (nI (if lin t j b then 1 else 0)) := by
    intro K
    rw [jq1, ckiT hb (by decide), ixN (by omega), M_lie hM hb]
    by_cases h1 : t 5 4 / 2 ^ b % 2 = 1
    · rw [if_pos h1, if_neg n10]
      by_cases h2 : t 6 b = j
      · rw [if_pos (by rw [h2])]; simp [lin, h1, h2, il_1]
      · rw [if_neg (fun h9 => h2 ((nI_eq (by omega) (by omega)).mp h9))]; simp [lin, h2, il_0]
    · rw [if_neg h1, if_pos rfl]; simp [lin, h1, il_0]
  have e5 : f_X7_countIn u (nI j) ((1 : Int32) <<< (nI b &&& 31)) = some (nI (oth t j b)) := by rw [shlN (by omega)]; exact ci_b hU hT (by omega) hb
  have e6 : nI (oth t j b + (if lin t j b then 1 else 0)) - nI (if lin t j b then 1 else 0) = nI (oth t j b) := by rw [pk_sub (by omega), Nat.add_sub_cancel]
  rw [e2, ib_ev hM hT hb, b1E, b1E, e4, e5, b1E, e6, ckiT (show j < 6 by omega) (by decide), ckiT (show j < 6 by omega) (by decide), ixN (show j < 2 ^ 31 by omega), U_room hU (by omega), M_room hM (by omega)]
  by_cases ho : oth t j b < t 4 j
  · rw [if_pos (nI_lt ho (by omega)), if_pos (nI_lt ho (by omega))]
    exact hfin ho
  · rw [if_neg (nI_nlt (by omega) (by omega)), if_neg (nI_nlt (by omega) (by omega))]
    exact ⟨_, _, _, rfl, rfl, hi0⟩
theorem s_set : Sp_set Inv := by
  intro N u m p1 p2 hi0
  obtain ⟨t, hU, hM, hT, hP, hI, hd, hr⟩ := id hi0
  have key : ∀ k v, k < 7 → v ≤ 99 → (k = 0 → 1 ≤ v) → (k = 2 → v ≤ 29) → Inv N (sI u 16 k (nI v)) (sI m (mc 16 k) (mk 16 k) (nI v)) := fun k v hk h1 h2 h3 => Inv_set hU hM hP hI hd hr (by unfold TD; omega) (TK_set hT h1 h2 h3)
  unfold f_X11_set f_X12_set
  rw [show (7 : Int32) - 1 = 6 from rfl, w_ev, b1E, jq1]
  by_cases h1 : (0 : Int32) ≤ p1 ∧ p1 ≤ 6
  rotate_left
  · rw [if_neg h1, if_pos rfl]
    have e : ∀ (x : Int32 → Option (Int32 × St)), b1 (f_X12_in m p1.toInt64 0 6) x = x 0 := fun x => by rw [in_ev (a := 0) (b := 6) (lo := 0) (hi := 6) rfl rfl, b1E, if_neg h1]
    refine ⟨_, _, m, rfl, ?_, hi0⟩
    split <;> exact (e _).trans (if_pos rfl)
  · obtain ⟨k, -, hk, rfl⟩ := rng h1 (a := 0) (b := 6) rfl rfl (by decide) (by decide)
    have : k = 0 ∨ k = 1 ∨ k = 2 ∨ k = 3 ∨ k = 4 ∨ k = 5 ∨ k = 6 := by omega
    have l0 : lsS 0 = nI 1 := rfl
    have m2 : msS 2 = nI 29 := rfl
    have ll : ∀ k, 0 < k → k < 7 → lsS k = nI 0 := fun k h _ => if_neg (by omega)
    have mm : ∀ k, k ≠ 2 → msS k = nI 99 := fun k h => if_neg h
    by_cases h2 : lsS k ≤ p2 ∧ p2 ≤ msS k
    · rcases this with rfl | rfl | rfl | rfl | rfl | rfl | rfl
      · obtain ⟨v, hv0, hv, rfl⟩ := rng h2 (a := 1) (b := 99) rfl rfl (by decide) (by decide)
        simp (disch := omega) only [l0, m2, ll, mm, U_set hU, M_sour hM, M_hands hM, M_ph hM, M_peak hM, b1E, b2E, bsE, jq0, jq1, jq2, jq3, w_ev, in_ev2, nI_leI, nI_ltI, nI_eq, nI_add, ↓pk_rem, pk_div, pk_sub, pk_mul, ckiT, ckT, ixN, if_pos, if_neg, ↓reduceIte, ckTr, true_or, or_true, false_or, or_false, sI_o, sI_s, pk_un, pk_us, il_0, il_1, il_2, il_3, il_4, il_5, il_6, il_7, il_8, il_9, il_10, il_12, il_16, il_20, il_29, il_30, il_31, il_32, il_33, il_39, il_40, il_43, il_46, il_48, il_50, il_54, il_55, il_57, il_60, il_63, il_64, il_74, il_75, il_97, il_99, il_100, il_126, il_150, il_255, il_256, il_899, il_999, il_9999, il_65537, il_1000000, il_2147483647, jl_0, jl_1, jl_3, jl_5, jl_6, jl_7, jl_8, jl_9, jl_10, jl_29, jl_30, jl_33, jl_39, jl_40, jl_43, jl_48, jl_55, jl_57, jl_99, jl_100, jl_126, jl_255, jl_899, jl_999, jl_9999]
        refine ⟨_, _, _, rfl, rfl, Inv_mk (t2 := tset t 16 0 v) (UT_s hU 16 0 v) ?_ (TK_set hT (by omega) (by omega) (by omega)) hP (ts_o (by omega)) (ts_c (by omega)) hI hd hr (fun c hc => by simp (disch := omega) only [b1E, b2E, bsE, jq0, jq1, jq2, jq3, w_ev, in_ev2, nI_leI, nI_ltI, nI_eq, nI_add, ↓pk_rem, pk_div, pk_sub, pk_mul, ckiT, ckT, ixN, if_pos, if_neg, ↓reduceIte, ckTr, true_or, or_true, false_or, or_false, sI_o, sI_s, pk_un, pk_us, il_0, il_1, il_2, il_3, il_4, il_5, il_6, il_7, il_8, il_9, il_10, il_12, il_16, il_20, il_29, il_30, il_31, il_32, il_33, il_39, il_40, il_43, il_46, il_48, il_50, il_54, il_55, il_57, il_60, il_63, il_64, il_74, il_75, il_97, il_99, il_100, il_126, il_150, il_255, il_256, il_899, il_999, il_9999, il_65537, il_1000000, il_2147483647]) (fun c hc => by simp (disch := omega) only [b1E, b2E, bsE, jq0, jq1, jq2, jq3, w_ev, in_ev2, nI_leI, nI_ltI, nI_eq, nI_add, ↓pk_rem, pk_div, pk_sub, pk_mul, ckiT, ckT, ixN, if_pos, if_neg, ↓reduceIte, ckTr, true_or, or_true, false_or, or_false, sI_o, sI_s, pk_un, pk_us, il_0, il_1, il_2, il_3, il_4, il_5, il_6, il_7, il_8, il_9, il_10, il_12, il_16, il_20, il_29, il_30, il_31, il_32, il_33, il_39, il_40, il_43, il_46, il_48, il_50, il_54, il_55, il_57, il_60, il_63, il_64, il_74, il_75, il_97, il_99, il_100, il_126, il_150, il_255, il_256, il_899, il_999, il_9999, il_65537, il_1000000, il_2147483647]) (by simp (disch := omega) only [b1E, b2E, bsE, jq0, jq1, jq2, jq3, w_ev, in_ev2, nI_leI, nI_ltI, nI_eq, nI_add, ↓pk_rem, pk_div, pk_sub, pk_mul, ckiT, ckT, ixN, if_pos, if_neg, ↓reduceIte, ckTr, true_or, or_true, false_or, or_false, sI_o, sI_s, pk_un, pk_us, il_0, il_1, il_2, il_3, il_4, il_5, il_6, il_7, il_8, il_9, il_10, il_12, il_16, il_20, il_29, il_30, il_31, il_32, il_33, il_39, il_40, il_43, il_46, il_48, il_50, il_54, il_55, il_57, il_60, il_63, il_64, il_74, il_75, il_97, il_99, il_100, il_126, il_150, il_255, il_256, il_899, il_999, il_9999, il_65537, il_1000000, il_2147483647]) (by simp (disch := omega) only [b1E, b2E, bsE, jq0, jq1, jq2, jq3, w_ev, in_ev2, nI_leI, nI_ltI, nI_eq, nI_add, ↓pk_rem, pk_div, pk_sub, pk_mul, ckiT, ckT, ixN, if_pos, if_neg, ↓reduceIte, ckTr, true_or, or_true, false_or, or_false, sI_o, sI_s, pk_un, pk_us, il_0, il_1, il_2, il_3, il_4, il_5, il_6, il_7, il_8, il_9, il_10, il_12, il_16, il_20, il_29, il_30, il_31, il_32, il_33, il_39, il_40, il_43, il_46, il_48, il_50, il_54, il_55, il_57, il_60, il_63, il_64, il_74, il_75, il_97, il_99, il_100, il_126, il_150, il_255, il_256, il_899, il_999, il_9999, il_65537, il_1000000, il_2147483647]) rfl⟩
        have e := MT_s (MT_s (MT_s hM (c := 16) (k := 0) (by unfold TD; omega) v rfl rfl) (c := 16) (k := 1) (by unfold TD; omega) (t 16 1) rfl rfl) (c := 16) (k := 2) (by unfold TD; omega) (t 16 2) rfl rfl
        have e' : tset (tset (tset t 16 0 v) 16 1 (t 16 1)) 16 2 (t 16 2) = tset t 16 0 v := by
          funext x y; simp only [tset]; split <;> (try split) <;> (try split) <;> simp_all
        rw [e'] at e; exact e
      · obtain ⟨v, hv0, hv, rfl⟩ := rng h2 (a := 0) (b := 99) rfl rfl (by decide) (by decide)
        simp (disch := omega) only [l0, m2, ll, mm, U_set hU, M_sour hM, M_hands hM, M_ph hM, M_peak hM, b1E, b2E, bsE, jq0, jq1, jq2, jq3, w_ev, in_ev2, nI_leI, nI_ltI, nI_eq, nI_add, ↓pk_rem, pk_div, pk_sub, pk_mul, ckiT, ckT, ixN, if_pos, if_neg, ↓reduceIte, ckTr, true_or, or_true, false_or, or_false, sI_o, sI_s, pk_un, pk_us, il_0, il_1, il_2, il_3, il_4, il_5, il_6, il_7, il_8, il_9, il_10, il_12, il_16, il_20, il_29, il_30, il_31, il_32, il_33, il_39, il_40, il_43, il_46, il_48, il_50, il_54, il_55, il_57, il_60, il_63, il_64, il_74, il_75, il_97, il_99, il_100, il_126, il_150, il_255, il_256, il_899, il_999, il_9999, il_65537, il_1000000, il_2147483647, jl_0, jl_1, jl_3, jl_5, jl_6, jl_7, jl_8, jl_9, jl_10, jl_29, jl_30, jl_33, jl_39, jl_40, jl_43, jl_48, jl_55, jl_57, jl_99, jl_100, jl_126, jl_255, jl_899, jl_999, jl_9999]
        refine ⟨_, _, _, rfl, rfl, Inv_mk (t2 := tset t 16 1 v) (UT_s hU 16 1 v) ?_ (TK_set hT (by omega) (by omega) (by omega)) hP (ts_o (by omega)) (ts_c (by omega)) hI hd hr (fun c hc => by simp (disch := omega) only [b1E, b2E, bsE, jq0, jq1, jq2, jq3, w_ev, in_ev2, nI_leI, nI_ltI, nI_eq, nI_add, ↓pk_rem, pk_div, pk_sub, pk_mul, ckiT, ckT, ixN, if_pos, if_neg, ↓reduceIte, ckTr, true_or, or_true, false_or, or_false, sI_o, sI_s, pk_un, pk_us, il_0, il_1, il_2, il_3, il_4, il_5, il_6, il_7, il_8, il_9, il_10, il_12, il_16, il_20, il_29, il_30, il_31, il_32, il_33, il_39, il_40, il_43, il_46, il_48, il_50, il_54, il_55, il_57, il_60, il_63, il_64, il_74, il_75, il_97, il_99, il_100, il_126, il_150, il_255, il_256, il_899, il_999, il_9999, il_65537, il_1000000, il_2147483647]) (fun c hc => by simp (disch := omega) only [b1E, b2E, bsE, jq0, jq1, jq2, jq3, w_ev, in_ev2, nI_leI, nI_ltI, nI_eq, nI_add, ↓pk_rem, pk_div, pk_sub, pk_mul, ckiT, ckT, ixN, if_pos, if_neg, ↓reduceIte, ckTr, true_or, or_true, false_or, or_false, sI_o, sI_s, pk_un, pk_us, il_0, il_1, il_2, il_3, il_4, il_5, il_6, il_7, il_8, il_9, il_10, il_12, il_16, il_20, il_29, il_30, il_31, il_32, il_33, il_39, il_40, il_43, il_46, il_48, il_50, il_54, il_55, il_57, il_60, il_63, il_64, il_74, il_75, il_97, il_99, il_100, il_126, il_150, il_255, il_256, il_899, il_999, il_9999, il_65537, il_1000000, il_2147483647]) (by simp (disch := omega) only [b1E, b2E, bsE, jq0, jq1, jq2, jq3, w_ev, in_ev2, nI_leI, nI_ltI, nI_eq, nI_add, ↓pk_rem, pk_div, pk_sub, pk_mul, ckiT, ckT, ixN, if_pos, if_neg, ↓reduceIte, ckTr, true_or, or_true, false_or, or_false, sI_o, sI_s, pk_un, pk_us, il_0, il_1, il_2, il_3, il_4, il_5, il_6, il_7, il_8, il_9, il_10, il_12, il_16, il_20, il_29, il_30, il_31, il_32, il_33, il_39, il_40, il_43, il_46, il_48, il_50, il_54, il_55, il_57, il_60, il_63, il_64, il_74, il_75, il_97, il_99, il_100, il_126, il_150, il_255, il_256, il_899, il_999, il_9999, il_65537, il_1000000, il_2147483647]) (by simp (disch := omega) only [b1E, b2E, bsE, jq0, jq1, jq2, jq3, w_ev, in_ev2, nI_leI, nI_ltI, nI_eq, nI_add, ↓pk_rem, pk_div, pk_sub, pk_mul, ckiT, ckT, ixN, if_pos, if_neg, ↓reduceIte, ckTr, true_or, or_true, false_or, or_false, sI_o, sI_s, pk_un, pk_us, il_0, il_1, il_2, il_3, il_4, il_5, il_6, il_7, il_8, il_9, il_10, il_12, il_16, il_20, il_29, il_30, il_31, il_32, il_33, il_39, il_40, il_43, il_46, il_48, il_50, il_54, il_55, il_57, il_60, il_63, il_64, il_74, il_75, il_97, il_99, il_100, il_126, il_150, il_255, il_256, il_899, il_999, il_9999, il_65537, il_1000000, il_2147483647]) rfl⟩
        have e := MT_s (MT_s (MT_s hM (c := 16) (k := 0) (by unfold TD; omega) (t 16 0) rfl rfl) (c := 16) (k := 1) (by unfold TD; omega) v rfl rfl) (c := 16) (k := 2) (by unfold TD; omega) (t 16 2) rfl rfl
        have e' : tset (tset (tset t 16 0 (t 16 0)) 16 1 v) 16 2 (t 16 2) = tset t 16 1 v := by
          funext x y; simp only [tset]; split <;> (try split) <;> (try split) <;> simp_all
        rw [e'] at e; exact e
      · obtain ⟨v, hv0, hv, rfl⟩ := rng h2 (a := 0) (b := 29) rfl rfl (by decide) (by decide)
        simp (disch := omega) only [l0, m2, ll, mm, U_set hU, M_sour hM, M_hands hM, M_ph hM, M_peak hM, b1E, b2E, bsE, jq0, jq1, jq2, jq3, w_ev, in_ev2, nI_leI, nI_ltI, nI_eq, nI_add, ↓pk_rem, pk_div, pk_sub, pk_mul, ckiT, ckT, ixN, if_pos, if_neg, ↓reduceIte, ckTr, true_or, or_true, false_or, or_false, sI_o, sI_s, pk_un, pk_us, il_0, il_1, il_2, il_3, il_4, il_5, il_6, il_7, il_8, il_9, il_10, il_12, il_16, il_20, il_29, il_30, il_31, il_32, il_33, il_39, il_40, il_43, il_46, il_48, il_50, il_54, il_55, il_57, il_60, il_63, il_64, il_74, il_75, il_97, il_99, il_100, il_126, il_150, il_255, il_256, il_899, il_999, il_9999, il_65537, il_1000000, il_2147483647, jl_0, jl_1, jl_3, jl_5, jl_6, jl_7, jl_8, jl_9, jl_10, jl_29, jl_30, jl_33, jl_39, jl_40, jl_43, jl_48, jl_55, jl_57, jl_99, jl_100, jl_126, jl_255, jl_899, jl_999, jl_9999]
        refine ⟨_, _, _, rfl, rfl, Inv_mk (t2 := tset t 16 2 v) (UT_s hU 16 2 v) ?_ (TK_set hT (by omega) (by omega) (by omega)) hP (ts_o (by omega)) (ts_c (by omega)) hI hd hr (fun c hc => by simp (disch := omega) only [b1E, b2E, bsE, jq0, jq1, jq2, jq3, w_ev, in_ev2, nI_leI, nI_ltI, nI_eq, nI_add, ↓pk_rem, pk_div, pk_sub, pk_mul, ckiT, ckT, ixN, if_pos, if_neg, ↓reduceIte, ckTr, true_or, or_true, false_or, or_false, sI_o, sI_s, pk_un, pk_us, il_0, il_1, il_2, il_3, il_4, il_5, il_6, il_7, il_8, il_9, il_10, il_12, il_16, il_20, il_29, il_30, il_31, il_32, il_33, il_39, il_40, il_43, il_46, il_48, il_50, il_54, il_55, il_57, il_60, il_63, il_64, il_74, il_75, il_97, il_99, il_100, il_126, il_150, il_255, il_256, il_899, il_999, il_9999, il_65537, il_1000000, il_2147483647]) (fun c hc => by simp (disch := omega) only [b1E, b2E, bsE, jq0, jq1, jq2, jq3, w_ev, in_ev2, nI_leI, nI_ltI, nI_eq, nI_add, ↓pk_rem, pk_div, pk_sub, pk_mul, ckiT, ckT, ixN, if_pos, if_neg, ↓reduceIte, ckTr, true_or, or_true, false_or, or_false, sI_o, sI_s, pk_un, pk_us, il_0, il_1, il_2, il_3, il_4, il_5, il_6, il_7, il_8, il_9, il_10, il_12, il_16, il_20, il_29, il_30, il_31, il_32, il_33, il_39, il_40, il_43, il_46, il_48, il_50, il_54, il_55, il_57, il_60, il_63, il_64, il_74, il_75, il_97, il_99, il_100, il_126, il_150, il_255, il_256, il_899, il_999, il_9999, il_65537, il_1000000, il_2147483647]) (by simp (disch := omega) only [b1E, b2E, bsE, jq0, jq1, jq2, jq3, w_ev, in_ev2, nI_leI, nI_ltI, nI_eq, nI_add, ↓pk_rem, pk_div, pk_sub, pk_mul, ckiT, ckT, ixN, if_pos, if_neg, ↓reduceIte, ckTr, true_or, or_true, false_or, or_false, sI_o, sI_s, pk_un, pk_us, il_0, il_1, il_2, il_3, il_4, il_5, il_6, il_7, il_8, il_9, il_10, il_12, il_16, il_20, il_29, il_30, il_31, il_32, il_33, il_39, il_40, il_43, il_46, il_48, il_50, il_54, il_55, il_57, il_60, il_63, il_64, il_74, il_75, il_97, il_99, il_100, il_126, il_150, il_255, il_256, il_899, il_999, il_9999, il_65537, il_1000000, il_2147483647]) (by simp (disch := omega) only [b1E, b2E, bsE, jq0, jq1, jq2, jq3, w_ev, in_ev2, nI_leI, nI_ltI, nI_eq, nI_add, ↓pk_rem, pk_div, pk_sub, pk_mul, ckiT, ckT, ixN, if_pos, if_neg, ↓reduceIte, ckTr, true_or, or_true, false_or, or_false, sI_o, sI_s, pk_un, pk_us, il_0, il_1, il_2, il_3, il_4, il_5, il_6, il_7, il_8, il_9, il_10, il_12, il_16, il_20, il_29, il_30, il_31, il_32, il_33, il_39, il_40, il_43, il_46, il_48, il_50, il_54, il_55, il_57, il_60, il_63, il_64, il_74, il_75, il_97, il_99, il_100, il_126, il_150, il_255, il_256, il_899, il_999, il_9999, il_65537, il_1000000, il_2147483647]) rfl⟩
        have e := MT_s (MT_s (MT_s hM (c := 16) (k := 0) (by unfold TD; omega) (t 16 0) rfl rfl) (c := 16) (k := 1) (by unfold TD; omega) (t 16 1) rfl rfl) (c := 16) (k := 2) (by unfold TD; omega) v rfl rfl
        have e' : tset (tset (tset t 16 0 (t 16 0)) 16 1 (t 16 1)) 16 2 v = tset t 16 2 v := by
          funext x y; simp only [tset]; split <;> (try split) <;> (try split) <;> simp_all
        rw [e'] at e; exact e
      · obtain ⟨v, hv0, hv, rfl⟩ := rng h2 (a := 0) (b := 99) rfl rfl (by decide) (by decide)
        simp (disch := omega) only [l0, m2, ll, mm, U_set hU, M_sour hM, M_hands hM, M_ph hM, M_peak hM, b1E, b2E, bsE, jq0, jq1, jq2, jq3, w_ev, in_ev2, nI_leI, nI_ltI, nI_eq, nI_add, ↓pk_rem, pk_div, pk_sub, pk_mul, ckiT, ckT, ixN, if_pos, if_neg, ↓reduceIte, ckTr, true_or, or_true, false_or, or_false, sI_o, sI_s, pk_un, pk_us, il_0, il_1, il_2, il_3, il_4, il_5, il_6, il_7, il_8, il_9, il_10, il_12, il_16, il_20, il_29, il_30, il_31, il_32, il_33, il_39, il_40, il_43, il_46, il_48, il_50, il_54, il_55, il_57, il_60, il_63, il_64, il_74, il_75, il_97, il_99, il_100, il_126, il_150, il_255, il_256, il_899, il_999, il_9999, il_65537, il_1000000, il_2147483647, jl_0, jl_1, jl_3, jl_5, jl_6, jl_7, jl_8, jl_9, jl_10, jl_29, jl_30, jl_33, jl_39, jl_40, jl_43, jl_48, jl_55, jl_57, jl_99, jl_100, jl_126, jl_255, jl_899, jl_999, jl_9999]
        refine ⟨_, _, _, rfl, rfl, Inv_mk (t2 := tset t 16 3 v) (UT_s hU 16 3 v) ?_ (TK_set hT (by omega) (by omega) (by omega)) hP (ts_o (by omega)) (ts_c (by omega)) hI hd hr (fun c hc => by simp (disch := omega) only [b1E, b2E, bsE, jq0, jq1, jq2, jq3, w_ev, in_ev2, nI_leI, nI_ltI, nI_eq, nI_add, ↓pk_rem, pk_div, pk_sub, pk_mul, ckiT, ckT, ixN, if_pos, if_neg, ↓reduceIte, ckTr, true_or, or_true, false_or, or_false, sI_o, sI_s, pk_un, pk_us, il_0, il_1, il_2, il_3, il_4, il_5, il_6, il_7, il_8, il_9, il_10, il_12, il_16, il_20, il_29, il_30, il_31, il_32, il_33, il_39, il_40, il_43, il_46, il_48, il_50, il_54, il_55, il_57, il_60, il_63, il_64, il_74, il_75, il_97, il_99, il_100, il_126, il_150, il_255, il_256, il_899, il_999, il_9999, il_65537, il_1000000, il_2147483647]) (fun c hc => by simp (disch := omega) only [b1E, b2E, bsE, jq0, jq1, jq2, jq3, w_ev, in_ev2, nI_leI, nI_ltI, nI_eq, nI_add, ↓pk_rem, pk_div, pk_sub, pk_mul, ckiT, ckT, ixN, if_pos, if_neg, ↓reduceIte, ckTr, true_or, or_true, false_or, or_false, sI_o, sI_s, pk_un, pk_us, il_0, il_1, il_2, il_3, il_4, il_5, il_6, il_7, il_8, il_9, il_10, il_12, il_16, il_20, il_29, il_30, il_31, il_32, il_33, il_39, il_40, il_43, il_46, il_48, il_50, il_54, il_55, il_57, il_60, il_63, il_64, il_74, il_75, il_97, il_99, il_100, il_126, il_150, il_255, il_256, il_899, il_999, il_9999, il_65537, il_1000000, il_2147483647]) (by simp (disch := omega) only [b1E, b2E, bsE, jq0, jq1, jq2, jq3, w_ev, in_ev2, nI_leI, nI_ltI, nI_eq, nI_add, ↓pk_rem, pk_div, pk_sub, pk_mul, ckiT, ckT, ixN, if_pos, if_neg, ↓reduceIte, ckTr, true_or, or_true, false_or, or_false, sI_o, sI_s, pk_un, pk_us, il_0, il_1, il_2, il_3, il_4, il_5, il_6, il_7, il_8, il_9, il_10, il_12, il_16, il_20, il_29, il_30, il_31, il_32, il_33, il_39, il_40, il_43, il_46, il_48, il_50, il_54, il_55, il_57, il_60, il_63, il_64, il_74, il_75, il_97, il_99, il_100, il_126, il_150, il_255, il_256, il_899, il_999, il_9999, il_65537, il_1000000, il_2147483647]) (by simp (disch := omega) only [b1E, b2E, bsE, jq0, jq1, jq2, jq3, w_ev, in_ev2, nI_leI, nI_ltI, nI_eq, nI_add, ↓pk_rem, pk_div, pk_sub, pk_mul, ckiT, ckT, ixN, if_pos, if_neg, ↓reduceIte, ckTr, true_or, or_true, false_or, or_false, sI_o, sI_s, pk_un, pk_us, il_0, il_1, il_2, il_3, il_4, il_5, il_6, il_7, il_8, il_9, il_10, il_12, il_16, il_20, il_29, il_30, il_31, il_32, il_33, il_39, il_40, il_43, il_46, il_48, il_50, il_54, il_55, il_57, il_60, il_63, il_64, il_74, il_75, il_97, il_99, il_100, il_126, il_150, il_255, il_256, il_899, il_999, il_9999, il_65537, il_1000000, il_2147483647]) rfl⟩
        have e := MT_s (MT_s (MT_s (MT_s hM (c := 16) (k := 0) (by unfold TD; omega) (t 16 0) rfl rfl) (c := 16) (k := 1) (by unfold TD; omega) (t 16 1) rfl rfl) (c := 16) (k := 2) (by unfold TD; omega) (t 16 2) rfl rfl) (c := 16) (k := 3) (by unfold TD; omega) v rfl rfl
        have e' : tset (tset (tset (tset t 16 0 (t 16 0)) 16 1 (t 16 1)) 16 2 (t 16 2)) 16 3 v = tset t 16 3 v := by
          funext x y; simp only [tset]; split <;> (try split) <;> (try split) <;> simp_all
        rw [e'] at e; exact e
      · obtain ⟨v, hv0, hv, rfl⟩ := rng h2 (a := 0) (b := 99) rfl rfl (by decide) (by decide)
        simp (disch := omega) only [l0, m2, ll, mm, U_set hU, M_sour hM, M_hands hM, M_ph hM, M_peak hM, b1E, b2E, bsE, jq0, jq1, jq2, jq3, w_ev, in_ev2, nI_leI, nI_ltI, nI_eq, nI_add, ↓pk_rem, pk_div, pk_sub, pk_mul, ckiT, ckT, ixN, if_pos, if_neg, ↓reduceIte, ckTr, true_or, or_true, false_or, or_false, sI_o, sI_s, pk_un, pk_us, il_0, il_1, il_2, il_3, il_4, il_5, il_6, il_7, il_8, il_9, il_10, il_12, il_16, il_20, il_29, il_30, il_31, il_32, il_33, il_39, il_40, il_43, il_46, il_48, il_50, il_54, il_55, il_57, il_60, il_63, il_64, il_74, il_75, il_97, il_99, il_100, il_126, il_150, il_255, il_256, il_899, il_999, il_9999, il_65537, il_1000000, il_2147483647, jl_0, jl_1, jl_3, jl_5, jl_6, jl_7, jl_8, jl_9, jl_10, jl_29, jl_30, jl_33, jl_39, jl_40, jl_43, jl_48, jl_55, jl_57, jl_99, jl_100, jl_126, jl_255, jl_899, jl_999, jl_9999]
        refine ⟨_, _, _, rfl, rfl, Inv_mk (t2 := tset t 16 4 v) (UT_s hU 16 4 v) ?_ (TK_set hT (by omega) (by omega) (by omega)) hP (ts_o (by omega)) (ts_c (by omega)) hI hd hr (fun c hc => by simp (disch := omega) only [b1E, b2E, bsE, jq0, jq1, jq2, jq3, w_ev, in_ev2, nI_leI, nI_ltI, nI_eq, nI_add, ↓pk_rem, pk_div, pk_sub, pk_mul, ckiT, ckT, ixN, if_pos, if_neg, ↓reduceIte, ckTr, true_or, or_true, false_or, or_false, sI_o, sI_s, pk_un, pk_us, il_0, il_1, il_2, il_3, il_4, il_5, il_6, il_7, il_8, il_9, il_10, il_12, il_16, il_20, il_29, il_30, il_31, il_32, il_33, il_39, il_40, il_43, il_46, il_48, il_50, il_54, il_55, il_57, il_60, il_63, il_64, il_74, il_75, il_97, il_99, il_100, il_126, il_150, il_255, il_256, il_899, il_999, il_9999, il_65537, il_1000000, il_2147483647]) (fun c hc => by simp (disch := omega) only [b1E, b2E, bsE, jq0, jq1, jq2, jq3, w_ev, in_ev2, nI_leI, nI_ltI, nI_eq, nI_add, ↓pk_rem, pk_div, pk_sub, pk_mul, ckiT, ckT, ixN, if_pos, if_neg, ↓reduceIte, ckTr, true_or, or_true, false_or, or_false, sI_o, sI_s, pk_un, pk_us, il_0, il_1, il_2, il_3, il_4, il_5, il_6, il_7, il_8, il_9, il_10, il_12, il_16, il_20, il_29, il_30, il_31, il_32, il_33, il_39, il_40, il_43, il_46, il_48, il_50, il_54, il_55, il_57, il_60, il_63, il_64, il_74, il_75, il_97, il_99, il_100, il_126, il_150, il_255, il_256, il_899, il_999, il_9999, il_65537, il_1000000, il_2147483647]) (by simp (disch := omega) only [b1E, b2E, bsE, jq0, jq1, jq2, jq3, w_ev, in_ev2, nI_leI, nI_ltI, nI_eq, nI_add, ↓pk_rem, pk_div, pk_sub, pk_mul, ckiT, ckT, ixN, if_pos, if_neg, ↓reduceIte, ckTr, true_or, or_true, false_or, or_false, sI_o, sI_s, pk_un, pk_us, il_0, il_1, il_2, il_3, il_4, il_5, il_6, il_7, il_8, il_9, il_10, il_12, il_16, il_20, il_29, il_30, il_31, il_32, il_33, il_39, il_40, il_43, il_46, il_48, il_50, il_54, il_55, il_57, il_60, il_63, il_64, il_74, il_75, il_97, il_99, il_100, il_126, il_150, il_255, il_256, il_899, il_999, il_9999, il_65537, il_1000000, il_2147483647]) (by simp (disch := omega) only [b1E, b2E, bsE, jq0, jq1, jq2, jq3, w_ev, in_ev2, nI_leI, nI_ltI, nI_eq, nI_add, ↓pk_rem, pk_div, pk_sub, pk_mul, ckiT, ckT, ixN, if_pos, if_neg, ↓reduceIte, ckTr, true_or, or_true, false_or, or_false, sI_o, sI_s, pk_un, pk_us, il_0, il_1, il_2, il_3, il_4, il_5, il_6, il_7, il_8, il_9, il_10, il_12, il_16, il_20, il_29, il_30, il_31, il_32, il_33, il_39, il_40, il_43, il_46, il_48, il_50, il_54, il_55, il_57, il_60, il_63, il_64, il_74, il_75, il_97, il_99, il_100, il_126, il_150, il_255, il_256, il_899, il_999, il_9999, il_65537, il_1000000, il_2147483647]) rfl⟩
        have e := MT_s (MT_s (MT_s (MT_s hM (c := 16) (k := 0) (by unfold TD; omega) (t 16 0) rfl rfl) (c := 16) (k := 1) (by unfold TD; omega) (t 16 1) rfl rfl) (c := 16) (k := 2) (by unfold TD; omega) (t 16 2) rfl rfl) (c := 16) (k := 4) (by unfold TD; omega) v rfl rfl
        have e' : tset (tset (tset (tset t 16 0 (t 16 0)) 16 1 (t 16 1)) 16 2 (t 16 2)) 16 4 v = tset t 16 4 v := by
          funext x y; simp only [tset]; split <;> (try split) <;> (try split) <;> simp_all
        rw [e'] at e; exact e
      · obtain ⟨v, hv0, hv, rfl⟩ := rng h2 (a := 0) (b := 99) rfl rfl (by decide) (by decide)
        simp (disch := omega) only [l0, m2, ll, mm, U_set hU, M_sour hM, M_hands hM, M_ph hM, M_peak hM, b1E, b2E, bsE, jq0, jq1, jq2, jq3, w_ev, in_ev2, nI_leI, nI_ltI, nI_eq, nI_add, ↓pk_rem, pk_div, pk_sub, pk_mul, ckiT, ckT, ixN, if_pos, if_neg, ↓reduceIte, ckTr, true_or, or_true, false_or, or_false, sI_o, sI_s, pk_un, pk_us, il_0, il_1, il_2, il_3, il_4, il_5, il_6, il_7, il_8, il_9, il_10, il_12, il_16, il_20, il_29, il_30, il_31, il_32, il_33, il_39, il_40, il_43, il_46, il_48, il_50, il_54, il_55, il_57, il_60, il_63, il_64, il_74, il_75, il_97, il_99, il_100, il_126, il_150, il_255, il_256, il_899, il_999, il_9999, il_65537, il_1000000, il_2147483647, jl_0, jl_1, jl_3, jl_5, jl_6, jl_7, jl_8, jl_9, jl_10, jl_29, jl_30, jl_33, jl_39, jl_40, jl_43, jl_48, jl_55, jl_57, jl_99, jl_100, jl_126, jl_255, jl_899, jl_999, jl_9999]
        refine ⟨_, _, _, rfl, rfl, Inv_mk (t2 := tset t 16 5 v) (UT_s hU 16 5 v) ?_ (TK_set hT (by omega) (by omega) (by omega)) hP (ts_o (by omega)) (ts_c (by omega)) hI hd hr (fun c hc => by simp (disch := omega) only [b1E, b2E, bsE, jq0, jq1, jq2, jq3, w_ev, in_ev2, nI_leI, nI_ltI, nI_eq, nI_add, ↓pk_rem, pk_div, pk_sub, pk_mul, ckiT, ckT, ixN, if_pos, if_neg, ↓reduceIte, ckTr, true_or, or_true, false_or, or_false, sI_o, sI_s, pk_un, pk_us, il_0, il_1, il_2, il_3, il_4, il_5, il_6, il_7, il_8, il_9, il_10, il_12, il_16, il_20, il_29, il_30, il_31, il_32, il_33, il_39, il_40, il_43, il_46, il_48, il_50, il_54, il_55, il_57, il_60, il_63, il_64, il_74, il_75, il_97, il_99, il_100, il_126, il_150, il_255, il_256, il_899, il_999, il_9999, il_65537, il_1000000, il_2147483647]) (fun c hc => by simp (disch := omega) only [b1E, b2E, bsE, jq0, jq1, jq2, jq3, w_ev, in_ev2, nI_leI, nI_ltI, nI_eq, nI_add, ↓pk_rem, pk_div, pk_sub, pk_mul, ckiT, ckT, ixN, if_pos, if_neg, ↓reduceIte, ckTr, true_or, or_true, false_or, or_false, sI_o, sI_s, pk_un, pk_us, il_0, il_1, il_2, il_3, il_4, il_5, il_6, il_7, il_8, il_9, il_10, il_12, il_16, il_20, il_29, il_30, il_31, il_32, il_33, il_39, il_40, il_43, il_46, il_48, il_50, il_54, il_55, il_57, il_60, il_63, il_64, il_74, il_75, il_97, il_99, il_100, il_126, il_150, il_255, il_256, il_899, il_999, il_9999, il_65537, il_1000000, il_2147483647]) (by simp (disch := omega) only [b1E, b2E, bsE, jq0, jq1, jq2, jq3, w_ev, in_ev2, nI_leI, nI_ltI, nI_eq, nI_add, ↓pk_rem, pk_div, pk_sub, pk_mul, ckiT, ckT, ixN, if_pos, if_neg, ↓reduceIte, ckTr, true_or, or_true, false_or, or_false, sI_o, sI_s, pk_un, pk_us, il_0, il_1, il_2, il_3, il_4, il_5, il_6, il_7, il_8, il_9, il_10, il_12, il_16, il_20, il_29, il_30, il_31, il_32, il_33, il_39, il_40, il_43, il_46, il_48, il_50, il_54, il_55, il_57, il_60, il_63, il_64, il_74, il_75, il_97, il_99, il_100, il_126, il_150, il_255, il_256, il_899, il_999, il_9999, il_65537, il_1000000, il_2147483647]) (by simp (disch := omega) only [b1E, b2E, bsE, jq0, jq1, jq2, jq3, w_ev, in_ev2, nI_leI, nI_ltI, nI_eq, nI_add, ↓pk_rem, pk_div, pk_sub, pk_mul, ckiT, ckT, ixN, if_pos, if_neg, ↓reduceIte, ckTr, true_or, or_true, false_or, or_false, sI_o, sI_s, pk_un, pk_us, il_0, il_1, il_2, il_3, il_4, il_5, il_6, il_7, il_8, il_9, il_10, il_12, il_16, il_20, il_29, il_30, il_31, il_32, il_33, il_39, il_40, il_43, il_46, il_48, il_50, il_54, il_55, il_57, il_60, il_63, il_64, il_74, il_75, il_97, il_99, il_100, il_126, il_150, il_255, il_256, il_899, il_999, il_9999, il_65537, il_1000000, il_2147483647]) rfl⟩
        have e := MT_s (MT_s (MT_s (MT_s hM (c := 16) (k := 0) (by unfold TD; omega) (t 16 0) rfl rfl) (c := 16) (k := 1) (by unfold TD; omega) (t 16 1) rfl rfl) (c := 16) (k := 2) (by unfold TD; omega) (t 16 2) rfl rfl) (c := 16) (k := 5) (by unfold TD; omega) v rfl rfl
        have e' : tset (tset (tset (tset t 16 0 (t 16 0)) 16 1 (t 16 1)) 16 2 (t 16 2)) 16 5 v = tset t 16 5 v := by
          funext x y; simp only [tset]; split <;> (try split) <;> (try split) <;> simp_all
        rw [e'] at e; exact e
      · obtain ⟨v, hv0, hv, rfl⟩ := rng h2 (a := 0) (b := 99) rfl rfl (by decide) (by decide)
        simp (disch := omega) only [l0, m2, ll, mm, U_set hU, M_sour hM, M_hands hM, M_ph hM, M_peak hM, b1E, b2E, bsE, jq0, jq1, jq2, jq3, w_ev, in_ev2, nI_leI, nI_ltI, nI_eq, nI_add, ↓pk_rem, pk_div, pk_sub, pk_mul, ckiT, ckT, ixN, if_pos, if_neg, ↓reduceIte, ckTr, true_or, or_true, false_or, or_false, sI_o, sI_s, pk_un, pk_us, il_0, il_1, il_2, il_3, il_4, il_5, il_6, il_7, il_8, il_9, il_10, il_12, il_16, il_20, il_29, il_30, il_31, il_32, il_33, il_39, il_40, il_43, il_46, il_48, il_50, il_54, il_55, il_57, il_60, il_63, il_64, il_74, il_75, il_97, il_99, il_100, il_126, il_150, il_255, il_256, il_899, il_999, il_9999, il_65537, il_1000000, il_2147483647, jl_0, jl_1, jl_3, jl_5, jl_6, jl_7, jl_8, jl_9, jl_10, jl_29, jl_30, jl_33, jl_39, jl_40, jl_43, jl_48, jl_55, jl_57, jl_99, jl_100, jl_126, jl_255, jl_899, jl_999, jl_9999]
        refine ⟨_, _, _, rfl, rfl, Inv_mk (t2 := tset t 16 6 v) (UT_s hU 16 6 v) ?_ (TK_set hT (by omega) (by omega) (by omega)) hP (ts_o (by omega)) (ts_c (by omega)) hI hd hr (fun c hc => by simp (disch := omega) only [b1E, b2E, bsE, jq0, jq1, jq2, jq3, w_ev, in_ev2, nI_leI, nI_ltI, nI_eq, nI_add, ↓pk_rem, pk_div, pk_sub, pk_mul, ckiT, ckT, ixN, if_pos, if_neg, ↓reduceIte, ckTr, true_or, or_true, false_or, or_false, sI_o, sI_s, pk_un, pk_us, il_0, il_1, il_2, il_3, il_4, il_5, il_6, il_7, il_8, il_9, il_10, il_12, il_16, il_20, il_29, il_30, il_31, il_32, il_33, il_39, il_40, il_43, il_46, il_48, il_50, il_54, il_55, il_57, il_60, il_63, il_64, il_74, il_75, il_97, il_99, il_100, il_126, il_150, il_255, il_256, il_899, il_999, il_9999, il_65537, il_1000000, il_2147483647]) (fun c hc => by simp (disch := omega) only [b1E, b2E, bsE, jq0, jq1, jq2, jq3, w_ev, in_ev2, nI_leI, nI_ltI, nI_eq, nI_add, ↓pk_rem, pk_div, pk_sub, pk_mul, ckiT, ckT, ixN, if_pos, if_neg, ↓reduceIte, ckTr, true_or, or_true, false_or, or_false, sI_o, sI_s, pk_un, pk_us, il_0, il_1, il_2, il_3, il_4, il_5, il_6, il_7, il_8, il_9, il_10, il_12, il_16, il_20, il_29, il_30, il_31, il_32, il_33, il_39, il_40, il_43, il_46, il_48, il_50, il_54, il_55, il_57, il_60, il_63, il_64, il_74, il_75, il_97, il_99, il_100, il_126, il_150, il_255, il_256, il_899, il_999, il_9999, il_65537, il_1000000, il_2147483647]) (by simp (disch := omega) only [b1E, b2E, bsE, jq0, jq1, jq2, jq3, w_ev, in_ev2, nI_leI, nI_ltI, nI_eq, nI_add, ↓pk_rem, pk_div, pk_sub, pk_mul, ckiT, ckT, ixN, if_pos, if_neg, ↓reduceIte, ckTr, true_or, or_true, false_or, or_false, sI_o, sI_s, pk_un, pk_us, il_0, il_1, il_2, il_3, il_4, il_5, il_6, il_7, il_8, il_9, il_10, il_12, il_16, il_20, il_29, il_30, il_31, il_32, il_33, il_39, il_40, il_43, il_46, il_48, il_50, il_54, il_55, il_57, il_60, il_63, il_64, il_74, il_75, il_97, il_99, il_100, il_126, il_150, il_255, il_256, il_899, il_999, il_9999, il_65537, il_1000000, il_2147483647]) (by simp (disch := omega) only [b1E, b2E, bsE, jq0, jq1, jq2, jq3, w_ev, in_ev2, nI_leI, nI_ltI, nI_eq, nI_add, ↓pk_rem, pk_div, pk_sub, pk_mul, ckiT, ckT, ixN, if_pos, if_neg, ↓reduceIte, ckTr, true_or, or_true, false_or, or_false, sI_o, sI_s, pk_un, pk_us, il_0, il_1, il_2, il_3, il_4, il_5, il_6, il_7, il_8, il_9, il_10, il_12, il_16, il_20, il_29, il_30, il_31, il_32, il_33, il_39, il_40, il_43, il_46, il_48, il_50, il_54, il_55, il_57, il_60, il_63, il_64, il_74, il_75, il_97, il_99, il_100, il_126, il_150, il_255, il_256, il_899, il_999, il_9999, il_65537, il_1000000, il_2147483647]) rfl⟩
        have e := MT_s (MT_s (MT_s (MT_s hM (c := 16) (k := 0) (by unfold TD; omega) (t 16 0) rfl rfl) (c := 16) (k := 1) (by unfold TD; omega) (t 16 1) rfl rfl) (c := 16) (k := 2) (by unfold TD; omega) (t 16 2) rfl rfl) (c := 16) (k := 6) (by unfold TD; omega) v rfl rfl
        have e' : tset (tset (tset (tset t 16 0 (t 16 0)) 16 1 (t 16 1)) 16 2 (t 16 2)) 16 6 v = tset t 16 6 v := by
          funext x y; simp only [tset]; split <;> (try split) <;> (try split) <;> simp_all
        rw [e'] at e; exact e
    · rcases this with rfl | rfl | rfl | rfl | rfl | rfl | rfl
      · have h2' : ¬ (nI 1 ≤ p2 ∧ p2 ≤ nI 99) := h2
        simp (disch := omega) only [l0, m2, ll, mm, h2', b1E, b2E, bsE, jq0, jq1, jq2, jq3, w_ev, in_ev2, nI_leI, nI_ltI, nI_eq, nI_add, ↓pk_rem, pk_div, pk_sub, pk_mul, ckiT, ckT, ixN, if_pos, if_neg, ↓reduceIte, ckTr, true_or, or_true, false_or, or_false, sI_o, sI_s, pk_un, pk_us, il_0, il_1, il_2, il_3, il_4, il_5, il_6, il_7, il_8, il_9, il_10, il_12, il_16, il_20, il_29, il_30, il_31, il_32, il_33, il_39, il_40, il_43, il_46, il_48, il_50, il_54, il_55, il_57, il_60, il_63, il_64, il_74, il_75, il_97, il_99, il_100, il_126, il_150, il_255, il_256, il_899, il_999, il_9999, il_65537, il_1000000, il_2147483647, jl_0, jl_1, jl_3, jl_5, jl_6, jl_7, jl_8, jl_9, jl_10, jl_29, jl_30, jl_33, jl_39, jl_40, jl_43, jl_48, jl_55, jl_57, jl_99, jl_100, jl_126, jl_255, jl_899, jl_999, jl_9999]
        exact ⟨_, _, _, rfl, rfl, hi0⟩
      · have h2' : ¬ (nI 0 ≤ p2 ∧ p2 ≤ nI 99) := h2
        simp (disch := omega) only [l0, m2, ll, mm, h2', b1E, b2E, bsE, jq0, jq1, jq2, jq3, w_ev, in_ev2, nI_leI, nI_ltI, nI_eq, nI_add, ↓pk_rem, pk_div, pk_sub, pk_mul, ckiT, ckT, ixN, if_pos, if_neg, ↓reduceIte, ckTr, true_or, or_true, false_or, or_false, sI_o, sI_s, pk_un, pk_us, il_0, il_1, il_2, il_3, il_4, il_5, il_6, il_7, il_8, il_9, il_10, il_12, il_16, il_20, il_29, il_30, il_31, il_32, il_33, il_39, il_40, il_43, il_46, il_48, il_50, il_54, il_55, il_57, il_60, il_63, il_64, il_74, il_75, il_97, il_99, il_100, il_126, il_150, il_255, il_256, il_899, il_999, il_9999, il_65537, il_1000000, il_2147483647, jl_0, jl_1, jl_3, jl_5, jl_6, jl_7, jl_8, jl_9, jl_10, jl_29, jl_30, jl_33, jl_39, jl_40, jl_43, jl_48, jl_55, jl_57, jl_99, jl_100, jl_126, jl_255, jl_899, jl_999, jl_9999]
        exact ⟨_, _, _, rfl, rfl, hi0⟩
      · have h2' : ¬ (nI 0 ≤ p2 ∧ p2 ≤ nI 29) := h2
        simp (disch := omega) only [l0, m2, ll, mm, h2', b1E, b2E, bsE, jq0, jq1, jq2, jq3, w_ev, in_ev2, nI_leI, nI_ltI, nI_eq, nI_add, ↓pk_rem, pk_div, pk_sub, pk_mul, ckiT, ckT, ixN, if_pos, if_neg, ↓reduceIte, ckTr, true_or, or_true, false_or, or_false, sI_o, sI_s, pk_un, pk_us, il_0, il_1, il_2, il_3, il_4, il_5, il_6, il_7, il_8, il_9, il_10, il_12, il_16, il_20, il_29, il_30, il_31, il_32, il_33, il_39, il_40, il_43, il_46, il_48, il_50, il_54, il_55, il_57, il_60, il_63, il_64, il_74, il_75, il_97, il_99, il_100, il_126, il_150, il_255, il_256, il_899, il_999, il_9999, il_65537, il_1000000, il_2147483647, jl_0, jl_1, jl_3, jl_5, jl_6, jl_7, jl_8, jl_9, jl_10, jl_29, jl_30, jl_33, jl_39, jl_40, jl_43, jl_48, jl_55, jl_57, jl_99, jl_100, jl_126, jl_255, jl_899, jl_999, jl_9999]
        exact ⟨_, _, _, rfl, rfl, hi0⟩
      all_goals
        have h2' : ¬ (nI 0 ≤ p2 ∧ p2 ≤ nI 99) := h2
        simp (disch := omega) only [l0, m2, ll, mm, h2', b1E, b2E, bsE, jq0, jq1, jq2, jq3, w_ev, in_ev2, nI_leI, nI_ltI, nI_eq, nI_add, ↓pk_rem, pk_div, pk_sub, pk_mul, ckiT, ckT, ixN, if_pos, if_neg, ↓reduceIte, ckTr, true_or, or_true, false_or, or_false, sI_o, sI_s, pk_un, pk_us, il_0, il_1, il_2, il_3, il_4, il_5, il_6, il_7, il_8, il_9, il_10, il_12, il_16, il_20, il_29, il_30, il_31, il_32, il_33, il_39, il_40, il_43, il_46, il_48, il_50, il_54, il_55, il_57, il_60, il_63, il_64, il_74, il_75, il_97, il_99, il_100, il_126, il_150, il_255, il_256, il_899, il_999, il_9999, il_65537, il_1000000, il_2147483647, jl_0, jl_1, jl_3, jl_5, jl_6, jl_7, jl_8, jl_9, jl_10, jl_29, jl_30, jl_33, jl_39, jl_40, jl_43, jl_48, jl_55, jl_57, jl_99, jl_100, jl_126, jl_255, jl_899, jl_999, jl_9999]
        exact ⟨_, _, _, rfl, rfl, hi0⟩
theorem s_seen : Sp_seen Inv := by
  intro N u m p1 p2 p3 hi0
  obtain ⟨t, hU, hM, hT, hP, hI, hd, hr⟩ := id hi0
  have hc := K_sc hT
  unfold f_X11_seen f_X12_seen
  rcases pk_ix p1 (n := 8) (by omega) with h | h | ⟨b, hb, rfl⟩
  · rw [hb_no _ (Or.inl h), ib_no _ (Or.inl h), b1E, b1E, if_pos rfl, if_pos rfl]
    exact ⟨_, _, _, rfl, rfl, hi0⟩
  · rw [hb_no _ (Or.inr h), ib_no _ (Or.inr h), b1E, b1E, if_pos rfl, if_pos rfl]
    exact ⟨_, _, _, rfl, rfl, hi0⟩
  rw [hb_ev hU hT hb, ib_ev hM hT hb, b1E, b1E]
  by_cases hbt : t 5 4 / 2 ^ b % 2 = 1
  rotate_left
  · rw [if_neg hbt, if_pos rfl, if_pos rfl]
    exact ⟨_, _, _, rfl, rfl, hi0⟩
  rw [if_pos hbt, if_neg n10, if_neg n10, w_ev, b1E, in_ev (a := 0) (b := 30) (lo := 0) (hi := 30) rfl rfl, b1E]
  by_cases h2 : (0 : Int32) ≤ p2 ∧ p2 ≤ 30
  rotate_left
  · rw [if_neg h2, if_pos rfl, if_pos rfl]
    exact ⟨_, _, _, rfl, rfl, hi0⟩
  rw [if_pos h2, if_neg n10, if_neg n10, w_ev, b1E, in_ev (a := 0) (b := 99) (lo := 0) (hi := 99) rfl rfl, b1E]
  by_cases h3 : (0 : Int32) ≤ p3 ∧ p3 ≤ 99
  rotate_left
  · rw [if_neg h3, if_pos rfl, if_pos rfl]
    exact ⟨_, _, _, rfl, rfl, hi0⟩
  obtain ⟨d, -, hd3, rfl⟩ := rng h2 (a := 0) (b := 30) rfl rfl (by decide) (by decide)
  obtain ⟨v, -, hv, rfl⟩ := rng h3 (a := 0) (b := 99) rfl rfl (by decide) (by decide)
  rw [if_pos h3, if_neg n10, if_neg n10]
  by_cases h6 : t 12 3 < 6
  · unfold f_X6_note
    simp (disch := omega) only [U_sc hU, M_sc hM, b1E, b2E, bsE, jq0, jq1, jq2, jq3, w_ev, in_ev2, nI_leI, nI_ltI, nI_eq, nI_add, ↓pk_rem, pk_div, pk_sub, pk_mul, ckiT, ckT, ixN, if_pos, if_neg, ↓reduceIte, ckTr, true_or, or_true, false_or, or_false, sI_o, sI_s, pk_un, pk_us, il_0, il_1, il_2, il_3, il_4, il_5, il_6, il_7, il_8, il_9, il_10, il_12, il_16, il_20, il_29, il_30, il_31, il_32, il_33, il_39, il_40, il_43, il_46, il_48, il_50, il_54, il_55, il_57, il_60, il_63, il_64, il_74, il_75, il_97, il_99, il_100, il_126, il_150, il_255, il_256, il_899, il_999, il_9999, il_65537, il_1000000, il_2147483647]
    refine ⟨_, _, _, rfl, rfl, Inv_mk (t2 := tset (tset (tset (tset t 13 (t 12 3) b) 14 (t 12 3) d) 15 (t 12 3) v) 12 3 (t 12 3 + 1)) ?_ ?_ (TK_sc (TK_si hT hb hd3 hv) (by omega)) hP (by simp [tset]) (by rw [ts_c (by omega), ts_c (by omega), ts_c (by omega), ts_c (by omega)]) hI hd hr (fun c hc => by simp (disch := omega) only [b1E, b2E, bsE, jq0, jq1, jq2, jq3, w_ev, in_ev2, nI_leI, nI_ltI, nI_eq, nI_add, ↓pk_rem, pk_div, pk_sub, pk_mul, ckiT, ckT, ixN, if_pos, if_neg, ↓reduceIte, ckTr, true_or, or_true, false_or, or_false, sI_o, sI_s, pk_un, pk_us, il_0, il_1, il_2, il_3, il_4, il_5, il_6, il_7, il_8, il_9, il_10, il_12, il_16, il_20, il_29, il_30, il_31, il_32, il_33, il_39, il_40, il_43, il_46, il_48, il_50, il_54, il_55, il_57, il_60, il_63, il_64, il_74, il_75, il_97, il_99, il_100, il_126, il_150, il_255, il_256, il_899, il_999, il_9999, il_65537, il_1000000, il_2147483647]) (fun c hc => by simp (disch := omega) only [b1E, b2E, bsE, jq0, jq1, jq2, jq3, w_ev, in_ev2, nI_leI, nI_ltI, nI_eq, nI_add, ↓pk_rem, pk_div, pk_sub, pk_mul, ckiT, ckT, ixN, if_pos, if_neg, ↓reduceIte, ckTr, true_or, or_true, false_or, or_false, sI_o, sI_s, pk_un, pk_us, il_0, il_1, il_2, il_3, il_4, il_5, il_6, il_7, il_8, il_9, il_10, il_12, il_16, il_20, il_29, il_30, il_31, il_32, il_33, il_39, il_40, il_43, il_46, il_48, il_50, il_54, il_55, il_57, il_60, il_63, il_64, il_74, il_75, il_97, il_99, il_100, il_126, il_150, il_255, il_256, il_899, il_999, il_9999, il_65537, il_1000000, il_2147483647]) (by simp (disch := omega) only [b1E, b2E, bsE, jq0, jq1, jq2, jq3, w_ev, in_ev2, nI_leI, nI_ltI, nI_eq, nI_add, ↓pk_rem, pk_div, pk_sub, pk_mul, ckiT, ckT, ixN, if_pos, if_neg, ↓reduceIte, ckTr, true_or, or_true, false_or, or_false, sI_o, sI_s, pk_un, pk_us, il_0, il_1, il_2, il_3, il_4, il_5, il_6, il_7, il_8, il_9, il_10, il_12, il_16, il_20, il_29, il_30, il_31, il_32, il_33, il_39, il_40, il_43, il_46, il_48, il_50, il_54, il_55, il_57, il_60, il_63, il_64, il_74, il_75, il_97, il_99, il_100, il_126, il_150, il_255, il_256, il_899, il_999, il_9999, il_65537, il_1000000, il_2147483647]) (by simp (disch := omega) only [b1E, b2E, bsE, jq0, jq1, jq2, jq3, w_ev, in_ev2, nI_leI, nI_ltI, nI_eq, nI_add, ↓pk_rem, pk_div, pk_sub, pk_mul, ckiT, ckT, ixN, if_pos, if_neg, ↓reduceIte, ckTr, true_or, or_true, false_or, or_false, sI_o, sI_s, pk_un, pk_us, il_0, il_1, il_2, il_3, il_4, il_5, il_6, il_7, il_8, il_9, il_10, il_12, il_16, il_20, il_29, il_30, il_31, il_32, il_33, il_39, il_40, il_43, il_46, il_48, il_50, il_54, il_55, il_57, il_60, il_63, il_64, il_74, il_75, il_97, il_99, il_100, il_126, il_150, il_255, il_256, il_899, il_999, il_9999, il_65537, il_1000000, il_2147483647]) rfl⟩
    · exact UT_s (UT_s (UT_s (UT_s hU 13 _ b) 14 _ d) 15 _ v) 12 3 _
    · exact MT_s (MT_s (MT_s (MT_s hM (c := 13) (k := t 12 3) (by unfold TD; omega) b rfl rfl) (c := 14) (k := t 12 3) (by unfold TD; omega) d rfl rfl) (c := 15) (k := t 12 3) (by unfold TD; omega) v rfl rfl) (c := 12) (k := 3) (by unfold TD; omega) _ rfl rfl
  · simp (disch := omega) only [U_sc hU, M_sc hM, b1E, b2E, bsE, jq0, jq1, jq2, jq3, w_ev, in_ev2, nI_leI, nI_ltI, nI_eq, nI_add, ↓pk_rem, pk_div, pk_sub, pk_mul, ckiT, ckT, ixN, if_pos, if_neg, ↓reduceIte, ckTr, true_or, or_true, false_or, or_false, sI_o, sI_s, pk_un, pk_us, il_0, il_1, il_2, il_3, il_4, il_5, il_6, il_7, il_8, il_9, il_10, il_12, il_16, il_20, il_29, il_30, il_31, il_32, il_33, il_39, il_40, il_43, il_46, il_48, il_50, il_54, il_55, il_57, il_60, il_63, il_64, il_74, il_75, il_97, il_99, il_100, il_126, il_150, il_255, il_256, il_899, il_999, il_9999, il_65537, il_1000000, il_2147483647]
    exact ⟨_, _, _, rfl, rfl, hi0⟩
