/-! ===== moves, both sides ===== -/
theorem lq3S {α β γ R : Type} {B : (α → β → γ → Option R) → α → β → γ → Option R} {F : Nat} {x : α} {y : β} {z : γ} : lq_3 B (F + 1) x y z = B (lq_3 B F) x y z := rfl
/-- both on the way -/
def RJ (u m v w : St) (t : Nat → Nat → Nat) (i : Nat) (d pa wo dw mx : Nat) (p A : Nat → Nat) : Prop :=
  (Kp u v ∧ AL v t (t 2 3) (lev t) ∧ v.1 21 5 = nI d ∧ v.1 21 6 = nI pa ∧ v.1 21 7 = nI 0 ∧ v.1 21 8 = nI wo ∧ v.1 21 9 = nI dw ∧ v.1 21 10 = nI mx ∧ (∀ b, b < 8 → v.1 22 b = nI (p b) ∧ v.1 23 b = nI (A b)) ∧ ∀ c, c < 6 → v.1 24 c = nI (hdl t p c)) ∧
  (Km m w ∧ w.1 0 25 = -nI 6 ∧ w.1 0 26 = -nI 6 ∧ w.1 0 27 = nI wo ∧ w.1 0 28 = nI dw ∧ w.1 0 29 = nI mx ∧ w.1 0 30 = nI d ∧ ∀ b, b < 8 → w.1 13 b = nI (p b) ∧ w.1 14 b = nI (A b)) ∧
  (d ≤ i ∧ pa ≤ i ∧ wo ≤ 100 * i ∧ dw ≤ 100 * i ∧ mx ≤ 100 * i ∧ (∀ b, b < 8 → p b < 6 ∧ A b ≤ 99 ∧ (¬ t 5 4 / 2 ^ b % 2 = 1 → A b = 0)) ∧ ∀ b, b < 8 → bt t b → p b < t 2 2)
/-- both at the end -/
def OJ (u m v w : St) (t : Nat → Nat → Nat) : Prop := Kp u v ∧ Km m w ∧
  ((v.1 21 7 = nI 0 ∧ w.1 0 25 = -nI 6 ∧ w.1 0 26 = -nI 6 ∧ v.1 21 8 = w.1 0 27 ∧ v.1 21 5 = w.1 0 30 ∧ v.1 21 10 = w.1 0 29 ∧ ∀ b, b < 8 → v.1 22 b = w.1 13 b ∧ v.1 23 b = w.1 14 b) ∨
   (∃ pa wy, pa < 2 ^ 20 ∧ 0 < wy ∧ wy < 5 ∧ v.1 21 6 = nI pa ∧ v.1 21 7 = nI wy ∧ w.1 0 25 = nI pa ∧ w.1 0 26 = nI wy))
section SJ
variable {u m v w : St} {t : Nat → Nat → Nat} {i d pa wo dw mx : Nat} {p A : Nat → Nat}
/-- a day passes in both -/
theorem RJ_day (hM : MT m t) (hT : TK t) (hd0 : m.2 0 21 = 0) (hr0 : m.1 0 22 = 0) (hi : i < 60) (h : RJ u m v w t i d pa wo dw mx p A) : ∃ v2 w2, f_X1_passDay v 0 = some v2 ∧ f_X12_passDay w = some w2 ∧ v2.1 21 6 = nI pa ∧ RJ u m (sI (sI v2 21 9 0) 21 6 (nI (pa + 1))) w2 t (i + 1) (d + 1) (pa + 1) wo 0 mx p (nx t (t 2 3) (lev t d) p A) := by
  obtain ⟨⟨c1, c2, c3, c4, c5, c6, c7, c8, c9, c10⟩, ⟨r1, r2, r3, r4, r5, r6, r7, r8⟩, ⟨b1, b2, b3, b4, b5, b6, b7⟩⟩ := h
  have hMw := MT_km hM r1
  have hLw : LM w (lev t) := LM_is hMw hT (by rw [r1.2.2]; exact hd0) (by rw [r1.2.1 22 (by omega)]; exact hr0)
  obtain ⟨v2, e1, e2, e3, e4, e5⟩ := pdC hT c2 (mo := 0) (at' := p) (A := A) c3 (by omega) (by omega) (fun b hb => (c9 b hb).1) (fun b hb => ⟨(c9 b hb).2, (b6 b hb).2.1⟩) b7
  obtain ⟨w2, f1, f2, f3, f4, f5, f6, f7⟩ := pdM hMw hT hLw (p := p) (A := A) r7 (by omega) (fun b hb => ⟨(r8 b hb).1, (b6 b hb).1⟩) (fun b hb => ⟨(r8 b hb).2, (b6 b hb).2⟩)
  refine ⟨v2, w2, e1, f1, by rw [e3 6 (by omega)]; exact c4, ⟨?_, ?_, ?_, ?_, ?_, ?_, ?_, ?_, ?_, ?_⟩, ⟨?_, ?_, ?_, ?_, ?_, ?_, ?_, ?_⟩, ⟨?_, ?_, ?_, ?_, ?_, ?_, ?_⟩⟩
  · intro c hc; simp (disch := omega) only [e2 c, b1E, b2E, bsE, jq0, jq1, jq2, jq3, w_ev, in_ev2, nI_leI, nI_ltI, nI_eq, nI_add, ↓pk_rem, pk_div, pk_sub, pk_mul, ckiT, ckT, ixN, if_pos, if_neg, ↓reduceIte, ckTr, true_or, or_true, false_or, or_false, sI_o, sI_s, pk_un, pk_us, il_0, il_1, il_2, il_3, il_4, il_5, il_6, il_7, il_8, il_9, il_10, il_12, il_16, il_20, il_29, il_30, il_31, il_32, il_33, il_39, il_40, il_43, il_46, il_48, il_50, il_54, il_55, il_57, il_60, il_63, il_64, il_74, il_75, il_97, il_99, il_100, il_126, il_150, il_255, il_256, il_899, il_999, il_9999, il_65537, il_1000000, il_2147483647, nn1, nn6, m6lt, nn1s, nn6s]; exact c1 c hc
  · exact AL_tr c2 (fun c hc => by simp (disch := omega) only [e2 c, b1E, b2E, bsE, jq0, jq1, jq2, jq3, w_ev, in_ev2, nI_leI, nI_ltI, nI_eq, nI_add, ↓pk_rem, pk_div, pk_sub, pk_mul, ckiT, ckT, ixN, if_pos, if_neg, ↓reduceIte, ckTr, true_or, or_true, false_or, or_false, sI_o, sI_s, pk_un, pk_us, il_0, il_1, il_2, il_3, il_4, il_5, il_6, il_7, il_8, il_9, il_10, il_12, il_16, il_20, il_29, il_30, il_31, il_32, il_33, il_39, il_40, il_43, il_46, il_48, il_50, il_54, il_55, il_57, il_60, il_63, il_64, il_74, il_75, il_97, il_99, il_100, il_126, il_150, il_255, il_256, il_899, il_999, il_9999, il_65537, il_1000000, il_2147483647, nn1, nn6, m6lt, nn1s, nn6s])
  · simp (disch := omega) only [e4, b1E, b2E, bsE, jq0, jq1, jq2, jq3, w_ev, in_ev2, nI_leI, nI_ltI, nI_eq, nI_add, ↓pk_rem, pk_div, pk_sub, pk_mul, ckiT, ckT, ixN, if_pos, if_neg, ↓reduceIte, ckTr, true_or, or_true, false_or, or_false, sI_o, sI_s, pk_un, pk_us, il_0, il_1, il_2, il_3, il_4, il_5, il_6, il_7, il_8, il_9, il_10, il_12, il_16, il_20, il_29, il_30, il_31, il_32, il_33, il_39, il_40, il_43, il_46, il_48, il_50, il_54, il_55, il_57, il_60, il_63, il_64, il_74, il_75, il_97, il_99, il_100, il_126, il_150, il_255, il_256, il_899, il_999, il_9999, il_65537, il_1000000, il_2147483647, nn1, nn6, m6lt, nn1s, nn6s]
  · simp (disch := omega) only [b1E, b2E, bsE, jq0, jq1, jq2, jq3, w_ev, in_ev2, nI_leI, nI_ltI, nI_eq, nI_add, ↓pk_rem, pk_div, pk_sub, pk_mul, ckiT, ckT, ixN, if_pos, if_neg, ↓reduceIte, ckTr, true_or, or_true, false_or, or_false, sI_o, sI_s, pk_un, pk_us, il_0, il_1, il_2, il_3, il_4, il_5, il_6, il_7, il_8, il_9, il_10, il_12, il_16, il_20, il_29, il_30, il_31, il_32, il_33, il_39, il_40, il_43, il_46, il_48, il_50, il_54, il_55, il_57, il_60, il_63, il_64, il_74, il_75, il_97, il_99, il_100, il_126, il_150, il_255, il_256, il_899, il_999, il_9999, il_65537, il_1000000, il_2147483647, nn1, nn6, m6lt, nn1s, nn6s]
  · simp (disch := omega) only [e3 7, c5, b1E, b2E, bsE, jq0, jq1, jq2, jq3, w_ev, in_ev2, nI_leI, nI_ltI, nI_eq, nI_add, ↓pk_rem, pk_div, pk_sub, pk_mul, ckiT, ckT, ixN, if_pos, if_neg, ↓reduceIte, ckTr, true_or, or_true, false_or, or_false, sI_o, sI_s, pk_un, pk_us, il_0, il_1, il_2, il_3, il_4, il_5, il_6, il_7, il_8, il_9, il_10, il_12, il_16, il_20, il_29, il_30, il_31, il_32, il_33, il_39, il_40, il_43, il_46, il_48, il_50, il_54, il_55, il_57, il_60, il_63, il_64, il_74, il_75, il_97, il_99, il_100, il_126, il_150, il_255, il_256, il_899, il_999, il_9999, il_65537, il_1000000, il_2147483647, nn1, nn6, m6lt, nn1s, nn6s]
  · simp (disch := omega) only [e3 8, c6, b1E, b2E, bsE, jq0, jq1, jq2, jq3, w_ev, in_ev2, nI_leI, nI_ltI, nI_eq, nI_add, ↓pk_rem, pk_div, pk_sub, pk_mul, ckiT, ckT, ixN, if_pos, if_neg, ↓reduceIte, ckTr, true_or, or_true, false_or, or_false, sI_o, sI_s, pk_un, pk_us, il_0, il_1, il_2, il_3, il_4, il_5, il_6, il_7, il_8, il_9, il_10, il_12, il_16, il_20, il_29, il_30, il_31, il_32, il_33, il_39, il_40, il_43, il_46, il_48, il_50, il_54, il_55, il_57, il_60, il_63, il_64, il_74, il_75, il_97, il_99, il_100, il_126, il_150, il_255, il_256, il_899, il_999, il_9999, il_65537, il_1000000, il_2147483647, nn1, nn6, m6lt, nn1s, nn6s]
  · simp (disch := omega) only [b1E, b2E, bsE, jq0, jq1, jq2, jq3, w_ev, in_ev2, nI_leI, nI_ltI, nI_eq, nI_add, ↓pk_rem, pk_div, pk_sub, pk_mul, ckiT, ckT, ixN, if_pos, if_neg, ↓reduceIte, ckTr, true_or, or_true, false_or, or_false, sI_o, sI_s, pk_un, pk_us, il_0, il_1, il_2, il_3, il_4, il_5, il_6, il_7, il_8, il_9, il_10, il_12, il_16, il_20, il_29, il_30, il_31, il_32, il_33, il_39, il_40, il_43, il_46, il_48, il_50, il_54, il_55, il_57, il_60, il_63, il_64, il_74, il_75, il_97, il_99, il_100, il_126, il_150, il_255, il_256, il_899, il_999, il_9999, il_65537, il_1000000, il_2147483647, nn1, nn6, m6lt, nn1s, nn6s]
  · simp (disch := omega) only [e3 10, c8, b1E, b2E, bsE, jq0, jq1, jq2, jq3, w_ev, in_ev2, nI_leI, nI_ltI, nI_eq, nI_add, ↓pk_rem, pk_div, pk_sub, pk_mul, ckiT, ckT, ixN, if_pos, if_neg, ↓reduceIte, ckTr, true_or, or_true, false_or, or_false, sI_o, sI_s, pk_un, pk_us, il_0, il_1, il_2, il_3, il_4, il_5, il_6, il_7, il_8, il_9, il_10, il_12, il_16, il_20, il_29, il_30, il_31, il_32, il_33, il_39, il_40, il_43, il_46, il_48, il_50, il_54, il_55, il_57, il_60, il_63, il_64, il_74, il_75, il_97, il_99, il_100, il_126, il_150, il_255, il_256, il_899, il_999, il_9999, il_65537, il_1000000, il_2147483647, nn1, nn6, m6lt, nn1s, nn6s]
  · intro b hb; simp (disch := omega) only [e2 22, e5 b hb, Nat.add_zero, b1E, b2E, bsE, jq0, jq1, jq2, jq3, w_ev, in_ev2, nI_leI, nI_ltI, nI_eq, nI_add, ↓pk_rem, pk_div, pk_sub, pk_mul, ckiT, ckT, ixN, if_pos, if_neg, ↓reduceIte, ckTr, true_or, or_true, false_or, or_false, sI_o, sI_s, pk_un, pk_us, il_0, il_1, il_2, il_3, il_4, il_5, il_6, il_7, il_8, il_9, il_10, il_12, il_16, il_20, il_29, il_30, il_31, il_32, il_33, il_39, il_40, il_43, il_46, il_48, il_50, il_54, il_55, il_57, il_60, il_63, il_64, il_74, il_75, il_97, il_99, il_100, il_126, il_150, il_255, il_256, il_899, il_999, il_9999, il_65537, il_1000000, il_2147483647, nn1, nn6, m6lt, nn1s, nn6s]; exact ⟨(c9 b hb).1, trivial⟩
  · intro c hc; simp (disch := omega) only [e2 24, c10 c hc, b1E, b2E, bsE, jq0, jq1, jq2, jq3, w_ev, in_ev2, nI_leI, nI_ltI, nI_eq, nI_add, ↓pk_rem, pk_div, pk_sub, pk_mul, ckiT, ckT, ixN, if_pos, if_neg, ↓reduceIte, ckTr, true_or, or_true, false_or, or_false, sI_o, sI_s, pk_un, pk_us, il_0, il_1, il_2, il_3, il_4, il_5, il_6, il_7, il_8, il_9, il_10, il_12, il_16, il_20, il_29, il_30, il_31, il_32, il_33, il_39, il_40, il_43, il_46, il_48, il_50, il_54, il_55, il_57, il_60, il_63, il_64, il_74, il_75, il_97, il_99, il_100, il_126, il_150, il_255, il_256, il_899, il_999, il_9999, il_65537, il_1000000, il_2147483647, nn1, nn6, m6lt, nn1s, nn6s]
  · exact ⟨fun c hc => by rw [f2 c (by omega) (by omega)]; exact r1.1 c hc, fun k hk => by rw [f4 k (by omega) (by omega)]; exact r1.2.1 k hk, by rw [f3]; exact r1.2.2⟩
  · rw [f4 25 (by omega) (by omega)]; exact r2
  · rw [f4 26 (by omega) (by omega)]; exact r3
  · rw [f4 27 (by omega) (by omega)]; exact r4
  · exact f6
  · rw [f4 29 (by omega) (by omega)]; exact r6
  · exact f5
  · intro b hb; exact ⟨by rw [f2 13 (by omega) (by omega)]; exact (r8 b hb).1, f7 b hb⟩
  · omega
  · omega
  · omega
  · omega
  · omega
  · intro b hb; exact ⟨(b6 b hb).1, nx_le (b6 b hb).2.1, fun h5 => nx_0 h5 ((b6 b hb).2.2 h5)⟩
  · exact b7
def pmv (p : Nat → Nat) (b c : Nat) : Nat → Nat := fun k => if k = b then c else p k
theorem pmv_s {b c : Nat} : pmv p b c b = c := if_pos rfl
theorem pmv_o {b c k : Nat} (h : k ≠ b) : pmv p b c k = p k := if_neg h
/-- why not -/
def wyv (t : Nat → Nat → Nat) (p : Nat → Nat) (dw lim b c : Nat) : Nat := if t 5 4 / 2 ^ b % 2 = 1 then (if p b = c then 2 else if hdl t p c < t 4 c then (if dw + wk t b (p b) c ≤ lim then 0 else 4) else 3) else 1
theorem wnC (hT : TK t) (hUv : UT v t 0) {lim b c : Nat} (hb : b < 8) (hc : c < t 2 2) (hl : lim < 2 ^ 31) (hdw : dw < 2 ^ 20) (c7 : v.1 21 9 = nI dw) (c9 : ∀ b, b < 8 → v.1 22 b = nI (p b)) (c10 : ∀ c, c < 6 → v.1 24 c = nI (hdl t p c)) (b6 : p b < 6) (b7 : bt t b → p b < t 2 2) : f_X1_whyNot v (nI b) (nI c) (nI lim) = some (nI (wyv t p dw lim b c)) := by
  have hcn := K_cnt hT
  have hro := K_room hT (k := c) (by omega)
  have hhd := hdl_le (t := t) (p := p) (c := c)
  have hwl := wk_le hT (b := b) (c := p b) (d := c) hb b6 (by omega)
  unfold f_X1_whyNot wyv
  by_cases hbt : bt t b
  rotate_left
  · rw [hbF hUv hT hb hbt, b1E, if_pos rfl, if_neg (show ¬ t 5 4 / 2 ^ b % 2 = 1 from hbt)]; rfl
  rw [hbY hUv hT hb hbt, b1E, if_neg n10, if_pos (show t 5 4 / 2 ^ b % 2 = 1 from hbt), ckiT hb (by decide), ixN (by omega), c9 b hb, hc_yes hUv hT (b7 hbt), b1E, if_neg n10, ckiT hb (by decide), hc_yes hUv hT hc]
  by_cases hpc : p b = c
  · rw [if_pos (by rw [hpc]), if_pos hpc]; rfl
  rw [if_neg (fun h9 => hpc ((nI_eq (by omega) (by omega)).mp h9)), if_neg hpc, b1E, if_neg n10, ckiT (show c < 6 by omega) (by decide), ckiT (show c < 6 by omega) (by decide), ixN (by omega), c10 c (by omega), U_room hUv (by omega)]
  by_cases hfull : hdl t p c < t 4 c
  rotate_left
  · rw [if_neg (nI_nlt (by omega) (by omega)), if_neg hfull]; rfl
  rw [if_pos (nI_lt hfull (by omega)), if_pos hfull, ckiT hb (by decide), wkC hUv hT hb b6 (by omega), b1E, c7, nI_add]
  by_cases hlim : dw + wk t b (p b) c ≤ lim
  · rw [if_pos (nI_le hlim (by omega)), if_pos hlim]; rfl
  · rw [if_neg (nI_ge (by omega) (by omega)), if_neg hlim]; rfl
theorem wyv_le {lim b c : Nat} : wyv t p dw lim b c < 5 := by unfold wyv; (repeat' split) <;> omega
theorem wyv_0 {lim b c : Nat} (h : wyv t p dw lim b c = 0) : bt t b ∧ p b ≠ c ∧ hdl t p c < t 4 c ∧ dw + wk t b (p b) c ≤ lim := by
  unfold wyv at h
  by_cases h1 : t 5 4 / 2 ^ b % 2 = 1
  · rw [if_pos h1] at h
    by_cases h2 : p b = c
    · rw [if_pos h2] at h; omega
    · rw [if_neg h2] at h
      by_cases h3 : hdl t p c < t 4 c
      · rw [if_pos h3] at h
        by_cases h4 : dw + wk t b (p b) c ≤ lim
        · exact ⟨h1, h2, h3, h4⟩
        · rw [if_neg h4] at h; omega
      · rw [if_neg h3] at h; omega
  · rw [if_neg h1] at h; omega
theorem tmM (hT : TK t) (hMw : MT w t) {lim b c : Nat} (hb : b < 8) (hc : c < t 2 2) (hl : lim < 2 ^ 31) (hdw : dw < 2 ^ 20) (r5 : w.1 0 28 = nI dw) (r8 : ∀ b, b < 8 → w.1 13 b = nI (p b) ∧ p b < 6) : f_X12_tryMove w (nI b) (nI c) (nI lim) = if wyv t p dw lim b c = 0 then bs (sI w 13 b (nI c)) (fun u8 : St => bs (sI u8 0 27 ((u8.1 0 27) + nI (wk t b (p b) c))) (fun u9 : St => bs (sI u9 0 28 ((u9.1 0 28) + nI (wk t b (p b) c))) (fun u10 : St => if (u10.1 0 28) ≤ (u10.1 0 29) then bs (sI u10 0 29 (u10.1 0 29)) (fun u12 : St => some (0, u12)) else bs (sI u10 0 29 (u10.1 0 28)) (fun u13 : St => some (0, u13))))) else some (nI (wyv t p dw lim b c), w) := by
  have hcn := K_cnt hT
  have hro := K_room hT (k := c) (by omega)
  have hhd := hdl_le (t := t) (p := p) (c := c)
  have hwl := wk_le hT (b := b) (c := p b) (d := c) hb (r8 b hb).2 (by omega)
  have hp6 := (r8 b hb).2
  unfold f_X12_tryMove
  by_cases hbt : bt t b
  rotate_left
  · have e : wyv t p dw lim b c = 1 := by unfold wyv; rw [if_neg (show ¬ t 5 4 / 2 ^ b % 2 = 1 from hbt)]
    rw [ibF hMw hT hb hbt, b1E, if_pos rfl, e, if_neg (by omega)]; rfl
  have h5 : t 5 4 / 2 ^ b % 2 = 1 := hbt
  rw [ibY hMw hT hb hbt, b1E, if_neg n10, ckiT hb (by decide), ixN (by omega), (r8 b hb).1]
  by_cases hpc : p b = c
  · have e : wyv t p dw lim b c = 2 := by unfold wyv; rw [if_pos h5, if_pos hpc]
    rw [if_pos (by rw [hpc]), e, if_neg (by omega)]; rfl
  rw [if_neg (fun h9 => hpc ((nI_eq (by omega) (by omega)).mp h9)), tiM hMw hT (p := p) (by omega) r8, b1E, ckiT (show c < 6 by omega) (by decide), ixN (show c < 2 ^ 31 by omega), M_room hMw (by omega)]
  by_cases hfull : hdl t p c < t 4 c
  rotate_left
  · have e : wyv t p dw lim b c = 3 := by unfold wyv; rw [if_pos h5, if_neg hpc, if_neg hfull]
    rw [if_neg (nI_nlt (by omega) (by omega)), e, if_neg (by omega)]; rfl
  rw [if_pos (nI_lt hfull (by omega)), ckiT hb (by decide), wkM hMw hT hb hp6 (by omega), b1E, r5, nI_add]
  by_cases hlim : dw + wk t b (p b) c ≤ lim
  · have e : wyv t p dw lim b c = 0 := by unfold wyv; rw [if_pos h5, if_neg hpc, if_pos hfull, if_pos hlim]
    rw [if_pos (nI_le hlim (by omega)), ckiT hb (by decide), e, if_pos rfl]
  · have e : wyv t p dw lim b c = 4 := by unfold wyv; rw [if_pos h5, if_neg hpc, if_pos hfull, if_neg hlim]
    rw [if_neg (nI_ge (by omega) (by omega)), e, if_neg (by omega)]; rfl
theorem RJ_move (hM : MT m t) (hT : TK t) (hi : i + 1 < 60) {pl ql : Nat} (hpq : ∀ x, x ≤ 10000 → (x ≤ pl ↔ x ≤ ql)) (hpl : pl < 2 ^ 31) (hql : ql < 2 ^ 31) {b c : Nat} (hb : b < 8) (hc : c < t 2 2) (h : RJ u m v w t i d pa wo dw mx p A) :
    (∃ v2 w2 wo2 dw2 mx2 p2, f_X1_move v (nI b) (nI c) (nI pl) = some v2 ∧ f_X12_tryMove w (nI b) (nI c) (nI ql) = some (nI 0, w2) ∧ RJ u m v2 w2 t (i + 2) d (pa + 1) wo2 dw2 mx2 p2 A) ∨
    (∃ wy, 0 < wy ∧ wy < 5 ∧ f_X1_move v (nI b) (nI c) (nI pl) = some (sI v 21 7 (nI wy)) ∧ f_X12_tryMove w (nI b) (nI c) (nI ql) = some (nI wy, w)) := by
  obtain ⟨⟨c1, c2, c3, c4, c5, c6, c7, c8, c9, c10⟩, ⟨r1, r2, r3, r4, r5, r6, r7, r8⟩, ⟨b1, b2, b3, b4, b5, b6, b7⟩⟩ := h
  have hMw := MT_km hM r1
  have hcn := K_cnt hT
  have hUv := c2.1
  have hwl := wk_le hT (b := b) (c := p b) (d := c) hb (b6 b hb).1 (by omega)
  have e1 := wnC (p := p) (dw := dw) (lim := pl) hT hUv hb hc hpl (by omega) c7 (fun b hb => (c9 b hb).1) c10 (b6 b hb).1 (b7 b hb)
  have e2 := tmM (p := p) (dw := dw) (lim := ql) hT hMw hb hc hql (by omega) r5 (fun b hb => ⟨(r8 b hb).1, (b6 b hb).1⟩)
  have e3 : wyv t p dw ql b c = wyv t p dw pl b c := by
    unfold wyv
    have := hpq (dw + wk t b (p b) c) (by omega)
    simp only [this]
  rw [e3] at e2
  have hlt := wyv_le (t := t) (p := p) (dw := dw) (lim := pl) (b := b) (c := c)
  unfold f_X1_move
  rw [e1, b1E, bsE, e2]
  by_cases h0 : wyv t p dw pl b c = 0
  rotate_left
  · refine Or.inr ⟨wyv t p dw pl b c, by omega, hlt, ?_, if_neg h0⟩
    rw [if_neg (show ¬ (sI v 21 7 (nI (wyv t p dw pl b c))).1 21 7 = 0 by rw [sI_s, pk_us]; exact fun h9 => h0 ((nI_eq (b := 0) (by omega) (by decide)).mp h9))]
  obtain ⟨hbt, hpc, hfull, hlim⟩ := wyv_0 h0
  have hpb := b7 b hb hbt
  have hp6 := (b6 b hb).1
  have hhd := hdl_le (t := t) (p := p) (c := c)
  have hhd2 := hdl_le (t := t) (p := p) (c := p b)
  have hh : ∀ x, hdl t (pmv p b c) x + (if p b = x then 1 else 0) = hdl t p x + (if c = x then 1 else 0) := fun x => hdl_mv (d := x) hb hbt hpc
  have hh1 := hh c
  have hh2 := hh (p b)
  rw [if_neg hpc, if_pos rfl] at hh1
  rw [if_pos rfl, if_neg (fun h9 => hpc h9.symm)] at hh2
  refine Or.inl ?_
  rw [h0, if_pos rfl, if_pos (show (sI v 21 7 (nI 0)).1 21 7 = 0 by rw [sI_s, pk_us]; rfl), bsE, bsE, bsE]
  have hU7 : UT (sI v 21 7 (nI 0)) t 0 := fun x k hD => by
    have hx : x ≤ 16 := by unfold TD at hD; omega
    rw [sI_o (by omega)]; exact hUv x k hD
  have e5 : (sI v 21 7 (nI 0)).1 22 b = nI (p b) := by rw [sI_o (by omega)]; exact (c9 b hb).1
  have hw9 := wkC hU7 hT hb hp6 (show c < 6 by omega)
  simp (disch := omega) only [e5, hw9, c6, c7, c8, (c9 b hb).1, c10, c4, mx_nI, r4, r5, r6, b1E, b2E, bsE, jq0, jq1, jq2, jq3, w_ev, in_ev2, nI_leI, nI_ltI, nI_eq, nI_add, ↓pk_rem, pk_div, pk_sub, pk_mul, ckiT, ckT, ixN, if_pos, if_neg, ↓reduceIte, ckTr, true_or, or_true, false_or, or_false, sI_o, sI_s, pk_un, pk_us, il_0, il_1, il_2, il_3, il_4, il_5, il_6, il_7, il_8, il_9, il_10, il_12, il_16, il_20, il_29, il_30, il_31, il_32, il_33, il_39, il_40, il_43, il_46, il_48, il_50, il_54, il_55, il_57, il_60, il_63, il_64, il_74, il_75, il_97, il_99, il_100, il_126, il_150, il_255, il_256, il_899, il_999, il_9999, il_65537, il_1000000, il_2147483647, nn1, nn6, m6lt, nn1s, nn6s]
  have key : ∃ w2, (if dw + wk t b (p b) c ≤ mx then some (nI 0, sI (sI (sI (sI w 13 b (nI c)) 0 27 (nI (wo + wk t b (p b) c))) 0 28 (nI (dw + wk t b (p b) c))) 0 29 (nI mx)) else some (nI 0, sI (sI (sI (sI w 13 b (nI c)) 0 27 (nI (wo + wk t b (p b) c))) 0 28 (nI (dw + wk t b (p b) c))) 0 29 (nI (dw + wk t b (p b) c)))) = some (nI 0, w2) ∧ w2 = sI (sI (sI (sI w 13 b (nI c)) 0 27 (nI (wo + wk t b (p b) c))) 0 28 (nI (dw + wk t b (p b) c))) 0 29 (nI (max mx (dw + wk t b (p b) c))) := by
    by_cases h9 : dw + wk t b (p b) c ≤ mx
    · rw [if_pos h9, Nat.max_eq_left h9]; exact ⟨_, rfl, rfl⟩
    · rw [if_neg h9, Nat.max_eq_right (by omega)]; exact ⟨_, rfl, rfl⟩
  obtain ⟨w2, g1, g2⟩ := key
  refine ⟨_, w2, wo + wk t b (p b) c, dw + wk t b (p b) c, max mx (dw + wk t b (p b) c), pmv p b c, rfl, g1, ⟨?_, ?_, ?_, ?_, ?_, ?_, ?_, ?_, ?_, ?_⟩, ⟨?_, ?_, ?_, ?_, ?_, ?_, ?_, ?_⟩, ⟨?_, ?_, ?_, ?_, ?_, ?_, ?_⟩⟩
  · exact Kp_sI (Kp_sI (Kp_sI (Kp_sI (Kp_sI (Kp_sI (Kp_sI (Kp_sI c1 (by omega)) (by omega)) (by omega)) (by omega)) (by omega)) (by omega)) (by omega)) (by omega)
  · exact AL_tr c2 (fun x hx => by simp (disch := omega) only [b1E, b2E, bsE, jq0, jq1, jq2, jq3, w_ev, in_ev2, nI_leI, nI_ltI, nI_eq, nI_add, ↓pk_rem, pk_div, pk_sub, pk_mul, ckiT, ckT, ixN, if_pos, if_neg, ↓reduceIte, ckTr, true_or, or_true, false_or, or_false, sI_o, sI_s, pk_un, pk_us, il_0, il_1, il_2, il_3, il_4, il_5, il_6, il_7, il_8, il_9, il_10, il_12, il_16, il_20, il_29, il_30, il_31, il_32, il_33, il_39, il_40, il_43, il_46, il_48, il_50, il_54, il_55, il_57, il_60, il_63, il_64, il_74, il_75, il_97, il_99, il_100, il_126, il_150, il_255, il_256, il_899, il_999, il_9999, il_65537, il_1000000, il_2147483647, nn1, nn6, m6lt, nn1s, nn6s])
  · simp (disch := omega) only [c3, b1E, b2E, bsE, jq0, jq1, jq2, jq3, w_ev, in_ev2, nI_leI, nI_ltI, nI_eq, nI_add, ↓pk_rem, pk_div, pk_sub, pk_mul, ckiT, ckT, ixN, if_pos, if_neg, ↓reduceIte, ckTr, true_or, or_true, false_or, or_false, sI_o, sI_s, pk_un, pk_us, il_0, il_1, il_2, il_3, il_4, il_5, il_6, il_7, il_8, il_9, il_10, il_12, il_16, il_20, il_29, il_30, il_31, il_32, il_33, il_39, il_40, il_43, il_46, il_48, il_50, il_54, il_55, il_57, il_60, il_63, il_64, il_74, il_75, il_97, il_99, il_100, il_126, il_150, il_255, il_256, il_899, il_999, il_9999, il_65537, il_1000000, il_2147483647, nn1, nn6, m6lt, nn1s, nn6s]
  · simp (disch := omega) only [b1E, b2E, bsE, jq0, jq1, jq2, jq3, w_ev, in_ev2, nI_leI, nI_ltI, nI_eq, nI_add, ↓pk_rem, pk_div, pk_sub, pk_mul, ckiT, ckT, ixN, if_pos, if_neg, ↓reduceIte, ckTr, true_or, or_true, false_or, or_false, sI_o, sI_s, pk_un, pk_us, il_0, il_1, il_2, il_3, il_4, il_5, il_6, il_7, il_8, il_9, il_10, il_12, il_16, il_20, il_29, il_30, il_31, il_32, il_33, il_39, il_40, il_43, il_46, il_48, il_50, il_54, il_55, il_57, il_60, il_63, il_64, il_74, il_75, il_97, il_99, il_100, il_126, il_150, il_255, il_256, il_899, il_999, il_9999, il_65537, il_1000000, il_2147483647, nn1, nn6, m6lt, nn1s, nn6s]
  · simp (disch := omega) only [b1E, b2E, bsE, jq0, jq1, jq2, jq3, w_ev, in_ev2, nI_leI, nI_ltI, nI_eq, nI_add, ↓pk_rem, pk_div, pk_sub, pk_mul, ckiT, ckT, ixN, if_pos, if_neg, ↓reduceIte, ckTr, true_or, or_true, false_or, or_false, sI_o, sI_s, pk_un, pk_us, il_0, il_1, il_2, il_3, il_4, il_5, il_6, il_7, il_8, il_9, il_10, il_12, il_16, il_20, il_29, il_30, il_31, il_32, il_33, il_39, il_40, il_43, il_46, il_48, il_50, il_54, il_55, il_57, il_60, il_63, il_64, il_74, il_75, il_97, il_99, il_100, il_126, il_150, il_255, il_256, il_899, il_999, il_9999, il_65537, il_1000000, il_2147483647, nn1, nn6, m6lt, nn1s, nn6s]
  · simp (disch := omega) only [b1E, b2E, bsE, jq0, jq1, jq2, jq3, w_ev, in_ev2, nI_leI, nI_ltI, nI_eq, nI_add, ↓pk_rem, pk_div, pk_sub, pk_mul, ckiT, ckT, ixN, if_pos, if_neg, ↓reduceIte, ckTr, true_or, or_true, false_or, or_false, sI_o, sI_s, pk_un, pk_us, il_0, il_1, il_2, il_3, il_4, il_5, il_6, il_7, il_8, il_9, il_10, il_12, il_16, il_20, il_29, il_30, il_31, il_32, il_33, il_39, il_40, il_43, il_46, il_48, il_50, il_54, il_55, il_57, il_60, il_63, il_64, il_74, il_75, il_97, il_99, il_100, il_126, il_150, il_255, il_256, il_899, il_999, il_9999, il_65537, il_1000000, il_2147483647, nn1, nn6, m6lt, nn1s, nn6s]
  · simp (disch := omega) only [b1E, b2E, bsE, jq0, jq1, jq2, jq3, w_ev, in_ev2, nI_leI, nI_ltI, nI_eq, nI_add, ↓pk_rem, pk_div, pk_sub, pk_mul, ckiT, ckT, ixN, if_pos, if_neg, ↓reduceIte, ckTr, true_or, or_true, false_or, or_false, sI_o, sI_s, pk_un, pk_us, il_0, il_1, il_2, il_3, il_4, il_5, il_6, il_7, il_8, il_9, il_10, il_12, il_16, il_20, il_29, il_30, il_31, il_32, il_33, il_39, il_40, il_43, il_46, il_48, il_50, il_54, il_55, il_57, il_60, il_63, il_64, il_74, il_75, il_97, il_99, il_100, il_126, il_150, il_255, il_256, il_899, il_999, il_9999, il_65537, il_1000000, il_2147483647, nn1, nn6, m6lt, nn1s, nn6s]
  · simp (disch := omega) only [b1E, b2E, bsE, jq0, jq1, jq2, jq3, w_ev, in_ev2, nI_leI, nI_ltI, nI_eq, nI_add, ↓pk_rem, pk_div, pk_sub, pk_mul, ckiT, ckT, ixN, if_pos, if_neg, ↓reduceIte, ckTr, true_or, or_true, false_or, or_false, sI_o, sI_s, pk_un, pk_us, il_0, il_1, il_2, il_3, il_4, il_5, il_6, il_7, il_8, il_9, il_10, il_12, il_16, il_20, il_29, il_30, il_31, il_32, il_33, il_39, il_40, il_43, il_46, il_48, il_50, il_54, il_55, il_57, il_60, il_63, il_64, il_74, il_75, il_97, il_99, il_100, il_126, il_150, il_255, il_256, il_899, il_999, il_9999, il_65537, il_1000000, il_2147483647, nn1, nn6, m6lt, nn1s, nn6s]
  · intro k hk
    by_cases h9 : k = b
    · subst h9; rw [pmv_s]; exact ⟨by simp (disch := omega) only [b1E, b2E, bsE, jq0, jq1, jq2, jq3, w_ev, in_ev2, nI_leI, nI_ltI, nI_eq, nI_add, ↓pk_rem, pk_div, pk_sub, pk_mul, ckiT, ckT, ixN, if_pos, if_neg, ↓reduceIte, ckTr, true_or, or_true, false_or, or_false, sI_o, sI_s, pk_un, pk_us, il_0, il_1, il_2, il_3, il_4, il_5, il_6, il_7, il_8, il_9, il_10, il_12, il_16, il_20, il_29, il_30, il_31, il_32, il_33, il_39, il_40, il_43, il_46, il_48, il_50, il_54, il_55, il_57, il_60, il_63, il_64, il_74, il_75, il_97, il_99, il_100, il_126, il_150, il_255, il_256, il_899, il_999, il_9999, il_65537, il_1000000, il_2147483647, nn1, nn6, m6lt, nn1s, nn6s], by simp (disch := omega) only [(c9 k hk).2, b1E, b2E, bsE, jq0, jq1, jq2, jq3, w_ev, in_ev2, nI_leI, nI_ltI, nI_eq, nI_add, ↓pk_rem, pk_div, pk_sub, pk_mul, ckiT, ckT, ixN, if_pos, if_neg, ↓reduceIte, ckTr, true_or, or_true, false_or, or_false, sI_o, sI_s, pk_un, pk_us, il_0, il_1, il_2, il_3, il_4, il_5, il_6, il_7, il_8, il_9, il_10, il_12, il_16, il_20, il_29, il_30, il_31, il_32, il_33, il_39, il_40, il_43, il_46, il_48, il_50, il_54, il_55, il_57, il_60, il_63, il_64, il_74, il_75, il_97, il_99, il_100, il_126, il_150, il_255, il_256, il_899, il_999, il_9999, il_65537, il_1000000, il_2147483647, nn1, nn6, m6lt, nn1s, nn6s]⟩
    · rw [pmv_o h9]; exact ⟨by simp (disch := omega) only [(c9 k hk).1, b1E, b2E, bsE, jq0, jq1, jq2, jq3, w_ev, in_ev2, nI_leI, nI_ltI, nI_eq, nI_add, ↓pk_rem, pk_div, pk_sub, pk_mul, ckiT, ckT, ixN, if_pos, if_neg, ↓reduceIte, ckTr, true_or, or_true, false_or, or_false, sI_o, sI_s, pk_un, pk_us, il_0, il_1, il_2, il_3, il_4, il_5, il_6, il_7, il_8, il_9, il_10, il_12, il_16, il_20, il_29, il_30, il_31, il_32, il_33, il_39, il_40, il_43, il_46, il_48, il_50, il_54, il_55, il_57, il_60, il_63, il_64, il_74, il_75, il_97, il_99, il_100, il_126, il_150, il_255, il_256, il_899, il_999, il_9999, il_65537, il_1000000, il_2147483647, nn1, nn6, m6lt, nn1s, nn6s], by simp (disch := omega) only [(c9 k hk).2, b1E, b2E, bsE, jq0, jq1, jq2, jq3, w_ev, in_ev2, nI_leI, nI_ltI, nI_eq, nI_add, ↓pk_rem, pk_div, pk_sub, pk_mul, ckiT, ckT, ixN, if_pos, if_neg, ↓reduceIte, ckTr, true_or, or_true, false_or, or_false, sI_o, sI_s, pk_un, pk_us, il_0, il_1, il_2, il_3, il_4, il_5, il_6, il_7, il_8, il_9, il_10, il_12, il_16, il_20, il_29, il_30, il_31, il_32, il_33, il_39, il_40, il_43, il_46, il_48, il_50, il_54, il_55, il_57, il_60, il_63, il_64, il_74, il_75, il_97, il_99, il_100, il_126, il_150, il_255, il_256, il_899, il_999, il_9999, il_65537, il_1000000, il_2147483647, nn1, nn6, m6lt, nn1s, nn6s]⟩
  · intro x hx
    have hx1 := hh x
    by_cases h9 : x = c
    · rw [h9, show hdl t (pmv p b c) c = hdl t p c + 1 by omega]; simp (disch := omega) only [b1E, b2E, bsE, jq0, jq1, jq2, jq3, w_ev, in_ev2, nI_leI, nI_ltI, nI_eq, nI_add, ↓pk_rem, pk_div, pk_sub, pk_mul, ckiT, ckT, ixN, if_pos, if_neg, ↓reduceIte, ckTr, true_or, or_true, false_or, or_false, sI_o, sI_s, pk_un, pk_us, il_0, il_1, il_2, il_3, il_4, il_5, il_6, il_7, il_8, il_9, il_10, il_12, il_16, il_20, il_29, il_30, il_31, il_32, il_33, il_39, il_40, il_43, il_46, il_48, il_50, il_54, il_55, il_57, il_60, il_63, il_64, il_74, il_75, il_97, il_99, il_100, il_126, il_150, il_255, il_256, il_899, il_999, il_9999, il_65537, il_1000000, il_2147483647, nn1, nn6, m6lt, nn1s, nn6s]
    · by_cases h8 : x = p b
      · rw [h8, show hdl t (pmv p b c) (p b) = hdl t p (p b) - 1 by omega]; simp (disch := omega) only [b1E, b2E, bsE, jq0, jq1, jq2, jq3, w_ev, in_ev2, nI_leI, nI_ltI, nI_eq, nI_add, ↓pk_rem, pk_div, pk_sub, pk_mul, ckiT, ckT, ixN, if_pos, if_neg, ↓reduceIte, ckTr, true_or, or_true, false_or, or_false, sI_o, sI_s, pk_un, pk_us, il_0, il_1, il_2, il_3, il_4, il_5, il_6, il_7, il_8, il_9, il_10, il_12, il_16, il_20, il_29, il_30, il_31, il_32, il_33, il_39, il_40, il_43, il_46, il_48, il_50, il_54, il_55, il_57, il_60, il_63, il_64, il_74, il_75, il_97, il_99, il_100, il_126, il_150, il_255, il_256, il_899, il_999, il_9999, il_65537, il_1000000, il_2147483647, nn1, nn6, m6lt, nn1s, nn6s]
      · rw [if_neg (fun h => h8 h.symm), if_neg (fun h => h9 h.symm)] at hx1
        rw [show hdl t (pmv p b c) x = hdl t p x by omega]
        simp (disch := omega) only [c10 x hx, b1E, b2E, bsE, jq0, jq1, jq2, jq3, w_ev, in_ev2, nI_leI, nI_ltI, nI_eq, nI_add, ↓pk_rem, pk_div, pk_sub, pk_mul, ckiT, ckT, ixN, if_pos, if_neg, ↓reduceIte, ckTr, true_or, or_true, false_or, or_false, sI_o, sI_s, pk_un, pk_us, il_0, il_1, il_2, il_3, il_4, il_5, il_6, il_7, il_8, il_9, il_10, il_12, il_16, il_20, il_29, il_30, il_31, il_32, il_33, il_39, il_40, il_43, il_46, il_48, il_50, il_54, il_55, il_57, il_60, il_63, il_64, il_74, il_75, il_97, il_99, il_100, il_126, il_150, il_255, il_256, il_899, il_999, il_9999, il_65537, il_1000000, il_2147483647, nn1, nn6, m6lt, nn1s, nn6s]
  · subst g2; exact Km_s0 (Km_s0 (Km_s0 (Km_sI r1 (by omega)) (by omega)) (by omega)) (by omega)
  · subst g2; simp (disch := omega) only [r2, b1E, b2E, bsE, jq0, jq1, jq2, jq3, w_ev, in_ev2, nI_leI, nI_ltI, nI_eq, nI_add, ↓pk_rem, pk_div, pk_sub, pk_mul, ckiT, ckT, ixN, if_pos, if_neg, ↓reduceIte, ckTr, true_or, or_true, false_or, or_false, sI_o, sI_s, pk_un, pk_us, il_0, il_1, il_2, il_3, il_4, il_5, il_6, il_7, il_8, il_9, il_10, il_12, il_16, il_20, il_29, il_30, il_31, il_32, il_33, il_39, il_40, il_43, il_46, il_48, il_50, il_54, il_55, il_57, il_60, il_63, il_64, il_74, il_75, il_97, il_99, il_100, il_126, il_150, il_255, il_256, il_899, il_999, il_9999, il_65537, il_1000000, il_2147483647, nn1, nn6, m6lt, nn1s, nn6s]
  · subst g2; simp (disch := omega) only [r3, b1E, b2E, bsE, jq0, jq1, jq2, jq3, w_ev, in_ev2, nI_leI, nI_ltI, nI_eq, nI_add, ↓pk_rem, pk_div, pk_sub, pk_mul, ckiT, ckT, ixN, if_pos, if_neg, ↓reduceIte, ckTr, true_or, or_true, false_or, or_false, sI_o, sI_s, pk_un, pk_us, il_0, il_1, il_2, il_3, il_4, il_5, il_6, il_7, il_8, il_9, il_10, il_12, il_16, il_20, il_29, il_30, il_31, il_32, il_33, il_39, il_40, il_43, il_46, il_48, il_50, il_54, il_55, il_57, il_60, il_63, il_64, il_74, il_75, il_97, il_99, il_100, il_126, il_150, il_255, il_256, il_899, il_999, il_9999, il_65537, il_1000000, il_2147483647, nn1, nn6, m6lt, nn1s, nn6s]
  · subst g2; simp (disch := omega) only [b1E, b2E, bsE, jq0, jq1, jq2, jq3, w_ev, in_ev2, nI_leI, nI_ltI, nI_eq, nI_add, ↓pk_rem, pk_div, pk_sub, pk_mul, ckiT, ckT, ixN, if_pos, if_neg, ↓reduceIte, ckTr, true_or, or_true, false_or, or_false, sI_o, sI_s, pk_un, pk_us, il_0, il_1, il_2, il_3, il_4, il_5, il_6, il_7, il_8, il_9, il_10, il_12, il_16, il_20, il_29, il_30, il_31, il_32, il_33, il_39, il_40, il_43, il_46, il_48, il_50, il_54, il_55, il_57, il_60, il_63, il_64, il_74, il_75, il_97, il_99, il_100, il_126, il_150, il_255, il_256, il_899, il_999, il_9999, il_65537, il_1000000, il_2147483647, nn1, nn6, m6lt, nn1s, nn6s]
  · subst g2; simp (disch := omega) only [b1E, b2E, bsE, jq0, jq1, jq2, jq3, w_ev, in_ev2, nI_leI, nI_ltI, nI_eq, nI_add, ↓pk_rem, pk_div, pk_sub, pk_mul, ckiT, ckT, ixN, if_pos, if_neg, ↓reduceIte, ckTr, true_or, or_true, false_or, or_false, sI_o, sI_s, pk_un, pk_us, il_0, il_1, il_2, il_3, il_4, il_5, il_6, il_7, il_8, il_9, il_10, il_12, il_16, il_20, il_29, il_30, il_31, il_32, il_33, il_39, il_40, il_43, il_46, il_48, il_50, il_54, il_55, il_57, il_60, il_63, il_64, il_74, il_75, il_97, il_99, il_100, il_126, il_150, il_255, il_256, il_899, il_999, il_9999, il_65537, il_1000000, il_2147483647, nn1, nn6, m6lt, nn1s, nn6s]
  · subst g2; simp (disch := omega) only [b1E, b2E, bsE, jq0, jq1, jq2, jq3, w_ev, in_ev2, nI_leI, nI_ltI, nI_eq, nI_add, ↓pk_rem, pk_div, pk_sub, pk_mul, ckiT, ckT, ixN, if_pos, if_neg, ↓reduceIte, ckTr, true_or, or_true, false_or, or_false, sI_o, sI_s, pk_un, pk_us, il_0, il_1, il_2, il_3, il_4, il_5, il_6, il_7, il_8, il_9, il_10, il_12, il_16, il_20, il_29, il_30, il_31, il_32, il_33, il_39, il_40, il_43, il_46, il_48, il_50, il_54, il_55, il_57, il_60, il_63, il_64, il_74, il_75, il_97, il_99, il_100, il_126, il_150, il_255, il_256, il_899, il_999, il_9999, il_65537, il_1000000, il_2147483647, nn1, nn6, m6lt, nn1s, nn6s]
  · subst g2; simp (disch := omega) only [r7, b1E, b2E, bsE, jq0, jq1, jq2, jq3, w_ev, in_ev2, nI_leI, nI_ltI, nI_eq, nI_add, ↓pk_rem, pk_div, pk_sub, pk_mul, ckiT, ckT, ixN, if_pos, if_neg, ↓reduceIte, ckTr, true_or, or_true, false_or, or_false, sI_o, sI_s, pk_un, pk_us, il_0, il_1, il_2, il_3, il_4, il_5, il_6, il_7, il_8, il_9, il_10, il_12, il_16, il_20, il_29, il_30, il_31, il_32, il_33, il_39, il_40, il_43, il_46, il_48, il_50, il_54, il_55, il_57, il_60, il_63, il_64, il_74, il_75, il_97, il_99, il_100, il_126, il_150, il_255, il_256, il_899, il_999, il_9999, il_65537, il_1000000, il_2147483647, nn1, nn6, m6lt, nn1s, nn6s]
  · subst g2
    intro k hk
    by_cases h9 : k = b
    · subst h9; rw [pmv_s]; exact ⟨by simp (disch := omega) only [b1E, b2E, bsE, jq0, jq1, jq2, jq3, w_ev, in_ev2, nI_leI, nI_ltI, nI_eq, nI_add, ↓pk_rem, pk_div, pk_sub, pk_mul, ckiT, ckT, ixN, if_pos, if_neg, ↓reduceIte, ckTr, true_or, or_true, false_or, or_false, sI_o, sI_s, pk_un, pk_us, il_0, il_1, il_2, il_3, il_4, il_5, il_6, il_7, il_8, il_9, il_10, il_12, il_16, il_20, il_29, il_30, il_31, il_32, il_33, il_39, il_40, il_43, il_46, il_48, il_50, il_54, il_55, il_57, il_60, il_63, il_64, il_74, il_75, il_97, il_99, il_100, il_126, il_150, il_255, il_256, il_899, il_999, il_9999, il_65537, il_1000000, il_2147483647, nn1, nn6, m6lt, nn1s, nn6s], by simp (disch := omega) only [(r8 k hk).2, b1E, b2E, bsE, jq0, jq1, jq2, jq3, w_ev, in_ev2, nI_leI, nI_ltI, nI_eq, nI_add, ↓pk_rem, pk_div, pk_sub, pk_mul, ckiT, ckT, ixN, if_pos, if_neg, ↓reduceIte, ckTr, true_or, or_true, false_or, or_false, sI_o, sI_s, pk_un, pk_us, il_0, il_1, il_2, il_3, il_4, il_5, il_6, il_7, il_8, il_9, il_10, il_12, il_16, il_20, il_29, il_30, il_31, il_32, il_33, il_39, il_40, il_43, il_46, il_48, il_50, il_54, il_55, il_57, il_60, il_63, il_64, il_74, il_75, il_97, il_99, il_100, il_126, il_150, il_255, il_256, il_899, il_999, il_9999, il_65537, il_1000000, il_2147483647, nn1, nn6, m6lt, nn1s, nn6s]⟩
    · rw [pmv_o h9]; exact ⟨by simp (disch := omega) only [(r8 k hk).1, b1E, b2E, bsE, jq0, jq1, jq2, jq3, w_ev, in_ev2, nI_leI, nI_ltI, nI_eq, nI_add, ↓pk_rem, pk_div, pk_sub, pk_mul, ckiT, ckT, ixN, if_pos, if_neg, ↓reduceIte, ckTr, true_or, or_true, false_or, or_false, sI_o, sI_s, pk_un, pk_us, il_0, il_1, il_2, il_3, il_4, il_5, il_6, il_7, il_8, il_9, il_10, il_12, il_16, il_20, il_29, il_30, il_31, il_32, il_33, il_39, il_40, il_43, il_46, il_48, il_50, il_54, il_55, il_57, il_60, il_63, il_64, il_74, il_75, il_97, il_99, il_100, il_126, il_150, il_255, il_256, il_899, il_999, il_9999, il_65537, il_1000000, il_2147483647, nn1, nn6, m6lt, nn1s, nn6s], by simp (disch := omega) only [(r8 k hk).2, b1E, b2E, bsE, jq0, jq1, jq2, jq3, w_ev, in_ev2, nI_leI, nI_ltI, nI_eq, nI_add, ↓pk_rem, pk_div, pk_sub, pk_mul, ckiT, ckT, ixN, if_pos, if_neg, ↓reduceIte, ckTr, true_or, or_true, false_or, or_false, sI_o, sI_s, pk_un, pk_us, il_0, il_1, il_2, il_3, il_4, il_5, il_6, il_7, il_8, il_9, il_10, il_12, il_16, il_20, il_29, il_30, il_31, il_32, il_33, il_39, il_40, il_43, il_46, il_48, il_50, il_54, il_55, il_57, il_60, il_63, il_64, il_74, il_75, il_97, il_99, il_100, il_126, il_150, il_255, il_256, il_899, il_999, il_9999, il_65537, il_1000000, il_2147483647, nn1, nn6, m6lt, nn1s, nn6s]⟩
  · omega
  · omega
  · omega
  · omega
  · omega
  · intro k hk
    by_cases h9 : k = b
    · subst h9; rw [pmv_s]; exact ⟨by omega, (b6 k hk).2⟩
    · rw [pmv_o h9]; exact b6 k hk
  · intro k hk hkt
    by_cases h9 : k = b
    · subst h9; rw [pmv_s]; exact hc
    · rw [pmv_o h9]; exact b7 k hk hkt
end SJ
