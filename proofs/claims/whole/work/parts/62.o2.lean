/-! ===== walls, moons, open ===== -/
theorem sI_id {u : St} {c k : Nat} : sI u c k (u.1 c k) = u := by
  refine Prod.ext ?_ rfl
  funext d j
  by_cases hd : d = c
  · subst hd; rw [sI_s]
    by_cases hj : j = k
    · subst hj; rw [pk_us]
    · rw [pk_un hj]
  · rw [sI_o hd]
theorem sI_sI {u : St} {c k : Nat} {a b : Int32} : sI (sI u c k a) c k b = sI u c k b := by
  refine Prod.ext ?_ rfl
  funext d j
  by_cases hd : d = c
  · subst hd; rw [sI_s, sI_s, sI_s]
    by_cases hj : j = k
    · subst hj; rw [pk_us, pk_us]
    · rw [pk_un hj, pk_un hj, pk_un hj]
  · rw [sI_o hd, sI_o hd, sI_o hd]
def fW (t : Nat → Nat → Nat) (wl : Nat) (L : Nat → Nat) : Nat → Nat → Nat := fun b d => ac t wl L (t 6 b) (t 8 b) d
section WA
variable {u m v w : St} {t : Nat → Nat → Nat} {wl : Nat} {L : Nat → Nat}
theorem shA (hT : TK t) (hA : AL v t wl L) : f_X11_sightsHold v = some (bI (hB t (fW t wl L))) := shC hA.1 hT (fun b d hb hd hbt => ⟨aoL hT hA hb hbt (by omega), ac_le⟩)
theorem shL (hM : MT w t) (hT : TK t) (hL : LM w L) : f_X12_holdsAll w = some (bI (hB t (fW t (t 2 3) L))) := shM hM hT (fun b d hb hd => ⟨abM hM hT hL hb (by omega), ac_le⟩)
theorem bI_cs (b : Bool) : bI b = if b then (1 : Int32) else 0 := by cases b <;> rfl
end WA
def gW (t : Nat → Nat → Nat) (k : Nat) : Nat := if hB t (fW t (2 ^ k) (lev t)) then 2 ^ k else 0
def aW (t : Nat → Nat → Nat) : Nat := if hB t (fW t 0 (lev t)) then 64 else 0
theorem pw6 {k : Nat} (h : k < 6) : 2 ^ k < 64 := Nat.lt_of_lt_of_le (Nat.pow_lt_pow_right (by decide) h) (by decide)
theorem s_walls : Sp_walls Inv := by
  intro N u m hi0
  obtain ⟨t, hU, hM, hT, hP, hI, hd, hr⟩ := id hi0
  have hcn := K_cnt hT
  have hwl := K_wal hT
  obtain ⟨v, ev, hA⟩ := asI hU hT
  have hAL : ∀ x, x < 64 → AL (sI v 20 2 (nI x)) t x (lev t) := by
    intro x hx
    have hk : Kp u (sI v 20 2 (nI x)) := Kp_sI hA.1 (by omega)
    have hU2 := UT_kp hU (Or.inl rfl) hk
    refine ⟨hU2, by simp (disch := omega) only [b1E, b2E, bsE, jq0, jq1, jq2, jq3, w_ev, in_ev2, nI_leI, nI_ltI, nI_eq, nI_add, ↓pk_rem, pk_div, pk_sub, pk_mul, ckiT, ckT, ixN, if_pos, if_neg, ↓reduceIte, ckTr, true_or, or_true, false_or, or_false, sI_o, sI_s, pk_un, pk_us, il_0, il_1, il_2, il_3, il_4, il_5, il_6, il_7, il_8, il_9, il_10, il_12, il_16, il_20, il_29, il_30, il_31, il_32, il_33, il_39, il_40, il_43, il_46, il_48, il_50, il_54, il_55, il_57, il_60, il_63, il_64, il_74, il_75, il_97, il_99, il_100, il_126, il_150, il_255, il_256, il_899, il_999, il_9999, il_65537, il_1000000, il_2147483647, nn1, nn6, m6lt, nn1s, nn6s], by simp (disch := omega) only [hA.2.2.2.2.1, b1E, b2E, bsE, jq0, jq1, jq2, jq3, w_ev, in_ev2, nI_leI, nI_ltI, nI_eq, nI_add, ↓pk_rem, pk_div, pk_sub, pk_mul, ckiT, ckT, ixN, if_pos, if_neg, ↓reduceIte, ckTr, true_or, or_true, false_or, or_false, sI_o, sI_s, pk_un, pk_us, il_0, il_1, il_2, il_3, il_4, il_5, il_6, il_7, il_8, il_9, il_10, il_12, il_16, il_20, il_29, il_30, il_31, il_32, il_33, il_39, il_40, il_43, il_46, il_48, il_50, il_54, il_55, il_57, il_60, il_63, il_64, il_74, il_75, il_97, il_99, il_100, il_126, il_150, il_255, il_256, il_899, il_999, il_9999, il_65537, il_1000000, il_2147483647, nn1, nn6, m6lt, nn1s, nn6s], LC_is hU2 hT (by simp (disch := omega) only [hA.2.2.1, b1E, b2E, bsE, jq0, jq1, jq2, jq3, w_ev, in_ev2, nI_leI, nI_ltI, nI_eq, nI_add, ↓pk_rem, pk_div, pk_sub, pk_mul, ckiT, ckT, ixN, if_pos, if_neg, ↓reduceIte, ckTr, true_or, or_true, false_or, or_false, sI_o, sI_s, pk_un, pk_us, il_0, il_1, il_2, il_3, il_4, il_5, il_6, il_7, il_8, il_9, il_10, il_12, il_16, il_20, il_29, il_30, il_31, il_32, il_33, il_39, il_40, il_43, il_46, il_48, il_50, il_54, il_55, il_57, il_60, il_63, il_64, il_74, il_75, il_97, il_99, il_100, il_126, il_150, il_255, il_256, il_899, il_999, il_9999, il_65537, il_1000000, il_2147483647, nn1, nn6, m6lt, nn1s, nn6s]) (by simp (disch := omega) only [hA.2.2.2.2.2.1, b1E, b2E, bsE, jq0, jq1, jq2, jq3, w_ev, in_ev2, nI_leI, nI_ltI, nI_eq, nI_add, ↓pk_rem, pk_div, pk_sub, pk_mul, ckiT, ckT, ixN, if_pos, if_neg, ↓reduceIte, ckTr, true_or, or_true, false_or, or_false, sI_o, sI_s, pk_un, pk_us, il_0, il_1, il_2, il_3, il_4, il_5, il_6, il_7, il_8, il_9, il_10, il_12, il_16, il_20, il_29, il_30, il_31, il_32, il_33, il_39, il_40, il_43, il_46, il_48, il_50, il_54, il_55, il_57, il_60, il_63, il_64, il_74, il_75, il_97, il_99, il_100, il_126, il_150, il_255, il_256, il_899, il_999, il_9999, il_65537, il_1000000, il_2147483647, nn1, nn6, m6lt, nn1s, nn6s]), hx⟩
  have hMT : ∀ x, x < 64 → f_X12_holdsAll (sI m 0 3 (nI x)) = some (bI (hB t (fW t x (lev t)))) := by
    intro x hx
    have hM2 : MT (sI m 0 3 (nI x)) (tset t 2 3 x) := MT_s hM (c := 2) (k := 3) (by unfold TD; omega) x rfl rfl
    have hT2 := TK_w hT hx
    have hL2 : LM (sI m 0 3 (nI x)) (lev (tset t 2 3 x)) := LM_is hM2 hT2 hd (by rw [sI_s, pk_un (by omega)]; exact hr)
    rw [shL hM2 hT2 hL2]
    refine congrArg (fun b => some (bI b)) (hB_congr (fun c hc => ts_c (by omega)) (fun b d => ?_))
    unfold fW ac br lev dig
    rw [ts_s, ts_c (by omega), ts_c (by omega), ts_c (by omega), ts_c (by omega), ts_c (by omega), ts_c (by omega)]
  have hCl : ∃ z, f_X11_walls u = some (nI (aW t ||| orS (gW t) (t 2 2)), z) ∧ Kp u z := by
    unfold f_X11_walls
    rw [ev, b1E, bsE, show (0 : Int32) = nI 0 from rfl, shA hT (hAL 0 (by omega)), b1E, jq1]
    have lp : ∀ a, lq_3 (B_X11_walls_31 (fun (u10 : St) (x11 : Int32) => some (x11, u10))) FU (sI v 20 2 (nI 0)) (nI a) (nI 0) = some (nI (a ||| orS (gW t) (t 2 2)), sI v 20 2 (nI (if t 2 2 = 0 then 0 else 2 ^ (t 2 2 - 1)))) := by
      intro a
      refine mr_3 (fun i => sI v 20 2 (nI (if i = 0 then 0 else 2 ^ (i - 1)))) (fun i => nI (a ||| orS (gW t) i)) nI (t 2 2) ?_ ?_ (FU_lt (by omega)) rfl (by show nI a = nI (a ||| 0); rw [Nat.or_zero]) rfl
      · intro i hi rec
        unfold B_X11_walls_31
        rw [sI_o (by omega), U_cnt hA.2.1, if_neg (nI_ge hi (by omega)), bsE, shlN (by omega), sI_sI, shA hT (hAL _ (pw6 (by omega))), b1E, show (0 : Int32) = nI 0 from rfl, orNN, orNN, nI_1, if_neg (show ¬ i + 1 = 0 by omega), Nat.add_sub_cancel]
        show _ = rec _ (nI (a ||| (orS (gW t) i ||| gW t i))) _
        rw [show gW t i = if hB t (fW t (2 ^ i) (lev t)) then 2 ^ i else 0 from rfl]
        cases hB t (fW t (2 ^ i) (lev t))
        · rw [if_pos (show bI false = nI 0 from rfl), if_neg (show ¬ false = true by decide), Nat.or_zero, Nat.or_zero]
        · rw [if_neg (show ¬ bI true = nI 0 by decide), if_pos rfl, Nat.or_assoc]
      · intro rec
        unfold B_X11_walls_31
        rw [sI_o (by omega), U_cnt hA.2.1, if_pos (Int32.le_refl _)]
    unfold aW
    cases hB t (fW t 0 (lev t))
    · rw [if_pos (show bI false = nI 0 from rfl)]
      exact ⟨_, lp 0, Kp_sI hA.1 (by omega)⟩
    · rw [if_neg (show ¬ bI true = nI 0 by decide)]
      exact ⟨_, lp 64, Kp_sI hA.1 (by omega)⟩
  have hRf : f_X12_walls m = some (nI (aW t ||| orS (gW t) (t 2 2)), m) := by
    unfold f_X12_walls
    rw [jq2]
    have e7 : orS (fun c => if c = 6 then aW t else if c < t 2 2 then gW t c else 0) 7 = aW t ||| orS (gW t) (t 2 2) := by
      show orS _ 6 ||| (if 6 = 6 then aW t else _) = _
      rw [if_pos rfl, orS_tail (n := 6) (k := t 2 2) (by omega) (fun i h1 h2 => by rw [if_neg (by omega), if_neg (by omega)]), Nat.or_comm, orS_congr (g := gW t) (fun i hi => by rw [if_neg (by omega), if_pos hi])]
    rw [← e7]
    refine mw_3 (P := fun i (z : St) (x y : Int32) => y = nI i ∧ x = nI (orS (fun c => if c = 6 then aW t else if c < t 2 2 then gW t c else 0) i) ∧ ∃ q, q < 64 ∧ z = sI m 0 3 (nI q)) (Q := fun o => o = some (nI (orS (fun c => if c = 6 then aW t else if c < t 2 2 then gW t c else 0) 7), m)) 7 ?_ ?_ (FU_lt (by decide)) ⟨rfl, rfl, t 2 3, hwl, by rw [← M_wal hM, sI_id]⟩
    · rintro i z x y hi ⟨rfl, rfl, q, hq, rfl⟩
      have hM2 : MT (sI m 0 3 (nI q)) (tset t 2 3 q) := MT_s hM (c := 2) (k := 3) (by unfold TD; omega) q rfl rfl
      have hT2 := TK_w hT hq
      have fin : ∀ x2, x2 < 64 → ∀ rec : St → Int32 → Int32 → Option (Int32 × St), b1 (f_X12_holdsAll (sI m 0 3 (nI x2))) (fun (x16 : Int32) => if x16 = 0 then rec (sI m 0 3 (nI x2)) (nI (orS (fun c => if c = 6 then aW t else if c < t 2 2 then gW t c else 0) i) ||| (0 : Int32)) (nI i + 1) else rec (sI m 0 3 (nI x2)) (nI (orS (fun c => if c = 6 then aW t else if c < t 2 2 then gW t c else 0) i) ||| ((1 : Int32) <<< (nI i &&& 31))) (nI i + 1)) = rec (sI m 0 3 (nI x2)) (nI (orS (fun c => if c = 6 then aW t else if c < t 2 2 then gW t c else 0) i ||| (if hB t (fW t x2 (lev t)) then 2 ^ i else 0))) (nI (i + 1)) := by
        intro x2 hx2 rec
        rw [hMT x2 hx2, b1E, shlN (by omega), show (0 : Int32) = nI 0 from rfl, orNN, orNN, nI_1]
        cases hB t (fW t x2 (lev t))
        · rw [if_pos (show bI false = nI 0 from rfl), if_neg (by decide)]
        · rw [if_neg (show ¬ bI true = nI 0 by decide), if_pos rfl]
      by_cases h6 : i = 6
      · subst h6
        refine Or.inl ⟨sI m 0 3 (nI 0), _, _, fun rec => ?_, ⟨rfl, rfl, 0, by omega, rfl⟩⟩
        unfold B_X12_walls_9
        rw [if_neg (show ¬ (6 : Int32) < nI 6 by decide), jq1, if_pos (show nI 6 = 6 from rfl)]
        show jq_1 _ _ = _
        rw [jq1, if_pos (show nI 6 = 6 from rfl)]
        show bs (sI (sI m 0 3 (nI q)) 0 3 (nI 0)) _ = _
        rw [bsE, sI_sI, if_neg n10]
        refine (fin 0 (by omega) rec).trans ?_
        rfl
      · have h6' : ¬ nI i = 6 := fun h9 => h6 ((nI_eq (b := 6) (by omega) (by decide)).mp h9)
        refine Or.inl ⟨sI m 0 3 (nI (2 ^ i)), _, _, fun rec => ?_, ⟨rfl, rfl, 2 ^ i, pw6 (by omega), rfl⟩⟩
        unfold B_X12_walls_9
        rw [if_neg (show ¬ (6 : Int32) < nI i from fun h9 => absurd ((nI_ltI (a := 6) (by decide) (by omega)).mp h9) (by omega)), jq1, if_neg h6']
        show _ = rec _ (nI (_ ||| (if i = 6 then aW t else if i < t 2 2 then gW t i else 0))) _
        rw [if_neg h6]
        by_cases hcl : i < t 2 2
        · rw [ic_yes hM2 hT2 (k := i) (by rw [ts_o (by omega)]; exact hcl), b1E, if_neg n10, if_pos hcl]
          show jq_1 _ _ = _
          rw [jq1, if_neg h6']
          show bs (sI (sI m 0 3 (nI q)) 0 3 ((1 : Int32) <<< (nI i &&& 31))) _ = _
          rw [bsE, shlN (by omega), sI_sI, if_neg n10]
          have := fin (2 ^ i) (pw6 (by omega)) rec
          rw [shlN (by omega)] at this
          exact this
        · rw [ic_no hM2 hT2 (p := nI i) (Or.inr (by rw [ts_o (by omega)]; exact nI_le (by omega) (by omega))), b1E, if_pos rfl, if_neg hcl]
          show jq_1 _ _ = _
          rw [jq1, if_neg h6']
          show bs (sI (sI m 0 3 (nI q)) 0 3 ((1 : Int32) <<< (nI i &&& 31))) _ = _
          rw [bsE, shlN (by omega), sI_sI, if_pos rfl, show (0 : Int32) = nI 0 from rfl, orNN, nI_1]
    · rintro z x y ⟨rfl, rfl, q, hq, rfl⟩ rec
      unfold B_X12_walls_9
      rw [if_pos (show (6 : Int32) < nI 7 by decide)]
      show some (_, sI (sI m 0 3 (nI q)) 0 3 (m.1 0 3)) = _
      rw [sI_sI, sI_id]
  obtain ⟨z, e1, e2⟩ := hCl
  exact ⟨_, _, _, e1, hRf, Inv_keep hi0 e2 Km_rf⟩
def gM (t : Nat → Nat → Nat) (k : Nat) : Nat := if hB t (fW t (t 2 3) (fun d => dig t (d + k))) then 2 ^ k else 0
theorem s_moons : Sp_moons Inv := by
  intro N u m hi0
  obtain ⟨t, hU, hM, hT, hP, hI, hd, hr⟩ := id hi0
  have hl := K_len hT
  have hwl := K_wal hT
  obtain ⟨v, ev, hA⟩ := asI hU hT
  have hAL : ∀ x, x < 30 → AL (sI v 20 1 (nI x)) t (t 2 3) (fun d => dig t (d + x)) := by
    intro x hx
    have hk : Kp u (sI v 20 1 (nI x)) := Kp_sI hA.1 (by omega)
    have hU2 := UT_kp hU (Or.inl rfl) hk
    exact ⟨hU2, by simp (disch := omega) only [hA.2.2.2.1, b1E, b2E, bsE, jq0, jq1, jq2, jq3, w_ev, in_ev2, nI_leI, nI_ltI, nI_eq, nI_add, ↓pk_rem, pk_div, pk_sub, pk_mul, ckiT, ckT, ixN, if_pos, if_neg, ↓reduceIte, ckTr, true_or, or_true, false_or, or_false, sI_o, sI_s, pk_un, pk_us, il_0, il_1, il_2, il_3, il_4, il_5, il_6, il_7, il_8, il_9, il_10, il_12, il_16, il_20, il_29, il_30, il_31, il_32, il_33, il_39, il_40, il_43, il_46, il_48, il_50, il_54, il_55, il_57, il_60, il_63, il_64, il_74, il_75, il_97, il_99, il_100, il_126, il_150, il_255, il_256, il_899, il_999, il_9999, il_65537, il_1000000, il_2147483647, nn1, nn6, m6lt, nn1s, nn6s], by simp (disch := omega) only [hA.2.2.2.2.1, b1E, b2E, bsE, jq0, jq1, jq2, jq3, w_ev, in_ev2, nI_leI, nI_ltI, nI_eq, nI_add, ↓pk_rem, pk_div, pk_sub, pk_mul, ckiT, ckT, ixN, if_pos, if_neg, ↓reduceIte, ckTr, true_or, or_true, false_or, or_false, sI_o, sI_s, pk_un, pk_us, il_0, il_1, il_2, il_3, il_4, il_5, il_6, il_7, il_8, il_9, il_10, il_12, il_16, il_20, il_29, il_30, il_31, il_32, il_33, il_39, il_40, il_43, il_46, il_48, il_50, il_54, il_55, il_57, il_60, il_63, il_64, il_74, il_75, il_97, il_99, il_100, il_126, il_150, il_255, il_256, il_899, il_999, il_9999, il_65537, il_1000000, il_2147483647, nn1, nn6, m6lt, nn1s, nn6s], LC_mk (ls := 0) hU2 hT (by simp (disch := omega) only [b1E, b2E, bsE, jq0, jq1, jq2, jq3, w_ev, in_ev2, nI_leI, nI_ltI, nI_eq, nI_add, ↓pk_rem, pk_div, pk_sub, pk_mul, ckiT, ckT, ixN, if_pos, if_neg, ↓reduceIte, ckTr, true_or, or_true, false_or, or_false, sI_o, sI_s, pk_un, pk_us, il_0, il_1, il_2, il_3, il_4, il_5, il_6, il_7, il_8, il_9, il_10, il_12, il_16, il_20, il_29, il_30, il_31, il_32, il_33, il_39, il_40, il_43, il_46, il_48, il_50, il_54, il_55, il_57, il_60, il_63, il_64, il_74, il_75, il_97, il_99, il_100, il_126, il_150, il_255, il_256, il_899, il_999, il_9999, il_65537, il_1000000, il_2147483647, nn1, nn6, m6lt, nn1s, nn6s]) (by simp (disch := omega) only [hA.2.2.2.2.2.1, b1E, b2E, bsE, jq0, jq1, jq2, jq3, w_ev, in_ev2, nI_leI, nI_ltI, nI_eq, nI_add, ↓pk_rem, pk_div, pk_sub, pk_mul, ckiT, ckT, ixN, if_pos, if_neg, ↓reduceIte, ckTr, true_or, or_true, false_or, or_false, sI_o, sI_s, pk_un, pk_us, il_0, il_1, il_2, il_3, il_4, il_5, il_6, il_7, il_8, il_9, il_10, il_12, il_16, il_20, il_29, il_30, il_31, il_32, il_33, il_39, il_40, il_43, il_46, il_48, il_50, il_54, il_55, il_57, il_60, il_63, il_64, il_74, il_75, il_97, il_99, il_100, il_126, il_150, il_255, il_256, il_899, il_999, il_9999, il_65537, il_1000000, il_2147483647, nn1, nn6, m6lt, nn1s, nn6s]) (by omega) (by omega), hwl⟩
  have hMT : ∀ x, x < 30 → f_X12_holdsAll (sI m 0 13 (nI x)) = some (bI (hB t (fW t (t 2 3) (fun d => dig t (d + x))))) := by
    intro x hx
    have hM2 : MT (sI m 0 13 (nI x)) (tset t 16 2 x) := MT_s hM (c := 16) (k := 2) (by unfold TD; omega) x rfl rfl
    have hT2 := TK_p hT (w := x) (by omega)
    have hL2 : LM (sI m 0 13 (nI x)) (lev (tset t 16 2 x)) := LM_is hM2 hT2 hd (by rw [sI_s, pk_un (by omega)]; exact hr)
    rw [shL hM2 hT2 hL2]
    refine congrArg (fun b => some (bI b)) (hB_congr (fun c hc => ts_c (by omega)) (fun b d => ?_))
    unfold fW ac br lev dig
    rw [ts_s, ts_c (by omega), ts_c (by omega), ts_c (by omega), ts_c (by omega), ts_c (by omega), ts_c (by omega)]
  have hCl : ∃ z, f_X11_moons u = some (nI (orS (gM t) (t 10 1)), z) ∧ Kp u z := by
    unfold f_X11_moons
    rw [ev, b1E, jq2]
    refine mw_3 (P := fun i (z : St) (x y : Int32) => y = nI i ∧ x = nI (orS (gM t) i) ∧ ∃ q, z = sI v 20 1 q) (Q := fun o => ∃ z, o = some (nI (orS (gM t) (t 10 1)), z) ∧ Kp u z) (t 10 1) ?_ ?_ (FU_lt (by omega)) ⟨rfl, rfl, v.1 20 1, sI_id.symm⟩
    · rintro i z x y hi ⟨rfl, rfl, q, rfl⟩
      refine Or.inl ⟨sI v 20 1 (nI i), _, _, fun rec => ?_, ⟨rfl, rfl, _, rfl⟩⟩
      unfold B_X11_moons_11
      rw [sI_o (by omega), U_len hA.2.1, if_neg (nI_ge hi (by omega)), bsE, shlN (by omega), sI_sI, shA hT (hAL i (by omega)), b1E, show (0 : Int32) = nI 0 from rfl, orNN, orNN, nI_1]
      show _ = rec _ (nI (orS (gM t) i ||| gM t i)) _
      rw [show gM t i = if hB t (fW t (t 2 3) (fun d => dig t (d + i))) then 2 ^ i else 0 from rfl]
      cases hB t (fW t (t 2 3) (fun d => dig t (d + i)))
      · rw [if_pos (show bI false = nI 0 from rfl), if_neg (show ¬ false = true by decide)]
      · rw [if_neg (show ¬ bI true = nI 0 by decide), if_pos rfl]
    · rintro z x y ⟨rfl, rfl, q, rfl⟩ rec
      unfold B_X11_moons_11
      rw [sI_o (by omega), U_len hA.2.1, if_pos (Int32.le_refl _)]
      exact ⟨_, rfl, Kp_sI hA.1 (by omega)⟩
  have hRf : f_X12_moons m = some (nI (orS (gM t) (t 10 1)), m) := by
    unfold f_X12_moons
    rw [jq2]
    refine mw_3 (P := fun i (z : St) (x y : Int32) => y = nI i ∧ x = nI (orS (gM t) i) ∧ ∃ q, z = sI m 0 13 q) (Q := fun o => o = some (nI (orS (gM t) (t 10 1)), m)) (t 10 1) ?_ ?_ (FU_lt (by omega)) ⟨rfl, rfl, m.1 0 13, sI_id.symm⟩
    · rintro i z x y hi ⟨rfl, rfl, q, rfl⟩
      refine Or.inl ⟨sI m 0 13 (nI i), _, _, fun rec => ?_, ⟨rfl, rfl, _, rfl⟩⟩
      unfold B_X12_moons_9
      rw [sI_s, pk_un (by omega), M_len hM, if_neg (nI_ge hi (by omega)), bsE, shlN (by omega), sI_sI, hMT i (by omega), b1E, show (0 : Int32) = nI 0 from rfl, orNN, orNN, nI_1]
      show _ = rec _ (nI (orS (gM t) i ||| gM t i)) _
      rw [show gM t i = if hB t (fW t (t 2 3) (fun d => dig t (d + i))) then 2 ^ i else 0 from rfl]
      cases hB t (fW t (t 2 3) (fun d => dig t (d + i)))
      · rw [if_pos (show bI false = nI 0 from rfl), if_neg (show ¬ false = true by decide)]
      · rw [if_neg (show ¬ bI true = nI 0 by decide), if_pos rfl]
    · rintro z x y ⟨rfl, rfl, q, rfl⟩ rec
      unfold B_X12_moons_9
      rw [sI_s, pk_un (by omega), M_len hM, if_pos (Int32.le_refl _)]
      show some (_, sI (sI m 0 13 q) 0 13 (m.1 0 13)) = _
      rw [sI_sI, sI_id]
  obtain ⟨z, e1, e2⟩ := hCl
  exact ⟨_, _, _, e1, hRf, Inv_keep hi0 e2 Km_rf⟩
/-! open -/
theorem dx_1d : ∀ o, o < 30 → ∀ d, d < 63 → (lg_cmp ((((1 : Int64) <<< (Int32.toInt64 (nI o) &&& 63)) >>> (Int32.toInt64 (nI d) &&& 63)) &&& (1 : Int64)) 1 = 0 ↔ d = o) := by decide +kernel
theorem DX_1 {o : Nat} (h : o < 30) : DX ((1 : Int64) <<< (Int32.toInt64 (nI o) &&& 63)) (fun d => if d = o then 1 else 0) := fun d => by
  refine ⟨?_, fun h9 => ?_, fun h9 => ?_⟩
  · show (if d = o then 1 else 0) ≤ 1; split <;> omega
  · show (if d = o then 1 else 0) = 0; rw [if_neg (by omega)]
  · rw [dx_1d o h d h9]
    show d = o ↔ (if d = o then 1 else 0) = 1
    by_cases h8 : d = o
    · rw [if_pos h8]; exact ⟨fun _ => rfl, fun _ => h8⟩
    · rw [if_neg h8]; exact ⟨fun h7 => absurd h7 h8, fun h7 => absurd h7 (by omega)⟩
theorem sL_sL {u : St} {c k : Nat} {a b : Int64} : sL (sL u c k a) c k b = sL u c k b := by
  refine Prod.ext rfl ?_
  funext d j
  by_cases hd : d = c
  · subst hd; simp only [sL_s]
    unfold vp_updL
    by_cases hj : j = k
    · simp [hj]
    · simp [hj]
  · rw [sL_o hd, sL_o hd, sL_o hd]
theorem sL_id {u : St} {c k : Nat} : sL u c k (u.2 c k) = u := by
  refine Prod.ext rfl ?_
  funext d j
  by_cases hd : d = c
  · subst hd; simp only [sL_s]
    unfold vp_updL
    by_cases hj : j = k
    · simp [hj]
    · simp [hj]
  · rw [sL_o hd]
/-- the latest day -/
def ld (t : Nat → Nat → Nat) : Nat → Nat
  | 0 => 0
  | n + 1 => max (ld t n) (t 14 n)
def opS (h : Nat → Bool) : Nat → Int32 × Int32
  | 0 => (-6, 0)
  | n + 1 => if h n then (if (opS h n).2 = 0 then nI n else (opS h n).1, (opS h n).2 + 1) else opS h n
def oL (t : Nat → Nat → Nat) (o : Nat) : Nat → Nat := fun i => lev t i + (if i = o then 1 else 0)
def hO (t : Nat → Nat → Nat) (o : Nat) : Bool := hB t (fW t (t 2 3) (oL t o))
theorem opS_f {h : Nat → Bool} {n : Nat} (e : h n = false) : opS h (n + 1) = opS h n := by
  show (if h n then _ else _) = _
  rw [e, if_neg (by decide)]
theorem opS_t {h : Nat → Bool} {n : Nat} (e : h n = true) : opS h (n + 1) = (if (opS h n).2 = 0 then nI n else (opS h n).1, (opS h n).2 + 1) := by
  show (if h n then _ else _) = _
  rw [e, if_pos rfl]
theorem s_open : Sp_open Inv := by
  intro N u m p1 hi0
  obtain ⟨t, hU, hM, hT, hP, hI, hd, hr⟩ := id hi0
  have hwl := K_wal hT
  have hsc := K_sc hT
  unfold f_X11_open f_X12_open
  rw [w_ev, b1E, in_ev (a := 0) (b := 1) (lo := 0) (hi := 1) rfl rfl, b1E]
  by_cases h : (0 : Int32) ≤ p1 ∧ p1 ≤ 1
  rotate_left
  · rw [if_neg h, if_pos rfl, if_pos rfl]
    exact ⟨_, _, _, rfl, rfl, hi0⟩
  obtain ⟨v, ev, hA⟩ := asI hU hT
  have ldl : ∀ n, n ≤ 6 → ld t n ≤ 30 := by
    intro n
    induction n with
    | zero => intro _; exact Nat.zero_le _
    | succ n ih => intro hn; have := ih (by omega); have := (K_si hT (k := n) (by omega)).2.1; show max _ _ ≤ 30; omega
  have hld := ldl (t 12 3) hsc
  have eC : f_X6_latestDay v = some (nI (ld t (t 12 3))) := by
    unfold f_X6_latestDay
    rw [jq1]
    refine mr_2 (fun i => nI (ld t i)) nI (t 12 3) ?_ ?_ (FU_lt (by omega)) rfl rfl
    · intro i hi rec
      have h1 := ldl i (by omega)
      have h2 := K_si hT (k := i) (by omega)
      unfold B_X6_latestDay_4
      rw [U_sc hA.2.1, if_neg (nI_ge hi (by omega)), if_neg (nle_l (l := 6) 6 rfl (by omega) (by decide)), ckiT (by omega) (by decide), ixN (by omega), U_sd hA.2.1 (by omega), mx_nI (by omega) (by omega), bsE, nI_1]; rfl
    · intro rec
      unfold B_X6_latestDay_4
      rw [U_sc hA.2.1, if_pos (Int32.le_refl _)]
  have eM : ∀ K : Int32 → Option (Int32 × St), lq_2 (B_X12_open_17 m K) FU 0 0 = K (nI (ld t (t 12 3))) := by
    intro K
    refine mr_2 (fun i => nI (ld t i)) nI (t 12 3) ?_ ?_ (FU_lt (by omega)) rfl rfl
    · intro i hi rec
      have h1 := ldl i (by omega)
      have h2 := K_si hT (k := i) (by omega)
      unfold B_X12_open_17
      rw [M_sc hM, if_neg (nI_ge hi (by omega)), ckiT (by omega) (by decide), ckiT (by omega) (by decide), ixN (by omega), M_sd hM (by omega), nI_1]
      show _ = rec (nI (max (ld t i) (t 14 i))) _
      by_cases h9 : t 14 i ≤ ld t i
      · rw [if_pos (nI_le h9 (by omega)), Nat.max_eq_left h9]
      · rw [if_neg (nI_ge (by omega) (by omega)), Nat.max_eq_right (by omega)]
    · intro rec
      unfold B_X12_open_17
      rw [M_sc hM, if_pos (Int32.le_refl _)]
  have hCh : ∀ o, o < 30 → f_X11_sightsHold (sI v 20 3 (nI o)) = some (bI (hO t o)) := by
    intro o ho
    have hk : Kp u (sI v 20 3 (nI o)) := Kp_sI hA.1 (by omega)
    have hU2 := UT_kp hU (Or.inl rfl) hk
    have hLC := LC_is hU2 hT (by simp (disch := omega) only [hA.2.2.1, b1E, b2E, bsE, jq0, jq1, jq2, jq3, w_ev, in_ev2, nI_leI, nI_ltI, nI_eq, nI_add, ↓pk_rem, pk_div, pk_sub, pk_mul, ckiT, ckT, ixN, if_pos, if_neg, ↓reduceIte, ckTr, true_or, or_true, false_or, or_false, sI_o, sI_s, pk_un, pk_us, il_0, il_1, il_2, il_3, il_4, il_5, il_6, il_7, il_8, il_9, il_10, il_12, il_16, il_20, il_29, il_30, il_31, il_32, il_33, il_39, il_40, il_43, il_46, il_48, il_50, il_54, il_55, il_57, il_60, il_63, il_64, il_74, il_75, il_97, il_99, il_100, il_126, il_150, il_255, il_256, il_899, il_999, il_9999, il_65537, il_1000000, il_2147483647, nn1, nn6, m6lt, nn1s, nn6s]) (by simp (disch := omega) only [hA.2.2.2.2.2.1, b1E, b2E, bsE, jq0, jq1, jq2, jq3, w_ev, in_ev2, nI_leI, nI_ltI, nI_eq, nI_add, ↓pk_rem, pk_div, pk_sub, pk_mul, ckiT, ckT, ixN, if_pos, if_neg, ↓reduceIte, ckTr, true_or, or_true, false_or, or_false, sI_o, sI_s, pk_un, pk_us, il_0, il_1, il_2, il_3, il_4, il_5, il_6, il_7, il_8, il_9, il_10, il_12, il_16, il_20, il_29, il_30, il_31, il_32, il_33, il_39, il_40, il_43, il_46, il_48, il_50, il_54, il_55, il_57, il_60, il_63, il_64, il_74, il_75, il_97, il_99, il_100, il_126, il_150, il_255, il_256, il_899, il_999, il_9999, il_65537, il_1000000, il_2147483647, nn1, nn6, m6lt, nn1s, nn6s])
    unfold hO
    refine shC hU2 hT (fun b d hb hd9 hbt => ⟨?_, ac_le⟩)
    unfold f_X0_acidOf
    rw [hbY hU2 hT hb hbt, b1E, if_neg n10, ckiT hb (by decide), ckiT hb (by decide), ixN (by omega), U_lie hU2 hb, U_cor hU2 hb, acO hU2 hT (o := o) (wl := t 2 3) (by simp (disch := omega) only [hA.2.2.2.1, b1E, b2E, bsE, jq0, jq1, jq2, jq3, w_ev, in_ev2, nI_leI, nI_ltI, nI_eq, nI_add, ↓pk_rem, pk_div, pk_sub, pk_mul, ckiT, ckT, ixN, if_pos, if_neg, ↓reduceIte, ckTr, true_or, or_true, false_or, or_false, sI_o, sI_s, pk_un, pk_us, il_0, il_1, il_2, il_3, il_4, il_5, il_6, il_7, il_8, il_9, il_10, il_12, il_16, il_20, il_29, il_30, il_31, il_32, il_33, il_39, il_40, il_43, il_46, il_48, il_50, il_54, il_55, il_57, il_60, il_63, il_64, il_74, il_75, il_97, il_99, il_100, il_126, il_150, il_255, il_256, il_899, il_999, il_9999, il_65537, il_1000000, il_2147483647, nn1, nn6, m6lt, nn1s, nn6s]) (by simp (disch := omega) only [b1E, b2E, bsE, jq0, jq1, jq2, jq3, w_ev, in_ev2, nI_leI, nI_ltI, nI_eq, nI_add, ↓pk_rem, pk_div, pk_sub, pk_mul, ckiT, ckT, ixN, if_pos, if_neg, ↓reduceIte, ckTr, true_or, or_true, false_or, or_false, sI_o, sI_s, pk_un, pk_us, il_0, il_1, il_2, il_3, il_4, il_5, il_6, il_7, il_8, il_9, il_10, il_12, il_16, il_20, il_29, il_30, il_31, il_32, il_33, il_39, il_40, il_43, il_46, il_48, il_50, il_54, il_55, il_57, il_60, il_63, il_64, il_74, il_75, il_97, il_99, il_100, il_126, il_150, il_255, il_256, il_899, il_999, il_9999, il_65537, il_1000000, il_2147483647, nn1, nn6, m6lt, nn1s, nn6s]) (by omega) (by omega) (K_there hT hb hbt).1 (K_bar hT hb).2.2.1 (by omega) hLC.1 hLC.2]; rfl
  have hMh : ∀ o, o < 30 → f_X12_holdsAll (sL m 0 21 ((1 : Int64) <<< (Int32.toInt64 (nI o) &&& 63))) = some (bI (hO t o)) := by
    intro o ho
    have hM2 : MT (sL m 0 21 ((1 : Int64) <<< (Int32.toInt64 (nI o) &&& 63))) t := hM
    have hL2 := LM_mk (x := fun d => if d = o then 1 else 0) (ls := 0) hM2 hT (by rw [sL_s]; unfold vp_updL; rw [if_pos rfl]; exact DX_1 ho) hr (by omega)
    rw [shL hM2 hT hL2]; rfl
  rw [if_pos h, if_neg n10, if_neg n10, ev, b1E, eC, b1E, jq3, jq1, eM, jq3]
  have hCl : ∃ z, lq_4 (B_X11_open_39 (nI (ld t (t 12 3))) (fun (u10 : St) (x11 : Int32) (x12 : Int32) => if p1 = 0 then some (x12, u10) else some (x11, u10))) FU v ((-6)) 0 0 = some (if p1 = 0 then (opS (hO t) (ld t (t 12 3))).2 else (opS (hO t) (ld t (t 12 3))).1, z) ∧ Kp u z := by
    refine mw_4 (P := fun i (z : St) (x y q : Int32) => q = nI i ∧ x = (opS (hO t) i).1 ∧ y = (opS (hO t) i).2 ∧ ∃ q, z = sI v 20 3 q) (Q := fun o => ∃ z, o = some (if p1 = 0 then (opS (hO t) (ld t (t 12 3))).2 else (opS (hO t) (ld t (t 12 3))).1, z) ∧ Kp u z) (ld t (t 12 3)) ?_ ?_ (FU_lt (by omega)) ⟨rfl, rfl, rfl, v.1 20 3, sI_id.symm⟩
    · rintro i z x y q hi ⟨rfl, rfl, rfl, q2, rfl⟩
      refine Or.inl ⟨sI v 20 3 (nI i), _, _, _, fun rec => ?_, ⟨rfl, rfl, rfl, _, rfl⟩⟩
      unfold B_X11_open_39
      rw [if_neg (nI_ge hi (by omega)), bsE, sI_sI, hCh i (by omega), b1E, nI_1]
      cases hh : hO t i
      · rw [if_pos (show bI false = 0 from rfl), opS_f hh]
      · rw [if_neg (show ¬ bI true = 0 by decide), opS_t hh]
        by_cases h9 : (opS (hO t) i).2 = 0
        · rw [if_pos h9, if_pos h9]
        · rw [if_neg h9, if_neg h9]
    · rintro z x y q ⟨rfl, rfl, rfl, q2, rfl⟩ rec
      unfold B_X11_open_39
      rw [if_pos (Int32.le_refl _)]
      refine ⟨sI v 20 3 q2, ?_, Kp_sI hA.1 (by omega)⟩
      by_cases h0 : p1 = 0
      · rw [if_pos h0]; exact if_pos h0
      · rw [if_neg h0]; exact if_neg h0
  have hRf : lq_4 (B_X12_open_61 (nI (ld t (t 12 3))) (fun (u12 : St) (x13 : Int32) (x14 : Int32) => bs (sL u12 0 21 0) (fun u15 : St => if p1 = 0 then some (x13, u15) else some (x14, u15)))) FU m 0 ((-6)) 0 = some (if p1 = 0 then (opS (hO t) (ld t (t 12 3))).2 else (opS (hO t) (ld t (t 12 3))).1, m) := by
    refine mw_4 (P := fun i (z : St) (y x q : Int32) => q = nI i ∧ x = (opS (hO t) i).1 ∧ y = (opS (hO t) i).2 ∧ ∃ q, z = sL m 0 21 q) (Q := fun o => o = some (if p1 = 0 then (opS (hO t) (ld t (t 12 3))).2 else (opS (hO t) (ld t (t 12 3))).1, m)) (ld t (t 12 3)) ?_ ?_ (FU_lt (by omega)) ⟨rfl, rfl, rfl, m.2 0 21, sL_id.symm⟩
    · rintro i z y x q hi ⟨rfl, rfl, rfl, q2, rfl⟩
      refine Or.inl ⟨sL m 0 21 ((1 : Int64) <<< (Int32.toInt64 (nI i) &&& 63)), _, _, _, fun rec => ?_, ⟨rfl, rfl, rfl, _, rfl⟩⟩
      unfold B_X12_open_61
      rw [if_neg (nI_ge hi (by omega)), bsE, sL_sL, hMh i (by omega), b1E, nI_1]
      cases hh : hO t i
      · rw [if_pos (show bI false = 0 from rfl), opS_f hh]
      · rw [if_neg (show ¬ bI true = 0 by decide), opS_t hh]
        by_cases h9 : (opS (hO t) i).2 = 0
        · rw [if_pos h9, if_pos h9]
        · rw [if_neg h9, if_neg h9]
    · rintro z y x q ⟨rfl, rfl, rfl, q2, rfl⟩ rec
      unfold B_X12_open_61
      rw [if_pos (Int32.le_refl _)]
      show bs (sL (sL m 0 21 q2) 0 21 0) _ = _
      rw [bsE, sL_sL, ← hd, sL_id]
      by_cases h0 : p1 = 0
      · rw [if_pos h0, if_pos h0]
      · rw [if_neg h0, if_neg h0]
  obtain ⟨z, e1, e2⟩ := hCl
  exact ⟨_, _, _, e1, hRf, Inv_keep hi0 e2 Km_rf⟩
