/-! ===== pouring: the class ===== -/
/-- a row filled from its beginning -/
def pS (v : St) (c : Nat) (f : Nat → Nat) : Nat → St
  | 0 => v
  | i + 1 => sI (pS v c f i) c i (nI (f i))
theorem pS_o {v : St} {c c2 : Nat} {f : Nat → Nat} (h : c2 ≠ c) {n : Nat} : (pS v c f n).1 c2 = v.1 c2 := by
  induction n with
  | zero => rfl
  | succ n ih => show (sI (pS v c f n) c n (nI (f n))).1 c2 = _; rw [sI_o h]; exact ih
theorem pS_2 {v : St} {c : Nat} {f : Nat → Nat} {n : Nat} : (pS v c f n).2 = v.2 := by
  induction n with
  | zero => rfl
  | succ n ih => exact ih
theorem pS_i {v : St} {c : Nat} {f : Nat → Nat} {n i : Nat} (h : i < n) : (pS v c f n).1 c i = nI (f i) := by
  induction n with
  | zero => omega
  | succ n ih =>
    show (sI (pS v c f n) c n (nI (f n))).1 c i = _
    rw [sI_s]
    by_cases h9 : i = n
    · subst h9; rw [pk_us]
    · rw [pk_un h9]; exact ih (by omega)
theorem lsu {u : St} {x : Int32} : f_X5_leastOf u x = f_X5_leastOf uz x := rfl
theorem lsm {u : St} {x : Int32} : f_X12_leastOf u x = f_X12_leastOf uz x := rfl
/-- the acids -/
def pA (t : Nat → Nat → Nat) (d b : Nat) : Nat := if t 5 4 / 2 ^ b % 2 = 1 then ac t (t 2 3) (lev t) (t 6 b) (t 8 b) d else 0
theorem pA_le {t : Nat → Nat → Nat} {d b : Nat} : pA t d b ≤ 99 := by
  unfold pA
  split
  · exact ac_le
  · omega
section PC
variable {u m v w z q : St} {t : Nat → Nat → Nat} {A : Nat → Nat} {d s a b : Nat}
theorem wiC (hU : UT v t 0) (hT : TK t) (hA : ∀ b, b < 8 → v.1 32 b = nI (A b) ∧ A b ≤ 99) (ha : a < 8) (hb : b < 8) (hta : bt t a) (htb : bt t b) : f_X5_wineOf v (nI a) (nI b) = some (nI (gv t A a b)) := by
  have ka := K_bar hT ha
  have kb := K_bar hT hb
  have sa := (K_there hT ha hta).2
  have sb := (K_there hT hb htb).2
  have ha9 := hA a ha
  have hb9 := hA b hb
  unfold f_X5_wineOf gv
  rw [ckiT ha (by decide)]
  by_cases e : a = b
  · subst e
    rw [if_pos rfl, if_pos rfl, ckiT ha (by decide), ixN (by omega), ha9.1, vgC hU hT (by omega), b1E, U_siz hU ha]
    by_cases h : t 16 0 ≤ A a
    · rw [if_pos h, if_pos h, if_neg n10]; rfl
    · rw [if_neg h, if_neg h, if_pos rfl]
  · have hm1 : t 7 a * A a ≤ 9 * 99 := Nat.mul_le_mul ka.2.1 ha9.2
    have hm2 : t 7 b * A b ≤ 9 * 99 := Nat.mul_le_mul kb.2.1 hb9.2
    have hdv : (t 7 a * A a + t 7 b * A b) / (t 7 a + t 7 b) ≤ t 7 a * A a + t 7 b * A b := Nat.div_le_self _ _
    rw [if_neg e, if_neg (fun h9 => e ((nI_eq (by omega) (by omega)).mp h9)), ckiT hb (by decide), bsE, ixN (k := a) (by omega), ixN (k := b) (by omega), U_siz hU ha, U_siz hU hb, nI_add, if_pos (show (1 : Int32) ≤ nI (t 7 a + t 7 b) from nI_le (a := 1) (by omega) (by omega)), ckiT ha (by decide), ckiT hb (by decide), ckiT hb (by decide), ckT (nI_ne0 (by omega) (by omega)), bsE, ha9.1, hb9.1, pk_mul, pk_mul, nI_add, pk_div (by omega) (by omega) (by omega), vgC hU hT (by omega), b1E]
    by_cases h : t 16 0 ≤ (t 7 a * A a + t 7 b * A b) / (t 7 a + t 7 b)
    · rw [if_pos h, if_pos h, if_neg n10]; rfl
    · rw [if_neg h, if_neg h, if_pos rfl, ckiT ha (by decide), ckiT hb (by decide), U_kin hU ha, U_kin hU hb]
      by_cases hk : t 9 a = t 9 b
      · rw [if_pos hk, if_pos (by rw [hk])]
      · rw [if_neg hk, if_neg (fun h9 => hk ((nI_eq (by omega) (by omega)).mp h9)), show nI (t 7 a + t 7 b) - (1 : Int32) = nI (t 7 a + t 7 b - 1) from pk_sub (a := t 7 a + t 7 b) (b := 1) (by omega)]
theorem wpP (hU : UT v t 0) (hT : TK t) (hA : ∀ b, b < 8 → v.1 32 b = nI (A b) ∧ A b ≤ 99) (hs : s < 256) (ha : a < 8) (hb : b < 8) (hta : bt t a) (htb : bt t b) (hf : v.1 33 (wo2 s a b) = nI (Mo t A (wo2 s a b))) : f_X5_withPartner v (nI s) (nI a) (nI b) = some (nI (gv t A a b + Mo t A (wo2 s a b))) := by
  have hw := wo_lt hs ha hb
  unfold f_X5_withPartner
  rw [m255 s hs, anB s hs a ha, anB _ (set_lt s hs a ha).2 b hb, bsE, wiC hU hT hA ha hb hta htb, b1E, show clrb (clrb s a) b = wo2 s a b from rfl, ckiT hw (by decide), ixN (by omega), hf, nI_add]
theorem gpl (hT : TK t) (hs : s < 256) (h0 : s ≠ 0) (hb : b < 8) : gp t A (Mo t A) s b ≤ 4608 := by
  by_cases hbit : s / 2 ^ b % 2 = 1
  · rw [gp_pos hbit]
    have h1 := gp_le (t := t) (A := A) hs h0 hb hbit
    have h2 := Mo_le (A := A) hT hs
    omega
  · rw [gp_neg hbit]; omega
theorem moC (hU : UT v t 0) (hT : TK t) (hA : ∀ b, b < 8 → v.1 32 b = nI (A b) ∧ A b ≤ 99) (hs : s < 256) (h0 : s ≠ 0) (hsb : sb (t 5 4) s) (hf : ∀ x, x < s → sb (t 5 4) x → v.1 33 x = nI (Mo t A x)) : f_X5_mostOf v (nI s) = some (nI (Mo t A s)) := by
  have hl := lb_a s hs h0
  have hT5 := K_the hT
  have hmx : ∀ n, n ≤ 8 → mxf (gp t A (Mo t A) s) n ≤ 4608 := fun n hn => mxf_le (fun i hi => gpl hT hs h0 (by omega))
  unfold f_X5_mostOf
  rw [lsu, ls_C s hs h0, b1E, jq1, Mo_s hs h0]
  refine mr_2 (fun i => nI (mxf (gp t A (Mo t A) s) (lb s + i))) (fun i => nI (lb s + i)) (8 - lb s) ?_ ?_ (FU_lt (by omega)) ?_ rfl
  · intro i hi rec
    have hb : lb s + i < 8 := by omega
    have h1 := gpl (A := A) hT hs h0 hb
    have h2 := hmx (lb s + i) (by omega)
    show B_X5_mostOf_11 (nI s) v (nI (lb s)) _ rec (nI (mxf (gp t A (Mo t A) s) (lb s + i))) (nI (lb s + i)) = rec (nI (max (mxf (gp t A (Mo t A) s) (lb s + i)) (gp t A (Mo t A) s (lb s + i)))) (nI (lb s + i + 1))
    unfold B_X5_mostOf_11
    rw [if_neg (nle_l (l := 8) 8 rfl hb (by decide)), hbit_ev (by omega) (by omega), b1E, nI_1]
    by_cases hbit : s / 2 ^ (lb s + i) % 2 = 1
    · rw [if_pos hbit, if_neg n10, wpP hU hT hA hs hl.1 hb (sb_bit hT5 hs hsb hl.2) (sb_bit hT5 hs hsb hbit) (hf _ (wo_a s hs h0 _ hb).1 (sb_wo hs hl.1 hb hsb)), b1E, ← gp_pos (f := Mo t A) hbit, mx_nI (by omega) (by omega)]
    · rw [if_neg hbit, if_pos rfl, gp_neg hbit, Nat.max_eq_left (Nat.zero_le _)]
  · intro rec
    show B_X5_mostOf_11 (nI s) v (nI (lb s)) _ rec (nI (mxf (gp t A (Mo t A) s) (lb s + (8 - lb s)))) (nI (lb s + (8 - lb s))) = _
    rw [show lb s + (8 - lb s) = 8 by omega]
    unfold B_X5_mostOf_11
    rw [if_pos (le_l (l := 8) 8 rfl (by omega) (by decide))]
  · show (0 : Int32) = nI (mxf (gp t A (Mo t A) s) (lb s))
    rw [mxf_zero (fun i hi => gp_neg (lb_b hs h0 hi))]; rfl
theorem acP (hT : TK t) (hA : AL v t (t 2 3) (lev t)) (hd : d < 2000) (K : St → Option (Int32 × St)) : lq_2 (B_X5_search_2 (nI d) K) FU v 0 = K (pS v 32 (pA t d) 8) := by
  refine mr_2 (pS v 32 (pA t d)) nI 8 ?_ ?_ (FU_lt (by decide)) rfl rfl
  · intro i hi rec
    have hAi : AL (pS v 32 (pA t d) i) t (t 2 3) (lev t) := AL_tr hA (fun c hc => pS_o (by omega))
    have e : f_X0_acidOf (pS v 32 (pA t d) i) (nI i) (nI d) = some (nI (pA t d i)) := by
      unfold pA
      by_cases hbt : t 5 4 / 2 ^ i % 2 = 1
      · rw [if_pos hbt]; exact aoL hT hAi hi hbt hd
      · rw [if_neg hbt]; exact aoN hAi.1 hT hi hbt
    unfold B_X5_search_2
    rw [if_neg (nle_l (l := 8) 8 rfl hi (by decide)), e, b1E, ckiT hi (by decide), ixN (by omega), bsE, nI_1]
    rfl
  · intro rec
    unfold B_X5_search_2
    rw [if_pos (le_l (l := 8) 8 rfl (by omega) (by decide))]
theorem seP (hT : TK t) (hA : AL v t (t 2 3) (lev t)) (hd : d < 2000) (h33 : v.1 33 0 = 0) : ∃ q, f_X5_search v (nI d) = some (nI (Mo t (pA t d) (t 5 4)), q) ∧ (∀ c, c ≠ 32 → c ≠ 33 → q.1 c = v.1 c) ∧ (∀ b, b < 8 → q.1 32 b = nI (pA t d b)) ∧ ∀ s, s < 256 → sb (t 5 4) s → q.1 33 s = nI (Mo t (pA t d) s) := by
  have hT5 := K_the hT
  unfold f_X5_search
  rw [jq1, acP hT hA hd, jq1]
  have zo : ∀ c, c ≠ 32 → (pS v 32 (pA t d) 8).1 c = v.1 c := fun c hc => pS_o hc
  have z32 : ∀ b, b < 8 → (pS v 32 (pA t d) 8).1 32 b = nI (pA t d b) := fun b hb => pS_i hb
  generalize pS v 32 (pA t d) 8 = z at zo z32
  refine mw_2 (P := fun i (q : St) (y : Int32) => y = nI (i + 1) ∧ (∀ c, c ≠ 33 → q.1 c = z.1 c) ∧ ∀ s, s ≤ i → sb (t 5 4) s → q.1 33 s = nI (Mo t (pA t d) s)) (Q := fun o => ∃ q : St, o = some (nI (Mo t (pA t d) (t 5 4)), q) ∧ (∀ c, c ≠ 32 → c ≠ 33 → q.1 c = v.1 c) ∧ (∀ b, b < 8 → q.1 32 b = nI (pA t d b)) ∧ ∀ s, s < 256 → sb (t 5 4) s → q.1 33 s = nI (Mo t (pA t d) s)) 255 ?_ ?_ (FU_lt (by decide)) ⟨rfl, fun _ _ => rfl, fun s hs _ => ?_⟩
  · rintro i q y hi ⟨rfl, h1, h2⟩
    have hUq : UT q t 0 := UT_congr hA.1 (fun c hc => by rw [h1 c (by omega), zo c (by omega)]) (fun _ _ => rfl)
    have hq32 : ∀ b, b < 8 → q.1 32 b = nI (pA t d b) ∧ pA t d b ≤ 99 := fun b hb => ⟨by rw [h1 32 (by omega)]; exact z32 b hb, pA_le⟩
    have n255 : ¬ (255 : Int32) < nI (i + 1) := nI_nlt (a := 255) (by omega) (by decide)
    by_cases hsb : sb (t 5 4) (i + 1)
    · refine Or.inl ⟨sI q 33 (i + 1) (nI (Mo t (pA t d) (i + 1))), nI (i + 1 + 1), fun rec => ?_, rfl, fun c hc => by rw [sI_o hc]; exact h1 c hc, fun s hs hs2 => ?_⟩
      · unfold B_X5_search_31 f_X7_hasAll
        rw [if_neg n255, U_the hUq, if_pos (show nI (i + 1) &&& (nI (t 5 4) ^^^ (-1 : Int32)) = 0 from hsb), b1E, if_neg n10, moC hUq hT hq32 (by omega) (by omega) hsb (fun x hx hx2 => h2 x (by omega) hx2), b1E, ckiT (show i + 1 < 256 by omega) (by decide), ixN (by omega), bsE, nI_1]
      · rw [sI_s]
        by_cases e : s = i + 1
        · subst e; rw [pk_us]
        · rw [pk_un e]; exact h2 s (by omega) hs2
    · refine Or.inl ⟨q, nI (i + 1 + 1), fun rec => ?_, rfl, h1, fun s hs hs2 => ?_⟩
      · unfold B_X5_search_31 f_X7_hasAll
        rw [if_neg n255, U_the hUq, if_neg (show ¬ nI (i + 1) &&& (nI (t 5 4) ^^^ (-1 : Int32)) = 0 from hsb), b1E, if_pos rfl, nI_1]
      · by_cases e : s = i + 1
        · subst e; exact absurd hs2 hsb
        · exact h2 s (by omega) hs2
  · rintro q y ⟨rfl, h1, h2⟩ rec
    have hUq : UT q t 0 := UT_congr hA.1 (fun c hc => by rw [h1 c (by omega), zo c (by omega)]) (fun _ _ => rfl)
    unfold B_X5_search_31
    rw [if_pos (show (255 : Int32) < nI (255 + 1) by decide)]
    refine ⟨q, ?_, fun c h32 h33 => by rw [h1 c h33, zo c h32], fun b hb => by rw [h1 32 (by omega)]; exact z32 b hb, fun s hs hs2 => h2 s (by omega) hs2⟩
    show cki (q.1 5 4 &&& 255) 256 (some (q.1 33 (ix (q.1 5 4 &&& 255)), q)) = _
    rw [U_the hUq, m255 _ hT5, ckiT hT5 (by decide), ixN (by omega), h2 _ (by omega) (sb_T _ hT5)]
  · have : s = 0 := by omega
    subst this
    rw [zo 33 (by omega), h33, Mo_0]; rfl
theorem fpP (hU : UT q t 0) (hT : TK t) (hA : ∀ b, b < 8 → q.1 32 b = nI (A b) ∧ A b ≤ 99) (hs : s < 256) (h0 : s ≠ 0) (hsb : sb (t 5 4) s) (hf : ∀ x, x < 256 → sb (t 5 4) x → q.1 33 x = nI (Mo t A x)) : f_X5_firstPartner q (nI s) (nI (lb s)) = some (nI (pf t A s)) := by
  have hl := lb_a s hs h0
  have hT5 := K_the hT
  unfold f_X5_firstPartner
  rw [jq0]
  refine mw_1 (P := fun i x => x = nI (lb s + i) ∧ ∀ j, j < lb s + i → pfP t A s j = false) (Q := fun o => o = some (nI (pf t A s))) (8 - lb s) ?_ ?_ (FU_lt (by omega)) ⟨rfl, fun j hj => ?_⟩
  · rintro i x hi ⟨rfl, hn⟩
    have hb : lb s + i < 8 := by omega
    have hE : ∀ rec, B_X5_firstPartner_2 (nI s) (nI (lb s)) q (some (nI (lb s))) rec (nI (lb s + i)) = if pfP t A s (lb s + i) = true then some (nI (lb s + i)) else rec (nI (lb s + (i + 1))) := by
      intro rec
      unfold B_X5_firstPartner_2 pfP
      rw [if_neg (nle_l (l := 8) 8 rfl hb (by decide)), hbit_ev (by omega) (by omega), b1E, nI_1]
      by_cases hbit : s / 2 ^ (lb s + i) % 2 = 1
      · have hw := wo_a s hs h0 _ hb
        have h1 := gp_le (t := t) (A := A) hs h0 hb hbit
        have h2 := Mo_le (A := A) hT hs
        rw [if_pos hbit, if_neg n10, wpP hU hT hA hs hl.1 hb (sb_bit hT5 hs hsb hl.2) (sb_bit hT5 hs hsb hbit) (hf _ (by omega) (sb_wo hs hl.1 hb hsb)), b1E, ckiT hs (by decide), ixN (by omega), hf s hs hsb, decide_eq_true hbit, Bool.true_and]
        by_cases hle : Mo t A s ≤ gv t A (lb s) (lb s + i) + Mo t A (wo2 s (lb s) (lb s + i))
        · rw [decide_eq_true hle, if_pos rfl, if_pos ((nI_eq (by omega) (by omega)).mpr (by omega))]
        · rw [decide_eq_false hle, if_neg (show ¬ false = true by decide), if_neg (fun h9 => hle (Nat.le_of_eq ((nI_eq (by omega) (by omega)).mp h9).symm))]
          rfl
      · rw [if_neg hbit, if_pos rfl, decide_eq_false hbit, Bool.false_and, if_neg (show ¬ false = true by decide)]
        rfl
    by_cases hp : pfP t A s (lb s + i) = true
    · refine Or.inr fun rec => ?_
      rw [hE, if_pos hp]
      unfold pf
      rw [fs_hit hb hp hn]
    · refine Or.inl ⟨_, fun rec => by rw [hE, if_neg hp], rfl, fun j hj => ?_⟩
      by_cases h9 : j = lb s + i
      · subst h9; exact Bool.eq_false_iff.mpr hp
      · exact hn j (by omega)
  · rintro x ⟨rfl, hn⟩ rec
    have h1 := pf_lt (t := t) (A := A) hs h0
    unfold pf at h1
    rw [fs_none (fun j hj => hn j (by omega))] at h1
    omega
  · unfold pfP
    rw [decide_eq_false (lb_b hs h0 hj), Bool.false_and]
theorem poP (hU : UT q t 0) (hT : TK t) (hA : ∀ b, b < 8 → q.1 32 b = nI (A b) ∧ A b ≤ 99) (hf : ∀ x, x < 256 → sb (t 5 4) x → q.1 33 x = nI (Mo t A x)) (hb : b < 8) : f_X5_partnerOf q (nI b) = some (nI (PT t A 8 (t 5 4) b)) := by
  have hT5 := K_the hT
  unfold f_X5_partnerOf
  rw [jq0, U_the hU, m255 _ hT5]
  refine mw_2 (P := fun k (x y : Int32) => y = nI k ∧ ∃ s, x = nI s ∧ s < 256 ∧ sb (t 5 4) s ∧ PT t A (8 - k) s b = PT t A 8 (t 5 4) b) (Q := fun o => o = some (nI (PT t A 8 (t 5 4) b))) 8 ?_ ?_ (FU_lt (by decide)) ⟨rfl, _, rfl, hT5, sb_T _ hT5, rfl⟩
  · rintro k x y hk ⟨rfl, s, rfl, hs, hsb, hP⟩
    obtain ⟨j, hj⟩ : ∃ j, 8 - k = j + 1 := ⟨7 - k, by omega⟩
    rw [hj] at hP
    by_cases h0 : s = 0
    · refine Or.inr fun rec => ?_
      subst h0
      unfold B_X5_partnerOf_17
      rw [if_neg (nle_l (l := 8) 8 rfl hk (by decide)), if_pos (show nI 0 = (0 : Int32) from rfl), ← hP]
      rfl
    have hl := lb_a s hs h0
    have hp := pf_lt (t := t) (A := A) hs h0
    have hP2 : PT t A (j + 1) s b = if lb s = b then pf t A s else if pf t A s = b then lb s else PT t A j (wo2 s (lb s) (pf t A s)) b := if_neg h0
    have hE : ∀ rec, B_X5_partnerOf_17 (nI b) q (some (nI b)) rec (nI s) (nI k) = if nI (lb s) = nI b then some (nI (pf t A s)) else if nI (pf t A s) = nI b then some (nI (lb s)) else rec (nI (wo2 s (lb s) (pf t A s))) (nI (k + 1)) := by
      intro rec
      unfold B_X5_partnerOf_17
      rw [if_neg (nle_l (l := 8) 8 rfl hk (by decide)), if_neg (nI_ne0 (by omega) (by omega)), lsu, ls_C s hs h0, b1E, fpP hU hT hA hs h0 hsb hf, b1E, anB s hs _ hl.1, anB _ (set_lt s hs _ hl.1).2 _ hp, bsE, nI_1]
      rfl
    by_cases h1 : lb s = b
    · refine Or.inr fun rec => ?_
      rw [hE, if_pos (by rw [h1]), ← hP, hP2, if_pos h1]
    by_cases h2 : pf t A s = b
    · refine Or.inr fun rec => ?_
      rw [hE, if_neg (fun h9 => h1 ((nI_eq (by omega) (by omega)).mp h9)), if_pos (by rw [h2]), ← hP, hP2, if_neg h1, if_pos h2]
    refine Or.inl ⟨_, _, fun rec => by rw [hE, if_neg (fun h9 => h1 ((nI_eq (by omega) (by omega)).mp h9)), if_neg (fun h9 => h2 ((nI_eq (by omega) (by omega)).mp h9))], rfl, _, rfl, wo_lt hs hl.1 hp, sb_wo hs hl.1 hp hsb, ?_⟩
    rw [← hP, hP2, if_neg h1, if_neg h2, show 8 - (k + 1) = j by omega]
  · rintro x y ⟨rfl, s, rfl, hs, hsb, hP⟩ rec
    unfold B_X5_partnerOf_17
    rw [if_pos (le_l (l := 8) 8 rfl (by omega) (by decide)), ← hP]
    rfl
end PC
