/-! ===== pouring: the reference ===== -/
section PM
variable {u m v w z q : St} {t : Nat → Nat → Nat} {A : Nat → Nat} {d s a b : Nat}
theorem giM (hM : MT w t) (hT : TK t) (hA : ∀ b, b < 8 → w.1 18 b = nI (A b) ∧ A b ≤ 99) (ha : a < 8) (hb : b < 8) (hta : bt t a) (htb : bt t b) : f_X12_given w (nI a) (nI b) = some (nI (gv t A a b)) := by
  have ka := K_bar hT ha
  have kb := K_bar hT hb
  have sa := (K_there hT ha hta).2
  have sb := (K_there hT hb htb).2
  have h0 := (K_set hT).2.2 0 (by omega)
  have ha9 := hA a ha
  have hb9 := hA b hb
  unfold f_X12_given gv
  by_cases e : a = b
  · subst e
    rw [if_pos rfl, if_pos rfl, ckiT ha (by decide), ixN (by omega), ha9.1, M_sour hM]
    by_cases h : t 16 0 ≤ A a
    · rw [if_pos h, if_neg (nI_nlt h (by omega))]; rfl
    · rw [if_neg h, if_pos (nI_lt (by omega) (by omega)), ckiT ha (by decide), M_siz hM ha]
  · have hm1 : t 7 a * A a ≤ 9 * 99 := Nat.mul_le_mul ka.2.1 ha9.2
    have hm2 : t 7 b * A b ≤ 9 * 99 := Nat.mul_le_mul kb.2.1 hb9.2
    have hdv : (t 7 a * A a + t 7 b * A b) / (t 7 a + t 7 b) ≤ t 7 a * A a + t 7 b * A b := Nat.div_le_self _ _
    rw [if_neg e, if_neg (fun h9 => e ((nI_eq (by omega) (by omega)).mp h9)), ckiT ha (by decide), ckiT hb (by decide), bsE, ixN (k := a) (by omega), ixN (k := b) (by omega), M_siz hM ha, M_siz hM hb, nI_add, ckiT ha (by decide), ckiT ha (by decide), ckiT hb (by decide), ckiT hb (by decide), ckT (nI_ne0 (by omega) (by omega)), bsE, ha9.1, hb9.1, pk_mul, pk_mul, nI_add, pk_div (by omega) (by omega) (by omega), M_sour hM]
    by_cases h : t 16 0 ≤ (t 7 a * A a + t 7 b * A b) / (t 7 a + t 7 b)
    · rw [if_pos h, if_neg (nI_nlt h (by omega))]; rfl
    · rw [if_neg h, if_pos (nI_lt (by omega) (by omega)), ckiT ha (by decide), ckiT hb (by decide), M_kin hM ha, M_kin hM hb]
      by_cases hk : t 9 a = t 9 b
      · rw [if_pos hk, if_pos (by rw [hk]), show nI (t 7 a + t 7 b) - (0 : Int32) = nI (t 7 a + t 7 b) from pk_sub (a := t 7 a + t 7 b) (b := 0) (Nat.zero_le _)]
      · rw [if_neg hk, if_neg (fun h9 => hk ((nI_eq (by omega) (by omega)).mp h9)), show nI (t 7 a + t 7 b) - (1 : Int32) = nI (t 7 a + t 7 b - 1) from pk_sub (a := t 7 a + t 7 b) (b := 1) (by omega)]
theorem woM (hs : s < 256) (ha : a < 8) (hb : b < 8) : f_X12_without w (nI s) (nI a) (nI b) = some (nI (wo2 s a b)) := by
  unfold f_X12_without
  rw [anB s hs a ha, anB _ (set_lt s hs a ha).2 b hb]; rfl
theorem inM (hM : MT w t) (hT : TK t) (hA : ∀ b, b < 8 → w.1 18 b = nI (A b) ∧ A b ≤ 99) (hs : s < 256) (h0 : s ≠ 0) (hsb : sb (t 5 4) s) (hf : ∀ x, x < s → sb (t 5 4) x → w.1 17 x = nI (Mo t A x)) (K : St → Option St) : lq_2 (B_X12_findMost_30 (nI s) (nI (lb s)) K) FU (sI w 17 s 0) (nI (lb s)) = K (sI w 17 s (nI (Mo t A s))) := by
  have hl := lb_a s hs h0
  have hT5 := K_the hT
  have hmx : ∀ n, n ≤ 8 → mxf (gp t A (Mo t A) s) n ≤ 4608 := fun n hn => mxf_le (fun i hi => gpl hT hs h0 (by omega))
  rw [Mo_s hs h0]
  refine mr_2 (fun i => sI w 17 s (nI (mxf (gp t A (Mo t A) s) (lb s + i)))) (fun i => nI (lb s + i)) (8 - lb s) ?_ ?_ (FU_lt (by omega)) ?_ rfl
  · intro i hi rec
    have hb : lb s + i < 8 := by omega
    have h1 := gpl (A := A) hT hs h0 hb
    have h2 := hmx (lb s + i) (by omega)
    show B_X12_findMost_30 (nI s) (nI (lb s)) K rec (sI w 17 s (nI (mxf (gp t A (Mo t A) s) (lb s + i)))) (nI (lb s + i)) = rec (sI w 17 s (nI (max (mxf (gp t A (Mo t A) s) (lb s + i)) (gp t A (Mo t A) s (lb s + i))))) (nI (lb s + i + 1))
    generalize mxf (gp t A (Mo t A) s) (lb s + i) = X at h2
    have hMq : MT (sI w 17 s (nI X)) t := MT_congr hM (fun c _ _ => sI_o (by omega)) (fun k _ => by rw [sI_o (by omega)]) (fun _ _ => rfl)
    have hAq : ∀ b, b < 8 → (sI w 17 s (nI X)).1 18 b = nI (A b) ∧ A b ≤ 99 := fun b hb => by rw [sI_o (by omega)]; exact hA b hb
    have hK : ∀ G, G ≤ 4608 → cki (nI s) 256 (if nI G ≤ (sI w 17 s (nI X)).1 17 (ix (nI s)) then cki (nI s) 256 (cki (nI s) 256 (bs (sI (sI w 17 s (nI X)) 17 (ix (nI s)) ((sI w 17 s (nI X)).1 17 (ix (nI s)))) (fun u20 : St => rec u20 (nI (lb s + i) + 1)))) else cki (nI s) 256 (bs (sI (sI w 17 s (nI X)) 17 (ix (nI s)) (nI G)) (fun u21 : St => rec u21 (nI (lb s + i) + 1)))) = rec (sI w 17 s (nI (max X G))) (nI (lb s + i + 1)) := by
      intro G hG
      rw [ckiT hs (by decide), ixN (by omega), sI_s, pk_us, nI_1]
      by_cases hle : G ≤ X
      · rw [if_pos (nI_le hle (by omega)), ckiT hs (by decide), ckiT hs (by decide), bsE, sI_sI, Nat.max_eq_left hle]
      · rw [if_neg (nI_ge (by omega) (by omega)), ckiT hs (by decide), bsE, sI_sI, Nat.max_eq_right (by omega)]
    unfold B_X12_findMost_30
    rw [if_neg (nle_l (l := 8) 8 rfl hb (by decide)), M_the hMq, if_pos (show nI s &&& (nI (t 5 4) ^^^ (-1 : Int32)) = 0 from hsb), jq1, bitN (by omega) (by omega)]
    by_cases hbit : s / 2 ^ (lb s + i) % 2 = 1
    · have hw := wo_a s hs h0 _ hb
      rw [hbit, if_pos (show nI 1 = (1 : Int32) from rfl), giM hMq hT hAq hl.1 hb (sb_bit hT5 hs hsb hl.2) (sb_bit hT5 hs hsb hbit), b1E, woM hs hl.1 hb, b1E, ckiT (wo_lt hs hl.1 hb) (by decide), ixN (k := wo2 s (lb s) (lb s + i)) (by omega)]
      rw [show (sI w 17 s (nI X)).1 17 (wo2 s (lb s) (lb s + i)) = nI (Mo t A (wo2 s (lb s) (lb s + i))) by rw [sI_s, pk_un (by omega)]; exact hf _ hw.1 (sb_wo hs hl.1 hb hsb), nI_add, ← gp_pos (f := Mo t A) hbit]
      exact hK _ h1
    · rw [show s / 2 ^ (lb s + i) % 2 = 0 by omega, if_neg (show ¬ nI 0 = (1 : Int32) by decide), gp_neg hbit]
      exact hK 0 (by omega)
  · intro rec
    show B_X12_findMost_30 (nI s) (nI (lb s)) K rec (sI w 17 s (nI (mxf (gp t A (Mo t A) s) (lb s + (8 - lb s))))) (nI (lb s + (8 - lb s))) = _
    rw [show lb s + (8 - lb s) = 8 by omega]
    unfold B_X12_findMost_30
    rw [if_pos (le_l (l := 8) 8 rfl (by omega) (by decide))]
  · show sI w 17 s 0 = sI w 17 s (nI (mxf (gp t A (Mo t A) s) (lb s)))
    rw [mxf_zero (fun i hi => gp_neg (lb_b hs h0 hi))]; rfl
theorem moM (hM : MT m t) (hT : TK t) (hk : Km m w) (hA : ∀ b, b < 8 → w.1 18 b = nI (A b) ∧ A b ≤ 99) : ∃ q, f_X12_findMost w = some q ∧ Km m q ∧ q.1 18 = w.1 18 ∧ ∀ s, s < 256 → sb (t 5 4) s → q.1 17 s = nI (Mo t A s) := by
  have hT5 := K_the hT
  unfold f_X12_findMost
  rw [ckiT' (i := 0) (k := 0) rfl (by omega) (by decide), show ix 0 = 0 from rfl, bsE, jq1]
  refine mw_2 (P := fun i (q : St) (y : Int32) => y = nI (i + 1) ∧ Km m q ∧ q.1 18 = w.1 18 ∧ ∀ s, s ≤ i → sb (t 5 4) s → q.1 17 s = nI (Mo t A s)) (Q := fun o => ∃ q : St, o = some q ∧ Km m q ∧ q.1 18 = w.1 18 ∧ ∀ s, s < 256 → sb (t 5 4) s → q.1 17 s = nI (Mo t A s)) 255 ?_ ?_ (FU_lt (by decide)) ⟨rfl, Km_sI hk (by omega), sI_o (by omega), fun s hs _ => ?_⟩
  · rintro i q y hi ⟨rfl, h1, h18, h2⟩
    have hMq : MT q t := MT_km hM h1
    have hAq : ∀ b, b < 8 → q.1 18 b = nI (A b) ∧ A b ≤ 99 := fun b hb => by rw [h18]; exact hA b hb
    have pre : ∀ rec, B_X12_findMost_9 (fun (u5 : St) => some u5) rec q (nI (i + 1)) = lq_2 (B_X12_findMost_30 (nI (i + 1)) (nI (lb (i + 1))) (fun (u13 : St) => rec u13 (nI (i + 1 + 1)))) FU (sI q 17 (i + 1) 0) (nI (lb (i + 1))) := by
      intro rec
      unfold B_X12_findMost_9
      rw [if_neg (nle_l (l := 256) 256 rfl (show i + 1 < 256 by omega) (by decide)), ckiT (show i + 1 < 256 by omega) (by decide), ixN (by omega), bsE, lsm, ls_M (i + 1) (by omega) (by omega), b1E, jq1, nI_1]
    by_cases hsb : sb (t 5 4) (i + 1)
    · refine Or.inl ⟨sI q 17 (i + 1) (nI (Mo t A (i + 1))), nI (i + 1 + 1), fun rec => ?_, rfl, Km_sI h1 (by omega), by rw [sI_o (by omega)]; exact h18, fun s hs hs2 => ?_⟩
      · rw [pre, inM hMq hT hAq (by omega) (by omega) hsb (fun x hx hx2 => h2 x (by omega) hx2)]
      · rw [sI_s]
        by_cases e : s = i + 1
        · subst e; rw [pk_us]
        · rw [pk_un e]; exact h2 s (by omega) hs2
    · refine Or.inl ⟨sI q 17 (i + 1) 0, nI (i + 1 + 1), fun rec => ?_, rfl, Km_sI h1 (by omega), by rw [sI_o (by omega)]; exact h18, fun s hs hs2 => ?_⟩
      · rw [pre]
        have hl := lb_a (i + 1) (by omega) (by omega)
        refine mr_2 (fun _ => sI q 17 (i + 1) 0) (fun _ => nI (lb (i + 1))) 0 (fun i hi => absurd hi (by omega)) (fun rec2 => ?_) (FU_lt (by decide)) rfl rfl
        unfold B_X12_findMost_30
        rw [if_neg (nle_l (l := 8) 8 rfl hl.1 (by decide)), show (sI q 17 (i + 1) 0).1 0 4 = nI (t 5 4) by rw [sI_o (by omega)]; exact M_the hMq, if_neg (show ¬ nI (i + 1) &&& (nI (t 5 4) ^^^ (-1 : Int32)) = 0 from hsb)]
      · rw [sI_s]
        by_cases e : s = i + 1
        · subst e; exact absurd hs2 hsb
        · rw [pk_un e]; exact h2 s (by omega) hs2
  · rintro q y ⟨rfl, h1, h18, h2⟩ rec
    unfold B_X12_findMost_9
    rw [if_pos (show (256 : Int32) ≤ nI (255 + 1) by decide)]
    exact ⟨q, rfl, h1, h18, fun s hs hs2 => h2 s (by omega) hs2⟩
  · have : s = 0 := by omega
    subst this
    rw [sI_s, pk_us, Mo_0]; rfl
theorem fiM (hM : MT w t) (hT : TK t) (hA : ∀ b, b < 8 → w.1 18 b = nI (A b) ∧ A b ≤ 99) (hs : s < 256) (h0 : s ≠ 0) (hsb : sb (t 5 4) s) (hf : ∀ x, x < 256 → sb (t 5 4) x → w.1 17 x = nI (Mo t A x)) (K : Int32 → Option St) : lq_1 (B_X12_findPartners_16 w (nI s) (nI (lb s)) K) FU (nI (lb s)) = K (nI (pf t A s)) := by
  have hl := lb_a s hs h0
  have hT5 := K_the hT
  refine mw_1 (P := fun i x => x = nI (lb s + i) ∧ ∀ j, j < lb s + i → pfP t A s j = false) (Q := fun o => o = K (nI (pf t A s))) (8 - lb s) ?_ ?_ (FU_lt (by omega)) ⟨rfl, fun j hj => ?_⟩
  · rintro i x hi ⟨rfl, hn⟩
    have hb : lb s + i < 8 := by omega
    have hE : ∀ rec, B_X12_findPartners_16 w (nI s) (nI (lb s)) K rec (nI (lb s + i)) = if pfP t A s (lb s + i) = true then K (nI (lb s + i)) else rec (nI (lb s + (i + 1))) := by
      intro rec
      unfold B_X12_findPartners_16 pfP
      rw [bitN (by omega) (by omega), nI_1]
      by_cases hbit : s / 2 ^ (lb s + i) % 2 = 1
      · have hw := wo_a s hs h0 _ hb
        have h1 := gp_le (t := t) (A := A) hs h0 hb hbit
        have h2 := Mo_le (A := A) hT hs
        rw [decide_eq_true hbit, Bool.true_and, hbit, if_neg (show ¬ nI 1 = (0 : Int32) by decide), giM hM hT hA hl.1 hb (sb_bit hT5 hs hsb hl.2) (sb_bit hT5 hs hsb hbit), b1E, woM hs hl.1 hb, b1E, ckiT (wo_lt hs hl.1 hb) (by decide), ckiT hs (by decide), ixN (k := s) (by omega), ixN (by omega), hf s hs hsb, hf _ (by omega) (sb_wo hs hl.1 hb hsb), nI_add]
        by_cases hle : Mo t A s ≤ gv t A (lb s) (lb s + i) + Mo t A (wo2 s (lb s) (lb s + i))
        · rw [decide_eq_true hle, if_pos rfl, if_pos (nI_le hle (by omega))]
        · rw [decide_eq_false hle, if_neg (show ¬ false = true by decide), if_neg (nI_ge (by omega) (by omega))]
          rfl
      · rw [decide_eq_false hbit, Bool.false_and, show s / 2 ^ (lb s + i) % 2 = 0 by omega, if_pos (show nI 0 = (0 : Int32) from rfl), if_neg (show ¬ false = true by decide)]
        rfl
    by_cases hp : pfP t A s (lb s + i) = true
    · refine Or.inr fun rec => ?_
      rw [hE, if_pos hp]
      unfold pf
      rw [fs_hit hb hp hn]
    · refine Or.inl ⟨_, fun rec => by rw [hE, if_neg hp], rfl, fun j hj => ?_⟩
      by_cases h9 : j = lb s + i
      · subst h9; exact Bool.eq_false_iff.mpr hp
      · exact hn j (by omega)
  · rintro x ⟨rfl, hn⟩ rec
    have h1 := pf_lt (t := t) (A := A) hs h0
    unfold pf at h1
    rw [fs_none (fun j hj => hn j (by omega))] at h1
    omega
  · unfold pfP
    rw [decide_eq_false (lb_b hs h0 hj), Bool.false_and]
theorem paM (hM : MT m t) (hT : TK t) (hk : Km m w) (hA : ∀ b, b < 8 → w.1 18 b = nI (A b) ∧ A b ≤ 99) (hf : ∀ x, x < 256 → sb (t 5 4) x → w.1 17 x = nI (Mo t A x)) : ∃ q, f_X12_findPartners w = some q ∧ Km m q ∧ q.1 17 = w.1 17 ∧ ∀ b, b < 8 → bt t b → q.1 16 b = nI (PT t A 8 (t 5 4) b) := by
  have hT5 := K_the hT
  unfold f_X12_findPartners
  rw [jq1, M_the (MT_km hM hk)]
  refine mw_2 (P := fun k (q : St) (x : Int32) => Km m q ∧ q.1 17 = w.1 17 ∧ q.1 18 = w.1 18 ∧ ∃ s, x = nI s ∧ s < 256 ∧ sb (t 5 4) s ∧ cqs s 8 ≤ 8 - k ∧ ∀ b, b < 8 → bt t b → (s / 2 ^ b % 2 = 1 → PT t A (8 - k) s b = PT t A 8 (t 5 4) b) ∧ (¬ s / 2 ^ b % 2 = 1 → q.1 16 b = nI (PT t A 8 (t 5 4) b))) (Q := fun o => ∃ q : St, o = some q ∧ Km m q ∧ q.1 17 = w.1 17 ∧ ∀ b, b < 8 → bt t b → q.1 16 b = nI (PT t A 8 (t 5 4) b)) 8 ?_ ?_ (FU_lt (by decide)) ⟨hk, rfl, rfl, _, rfl, hT5, sb_T _ hT5, cqs_le, fun b hb hbt => ⟨fun _ => rfl, fun h => absurd hbt h⟩⟩
  · rintro k q x hk8 ⟨h1, h17, h18, s, rfl, hs, hsb, hc, hP⟩
    by_cases h0 : s = 0
    · refine Or.inr fun rec => ?_
      subst h0
      unfold B_X12_findPartners_5
      rw [if_pos (show nI 0 = (0 : Int32) from rfl)]
      refine ⟨q, rfl, h1, h17, fun b hb hbt => (hP b hb hbt).2 ?_⟩
      rw [Nat.zero_div]; omega
    have hl := lb_a s hs h0
    have hp := pf_lt (t := t) (A := A) hs h0
    have hpb := pf_bit (t := t) (A := A) hs h0
    have hMq : MT q t := MT_km hM h1
    have hAq : ∀ b, b < 8 → q.1 18 b = nI (A b) ∧ A b ≤ 99 := fun b hb => by rw [h18]; exact hA b hb
    have hfq : ∀ x, x < 256 → sb (t 5 4) x → q.1 17 x = nI (Mo t A x) := fun x hx hx2 => by rw [h17]; exact hf x hx hx2
    have hwc := wo_a s hs h0 _ hp
    obtain ⟨j, hj⟩ : ∃ j, 8 - k = j + 1 := ⟨7 - k, by omega⟩
    have hP2 : ∀ b, PT t A (j + 1) s b = if lb s = b then pf t A s else if pf t A s = b then lb s else PT t A j (wo2 s (lb s) (pf t A s)) b := fun b => if_neg h0
    refine Or.inl ⟨sI (sI q 16 (lb s) (nI (pf t A s))) 16 (pf t A s) (nI (lb s)), nI (wo2 s (lb s) (pf t A s)), fun rec => ?_, Km_sI (Km_sI h1 (by omega)) (by omega), by rw [sI_o (by omega), sI_o (by omega)]; exact h17, by rw [sI_o (by omega), sI_o (by omega)]; exact h18, _, rfl, wo_lt hs hl.1 hp, sb_wo hs hl.1 hp hsb, by omega, fun b hb hbt => ?_⟩
    · unfold B_X12_findPartners_5
      rw [if_neg (nI_ne0 (by omega) (by omega)), lsm, ls_M s hs h0, b1E, jq1, fiM hMq hT hAq hs h0 hsb hfq, ckiT hl.1 (by decide), ixN (k := lb s) (by omega), bsE, ckiT hp (by decide), ixN (by omega), bsE, woM hs hl.1 hp, b1E]
    · have hPb := hP b hb hbt
      rw [show 8 - (k + 1) = j by omega, wo_bit hs hl.1 hp hb]
      rw [hj, hP2] at hPb
      refine ⟨fun h9 => ?_, fun h9 => ?_⟩
      · have := hPb.1 h9.1
        rw [if_neg (fun e => h9.2.1 e.symm), if_neg (fun e => h9.2.2 e.symm)] at this
        exact this
      · rw [sI_s]
        by_cases e2 : b = pf t A s
        · rw [e2, pk_us]
          have h8 := hPb.1 (by rw [e2]; exact hpb)
          by_cases e1 : lb s = b
          · rw [if_pos e1] at h8
            rw [← e2, ← h8]; rw [e1]; exact congrArg nI e2
          · rw [if_neg e1, if_pos e2.symm] at h8
            rw [← e2, ← h8]
        · rw [pk_un e2, sI_s]
          by_cases e1 : b = lb s
          · rw [e1, pk_us]
            have h8 := hPb.1 (by rw [e1]; exact hl.2)
            rw [if_pos e1.symm] at h8
            rw [← e1, ← h8]
          · rw [pk_un e1]
            exact hPb.2 (fun h7 => h9 ⟨h7, e1, e2⟩)
  · rintro q x ⟨h1, h17, h18, s, rfl, hs, hsb, hc, hP⟩ rec
    have h0 := cqs_z s hs (by omega)
    subst h0
    unfold B_X12_findPartners_5
    rw [if_pos (show nI 0 = (0 : Int32) from rfl)]
    refine ⟨q, rfl, h1, h17, fun b hb hbt => (hP b hb hbt).2 ?_⟩
    rw [Nat.zero_div]; omega
theorem acQ (hM : MT m t) (hT : TK t) (hd0 : m.2 0 21 = 0) (hr0 : m.1 0 22 = 0) (hd : d < 2000) (K : St → Option (Int32 × St)) : lq_2 (B_X12_poured_27 (nI d) K) FU m 0 = K (pS m 18 (pA t d) 8) := by
  refine mr_2 (pS m 18 (pA t d)) nI 8 ?_ ?_ (FU_lt (by decide)) rfl rfl
  · intro i hi rec
    have hMi : MT (pS m 18 (pA t d) i) t := MT_congr hM (fun c _ _ => pS_o (by omega)) (fun k _ => by rw [pS_o (by omega)]) (fun _ _ => rfl)
    have hLi : LM (pS m 18 (pA t d) i) (lev t) := LM_is hMi hT (by rw [pS_2]; exact hd0) (by rw [pS_o (by omega)]; exact hr0)
    show B_X12_poured_27 (nI d) K rec (pS m 18 (pA t d) i) (nI i) = rec (sI (pS m 18 (pA t d) i) 18 i (nI (pA t d i))) (nI (i + 1))
    unfold B_X12_poured_27
    rw [if_neg (nle_l (l := 8) 8 rfl hi (by decide)), nI_1]
    by_cases hbt : bt t i
    · rw [ibY hMi hT hi hbt, b1E, if_neg n10, abM hMi hT hLi hi (by omega), b1E, ckiT hi (by decide), ixN (by omega), bsE, show pA t d i = ac t (t 2 3) (lev t) (t 6 i) (t 8 i) d from if_pos hbt]
    · rw [ibF hMi hT hi hbt, b1E, if_pos rfl, ckiT hi (by decide), ixN (by omega), bsE, show pA t d i = 0 from if_neg hbt]; rfl
  · intro rec
    unfold B_X12_poured_27
    rw [if_pos (le_l (l := 8) 8 rfl (by omega) (by decide))]
end PM
theorem Inv_k33 {N : Nat} {u m u2 m2 : St} (h : Inv N u m) (hk : ∀ c, (c < 20 ∨ 38 ≤ c) → u2.1 c = u.1 c) (h33 : u2.1 33 0 = 0) (hm : Km m m2) : Inv N u2 m2 := by
  obtain ⟨t, hU, hM, hT, hP, hI, hd, hr⟩ := h
  refine ⟨t, UT_congr hU (fun c hc => hk c (by omega)) (fun _ _ => rfl), MT_km hM hm, hT, ?_, ⟨?_, fun n hn => ?_, h33⟩, by rw [hm.2.2]; exact hd, by rw [hm.2.1 22 (by omega)]; exact hr⟩
  · unfold PD at hP ⊢
    rw [hk 18 (by omega), hk 19 (by omega), hm.2.1 20 (by omega), hm.1 12 (by omega)]
    exact hP
  · rw [hk 17 (by omega)]; exact hI.1
  · rw [hk 17 (by omega), hm.1 20 (by omega)]
    rcases hI.2.1 n hn with h1 | ⟨h1, o, ho, hc, tn, hU9, hT9, hK⟩
    · exact Or.inl h1
    · refine Or.inr ⟨h1, o, ho, hc, tn, fun c k hd => ?_, hT9, KT_km hK (hm.1 19 (by omega))⟩
      have hc1 : 1 ≤ c := by unfold TD at hd; omega
      rw [hk (o + c) (by omega)]; exact hU9 c k hd
theorem por {N : Nat} {u m : St} {t : Nat → Nat → Nat} {p2 : Int32} {K1 K2 : Option (Int32 × St)} (hi0 : Inv N u m) (hU : UT u t 0) (hM : MT m t) (hT : TK t) (main : (p2 = -1 ∨ ∃ b, b < 8 ∧ p2 = nI b ∧ bt t b) → ∃ (r : Int32) (u2 μ2 : St), K1 = some (r, u2) ∧ K2 = some (r, μ2) ∧ Inv N u2 μ2) :
    ∃ (r : Int32) (u2 μ2 : St), (if p2 = ((-1)) then K1 else b1 (f_X7_has u p2) (fun (x10 : Int32) => if x10 = 0 then some ((-1), u) else K1)) = some (r, u2) ∧ (if p2 = ((-1)) then K2 else b1 (f_X12_isBarrel m p2) (fun (x19 : Int32) => if x19 = 0 then some ((-1), m) else K2)) = some (r, μ2) ∧ Inv N u2 μ2 := by
  by_cases h1 : p2 = -1
  · rw [if_pos h1, if_pos h1]; exact main (Or.inl h1)
  rw [if_neg h1, if_neg h1]
  rcases bar_cs hU hM hT p2 with ⟨e1, e2⟩ | ⟨e1, e2, b, hb, e3, hbt⟩
  · rw [e1, e2, b1E, b1E, if_pos rfl, if_pos rfl]
    exact ⟨_, _, _, rfl, rfl, hi0⟩
  · rw [e1, e2, b1E, b1E, if_neg n10, if_neg n10]
    exact main (Or.inr ⟨b, hb, e3, hbt⟩)
theorem s_poured : Sp_poured Inv := by
  intro N u m p1 p2 hi0
  obtain ⟨t, hU, hM, hT, hP, hI, hd, hr⟩ := id hi0
  have hT5 := K_the hT
  unfold f_X11_poured f_X12_poured
  rw [jq0, jq0]
  refine por hi0 hU hM hT (fun hp2 => ?_)
  by_cases h : (0 : Int32) ≤ p1 ∧ p1 ≤ 999
  rotate_left
  · rw [(days_no (u := u) (m := m) h).1, (days_no (u := u) (m := m) h).2, b1E, b1E, if_pos rfl, if_pos rfl]
    exact ⟨_, _, _, rfl, rfl, hi0⟩
  obtain ⟨e1, e2, d, hd9, rfl⟩ := days_yes (u := u) (m := m) h
  obtain ⟨v, ev, hA⟩ := asI hU hT
  obtain ⟨q, eq, q1, q2, q3⟩ := seP hT (As_AL hT hA) (d := d) (by omega) (by rw [hA.1 33 (by omega)]; exact hI.2.2)
  have hUq : UT q t 0 := UT_congr hA.2.1 (fun c hc => q1 c (by omega) (by omega)) (fun _ _ => rfl)
  rw [e1, e2, b1E, b1E, if_neg n10, if_neg n10, ev, b1E, eq, b2E, jq1, acQ hM hT hd hr (by omega)]
  have hk0 : Km m (pS m 18 (pA t d) 8) := ⟨fun c hc => pS_o (by omega), fun k hk => by rw [pS_o (by omega)], by rw [pS_2]⟩
  have h18 : ∀ b, b < 8 → (pS m 18 (pA t d) 8).1 18 b = nI (pA t d b) ∧ pA t d b ≤ 99 := fun b hb => ⟨pS_i hb, pA_le⟩
  obtain ⟨w, ew, w1, w2, w3⟩ := moM hM hT hk0 h18
  obtain ⟨x, ex, x1, x2, x3⟩ := paM hM hT w1 (A := pA t d) (fun b hb => by rw [w2]; exact h18 b hb) w3
  rw [ew, b1E, ex, b1E]
  have hI2 : Inv N q x := Inv_k33 hi0 (fun c hc => by rw [q1 c (by omega) (by omega)]; exact hA.1 c (by omega)) (by rw [q3 0 (by omega) (by unfold sb; rw [show nI 0 = (0 : Int32) from rfl, Int32.zero_and]), Mo_0]; rfl) x1
  rcases hp2 with hp2 | ⟨b, hb, hp2, hbt⟩
  · rw [if_pos hp2, if_pos hp2, M_the (MT_km hM x1), ckiT hT5 (by decide), ixN (by omega), x2, w3 _ hT5 (sb_T _ hT5)]
    exact ⟨_, _, _, rfl, rfl, hI2⟩
  · have hne : ¬ p2 = -1 := by rw [hp2]; exact fun h9 => by have := nn1 (q := b) (by omega); exact this.mp h9
    rw [if_neg hne, if_neg hne, hp2, poP hUq hT (A := pA t d) (fun b hb => ⟨q2 b hb, pA_le⟩) q3 hb, b1E, ckiT hb (by decide), ixN (by omega), x3 b hb hbt]
    exact ⟨_, _, _, rfl, rfl, hI2⟩
