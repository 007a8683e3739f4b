/-! ===== image, the start ===== -/
/-- the reference's image -/
theorem imM {m : St} {t : Nat → Nat → Nat} {n : Nat} (hn : n < 2) (hM : MT m t) : ∃ w, f_X12_image m (nI n) = some (1, w) ∧ MT w t ∧ KT w t n ∧ (∀ j, (j < 150 * n ∨ 150 * n + 104 ≤ j) → w.1 19 j = m.1 19 j) ∧ w.1 20 n = 1 ∧ (∀ j, j ≠ n → w.1 20 j = m.1 20 j) ∧ w.1 12 = m.1 12 ∧ w.1 0 20 = m.1 0 20 ∧ w.1 0 22 = m.1 0 22 ∧ w.2 = m.2 := by
  have hin : f_X12_in m (Int32.toInt64 (nI n)) 0 1 = some 1 := by
    rw [in_ev (a := 0) (b := 1) (lo := 0) (hi := 1) rfl rfl, if_pos ⟨nI_pos' (by omega), nI_le (b := 1) (by omega) (by omega)⟩]
  unfold f_X12_image
  rw [hin, b1E, if_neg n10, bsE, bsE, show (150 : Int32) * nI n = nI (150 * n) from pk_mul 150 n]
  obtain ⟨w, ew, hw⟩ := paL (w0 := sI (sI m 0 38 (nI (150 * n))) 0 39 1) (k0 := 150 * n) (by omega) (by rw [sI_s, pk_un (by omega), sI_s, pk_us])
  obtain ⟨f1, f2, f3, f4⟩ := WS_fr hw
  have h39 : ¬ (sI (sI m 0 38 (nI (150 * n))) 0 39 1).1 0 39 = 0 := by rw [sI_s, pk_us]; exact n10
  have r0 : ∀ c j, ¬ (c = 0 ∧ 38 ≤ j) → (sI (sI m 0 38 (nI (150 * n))) 0 39 1).1 c j = m.1 c j := by
    intro c j g
    by_cases g4 : c = 0
    · subst g4; rw [sI_s, pk_un (by omega), sI_s, pk_un (by omega)]
    · rw [sI_o g4, sI_o g4]
  have hR : ∀ i, i < 104 → w.1 19 (150 * n + i) = m.1 (pa i) (pj i) := fun i hi => by
    rw [(hw.1 i hi).2, if_neg h39, r0 _ _ (p_ok i hi).2.2]
  have hkeep : ∀ c j, c ≠ 19 → ¬ (c = 0 ∧ 38 ≤ j) → w.1 c j = m.1 c j := by
    intro c j hc h9
    by_cases h8 : ∃ i, i < 104 ∧ c = pa i ∧ j = pj i
    · obtain ⟨i, hi, rfl, rfl⟩ := h8
      rw [(hw.1 i hi).1, if_neg h39, r0 _ _ (p_ok i hi).2.2]
    · rw [hw.2.1 c j hc (fun i hi h7 => h8 ⟨i, hi, h7⟩) (fun h7 => h9 ⟨h7.1, by omega⟩), r0 _ _ h9]
  have hMw : MT w t := MT_congr hM (fun c h1 h2 => by funext j; exact hkeep c j (by omega) (by omega)) (fun k hk => hkeep 0 k (by omega) (by omega)) (fun c _ => rfl)
  rw [ew, b1E, ckiT (show n < 2 by omega) (by decide), ixN (by omega), bsE]
  refine ⟨_, rfl, ?_, ?_, ?_, ?_, ?_, ?_, ?_, ?_, ?_⟩
  · exact MT_congr hMw (fun c h1 h2 => sI_o (by omega)) (fun k hk => by rw [sI_o (by omega)]) (fun c _ => rfl)
  · refine KT_km (KT_wr hR hM) ?_
    rw [sI_o (by omega)]
  · intro j hj; rw [sI_o (by omega), hw.2.2.1 j (by omega), r0 _ _ (by omega)]
  · rw [sI_s, pk_us]
  · intro j hj; rw [sI_s, pk_un hj]; exact hkeep 20 j (by omega) (by omega)
  · rw [sI_o (by omega)]; funext j; exact hkeep 12 j (by omega) (by omega)
  · rw [sI_o (by omega)]; exact hkeep 0 20 (by omega) (by omega)
  · rw [sI_o (by omega)]; exact hkeep 0 22 (by omega) (by omega)
  · exact f4
theorem s_image : Sp_image Inv := by
  intro N u m p1 hi0
  obtain ⟨t, hU, hM, hT, hP, hI, hd, hr⟩ := id hi0
  by_cases h : (0 : Int32) ≤ p1 ∧ p1 ≤ 1
  rotate_left
  · refine Or.inl ?_
    unfold f_X11_image f_X12_image
    rw [w_ev, b1E, in_ev (a := 0) (b := 1) (lo := 0) (hi := 1) rfl rfl, b1E, if_neg h, if_pos rfl, if_pos rfl]
    exact ⟨_, _, _, rfl, rfl, hi0⟩
  obtain ⟨n, -, hn, rfl⟩ := rng h (a := 0) (b := 1) rfl rfl (by decide) (by decide)
  obtain ⟨w, ew, g1, g2, g3, g4, g5, g6, g7, g8, g9⟩ := imM (n := n) (by omega) hM
  -- behind the copy
  have fin : ∀ (N2 o : Nat) (v : St), (o = 37 ∨ o = 53) → UT v t 0 → UT v t o → (∀ c, 18 ≤ c → c ≤ 37 → v.1 c = u.1 c) → v.1 17 n = nI (o + 1) → (∀ n2, n2 < 2 → n2 ≠ n → v.1 17 n2 = u.1 17 n2) → IMC N2 (v.1 17) → (∀ n2, n2 < 2 → n2 ≠ n → ∀ o2, (o2 = 37 ∨ o2 = 53) → u.1 17 n2 = nI (o2 + 1) → ∀ c, 2 ≤ c → c ≤ 16 → v.1 (o2 + c) = u.1 (o2 + c)) → Inv N2 v w := by
    intro N2 o v ho hUv hUo hk h17 h17o hIMC hoth
    refine ⟨t, hUv, g1, hT, ?_, ⟨hIMC, fun n2 hn2 => ?_, by rw [hk 33 (by omega) (by omega)]; exact hI.2.2⟩, ?_, ?_⟩
    · unfold PD at hP ⊢
      rw [hk 18 (by omega) (by omega), hk 19 (by omega) (by omega), g7, g6]
      exact hP
    · by_cases h9 : n2 = n
      · subst h9
        exact Or.inr ⟨g4, o, ho, h17, t, hUo, hT, g2⟩
      · rw [h17o n2 hn2 h9, g5 n2 h9]
        rcases hI.2.1 n2 hn2 with h8 | ⟨y1, o2, ho2, hc2, tn, hUn, hTn, hKn⟩
        · exact Or.inl h8
        · refine Or.inr ⟨y1, o2, ho2, hc2, tn, fun c k hD => ?_, hTn, KT_o hn2 (by omega) h9 g3 hKn⟩
          have hcc : 2 ≤ c ∧ c ≤ 16 := by unfold TD at hD; omega
          rw [hoth n2 hn2 h9 o2 ho2 hc2 c hcc.1 hcc.2]; exact hUn c k hD
    · rw [g9]; exact hd
    · rw [g8]; exact hr
  have hIMC := hI.1
  have a1 : ¬ nI 38 = (0 : Int32) := by decide
  have a2 : ¬ nI 54 = (0 : Int32) := by decide
  have a3 : ¬ nI 54 = (38 : Int32) := by decide
  have ix38 : ∀ z : Int32, z = 38 → ix z = 38 := fun z hz => by subst hz; rfl
  rcases hI.2.1 n (by omega) with ⟨x1, x2⟩ | ⟨x1, o, ho, hc, -⟩
  rotate_left
  · -- an image stands there
    refine Or.inl ?_
    have hw1 : f_X11_within u (nI n) 0 1 = some 1 := by rw [w_ev, if_pos h]
    unfold f_X11_image
    rw [hw1, b1E, if_neg n10, ckiT (show n < 2 by omega) (by decide), ckiT (show n < 2 by omega) (by decide), ixN (by omega), hc]
    have dst : ∀ n2, n2 < 2 → n2 ≠ n → ¬ u.1 17 n2 = u.1 17 n := by
      intro n2 h1 h2 h3
      obtain ⟨q1, q2⟩ := hIMC
      have hne : ¬ u.1 17 n = 0 := by rw [hc]; rcases ho with rfl | rfl; exact a1; exact a2
      have cs : (n2 = 0 ∧ n = 1) ∨ (n2 = 1 ∧ n = 0) := by omega
      rcases cs with ⟨rfl, rfl⟩ | ⟨rfl, rfl⟩ <;> rcases q1 with ⟨-, e0, e1⟩ | ⟨-, e0, e1⟩ | ⟨-, e0, e1⟩ | ⟨-, e0, e1⟩ | ⟨-, e0, e1⟩ <;> rw [e0, e1] at h3 <;> (first | exact absurd h3 (by decide) | (rw [e0] at hne; exact hne rfl) | (rw [e1] at hne; exact hne rfl))
    rcases ho with rfl | rfl
    · obtain ⟨v, e, v1, v2, -⟩ := cp_38_1 hU
      rw [if_neg a1, if_pos (show nI (37 + 1) = 38 from rfl), if_neg a1, if_pos (show nI (37 + 1) = 38 from rfl), e, ew]
      refine ⟨_, _, _, rfl, rfl, fin N 37 v (Or.inl rfl) (fun c k hD => ?_) v1 (fun c c1 c2 => v2 c (by omega)) (by rw [v2 17 (by omega)]; exact hc) (fun n2 _ _ => by rw [v2 17 (by omega)]) (by rw [v2 17 (by omega)]; exact hIMC) ?_⟩
      · have hcc : c ≤ 16 := by unfold TD at hD; omega
        rw [v2 (0 + c) (by omega)]; exact hU c k hD
      · intro n2 k1 k2 o2 ho2 hc2 c hc1 hc16
        rcases ho2 with rfl | rfl
        · exact absurd (hc2.trans hc.symm) (dst n2 k1 k2)
        · exact v2 _ (by omega)
    · obtain ⟨v, e, v1, v2, -⟩ := cp_54_1 hU
      rw [if_neg a2, if_neg a3, ckT (show nI (53 + 1) = 54 from rfl), if_neg a2, if_neg a3, ckT (show nI (53 + 1) = 54 from rfl), e, ew]
      refine ⟨_, _, _, rfl, rfl, fin N 53 v (Or.inr rfl) (fun c k hD => ?_) v1 (fun c c1 c2 => v2 c (by omega)) (by rw [v2 17 (by omega)]; exact hc) (fun n2 _ _ => by rw [v2 17 (by omega)]) (by rw [v2 17 (by omega)]; exact hIMC) ?_⟩
      · have hcc : c ≤ 16 := by unfold TD at hD; omega
        rw [v2 (0 + c) (by omega)]; exact hU c k hD
      · intro n2 k1 k2 o2 ho2 hc2 c hc1 hc16
        rcases ho2 with rfl | rfl
        · exact v2 _ (by omega)
        · exact absurd (hc2.trans hc.symm) (dst n2 k1 k2)
  -- a new town
  have hp1 : nI n = 0 ∨ nI n = 1 := by
    have : n = 0 ∨ n = 1 := by omega
    rcases this with rfl | rfl
    · exact Or.inl rfl
    · exact Or.inr rfl
  have hix : ix (nI n) = n := ixN (by omega)
  have tw_o : ∀ (o : Nat) (c : Nat), ¬ (o ≤ c ∧ c < o + 16) → (tw o u).1 c = u.1 c := fun o c h9 => if_neg h9
  have nw : ∀ (o x : Nat), 37 ≤ o → ∀ c, c < o + 1 → c ≠ 17 → (sI (tw (o + 1) u) 17 n (nI x)).1 c = u.1 c := fun o x ho c hc h17 => by rw [sI_o h17, tw_o _ _ (by omega)]
  obtain ⟨q1, q2⟩ := id hIMC
  have ncs : n = 0 ∨ n = 1 := by omega
  have mk1 : N = 38 → (∀ j, u.1 17 j = 0) → ∃ (u2 μ2 : St), (nI n = 0 ∨ nI n = 1) ∧ u.1 17 (ix (nI n)) = 0 ∧ N = 38 ∧ (∀ j, u.1 17 j = 0 ∨ ix (u.1 17 j) < 38) ∧ f_X9_copyFrom_38_1 (sI (tw 38 u) 17 (ix (nI n)) 38) = some u2 ∧ f_X12_image m (nI n) = some (1, μ2) ∧ Inv 54 u2 μ2 := by
    intro hN hz
    rw [hix]
    have hU2 : UT (sI (tw 38 u) 17 n 38) t 0 := fun c k hD => by
      have hcc : c ≤ 16 := by unfold TD at hD; omega
      rw [show (sI (tw 38 u) 17 n 38).1 (0 + c) = u.1 (0 + c) from nw 37 38 (by omega) (0 + c) (by omega) (by omega)]; exact hU c k hD
    obtain ⟨v, e, v1, v2, -⟩ := cp_38_1 hU2
    have v17 : ∀ j, v.1 17 j = if j = n then 38 else 0 := fun j => by
      rw [v2 17 (by omega), sI_s]
      by_cases h9 : j = n
      · subst h9; rw [pk_us, if_pos rfl]
      · rw [pk_un h9, if_neg h9, tw_o 38 17 (by omega), hz j]
    refine ⟨v, w, hp1, x1, hN, fun j => Or.inl (hz j), e, ew, fin 54 37 v (Or.inl rfl) (fun c k hD => ?_) v1 (fun c c1 c2 => ?_) ?_ (fun n2 h1 h2 => ?_) ⟨?_, fun j hj => ?_⟩ ?_⟩
    · have hcc : c ≤ 16 := by unfold TD at hD; omega
      rw [v2 (0 + c) (by omega)]; exact hU2 c k hD
    · rw [v2 c (by omega)]; exact nw 37 38 (by omega) c (by omega) (by omega)
    · rw [v17, if_pos rfl]; rfl
    · rw [v17, if_neg h2, hz]
    · rw [v17, v17]
      rcases ncs with rfl | rfl
      · exact Or.inr (Or.inl ⟨rfl, rfl, rfl⟩)
      · exact Or.inr (Or.inr (Or.inl ⟨rfl, rfl, rfl⟩))
    · rw [v17, if_neg (by omega)]
    · intro n2 h1 h2 o2 ho2 hc2
      rw [hz] at hc2
      rcases ho2 with rfl | rfl
      · exact absurd hc2.symm a1
      · exact absurd hc2.symm a2
  have mk2 : N = 54 → (∀ j, u.1 17 j = if j = 1 - n then 38 else 0) → ∃ (u2 μ2 : St), (nI n = 0 ∨ nI n = 1) ∧ u.1 17 (ix (nI n)) = 0 ∧ N = 54 ∧ (∀ j, u.1 17 j = 0 ∨ ix (u.1 17 j) < 54) ∧ f_X9_copyFrom_54_1 (sI (tw 54 u) 17 (ix (nI n)) 54) = some u2 ∧ f_X12_image m (nI n) = some (1, μ2) ∧ Inv 70 u2 μ2 := by
    intro hN hz
    rw [hix]
    have hU2 : UT (sI (tw 54 u) 17 n 54) t 0 := fun c k hD => by
      have hcc : c ≤ 16 := by unfold TD at hD; omega
      rw [show (sI (tw 54 u) 17 n 54).1 (0 + c) = u.1 (0 + c) from nw 53 54 (by omega) (0 + c) (by omega) (by omega)]; exact hU c k hD
    obtain ⟨v, e, v1, v2, -⟩ := cp_54_1 hU2
    have v17 : ∀ j, v.1 17 j = if j = n then 54 else if j = 1 - n then 38 else 0 := fun j => by
      rw [v2 17 (by omega), sI_s]
      by_cases h9 : j = n
      · subst h9; rw [pk_us, if_pos rfl]
      · rw [pk_un h9, if_neg h9, tw_o 54 17 (by omega), hz j]
    refine ⟨v, w, hp1, x1, hN, fun j => ?_, e, ew, fin 70 53 v (Or.inr rfl) (fun c k hD => ?_) v1 (fun c c1 c2 => ?_) ?_ (fun n2 h1 h2 => ?_) ⟨?_, fun j hj => ?_⟩ ?_⟩
    · rw [hz]
      by_cases h9 : j = 1 - n
      · rw [if_pos h9]; exact Or.inr (by decide)
      · rw [if_neg h9]; exact Or.inl rfl
    · have hcc : c ≤ 16 := by unfold TD at hD; omega
      rw [v2 (0 + c) (by omega)]; exact hU2 c k hD
    · rw [v2 c (by omega)]; exact nw 53 54 (by omega) c (by omega) (by omega)
    · rw [v17, if_pos rfl]; rfl
    · rw [v17, if_neg h2, hz]
    · rw [v17, v17]
      rcases ncs with rfl | rfl
      · exact Or.inr (Or.inr (Or.inr (Or.inr ⟨rfl, rfl, rfl⟩)))
      · exact Or.inr (Or.inr (Or.inr (Or.inl ⟨rfl, rfl, rfl⟩)))
    · rw [v17, if_neg (by omega), if_neg (by omega)]
    · intro n2 h1 h2 o2 ho2 hc2 c hc1 hc16
      rcases ho2 with rfl | rfl
      · rw [v2 _ (by omega)]; exact nw 53 54 (by omega) (37 + c) (by omega) (by omega)
      · rw [hz] at hc2
        by_cases h9 : n2 = 1 - n
        · rw [if_pos h9] at hc2; exact absurd hc2.symm a3
        · rw [if_neg h9] at hc2; exact absurd hc2.symm a2
  have hal : ∀ (a b : Int32), u.1 17 0 = a → u.1 17 1 = b → ∀ j, u.1 17 j = if j = 0 then a else if j = 1 then b else 0 := by
    intro a b ha hb j
    by_cases h0 : j = 0
    · subst h0; rw [if_pos rfl, ha]
    · by_cases h1 : j = 1
      · subst h1; rw [if_neg h0, if_pos rfl, hb]
      · rw [if_neg h0, if_neg h1, q2 j (by omega)]
  rcases q1 with ⟨hN, e0, e1⟩ | ⟨hN, e0, e1⟩ | ⟨hN, e0, e1⟩ | ⟨hN, e0, e1⟩ | ⟨hN, e0, e1⟩
  · refine Or.inr (Or.inl (mk1 hN (fun j => ?_)))
    rw [hal 0 0 e0 e1 j]; split; rfl; split <;> rfl
  · rcases ncs with rfl | rfl
    · rw [e0] at x1; exact absurd x1 (by decide)
    · refine Or.inr (Or.inr (mk2 hN (fun j => ?_)))
      rw [hal 38 0 e0 e1 j]
      by_cases h0 : j = 0
      · rw [if_pos h0, if_pos h0]
      · rw [if_neg h0, if_neg (show ¬ j = 1 - 1 from h0)]; split <;> rfl
  · rcases ncs with rfl | rfl
    · refine Or.inr (Or.inr (mk2 hN (fun j => ?_)))
      rw [hal 0 38 e0 e1 j]
      by_cases h0 : j = 1
      · rw [if_neg (by omega), if_pos h0]
      · rw [if_neg (show ¬ j = 1 - 0 from h0)]; split <;> rfl
    · rw [e1] at x1; exact absurd x1 (by decide)
  · rcases ncs with rfl | rfl
    · rw [e0] at x1; exact absurd x1 (by decide)
    · rw [e1] at x1; exact absurd x1 (by decide)
  · rcases ncs with rfl | rfl
    · rw [e0] at x1; exact absurd x1 (by decide)
    · rw [e1] at x1; exact absurd x1 (by decide)
/-! the start -/
def t0 : Nat → Nat → Nat := fun c k => if c = 2 ∧ k = 2 then 3 else if c = 3 then k else if c = 4 then 8 else if c = 10 ∧ k = 1 then 2 else if c = 11 ∧ k = 1 then 5 else if c = 16 then (if k = 2 then 0 else 20) else 0
theorem i0_u : (uB0.1 2 2 = nI (t0 2 2) ∧ uB0.1 2 3 = nI (t0 2 3) ∧ uB0.1 5 4 = nI (t0 5 4) ∧ uB0.1 10 1 = nI (t0 10 1) ∧ uB0.1 12 3 = nI (t0 12 3)) ∧ (∀ k, k < 6 → uB0.1 3 k = nI (t0 3 k) ∧ uB0.1 4 k = nI (t0 4 k)) ∧ (∀ k, k < 8 → uB0.1 6 k = nI (t0 6 k) ∧ uB0.1 7 k = nI (t0 7 k) ∧ uB0.1 8 k = nI (t0 8 k) ∧ uB0.1 9 k = nI (t0 9 k)) ∧ (∀ k, k < 30 → uB0.1 11 k = nI (t0 11 k)) ∧ (∀ k, k < 6 → uB0.1 13 k = nI (t0 13 k) ∧ uB0.1 14 k = nI (t0 14 k) ∧ uB0.1 15 k = nI (t0 15 k)) ∧ (∀ k, k < 7 → uB0.1 16 k = nI (t0 16 k)) := by decide +kernel
theorem i0_m : (muT.1 0 0 = nI (t0 2 2) ∧ muT.1 0 3 = nI (t0 2 3) ∧ muT.1 0 4 = nI (t0 5 4) ∧ muT.1 0 10 = nI (t0 10 1) ∧ muT.1 0 18 = nI (t0 12 3) ∧ muT.1 0 11 = nI (t0 16 0) ∧ muT.1 0 12 = nI (t0 16 1) ∧ muT.1 0 13 = nI (t0 16 2) ∧ muT.1 0 20 = nI (t0 18 1) ∧ muT.1 0 22 = 0 ∧ muT.2 0 21 = 0 ∧ muT.1 20 0 = 0 ∧ muT.1 20 1 = 0) ∧ (∀ k, k < 6 → muT.1 1 k = nI (t0 3 k) ∧ muT.1 2 k = nI (t0 4 k)) ∧ (∀ k, k < 8 → muT.1 3 k = nI (t0 6 k) ∧ muT.1 4 k = nI (t0 7 k) ∧ muT.1 5 k = nI (t0 8 k) ∧ muT.1 6 k = nI (t0 9 k)) ∧ (∀ k, k < 30 → muT.1 7 k = nI (t0 11 k)) ∧ (∀ k, k < 6 → muT.1 9 k = nI (t0 13 k) ∧ muT.1 10 k = nI (t0 14 k) ∧ muT.1 11 k = nI (t0 15 k)) ∧ (∀ k, k < 4 → muT.1 8 k = nI (t0 16 (3 + k))) ∧ (∀ k, k < 60 → muT.1 12 k = nI (t0 19 k)) := by decide +kernel
theorem inv0 : Inv 38 uB0 muT := by
  obtain ⟨⟨a1, a2, a3, a4, a5⟩, a6, a7, a8, a9, a10⟩ := i0_u
  obtain ⟨⟨b1, b2, b3, b4, b5, b6, b7, b8, b9, b10, b11, b12, b13⟩, b14, b15, b16, b17, b18, b19⟩ := i0_m
  refine ⟨t0, fun c k hD => ?_, ⟨b1, b2, fun k hk => (b14 k hk).1, fun k hk => (b14 k hk).2, b3, fun k hk => (b15 k hk).1, fun k hk => (b15 k hk).2.1, fun k hk => (b15 k hk).2.2.1, fun k hk => (b15 k hk).2.2.2, b4, b16, b5, fun k hk => (b17 k hk).1, fun k hk => (b17 k hk).2.1, fun k hk => (b17 k hk).2.2, b6, b7, b8, b18⟩, ?_, ⟨rfl, fun i hi => rfl, b9, b19, by show 0 ≤ 60; omega, fun i hi => Nat.zero_le _⟩, ⟨⟨Or.inl ⟨rfl, rfl, rfl⟩, fun j hj => rfl⟩, fun n hn => Or.inl ⟨rfl, ?_⟩, rfl⟩, b11, b10⟩
  · rw [Nat.zero_add]
    unfold TD at hD
    rcases hD with ⟨rfl, rfl | rfl⟩ | ⟨rfl, hk⟩ | ⟨rfl, hk⟩ | ⟨rfl, rfl⟩ | ⟨h1, h2, hk⟩ | ⟨rfl, rfl⟩ | ⟨rfl, hk⟩ | ⟨rfl, rfl⟩ | ⟨h1, h2, hk⟩ | ⟨rfl, hk⟩
    · exact a1
    · exact a2
    · exact (a6 k hk).1
    · exact (a6 k hk).2
    · exact a3
    · have : c = 6 ∨ c = 7 ∨ c = 8 ∨ c = 9 := by omega
      rcases this with rfl | rfl | rfl | rfl
      · exact (a7 k hk).1
      · exact (a7 k hk).2.1
      · exact (a7 k hk).2.2.1
      · exact (a7 k hk).2.2.2
    · exact a4
    · exact a8 k hk
    · exact a5
    · have : c = 13 ∨ c = 14 ∨ c = 15 := by omega
      rcases this with rfl | rfl | rfl
      · exact (a9 k hk).1
      · exact (a9 k hk).2.1
      · exact (a9 k hk).2.2
    · exact a10 k hk
  · unfold TK bt
    decide +kernel
  · have : n = 0 ∨ n = 1 := by omega
    rcases this with rfl | rfl
    · exact b12
    · exact b13
