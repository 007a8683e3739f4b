/-! ===== image, restore, the start ===== -/
theorem p_20 : ∀ i, i < 104 → ¬ (0 = pa i ∧ 20 = pj i) ∧ ¬ (0 = pa i ∧ 22 = pj i) := by decide +kernel
section IR
variable {u m w : St} {t tn : Nat → Nat → Nat} {n : Nat}
/-- what the passes leave -/
theorem WS_fr {w0 : St} {k0 : Nat} (h : WS w0 k0 104 w) : (∀ c, 12 ≤ c → c ≠ 19 → w.1 c = w0.1 c) ∧ w.1 0 20 = w0.1 0 20 ∧ w.1 0 22 = w0.1 0 22 ∧ w.2 = w0.2 := by
  obtain ⟨h1, h2, h3, h4, h5⟩ := h
  refine ⟨fun c hc h19 => ?_, h2 0 20 (by omega) (fun i hi => (p_20 i hi).1) (by omega), h2 0 22 (by omega) (fun i hi => (p_20 i hi).2) (by omega), h5⟩
  funext j
  exact h2 c j h19 (fun i hi h9 => by have := (p_ok i hi).2.1; omega) (by omega)
theorem MT_rd (hR : ∀ i, i < 104 → w.1 (pa i) (pj i) = m.1 19 (150 * n + i)) (hK : KT m tn n) : MT w tn := by
  obtain ⟨k1, k2, k3, k4, k5, k6, k7, k8, k9, k10, k11, k12⟩ := hK
  have rB := fun q (hq : q < 6) => p_B q hq
  have rC := fun q (hq : q < 8) => p_C q hq
  refine ⟨(hR 0 (by omega)).trans k1, (hR 1 (by omega)).trans k2, fun q hq => ?_, fun q hq => ?_, (hR 2 (by omega)).trans k3, fun q hq => ?_, fun q hq => ?_, fun q hq => ?_, fun q hq => ?_, (hR 3 (by omega)).trans k4, fun q hq => ?_, (hR 7 (by omega)).trans k8, fun q hq => ?_, fun q hq => ?_, fun q hq => ?_, (hR 4 (by omega)).trans k5, (hR 5 (by omega)).trans k6, (hR 6 (by omega)).trans k7, fun q hq => ?_⟩
  · have := hR (12 + 5 * q) (by omega)
    rw [(rB q hq).1, (rB q hq).2.2.2.2.2.1, show 150 * n + (12 + 5 * q) = 150 * n + 12 + 5 * q by omega] at this
    exact this.trans (k10 q hq).1
  · have := hR (12 + 5 * q + 1) (by omega)
    rw [(rB q hq).2.1, (rB q hq).2.2.2.2.2.2.1, show 150 * n + (12 + 5 * q + 1) = 150 * n + 12 + 5 * q + 1 by omega] at this
    exact this.trans (k10 q hq).2.1
  · have := hR (42 + 4 * q) (by omega)
    rw [(rC q hq).1, (rC q hq).2.2.2.2.1, show 150 * n + (42 + 4 * q) = 150 * n + 42 + 4 * q by omega] at this
    exact this.trans (k11 q hq).1
  · have := hR (42 + 4 * q + 1) (by omega)
    rw [(rC q hq).2.1, (rC q hq).2.2.2.2.2.1, show 150 * n + (42 + 4 * q + 1) = 150 * n + 42 + 4 * q + 1 by omega] at this
    exact this.trans (k11 q hq).2.1
  · have := hR (42 + 4 * q + 2) (by omega)
    rw [(rC q hq).2.2.1, (rC q hq).2.2.2.2.2.2.1, show 150 * n + (42 + 4 * q + 2) = 150 * n + 42 + 4 * q + 2 by omega] at this
    exact this.trans (k11 q hq).2.2.1
  · have := hR (42 + 4 * q + 3) (by omega)
    rw [(rC q hq).2.2.2.1, (rC q hq).2.2.2.2.2.2.2, show 150 * n + (42 + 4 * q + 3) = 150 * n + 42 + 4 * q + 3 by omega] at this
    exact this.trans (k11 q hq).2.2.2
  · have := hR (74 + q) (by omega)
    rw [(p_D q hq).1, (p_D q hq).2, show 150 * n + (74 + q) = 150 * n + 74 + q by omega] at this
    exact this.trans (k12 q hq)
  · have := hR (12 + 5 * q + 2) (by omega)
    rw [(rB q hq).2.2.1, (rB q hq).2.2.2.2.2.2.2.1, show 150 * n + (12 + 5 * q + 2) = 150 * n + 12 + 5 * q + 2 by omega] at this
    exact this.trans (k10 q hq).2.2.1
  · have := hR (12 + 5 * q + 3) (by omega)
    rw [(rB q hq).2.2.2.1, (rB q hq).2.2.2.2.2.2.2.2.1, show 150 * n + (12 + 5 * q + 3) = 150 * n + 12 + 5 * q + 3 by omega] at this
    exact this.trans (k10 q hq).2.2.2.1
  · have := hR (12 + 5 * q + 4) (by omega)
    rw [(rB q hq).2.2.2.2.1, (rB q hq).2.2.2.2.2.2.2.2.2, show 150 * n + (12 + 5 * q + 4) = 150 * n + 12 + 5 * q + 4 by omega] at this
    exact this.trans (k10 q hq).2.2.2.2
  · have := hR (8 + q) (by omega)
    rw [(p_A q hq).1, (p_A q hq).2, show 150 * n + (8 + q) = 150 * n + 8 + q by omega] at this
    exact this.trans (k9 q hq)
theorem KT_wr (hR : ∀ i, i < 104 → w.1 19 (150 * n + i) = m.1 (pa i) (pj i)) (hM : MT m t) : KT w t n := by
  have rB := fun q (hq : q < 6) => p_B q hq
  have rC := fun q (hq : q < 8) => p_C q hq
  refine ⟨(hR 0 (by omega)).trans (M_cnt hM), (hR 1 (by omega)).trans (M_wal hM), (hR 2 (by omega)).trans (M_the hM), (hR 3 (by omega)).trans (M_len hM), (hR 4 (by omega)).trans (M_sour hM), (hR 5 (by omega)).trans (M_hands hM), (hR 6 (by omega)).trans (M_ph hM), (hR 7 (by omega)).trans (M_sc hM), fun q hq => ?_, fun q hq => ⟨?_, ?_, ?_, ?_, ?_⟩, fun q hq => ⟨?_, ?_, ?_, ?_⟩, fun q hq => ?_⟩
  · have := hR (8 + q) (by omega)
    rw [(p_A q hq).1, (p_A q hq).2, show 150 * n + (8 + q) = 150 * n + 8 + q by omega] at this
    exact this.trans (M_peak hM hq)
  · have := hR (12 + 5 * q) (by omega)
    rw [(rB q hq).1, (rB q hq).2.2.2.2.2.1, show 150 * n + (12 + 5 * q) = 150 * n + 12 + 5 * q by omega] at this
    exact this.trans (M_dep hM hq)
  · have := hR (12 + 5 * q + 1) (by omega)
    rw [(rB q hq).2.1, (rB q hq).2.2.2.2.2.2.1, show 150 * n + (12 + 5 * q + 1) = 150 * n + 12 + 5 * q + 1 by omega] at this
    exact this.trans (M_room hM hq)
  · have := hR (12 + 5 * q + 2) (by omega)
    rw [(rB q hq).2.2.1, (rB q hq).2.2.2.2.2.2.2.1, show 150 * n + (12 + 5 * q + 2) = 150 * n + 12 + 5 * q + 2 by omega] at this
    exact this.trans (M_sb hM hq)
  · have := hR (12 + 5 * q + 3) (by omega)
    rw [(rB q hq).2.2.2.1, (rB q hq).2.2.2.2.2.2.2.2.1, show 150 * n + (12 + 5 * q + 3) = 150 * n + 12 + 5 * q + 3 by omega] at this
    exact this.trans (M_sd hM hq)
  · have := hR (12 + 5 * q + 4) (by omega)
    rw [(rB q hq).2.2.2.2.1, (rB q hq).2.2.2.2.2.2.2.2.2, show 150 * n + (12 + 5 * q + 4) = 150 * n + 12 + 5 * q + 4 by omega] at this
    exact this.trans (M_sa hM hq)
  · have := hR (42 + 4 * q) (by omega)
    rw [(rC q hq).1, (rC q hq).2.2.2.2.1, show 150 * n + (42 + 4 * q) = 150 * n + 42 + 4 * q by omega] at this
    exact this.trans (M_lie hM hq)
  · have := hR (42 + 4 * q + 1) (by omega)
    rw [(rC q hq).2.1, (rC q hq).2.2.2.2.2.1, show 150 * n + (42 + 4 * q + 1) = 150 * n + 42 + 4 * q + 1 by omega] at this
    exact this.trans (M_siz hM hq)
  · have := hR (42 + 4 * q + 2) (by omega)
    rw [(rC q hq).2.2.1, (rC q hq).2.2.2.2.2.2.1, show 150 * n + (42 + 4 * q + 2) = 150 * n + 42 + 4 * q + 2 by omega] at this
    exact this.trans (M_cor hM hq)
  · have := hR (42 + 4 * q + 3) (by omega)
    rw [(rC q hq).2.2.2.1, (rC q hq).2.2.2.2.2.2.2, show 150 * n + (42 + 4 * q + 3) = 150 * n + 42 + 4 * q + 3 by omega] at this
    exact this.trans (M_kin hM hq)
  · have := hR (74 + q) (by omega)
    rw [(p_D q hq).1, (p_D q hq).2, show 150 * n + (74 + q) = 150 * n + 74 + q by omega] at this
    exact this.trans (M_dig hM hq)
theorem KT_o {n2 : Nat} (hn : n2 < 2) (hn1 : n < 2) (hne : n2 ≠ n) (hR : ∀ j, (j < 150 * n ∨ 150 * n + 104 ≤ j) → w.1 19 j = m.1 19 j) (h : KT m tn n2) : KT w tn n2 := by
  have e : ∀ i, i < 104 → w.1 19 (150 * n2 + i) = m.1 19 (150 * n2 + i) := fun i hi => hR _ (by omega)
  have e' : ∀ j, 150 * n2 ≤ j → j < 150 * n2 + 104 → w.1 19 j = m.1 19 j := fun j h1 h2 => by
    have := e (j - 150 * n2) (by omega)
    rwa [show 150 * n2 + (j - 150 * n2) = j by omega] at this
  obtain ⟨k1, k2, k3, k4, k5, k6, k7, k8, k9, k10, k11, k12⟩ := h
  refine ⟨?_, ?_, ?_, ?_, ?_, ?_, ?_, ?_, fun q hq => ?_, fun q hq => ⟨?_, ?_, ?_, ?_, ?_⟩, fun q hq => ⟨?_, ?_, ?_, ?_⟩, fun q hq => ?_⟩
  · rw [e' _ (by omega) (by omega)]; exact k1
  · rw [e' _ (by omega) (by omega)]; exact k2
  · rw [e' _ (by omega) (by omega)]; exact k3
  · rw [e' _ (by omega) (by omega)]; exact k4
  · rw [e' _ (by omega) (by omega)]; exact k5
  · rw [e' _ (by omega) (by omega)]; exact k6
  · rw [e' _ (by omega) (by omega)]; exact k7
  · rw [e' _ (by omega) (by omega)]; exact k8
  · rw [e' _ (by omega) (by omega)]; exact k9 q hq
  · rw [e' _ (by omega) (by omega)]; exact (k10 q hq).1
  · rw [e' _ (by omega) (by omega)]; exact (k10 q hq).2.1
  · rw [e' _ (by omega) (by omega)]; exact (k10 q hq).2.2.1
  · rw [e' _ (by omega) (by omega)]; exact (k10 q hq).2.2.2.1
  · rw [e' _ (by omega) (by omega)]; exact (k10 q hq).2.2.2.2
  · rw [e' _ (by omega) (by omega)]; exact (k11 q hq).1
  · rw [e' _ (by omega) (by omega)]; exact (k11 q hq).2.1
  · rw [e' _ (by omega) (by omega)]; exact (k11 q hq).2.2.1
  · rw [e' _ (by omega) (by omega)]; exact (k11 q hq).2.2.2
  · rw [e' _ (by omega) (by omega)]; exact k12 q hq
end IR
def jn (tn t : Nat → Nat → Nat) : Nat → Nat → Nat := fun c => if c ≤ 16 then tn c else t c
theorem jn_l {tn t : Nat → Nat → Nat} {c : Nat} (h : c ≤ 16) : jn tn t c = tn c := if_pos h
theorem jn_r {tn t : Nat → Nat → Nat} {c : Nat} (h : 16 < c) : jn tn t c = t c := if_neg (by omega)
theorem s_N : Sp_N Inv := by
  intro N u m ⟨t, hU, hM, hT, hP, hI, hd, hr⟩
  have hI1 := hI.1
  generalize u.1 17 = x at hI1
  obtain ⟨h1, h2⟩ := hI1
  have hj : ∀ j, x j = x 0 ∨ x j = x 1 ∨ x j = 0 := fun j => by
    by_cases h0 : j = 0
    · subst h0; exact Or.inl rfl
    by_cases h1 : j = 1
    · subst h1; exact Or.inr (Or.inl rfl)
    · exact Or.inr (Or.inr (h2 j (by omega)))
  have a1 : ¬ (0 : Int32) = 38 := by decide
  have a2 : ¬ (0 : Int32) = 54 := by decide
  have a3 : ¬ (38 : Int32) = 54 := by decide
  rcases h1 with ⟨rfl, e0, e1⟩ | ⟨rfl, e0, e1⟩ | ⟨rfl, e0, e1⟩ | ⟨rfl, e0, e1⟩ | ⟨rfl, e0, e1⟩ <;> rw [e0, e1] at hj
  · refine ⟨by omega, fun j h => ?_, fun j h => ?_⟩
    · rcases hj j with g | g | g <;> rw [g] at h <;> exact absurd h a1
    · rcases hj j with g | g | g <;> rw [g] at h <;> exact absurd h a2
  · refine ⟨by omega, fun j h => by omega, fun j h => ?_⟩
    rcases hj j with g | g | g <;> rw [g] at h
    · exact absurd h a3
    · exact absurd h a2
    · exact absurd h a2
  · refine ⟨by omega, fun j h => by omega, fun j h => ?_⟩
    rcases hj j with g | g | g <;> rw [g] at h
    · exact absurd h a2
    · exact absurd h a3
    · exact absurd h a2
  · exact ⟨by omega, fun j h => by omega, fun j h => by omega⟩
  · exact ⟨by omega, fun j h => by omega, fun j h => by omega⟩
theorem s_restore : Sp_restore Inv := by
  intro N u m p1 hi0
  obtain ⟨t, hU, hM, hT, hP, hI, hd, hr⟩ := id hi0
  unfold f_X11_restore f_X12_restore
  rw [w_ev, b1E, in_ev (a := 0) (b := 1) (lo := 0) (hi := 1) rfl rfl, b1E]
  by_cases h : (0 : Int32) ≤ p1 ∧ p1 ≤ 1
  rotate_left
  · rw [if_neg h, if_pos rfl, if_pos rfl]
    exact ⟨_, _, _, rfl, rfl, hi0⟩
  obtain ⟨n, -, hn, rfl⟩ := rng h (a := 0) (b := 1) rfl rfl (by decide) (by decide)
  rw [if_pos h, if_neg n10, if_neg n10, ckiT (show n < 2 by omega) (by decide), ckiT (show n < 2 by omega) (by decide), ixN (by omega)]
  rcases hI.2.1 n (by omega) with ⟨x1, x2⟩ | ⟨x1, o, ho, hc, tn, hUn, hTn, hKn⟩
  · rw [x1, x2, if_pos rfl, if_pos rfl]
    exact ⟨_, _, _, rfl, rfl, hi0⟩
  rw [x1, if_neg n10, bsE, bsE, show (150 : Int32) * nI n = nI (150 * n) from pk_mul 150 n]
  obtain ⟨w, ew, hw⟩ := paL (w0 := sI (sI m 0 38 (nI (150 * n))) 0 39 0) (k0 := 150 * n) (by omega) (by rw [sI_s, pk_un (by omega), sI_s, pk_us])
  obtain ⟨f1, f2, f3, f4⟩ := WS_fr hw
  have h39 : (sI (sI m 0 38 (nI (150 * n))) 0 39 0).1 0 39 = 0 := by rw [sI_s, pk_us]
  have hR : ∀ i, i < 104 → w.1 (pa i) (pj i) = m.1 19 (150 * n + i) := fun i hi => by
    rw [(hw.1 i hi).1, if_pos h39, sI_o (by omega), sI_o (by omega)]
  have h19 : w.1 19 = m.1 19 := by
    funext j
    by_cases h9 : 150 * n ≤ j ∧ j < 150 * n + 104
    · have := (hw.1 (j - 150 * n) (by omega)).2
      rw [if_pos h39, show 150 * n + (j - 150 * n) = j by omega, sI_o (by omega), sI_o (by omega)] at this
      exact this
    · rw [hw.2.2.1 j (by omega), sI_o (by omega), sI_o (by omega)]
  have hMw := MT_rd hR hKn
  have hcl : ∃ v, (if u.1 17 n = 0 then some ((-3), u) else if u.1 17 n = 38 then b1 (f_X9_copyFrom_1_38 u) (fun (u5 : St) => some ((1 : Int32), u5)) else ck (u.1 17 n = 54) (b1 (f_X9_copyFrom_1_54 u) (fun (u6 : St) => some (1, u6)))) = some (1, v) ∧ UT v tn 0 ∧ (∀ c, c < 0 + 2 ∨ 0 + 16 < c → v.1 c = u.1 c) := by
    rcases ho with rfl | rfl
    · obtain ⟨v, e, g1, g2, -⟩ := cp_1_38 hUn
      refine ⟨v, ?_, g1, g2⟩
      rw [hc, if_neg (show ¬ nI (37 + 1) = 0 by decide), if_pos (show nI (37 + 1) = 38 from rfl), e]; rfl
    · obtain ⟨v, e, g1, g2, -⟩ := cp_1_54 hUn
      refine ⟨v, ?_, g1, g2⟩
      rw [hc, if_neg (show ¬ nI (53 + 1) = 0 by decide), if_neg (show ¬ nI (53 + 1) = 38 by decide), ckT (show nI (53 + 1) = 54 from rfl), e]; rfl
  obtain ⟨v, e1, e2, e3⟩ := hcl
  rw [e1, ew]
  refine ⟨_, _, _, rfl, rfl, jn tn t, ?_, ?_, TK_congr hTn (fun c hc => jn_l hc), ?_, IM_keep hI (e3 17 (by omega)) (fun c hc => e3 c (by omega)) h19 ?_, ?_, ?_⟩
  · exact UT_congr e2 (fun c _ => rfl) (fun c hc => jn_l hc)
  · exact MT_congr hMw (fun c _ _ => rfl) (fun k _ => rfl) (fun c hc => jn_l hc)
  · unfold PD at hP ⊢
    rw [jn_r (by omega), jn_r (by omega), e3 18 (by omega), e3 19 (by omega), f2, f1 12 (by omega) (by omega), sI_s, pk_un (by omega), sI_s, pk_un (by omega), sI_o (by omega), sI_o (by omega)]
    exact hP
  · rw [f1 20 (by omega) (by omega), sI_o (by omega), sI_o (by omega)]
  · rw [f4]; exact hd
  · rw [f3, sI_s, pk_un (by omega), sI_s, pk_un (by omega)]; exact hr
