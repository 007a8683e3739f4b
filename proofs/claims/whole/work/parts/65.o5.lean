/-! ===== images of the reference ===== -/
def pa (i : Nat) : Nat := if i < 8 then 0 else if i < 12 then 8 else if i < 42 then (if (i - 12) % 5 = 0 then 1 else if (i - 12) % 5 = 1 then 2 else if (i - 12) % 5 = 2 then 9 else if (i - 12) % 5 = 3 then 10 else 11) else if i < 74 then 3 + (i - 42) % 4 else 7
def pj (i : Nat) : Nat := if i = 0 then 0 else if i = 1 then 3 else if i = 2 then 4 else if i < 7 then i + 7 else if i = 7 then 18 else if i < 12 then i - 8 else if i < 42 then (i - 12) / 5 else if i < 74 then (i - 42) / 4 else i - 74
theorem p_inj : ∀ n, n < 104 → ∀ i, i < 104 → pa i = pa n → pj i = pj n → i = n := by decide +kernel
theorem p_ok : ∀ n, n < 104 → pa n ≠ 19 ∧ pa n < 12 ∧ ¬ (pa n = 0 ∧ 38 ≤ pj n) := by decide +kernel
/-- the state behind n passes -/
def WS (w0 : St) (k0 n : Nat) (w : St) : Prop :=
  (∀ i, i < n → w.1 (pa i) (pj i) = (if w0.1 0 39 = 0 then w0.1 19 (k0 + i) else w0.1 (pa i) (pj i)) ∧ w.1 19 (k0 + i) = (if w0.1 0 39 = 0 then w0.1 19 (k0 + i) else w0.1 (pa i) (pj i))) ∧
  (∀ c j, c ≠ 19 → (∀ i, i < n → ¬ (c = pa i ∧ j = pj i)) → ¬ (c = 0 ∧ j = 38) → w.1 c j = w0.1 c j) ∧
  (∀ j, (j < k0 ∨ k0 + n ≤ j) → w.1 19 j = w0.1 19 j) ∧ w.1 0 38 = nI (k0 + n) ∧ w.2 = w0.2
theorem WS_step {w0 w : St} {k0 n : Nat} (hk : k0 + n < 300) (hn : n < 104) (h : WS w0 k0 n w) {a j : Nat} (ha : pa n = a) (hj : pj n = j) : ∃ w2, WS w0 k0 (n + 1) w2 ∧ ∀ {R : Type} (K : St → Option R), b2 (f_X12_pass w (w.1 a j)) (fun (x : Int32) (u2 : St) => bs (sI u2 a j x) K) = K w2 := by
  obtain ⟨h1, h2, h3, h4, h5⟩ := h
  obtain ⟨q1, q2, q3⟩ := p_ok n hn
  subst ha; subst hj
  have hfr : ∀ i, i < n → ¬ (pa n = pa i ∧ pj n = pj i) := fun i hi h9 => absurd (p_inj n hn i (by omega) h9.1.symm h9.2.symm) (by omega)
  have h39 : w.1 0 39 = w0.1 0 39 := h2 0 39 (by omega) (fun i hi h9 => (p_ok i (by omega)).2.2 ⟨h9.1.symm, by omega⟩) (by omega)
  have hown : w.1 (pa n) (pj n) = w0.1 (pa n) (pj n) := h2 _ _ q1 hfr (fun h9 => q3 ⟨h9.1, by omega⟩)
  have hkept : w.1 19 (k0 + n) = w0.1 19 (k0 + n) := h3 _ (by omega)
  have key : ∀ val, val = (if w0.1 0 39 = 0 then w0.1 19 (k0 + n) else w0.1 (pa n) (pj n)) → WS w0 k0 (n + 1) (sI (sI (sI w 19 (k0 + n) val) 0 38 (nI (k0 + n + 1))) (pa n) (pj n) val) := by
    intro val hv
    have r0 : ∀ c j, ¬ (c = pa n ∧ j = pj n) → ¬ (c = 0 ∧ j = 38) → ¬ (c = 19 ∧ j = k0 + n) → (sI (sI (sI w 19 (k0 + n) val) 0 38 (nI (k0 + n + 1))) (pa n) (pj n) val).1 c j = w.1 c j := by
      intro c j g1 g2 g3
      have e : ∀ (u : St) (a b : Nat) (x : Int32), ¬ (c = a ∧ j = b) → (sI u a b x).1 c j = u.1 c j := by
        intro u a b x g
        by_cases g4 : c = a
        · subst g4; rw [sI_s, pk_un (fun g5 => g ⟨rfl, g5⟩)]
        · rw [sI_o g4]
      rw [e _ _ _ _ g1, e _ _ _ _ g2, e _ _ _ _ g3]
    have rk : (sI (sI (sI w 19 (k0 + n) val) 0 38 (nI (k0 + n + 1))) (pa n) (pj n) val).1 19 (k0 + n) = val := by
      rw [sI_o (fun h9 => q1 h9.symm), sI_o (by omega), sI_s, pk_us]
    have ro : (sI (sI (sI w 19 (k0 + n) val) 0 38 (nI (k0 + n + 1))) (pa n) (pj n) val).1 (pa n) (pj n) = val := by rw [sI_s, pk_us]
    refine ⟨?_, ?_, ?_, ?_, h5⟩
    · intro i hi
      by_cases h9 : i = n
      · subst h9; rw [ro, rk, hv]; exact ⟨rfl, rfl⟩
      · have hi2 : i < n := by omega
        have := p_ok i (by omega)
        rw [r0 (pa i) (pj i) (fun h8 => hfr i hi2 ⟨h8.1.symm, h8.2.symm⟩) (fun h8 => this.2.2 ⟨h8.1, by omega⟩) (fun h8 => this.1 h8.1), r0 19 (k0 + i) (fun h8 => q1 h8.1.symm) (by omega) (by omega)]
        exact h1 i hi2
    · intro c j c1 c2 c3
      rw [r0 c j (c2 n (by omega)) c3 (fun h8 => c1 h8.1)]
      exact h2 c j c1 (fun i hi => c2 i (by omega)) c3
    · intro j hj
      rw [r0 19 j (fun h8 => q1 h8.1.symm) (by omega) (by omega)]
      exact h3 j (by omega)
    · by_cases h9 : pa n = 0
      · rw [h9, sI_s, pk_un (fun h8 => q3 ⟨h9, by omega⟩), sI_s, pk_us]; rfl
      · rw [sI_o (fun h8 => h9 h8.symm), sI_s, pk_us]; rfl
  have fin : ∀ val, (fun x2 : Int32 => cki (nI (k0 + n)) 300 (bs (sI w 19 (ix (nI (k0 + n))) x2) (fun u3 : St => bs (sI u3 0 38 ((u3.1 0 38) + (1 : Int32))) (fun u4 : St => some (x2, u4))))) val = some (val, sI (sI w 19 (k0 + n) val) 0 38 (nI (k0 + n + 1))) := by
    intro val
    show cki (nI (k0 + n)) 300 (bs (sI w 19 (ix (nI (k0 + n))) val) _) = _
    rw [ckiT hk (by decide), ixN (by omega), bsE, sI_o (by omega), h4, nI_1, bsE]
  by_cases hm : w0.1 0 39 = 0
  · refine ⟨_, key (w0.1 19 (k0 + n)) (by rw [if_pos hm]), fun K => ?_⟩
    have e : f_X12_pass w (w.1 (pa n) (pj n)) = some (w0.1 19 (k0 + n), sI (sI w 19 (k0 + n) (w0.1 19 (k0 + n))) 0 38 (nI (k0 + n + 1))) := by
      unfold f_X12_pass
      rw [h39, jq1, if_pos hm, h4, ckiT hk (by decide)]
      refine (fin _).trans ?_
      rw [ixN (by omega), hkept]
    rw [e, b2E, bsE]
  · refine ⟨_, key (w0.1 (pa n) (pj n)) (by rw [if_neg hm]), fun K => ?_⟩
    have e : f_X12_pass w (w.1 (pa n) (pj n)) = some (w0.1 (pa n) (pj n), sI (sI w 19 (k0 + n) (w0.1 (pa n) (pj n))) 0 38 (nI (k0 + n + 1))) := by
      unfold f_X12_pass
      rw [h39, jq1, if_neg hm, h4]
      refine (fin _).trans ?_
      rw [hown]
    rw [e, b2E, bsE]
theorem WS_0 {w0 : St} {k0 : Nat} (h : w0.1 0 38 = nI k0) : WS w0 k0 0 w0 := ⟨fun i hi => absurd hi (by omega), fun _ _ _ _ _ => rfl, fun _ _ => rfl, h, rfl⟩
theorem p_B : ∀ q, q < 6 → pa (12 + 5 * q) = 1 ∧ pa (12 + 5 * q + 1) = 2 ∧ pa (12 + 5 * q + 2) = 9 ∧ pa (12 + 5 * q + 3) = 10 ∧ pa (12 + 5 * q + 4) = 11 ∧ pj (12 + 5 * q) = q ∧ pj (12 + 5 * q + 1) = q ∧ pj (12 + 5 * q + 2) = q ∧ pj (12 + 5 * q + 3) = q ∧ pj (12 + 5 * q + 4) = q := by decide +kernel
theorem p_C : ∀ q, q < 8 → pa (42 + 4 * q) = 3 ∧ pa (42 + 4 * q + 1) = 4 ∧ pa (42 + 4 * q + 2) = 5 ∧ pa (42 + 4 * q + 3) = 6 ∧ pj (42 + 4 * q) = q ∧ pj (42 + 4 * q + 1) = q ∧ pj (42 + 4 * q + 2) = q ∧ pj (42 + 4 * q + 3) = q := by decide +kernel
theorem p_A : ∀ q, q < 4 → pa (8 + q) = 8 ∧ pj (8 + q) = q := by decide +kernel
theorem p_D : ∀ q, q < 30 → pa (74 + q) = 7 ∧ pj (74 + q) = q := by decide +kernel
theorem paL {w0 : St} {k0 : Nat} (hk : k0 + 104 < 300) (h38 : w0.1 0 38 = nI k0) : ∃ w, f_X12_passAll w0 = some w ∧ WS w0 k0 104 w := by
  obtain ⟨w1, s1, e1⟩ := WS_step (n := 0) (by omega) (by omega) (WS_0 h38) (a := 0) (j := 0) rfl rfl
  obtain ⟨w2, s2, e2⟩ := WS_step (n := 1) (by omega) (by omega) s1 (a := 0) (j := 3) rfl rfl
  obtain ⟨w3, s3, e3⟩ := WS_step (n := 2) (by omega) (by omega) s2 (a := 0) (j := 4) rfl rfl
  obtain ⟨w4, s4, e4⟩ := WS_step (n := 3) (by omega) (by omega) s3 (a := 0) (j := 10) rfl rfl
  obtain ⟨w5, s5, e5⟩ := WS_step (n := 4) (by omega) (by omega) s4 (a := 0) (j := 11) rfl rfl
  obtain ⟨w6, s6, e6⟩ := WS_step (n := 5) (by omega) (by omega) s5 (a := 0) (j := 12) rfl rfl
  obtain ⟨w7, s7, e7⟩ := WS_step (n := 6) (by omega) (by omega) s6 (a := 0) (j := 13) rfl rfl
  obtain ⟨w8, s8, e8⟩ := WS_step (n := 7) (by omega) (by omega) s7 (a := 0) (j := 18) rfl rfl
  have lA : ∃ z, (∀ K : St → Option St, lq_2 (B_X12_passAll_98 K) FU w8 0 = K z) ∧ WS w0 k0 12 z := by
    suffices hh : ∃ z y, (∀ K, lq_2 (B_X12_passAll_98 K) FU w8 0 = (fun (K : St → Option St) (z : St) (_ : Int32) => K z) K z y) ∧ (y = nI 4 ∧ WS w0 k0 (8 + 4) z) by
      obtain ⟨z, y, e, -, h⟩ := hh
      exact ⟨z, e, h⟩
    refine mz_2 (P := fun q (z : St) (y : Int32) => y = nI q ∧ WS w0 k0 (8 + q) z) (G := fun (K : St → Option St) (z : St) (_ : Int32) => K z) 4 ?_ ?_ (FU_lt (by decide)) ⟨rfl, s8⟩
    · rintro q z y hq ⟨rfl, hz⟩
      obtain ⟨g1, g2⟩ := p_A q hq
      obtain ⟨z2, t2, f2⟩ := WS_step (n := 8 + q) (by omega) (by omega) hz g1 g2
      refine ⟨z2, _, fun K rec => ?_, ⟨rfl, t2⟩⟩
      unfold B_X12_passAll_98
      rw [if_neg (nle_l (l := 4) 4 rfl hq (by decide)), ckiT hq (by decide), ixN (by omega), nI_1]
      simp only [ckiT hq (show 4 < 2 ^ 31 by decide)]
      exact f2 _
    · rintro z y ⟨rfl, hz⟩ K rec
      unfold B_X12_passAll_98
      rw [if_pos (show (4 : Int32) ≤ nI 4 by decide)]
  obtain ⟨wA, eA, sA9⟩ := lA
  have lB : ∃ z, (∀ K : St → Option St, lq_2 (B_X12_passAll_127 K) FU wA 0 = K z) ∧ WS w0 k0 42 z := by
    suffices hh : ∃ z y, (∀ K, lq_2 (B_X12_passAll_127 K) FU wA 0 = (fun (K : St → Option St) (z : St) (_ : Int32) => K z) K z y) ∧ (y = nI 6 ∧ WS w0 k0 (12 + 5 * 6) z) by
      obtain ⟨z, y, e, -, h⟩ := hh
      exact ⟨z, e, h⟩
    refine mz_2 (P := fun q (z : St) (y : Int32) => y = nI q ∧ WS w0 k0 (12 + 5 * q) z) (G := fun (K : St → Option St) (z : St) (_ : Int32) => K z) 6 ?_ ?_ (FU_lt (by decide)) ⟨rfl, sA9⟩
    · rintro q z y hq ⟨rfl, hz⟩
      obtain ⟨g1, g2, g3, g4, g5, j1, j2, j3, j4, j5⟩ := p_B q hq
      obtain ⟨z1, t1, f1⟩ := WS_step (n := 12 + 5 * q) (by omega) (by omega) hz g1 j1
      obtain ⟨z2, t2, f2⟩ := WS_step (n := 12 + 5 * q + 1) (by omega) (by omega) t1 g2 j2
      obtain ⟨z3, t3, f3⟩ := WS_step (n := 12 + 5 * q + 2) (by omega) (by omega) t2 g3 j3
      obtain ⟨z4, t4, f4⟩ := WS_step (n := 12 + 5 * q + 3) (by omega) (by omega) t3 g4 j4
      obtain ⟨z5, t5, f5⟩ := WS_step (n := 12 + 5 * q + 4) (by omega) (by omega) t4 g5 j5
      refine ⟨z5, _, fun K rec => ?_, ⟨rfl, by rw [show 12 + 5 * (q + 1) = 12 + 5 * q + 4 + 1 by omega]; exact t5⟩⟩
      unfold B_X12_passAll_127
      rw [if_neg (nle_l (l := 6) 6 rfl hq (by decide)), nI_1, ixN (by omega)]
      simp only [ckiT hq (show 6 < 2 ^ 31 by decide)]
      rw [f1, f2, f3, f4, f5]
    · rintro z y ⟨rfl, hz⟩ K rec
      unfold B_X12_passAll_127
      rw [if_pos (show (6 : Int32) ≤ nI 6 by decide)]
  obtain ⟨wB, eB, sB9⟩ := lB
  have lC : ∃ z, (∀ K : St → Option St, lq_2 (B_X12_passAll_221 K) FU wB 0 = K z) ∧ WS w0 k0 74 z := by
    suffices hh : ∃ z y, (∀ K, lq_2 (B_X12_passAll_221 K) FU wB 0 = (fun (K : St → Option St) (z : St) (_ : Int32) => K z) K z y) ∧ (y = nI 8 ∧ WS w0 k0 (42 + 4 * 8) z) by
      obtain ⟨z, y, e, -, h⟩ := hh
      exact ⟨z, e, h⟩
    refine mz_2 (P := fun q (z : St) (y : Int32) => y = nI q ∧ WS w0 k0 (42 + 4 * q) z) (G := fun (K : St → Option St) (z : St) (_ : Int32) => K z) 8 ?_ ?_ (FU_lt (by decide)) ⟨rfl, sB9⟩
    · rintro q z y hq ⟨rfl, hz⟩
      obtain ⟨g1, g2, g3, g4, j1, j2, j3, j4⟩ := p_C q hq
      obtain ⟨z1, t1, f1⟩ := WS_step (n := 42 + 4 * q) (by omega) (by omega) hz g1 j1
      obtain ⟨z2, t2, f2⟩ := WS_step (n := 42 + 4 * q + 1) (by omega) (by omega) t1 g2 j2
      obtain ⟨z3, t3, f3⟩ := WS_step (n := 42 + 4 * q + 2) (by omega) (by omega) t2 g3 j3
      obtain ⟨z4, t4, f4⟩ := WS_step (n := 42 + 4 * q + 3) (by omega) (by omega) t3 g4 j4
      refine ⟨z4, _, fun K rec => ?_, ⟨rfl, by rw [show 42 + 4 * (q + 1) = 42 + 4 * q + 3 + 1 by omega]; exact t4⟩⟩
      unfold B_X12_passAll_221
      rw [if_neg (nle_l (l := 8) 8 rfl hq (by decide)), nI_1, ixN (by omega)]
      simp only [ckiT hq (show 8 < 2 ^ 31 by decide)]
      rw [f1, f2, f3, f4]
    · rintro z y ⟨rfl, hz⟩ K rec
      unfold B_X12_passAll_221
      rw [if_pos (show (8 : Int32) ≤ nI 8 by decide)]
  obtain ⟨wC, eC, sC9⟩ := lC
  have lD : ∃ z, (∀ K : St → Option St, lq_2 (B_X12_passAll_299 K) FU wC 0 = K z) ∧ WS w0 k0 104 z := by
    suffices hh : ∃ z y, (∀ K, lq_2 (B_X12_passAll_299 K) FU wC 0 = (fun (K : St → Option St) (z : St) (_ : Int32) => K z) K z y) ∧ (y = nI 30 ∧ WS w0 k0 (74 + 30) z) by
      obtain ⟨z, y, e, -, h⟩ := hh
      exact ⟨z, e, h⟩
    refine mz_2 (P := fun q (z : St) (y : Int32) => y = nI q ∧ WS w0 k0 (74 + q) z) (G := fun (K : St → Option St) (z : St) (_ : Int32) => K z) 30 ?_ ?_ (FU_lt (by decide)) ⟨rfl, sC9⟩
    · rintro q z y hq ⟨rfl, hz⟩
      obtain ⟨g1, g2⟩ := p_D q hq
      obtain ⟨z2, t2, f2⟩ := WS_step (n := 74 + q) (by omega) (by omega) hz g1 g2
      refine ⟨z2, _, fun K rec => ?_, ⟨rfl, t2⟩⟩
      unfold B_X12_passAll_299
      rw [if_neg (nle_l (l := 30) 30 rfl hq (by decide)), ckiT hq (by decide), ixN (by omega), nI_1]
      simp only [ckiT hq (show 30 < 2 ^ 31 by decide)]
      exact f2 _
    · rintro z y ⟨rfl, hz⟩ K rec
      unfold B_X12_passAll_299
      rw [if_pos (show (30 : Int32) ≤ nI 30 by decide)]
  obtain ⟨wD, eD, sD9⟩ := lD
  refine ⟨wD, ?_, sD9⟩
  unfold f_X12_passAll
  rw [e1, e2, e3, e4, e5, e6, e7, e8, jq1, eA, jq1, eB, jq1, eC, jq1, eD]
