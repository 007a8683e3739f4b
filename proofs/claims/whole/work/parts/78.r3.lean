/-! ===== likely, mean ===== -/
/-- the doors that a long tells -/
def dX (D : Int64) (d : Nat) : Nat := if d < 63 ∧ lg_cmp ((D >>> (Int32.toInt64 (nI d) &&& 63)) &&& (1 : Int64)) 1 = 0 then 1 else 0
theorem DX_any (D : Int64) : DX D (dX D) := fun d => ⟨by unfold dX; split <;> omega, fun h => if_neg (fun h9 => by omega), fun h => ⟨fun h9 => if_pos ⟨h, h9⟩, fun h9 => by
  unfold dX at h9
  by_cases h8 : d < 63 ∧ lg_cmp ((D >>> (Int32.toInt64 (nI d) &&& 63)) &&& (1 : Int64)) 1 = 0
  · exact h8.2
  · rw [if_neg h8] at h9; omega⟩⟩
theorem dxb : ∀ a, a < 32 → ∀ b, b < 32 → ∀ d, d < 10 → (lg_cmp ((Int32.toInt64 (nI (32 * a + b)) >>> (Int32.toInt64 (nI d) &&& 63)) &&& (1 : Int64)) 1 = 0 ↔ (32 * a + b) / 2 ^ d % 2 = 1) := by decide +kernel
theorem dX_bit {s d : Nat} (hs : s < 1024) (hd : d < 10) : dX (Int32.toInt64 (nI s)) d = s / 2 ^ d % 2 := by
  have h := dxb (s / 32) (by omega) (s % 32) (by omega) d hd
  rw [Nat.div_add_mod s 32] at h
  unfold dX
  by_cases h1 : s / 2 ^ d % 2 = 1
  · rw [if_pos ⟨by omega, h.mpr h1⟩, h1]
  · rw [if_neg (fun h9 => h1 (h.mp h9.2))]; omega
section DR
variable {u m v w z q : St} {t : Nat → Nat → Nat} {d b c s : Nat}
/-- the levels by doors -/
def LD (t : Nat → Nat → Nat) (D : Int64) : Nat → Nat := fun d => dig t (d + t 16 2) + dX D d - 0
theorem LM_D (hM : MT m t) (hT : TK t) (hr0 : m.1 0 22 = 0) (D : Int64) : LM (sL m 0 21 D) (LD t D) := LM_mk (m := sL m 0 21 D) (ls := 0) hM hT (by rw [sL_s, pk_uLs]; exact DX_any D) hr0 (by omega)
theorem acD (hs : s < 1024) (hd : d ≤ 10) : ac t (t 2 3) (LD t (Int32.toInt64 (nI s))) (t 6 b) (t 8 b) d = min 99 (sx (rS t b) (rO t b) s d) := by
  unfold ac sx
  refine congrArg (min 99) (sm_congr (fun i hi => ?_))
  have e : LD t (Int32.toInt64 (nI s)) i = lev t i + s / 2 ^ i % 2 := by unfold LD; rw [dX_bit hs (by omega)]; rfl
  rw [e]
  by_cases h : s / 2 ^ i % 2 = 1
  · rw [if_pos h, h]; rfl
  · rw [if_neg h, show s / 2 ^ i % 2 = 0 by omega]; rfl
theorem p2d (hd : d ≤ 10) : 2 ^ d ≤ 1024 := Nat.pow_le_pow_right (n := 2) (j := 10) (by decide) hd
theorem sL_00 (hd0 : m.2 0 21 = 0) : sL m 0 21 0 = m := by
  have h := sL_id (u := m) (c := 0) (k := 21)
  rw [hd0] at h; exact h
theorem lkM (hM : MT m t) (hT : TK t) (hd0 : m.2 0 21 = 0) (hr0 : m.1 0 22 = 0) (hb : b < 8) (hd : d ≤ 10) (hc : c ≤ 10) (K : St → Int64 → Option (Int64 × St)) : ∃ D, lq_3 (B_X12_likely_32 (nI b) (nI d) (nI c) K) FU m 0 0 = K (sL m 0 21 D) (lN (SW t b c d)) := by
  have hp := p2d hd
  have h0 := (K_set hT).2.2 0 (by omega)
  refine mw_3 (P := fun i (q : St) (x : Int64) (y : Int32) => y = nI i ∧ x = lN (sm (fun s => wt c s d * pV t (min 99 (sx (rS t b) (rO t b) s d))) i) ∧ ∃ D, q = sL m 0 21 D) (Q := fun o => ∃ D, o = K (sL m 0 21 D) (lN (SW t b c d))) (2 ^ d) ?_ ?_ (FU_lt (by omega)) ⟨rfl, rfl, 0, (sL_00 hd0).symm⟩
  · rintro i q x y hi ⟨rfl, rfl, D, rfl⟩
    have hM2 : MT (sL m 0 21 (Int32.toInt64 (nI i))) t := hM
    have hL := LM_D hM hT hr0 (Int32.toInt64 (nI i))
    refine Or.inl ⟨sL m 0 21 (Int32.toInt64 (nI i)), lN (sm (fun s => wt c s d * pV t (min 99 (sx (rS t b) (rO t b) s d))) i + wt c i d * pV t (min 99 (sx (rS t b) (rO t b) i d))), nI (i + 1), fun rec => ?_, rfl, rfl, _, rfl⟩
    unfold B_X12_likely_32
    rw [shlN (by omega), if_neg (nI_ge hi (by omega)), bsE, sL_sL, abM hM2 hT hL hb (by omega), b1E, acD (by omega) hd, M_sour hM2, wtM (by omega) hd hc, nI_1]
    by_cases h : t 16 0 ≤ min 99 (sx (rS t b) (rO t b) i d)
    · rw [if_neg (nI_nlt h (by omega)), b1E, lN_add, show pV t (min 99 (sx (rS t b) (rO t b) i d)) = 1 from if_pos h, Nat.mul_one]
    · rw [if_pos (nI_lt (by omega) (by omega)), show pV t (min 99 (sx (rS t b) (rO t b) i d)) = 0 from if_neg h, Nat.mul_zero, show (0 : Int64) = lN 0 from rfl, lN_add]
  · rintro q x y ⟨rfl, rfl, D, rfl⟩ rec
    unfold B_X12_likely_32
    rw [shlN (by omega), if_pos (Int32.le_refl _)]
    exact ⟨D, rfl⟩
/-- what is lost in all ways -/
def SM (t : Nat → Nat → Nat) (c d : Nat) : Nat → Nat := sm (fun b => if t 5 4 / 2 ^ b % 2 = 1 then t 7 b * SW t b c d else 0)
theorem SM_le (hT : TK t) (hd : d ≤ 10) (hc : c ≤ 10) : SM t c d 8 < 2 ^ 40 := by
  have h10 := p10 hd
  have h := sm_le (f := fun b => if t 5 4 / 2 ^ b % 2 = 1 then t 7 b * SW t b c d else 0) (n := 8) (k := 9 * 10 ^ d) (fun b hb => by
    have h1 := (K_bar hT hb).2.1
    have h2 := SW_le (t := t) (b := b) (c := c) (d := d) hc
    show (if _ then _ else _) ≤ _
    split
    · exact Nat.mul_le_mul h1 h2
    · omega)
  show sm _ 8 < _
  omega
theorem mnE (hd : d ≤ 10) : sm (fun s => wt c s d * lo t (t 2 3) (LD t (Int32.toInt64 (nI s))) d 8) (2 ^ d) = SM t c d 8 := by
  have hp := p2d hd
  rw [sm_congr (g := fun s => sm (fun b => wt c s d * (if t 5 4 / 2 ^ b % 2 = 1 ∧ t 16 0 ≤ min 99 (sx (rS t b) (rO t b) s d) then t 7 b else 0)) 8) (fun s hs => by
    rw [sm_mull]
    unfold lo
    refine congrArg (wt c s d * ·) (sm_congr (fun b hb => ?_))
    rw [acD (by omega) hd]), sm_swap]
  unfold SM
  refine sm_congr (fun b hb => ?_)
  by_cases h : t 5 4 / 2 ^ b % 2 = 1
  · rw [if_pos h]
    unfold SW FF
    rw [← sm_mull]
    refine sm_congr (fun s hs => ?_)
    unfold pV
    by_cases h1 : t 16 0 ≤ min 99 (sx (rS t b) (rO t b) s d)
    · rw [if_pos ⟨h, h1⟩, if_pos h1, Nat.mul_one, Nat.mul_comm]
    · rw [if_neg (fun h9 => h1 h9.2), if_neg h1, Nat.mul_zero, Nat.mul_zero]
  · rw [if_neg h, sm_congr (g := fun _ => 0) (fun s hs => by rw [if_neg (fun h9 => h h9.1), Nat.mul_zero]), sm_zero]
theorem mnM (hM : MT m t) (hT : TK t) (hd0 : m.2 0 21 = 0) (hr0 : m.1 0 22 = 0) (hd : d ≤ 10) (hc : c ≤ 10) (K : St → Int64 → Option (Int64 × St)) : ∃ D, lq_3 (B_X12_mean_19 (nI d) (nI c) K) FU m 0 0 = K (sL m 0 21 D) (lN (SM t c d 8)) := by
  have hp := p2d hd
  rw [← mnE hd]
  refine mw_3 (P := fun i (q : St) (x : Int64) (y : Int32) => y = nI i ∧ x = lN (sm (fun s => wt c s d * lo t (t 2 3) (LD t (Int32.toInt64 (nI s))) d 8) i) ∧ ∃ D, q = sL m 0 21 D) (Q := fun o => ∃ D, o = K (sL m 0 21 D) (lN (sm (fun s => wt c s d * lo t (t 2 3) (LD t (Int32.toInt64 (nI s))) d 8) (2 ^ d)))) (2 ^ d) ?_ ?_ (FU_lt (by omega)) ⟨rfl, rfl, 0, (sL_00 hd0).symm⟩
  · rintro i q x y hi ⟨rfl, rfl, D, rfl⟩
    have hM2 : MT (sL m 0 21 (Int32.toInt64 (nI i))) t := hM
    have hL := LM_D hM hT hr0 (Int32.toInt64 (nI i))
    have hlo := lo_le (wl := t 2 3) (L := LD t (Int32.toInt64 (nI i))) (d := d) (n := 8) hT (by omega)
    refine Or.inl ⟨sL m 0 21 (Int32.toInt64 (nI i)), lN (sm (fun s => wt c s d * lo t (t 2 3) (LD t (Int32.toInt64 (nI s))) d 8) i + wt c i d * lo t (t 2 3) (LD t (Int32.toInt64 (nI i))) d 8), nI (i + 1), fun rec => ?_, rfl, rfl, _, rfl⟩
    unfold B_X12_mean_19
    rw [shlN (by omega), if_neg (nI_ge hi (by omega)), bsE, sL_sL, wtM (by omega) hd hc, b1E, loM hM2 hT hL (by omega), b1E, nI_l (n := lo t (t 2 3) (LD t (Int32.toInt64 (nI i))) d 8) (by omega), lN_mul, lN_add, nI_1]
  · rintro q x y ⟨rfl, rfl, D, rfl⟩ rec
    unfold B_X12_mean_19
    rw [shlN (by omega), if_pos (Int32.le_refl _)]
    exact ⟨D, rfl⟩
theorem mnC (hT : TK t) (hA : AL v t (t 2 3) (lev t)) (hd : d ≤ 10) (hc : c ≤ 10) (K : St → Int64 → Option (Int64 × St)) : ∃ q : St, lq_3 (B_X11_mean_26 (nI d) (nI c) K) FU v 0 0 = K q (lN (SM t c d 8)) ∧ q.1 = v.1 := by
  refine mw_3 (P := fun i (q : St) (x : Int64) (y : Int32) => y = nI i ∧ x = lN (SM t c d i) ∧ q.1 = v.1) (Q := fun o => ∃ q : St, o = K q (lN (SM t c d 8)) ∧ q.1 = v.1) 8 ?_ ?_ (FU_lt (by decide)) ⟨rfl, rfl, rfl⟩
  · rintro i q x y hi ⟨rfl, rfl, h1⟩
    have hAq : AL q t (t 2 3) (lev t) := AL_tr hA (fun c _ => by rw [h1])
    have h7 := (K_bar hT hi).2.1
    have hst : SM t c d (i + 1) = SM t c d i + (if t 5 4 / 2 ^ i % 2 = 1 then t 7 i * SW t i c d else 0) := rfl
    by_cases hbt : bt t i
    · obtain ⟨q2, e1, e2⟩ := swC hT hAq hi hbt hd hc
      refine Or.inl ⟨q2, lN (SM t c d (i + 1)), nI (i + 1), fun rec => ?_, rfl, rfl, e2.trans h1⟩
      unfold B_X11_mean_26
      rw [if_neg (nle_l (l := 8) 8 rfl hi (by decide)), hbY hAq.1 hT hi hbt, b1E, if_neg n10, ckiT hi (by decide), e1, b2E, ixN (by omega), U_siz hAq.1 hi, nI_l (by omega), lN_mul, lN_add, bsE, nI_1, hst, if_pos (show t 5 4 / 2 ^ i % 2 = 1 from hbt)]
    · refine Or.inl ⟨q, lN (SM t c d (i + 1)), nI (i + 1), fun rec => ?_, rfl, rfl, h1⟩
      unfold B_X11_mean_26
      rw [if_neg (nle_l (l := 8) 8 rfl hi (by decide)), hbF hAq.1 hT hi hbt, b1E, if_pos rfl, nI_1, hst, if_neg (show ¬ t 5 4 / 2 ^ i % 2 = 1 from hbt)]
      rfl
  · rintro q x y ⟨rfl, rfl, h1⟩ rec
    unfold B_X11_mean_26
    rw [if_pos (le_l (l := 8) 8 rfl (by omega) (by decide))]
    exact ⟨q, rfl, h1⟩
theorem dr_cs {p1 p2 p3 : Int32} : (f_X11_areDoors u p1 p2 p3 = some 0 ∧ f_X12_areDoors m p1 p2 p3 = some 0) ∨ (f_X11_areDoors u p1 p2 p3 = some 1 ∧ f_X12_areDoors m p1 p2 p3 = some 1 ∧ (∃ d, d ≤ 10 ∧ p1 = nI d) ∧ ∃ c, c ≤ 10 ∧ p2 = nI c) := by
  unfold f_X11_areDoors f_X12_areDoors
  rw [w_ev, w_ev, w_ev, in_ev (a := 0) (b := 10) (lo := 0) (hi := 10) rfl rfl, in_ev (a := 0) (b := 10) (lo := 0) (hi := 10) rfl rfl, in_ev (a := 0) (b := 1) (lo := 0) (hi := 1) rfl rfl]
  by_cases h1 : (0 : Int32) ≤ p1 ∧ p1 ≤ 10
  rotate_left
  · rw [if_neg h1]; exact Or.inl ⟨rfl, rfl⟩
  by_cases h2 : (0 : Int32) ≤ p2 ∧ p2 ≤ 10
  rotate_left
  · rw [if_pos h1, if_neg h2]; exact Or.inl ⟨rfl, rfl⟩
  by_cases h3 : (0 : Int32) ≤ p3 ∧ p3 ≤ 1
  rotate_left
  · rw [if_pos h1, if_pos h2, if_neg h3]; exact Or.inl ⟨rfl, rfl⟩
  rw [if_pos h1, if_pos h2, if_pos h3]
  obtain ⟨d, -, hd, e1⟩ := rng h1 (a := 0) (b := 10) rfl rfl (by decide) (by decide)
  obtain ⟨c, -, hc, e2⟩ := rng h2 (a := 0) (b := 10) rfl rfl (by decide) (by decide)
  exact Or.inr ⟨rfl, rfl, ⟨d, hd, e1⟩, c, hc, e2⟩
end DR
theorem s_likely : Sp_likely Inv := by
  intro N u m p1 p2 p3 p4 hi0
  obtain ⟨t, hU, hM, hT, hP, hI, hd0, hr0⟩ := id hi0
  unfold f_X11_likely f_X12_likely
  rcases bar_cs hU hM hT p1 with ⟨e1, e2⟩ | ⟨e1, e2, b, hb, rfl, hbt⟩
  · rw [e1, e2, b1E, b1E, if_pos rfl, if_pos rfl]
    exact ⟨_, _, _, rfl, rfl, hi0⟩
  rw [e1, e2, b1E, b1E, if_neg n10, if_neg n10]
  rcases dr_cs (u := u) (m := m) (p1 := p2) (p2 := p3) (p3 := p4) with ⟨e3, e4⟩ | ⟨e3, e4, ⟨d, hd, rfl⟩, c, hc, rfl⟩
  · rw [e3, e4, b1E, b1E, if_pos rfl, if_pos rfl]
    exact ⟨_, _, _, rfl, rfl, hi0⟩
  have h10 := p10 hd
  have hsw := SW_le (t := t) (b := b) (c := c) (d := d) hc
  obtain ⟨v, ev, hA⟩ := asI hU hT
  obtain ⟨q, eq, q1⟩ := swC hT (As_AL hT hA) hb hbt hd hc
  rw [e3, e4, b1E, b1E, if_neg n10, if_neg n10, ev, b1E, eq, b2E, awC (by omega), b1E, ltC (by omega) (by omega) h10.1, b1E, jq2]
  obtain ⟨D, eD⟩ := lkM hM hT hd0 hr0 hb hd hc (fun (u9 : St) (x10 : Int64) => bs (sL u9 0 21 0) (fun u11 : St => b1 (f_X12_allWays u11 (nI d)) (fun (x12 : Int64) => b1 (f_X12_lowest u11 x10 x12 p4) (fun (x13 : Int64) => some (x13, u11)))))
  rw [eD, sL_sL, bsE, awM (by omega), b1E, ltM (by omega) (by omega) h10.1, b1E]
  exact ⟨_, _, _, rfl, rfl, Inv_keep hi0 (fun c hc => by rw [q1]; exact hA.1 c hc) (by rw [sL_00 hd0]; exact Km_rf)⟩
theorem s_mean : Sp_mean Inv := by
  intro N u m p1 p2 p3 hi0
  obtain ⟨t, hU, hM, hT, hP, hI, hd0, hr0⟩ := id hi0
  unfold f_X11_mean f_X12_mean
  rcases dr_cs (u := u) (m := m) (p1 := p1) (p2 := p2) (p3 := p3) with ⟨e3, e4⟩ | ⟨e3, e4, ⟨d, hd, rfl⟩, c, hc, rfl⟩
  · rw [e3, e4, b1E, b1E, if_pos rfl, if_pos rfl]
    exact ⟨_, _, _, rfl, rfl, hi0⟩
  have h10 := p10 hd
  have hsm := SM_le hT hd hc
  obtain ⟨v, ev, hA⟩ := asI hU hT
  obtain ⟨q, eq, q1⟩ := mnC hT (As_AL hT hA) hd hc (fun (u8 : St) (x9 : Int64) => b1 (f_X2_allWays u8 (nI d)) (fun (x10 : Int64) => b1 (f_X11_inLowestTerms u8 x9 x10 p3) (fun (x11 : Int64) => some (x11, u8))))
  obtain ⟨D, eD⟩ := mnM hM hT hd0 hr0 hd hc (fun (u7 : St) (x8 : Int64) => bs (sL u7 0 21 0) (fun u9 : St => b1 (f_X12_allWays u9 (nI d)) (fun (x10 : Int64) => b1 (f_X12_lowest u9 x8 x10 p3) (fun (x11 : Int64) => some (x11, u9)))))
  rw [e3, e4, b1E, b1E, if_neg n10, if_neg n10, ev, b1E, jq2, jq2, eq, eD, awC (by omega), b1E, ltC (by omega) (by omega) h10.1, b1E, sL_sL, bsE, awM (by omega), b1E, ltM (by omega) (by omega) h10.1, b1E]
  exact ⟨_, _, _, rfl, rfl, Inv_keep hi0 (fun c hc => by rw [q1]; exact hA.1 c hc) (by rw [sL_00 hd0]; exact Km_rf)⟩
