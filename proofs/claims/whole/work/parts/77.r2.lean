/-! ===== doors: the class ===== -/
/-- a row of longs filled from its beginning -/
def pL (v : St) (c : Nat) (f : Nat → Nat) : Nat → St
  | 0 => v
  | i + 1 => sL (pL v c f i) c i (lN (f i))
theorem pL_1 {v : St} {c : Nat} {f : Nat → Nat} {n : Nat} : (pL v c f n).1 = v.1 := by
  induction n with
  | zero => rfl
  | succ n ih => exact ih
theorem pL_o {v : St} {c c2 : Nat} {f : Nat → Nat} (h : c2 ≠ c) {n : Nat} : (pL v c f n).2 c2 = v.2 c2 := by
  induction n with
  | zero => rfl
  | succ n ih => show (sL (pL v c f n) c n (lN (f n))).2 c2 = _; rw [sL_o h]; exact ih
theorem pL_i {v : St} {c : Nat} {f : Nat → Nat} {n i : Nat} (h : i < n) : (pL v c f n).2 c i = lN (f i) := by
  induction n with
  | zero => omega
  | succ n ih =>
    show (sL (pL v c f n) c n (lN (f n))).2 c i = _
    rw [sL_s]
    by_cases h9 : i = n
    · subst h9; rw [pk_uLs]
    · rw [pk_uLn h9]; exact ih (by omega)
theorem n99 {i : Nat} (h : i < 100) : ¬ (99 : Int32) < nI i := nI_nlt (a := 99) (by omega) (by decide)
section DC
variable {u m v w z q : St} {t : Nat → Nat → Nat} {W : Nat → Nat} {d b c : Nat}
theorem zfC (K : St → Option St) : lq_2 (B_X2_passDay_3 K) FU v 0 = K (pL v 36 (fun _ => 0) 100) := by
  refine mr_2 (pL v 36 (fun _ => 0)) nI 100 ?_ ?_ (FU_lt (by decide)) rfl rfl
  · intro i hi rec
    show B_X2_passDay_3 K rec (pL v 36 (fun _ => 0) i) (nI i) = rec (sL (pL v 36 (fun _ => 0) i) 36 i (lN 0)) (nI (i + 1))
    unfold B_X2_passDay_3
    rw [if_neg (n99 hi), ckiT hi (by decide), ixN (by omega), bsE, nI_1]
    rfl
  · intro rec
    unfold B_X2_passDay_3
    rw [if_pos (show (99 : Int32) < nI 100 by decide)]
theorem pdC2 {r o : Nat} (hr : r < 2 ^ 20) (ho : o < 2 ^ 20) (hc : c ≤ 10) (hW : ∀ a, a < 100 → v.2 35 a = lN (W a) ∧ W a < 2 ^ 63) : ∃ q : St, f_X2_passDay v (nI r) (nI o) (nI c) = some q ∧ q.1 = v.1 ∧ ∀ a, a < 100 → q.2 35 a = lN (nx2 W r o c 100 a) := by
  unfold f_X2_passDay
  rw [jq1, zfC, jq1]
  have z1 : (pL v 36 (fun _ => 0) 100).1 = v.1 := pL_1
  have z35 : (pL v 36 (fun _ => 0) 100).2 35 = v.2 35 := pL_o (by omega)
  have z36 : ∀ a, a < 100 → (pL v 36 (fun _ => 0) 100).2 36 a = lN 0 := fun a ha => pL_i ha
  generalize pL v 36 (fun _ => 0) 100 = z at z1 z35 z36
  refine mw_2 (P := fun j (q : St) (y : Int32) => y = nI j ∧ q.1 = v.1 ∧ (∀ a, a < 100 → q.2 35 a = lN (W a)) ∧ ∀ a, a < 100 → q.2 36 a = lN (nx2 W r o c j a)) (Q := fun o2 => ∃ q : St, o2 = some q ∧ q.1 = v.1 ∧ ∀ a, a < 100 → q.2 35 a = lN (nx2 W r o c 100 a)) 100 ?_ ?_ (FU_lt (by decide)) ⟨rfl, z1, fun a ha => by rw [z35]; exact (hW a ha).1, z36⟩
  · rintro j q y hj ⟨rfl, h1, h2, h3⟩
    have hx : min 99 (j + r) < 100 := by omega
    have hy : min 99 (j + o) < 100 := by omega
    have e1 : mnI 99 (nI j + nI r) = nI (min 99 (j + r)) := by rw [nI_add]; exact mn_n (by decide) (by omega)
    have e2 : mnI 99 (nI j + nI o) = nI (min 99 (j + o)) := by rw [nI_add]; exact mn_n (by decide) (by omega)
    have e3 : Int32.toInt64 ((10 : Int32) - nI c) = lN (10 - c) := by rw [show (10 : Int32) - nI c = nI (10 - c) from pk_sub (a := 10) hc]; exact nI_l (by omega)
    have e4 : Int32.toInt64 (nI c) = lN c := nI_l (by omega)
    have hWj := (hW j hj).2
    by_cases h0 : W j = 0
    · refine Or.inl ⟨q, nI (j + 1), fun rec => ?_, rfl, h1, h2, fun a ha => ?_⟩
      · unfold B_X2_passDay_27
        rw [if_neg (n99 hj), ckiT hj (by decide), ixN (by omega), h2 j hj, if_pos ((lgc_0 hWj).mpr h0), nI_1]
      · show _ = lN (nx2 W r o c j a + (if a = min 99 (j + r) then W j * (10 - c) else 0) + (if a = min 99 (j + o) then W j * c else 0))
        rw [h0, Nat.zero_mul, Nat.zero_mul, ite_self, ite_self]; exact h3 a ha
    · generalize hX : min 99 (j + r) = X at hx e1
      generalize hY : min 99 (j + o) = Y at hy e2
      refine Or.inl ⟨sL (sL q 36 X (lN (nx2 W r o c j X + W j * (10 - c)))) 36 Y ((sL q 36 X (lN (nx2 W r o c j X + W j * (10 - c)))).2 36 Y + lN (W j * c)), nI (j + 1), fun rec => ?_, rfl, h1, fun a ha => ?_, fun a ha => ?_⟩
      · unfold B_X2_passDay_27
        rw [if_neg (n99 hj), ckiT hj (by decide), e1, e2, ixN (k := j) (by omega), h2 j hj, if_neg (fun h9 => h0 ((lgc_0 hWj).mp h9)), ckiT hx (by decide), ckiT hj (by decide), ckiT hx (by decide), bsE, ixN (k := X) (by omega), h3 X hx, e3, lN_mul, lN_add, ckiT hy (by decide), ckiT hj (by decide), ckiT hy (by decide), bsE, ixN (k := Y) (by omega), e4, nI_1]
        rw [show (sL q 36 X (lN (nx2 W r o c j X + W j * (10 - c)))).2 35 j = lN (W j) by rw [sL_o (by omega)]; exact h2 j hj, lN_mul]
      · rw [sL_o (by omega), sL_o (by omega)]; exact h2 a ha
      · show _ = lN (nx2 W r o c j a + (if a = min 99 (j + r) then W j * (10 - c) else 0) + (if a = min 99 (j + o) then W j * c else 0))
        rw [hX, hY, sL_s, sL_s]
        have g : ∀ x, x < 100 → vp_updL (q.2 36) X (lN (nx2 W r o c j X + W j * (10 - c))) x = lN (nx2 W r o c j x + (if x = X then W j * (10 - c) else 0)) := by
          intro x hx2
          by_cases h8 : x = X
          · subst h8; rw [pk_uLs, if_pos rfl]
          · rw [pk_uLn h8, if_neg h8]; exact h3 x hx2
        by_cases h9 : a = Y
        · subst h9; rw [pk_uLs, g a ha, lN_add, if_pos rfl]
        · rw [pk_uLn h9, g a ha, if_neg h9]; rfl
  · rintro q y ⟨rfl, h1, h2, h3⟩ rec
    unfold B_X2_passDay_27
    rw [if_pos (show (99 : Int32) < nI 100 by decide)]
    refine ⟨_, rfl, h1, fun a ha => ?_⟩
    rw [sB_s, pk_cpy_in (Nat.zero_le _) (show a < 0 + Int32.toNatClampNeg 100 from Nat.lt_of_lt_of_le ha (by decide)), Nat.zero_add, Nat.sub_zero]
    exact h3 a ha
/-- the rises of a barrel, shut and open -/
def rS (t : Nat → Nat → Nat) (b i : Nat) : Nat := br t (t 2 3) (t 6 b) (lev t i) - t 8 b
def rO (t : Nat → Nat → Nat) (b i : Nat) : Nat := br t (t 2 3) (t 6 b) (lev t i + 1) - t 8 b
/-- is it sour -/
def pV (t : Nat → Nat → Nat) (a : Nat) : Nat := if t 16 0 ≤ a then 1 else 0
theorem pV_le {a : Nat} : pV t a ≤ 1 := by unfold pV; split <;> omega
/-- in how many ways a barrel is sour -/
def SW (t : Nat → Nat → Nat) (b c d : Nat) : Nat := FF (rS t b) (rO t b) c (pV t) d
theorem SW_le (hc : c ≤ 10) : SW t b c d ≤ 10 ^ d := FF_le hc (fun _ => pV_le)
theorem oneC (K : St → Option (Int64 × St)) : lq_2 (B_X2_sourWays_19 K) FU v 0 = K (pL v 35 (fun a => if a = 0 then 1 else 0) 100) := by
  refine mr_2 (pL v 35 (fun a => if a = 0 then 1 else 0)) nI 100 ?_ ?_ (FU_lt (by decide)) rfl rfl
  · intro i hi rec
    show B_X2_sourWays_19 K rec (pL v 35 (fun a => if a = 0 then 1 else 0) i) (nI i) = rec (sL (pL v 35 (fun a => if a = 0 then 1 else 0) i) 35 i (lN (if i = 0 then 1 else 0))) (nI (i + 1))
    unfold B_X2_sourWays_19
    rw [if_neg (n99 hi), ckiT hi (by decide), ckiT hi (by decide), ixN (by omega), bsE, bsE, nI_1]
    by_cases h0 : i = 0
    · rw [if_pos h0, if_pos (show nI i = (0 : Int32) by rw [h0]; rfl)]; rfl
    · rw [if_neg h0, if_neg (nI_ne0 (by omega) (by omega))]; rfl
  · intro rec
    unfold B_X2_sourWays_19
    rw [if_pos (show (99 : Int32) < nI 100 by decide)]
theorem swC (hT : TK t) (hA : AL v t (t 2 3) (lev t)) (hb : b < 8) (hbt : bt t b) (hd : d ≤ 10) (hc : c ≤ 10) : ∃ q : St, f_X2_sourWays v (nI b) (nI d) (nI c) = some (lN (SW t b c d), q) ∧ q.1 = v.1 := by
  have hth := K_there hT hb hbt
  have hbk := K_bar hT hb
  have hw := K_wal hT
  have hcn := K_cnt hT
  have h10 := p10 hd
  unfold f_X2_sourWays
  rw [hbY hA.1 hT hb hbt, b1E, if_neg n10, jq1, oneC]
  have z1 : (pL v 35 (fun a => if a = 0 then 1 else 0) 100).1 = v.1 := pL_1
  have z35 : ∀ a, a < 100 → (pL v 35 (fun a => if a = 0 then 1 else 0) 100).2 35 a = lN (WW (rS t b) (rO t b) c 0 a) := fun a ha => pL_i ha
  generalize pL v 35 (fun a => if a = 0 then 1 else 0) 100 = z at z1 z35
  rw [ckiT hb (by decide), ckiT hb (by decide), jq1]
  have z6 : z.1 6 b = nI (t 6 b) := by rw [z1]; exact U_lie hA.1 hb
  have z8 : z.1 8 b = nI (t 8 b) := by rw [z1]; exact U_cor hA.1 hb
  refine mw_2 (P := fun i (q : St) (y : Int32) => y = nI i ∧ q.1 = v.1 ∧ ∀ a, a < 100 → q.2 35 a = lN (WW (rS t b) (rO t b) c i a)) (Q := fun o2 => ∃ q : St, o2 = some (lN (SW t b c d), q) ∧ q.1 = v.1) d ?_ ?_ (FU_lt (by omega)) ⟨rfl, z1, z35⟩
  · rintro i q y hi ⟨rfl, h1, h2⟩
    have hAq : AL q t (t 2 3) (lev t) := AL_tr hA (fun c _ => by rw [h1])
    have hl := hAq.2.2.2.1.1 i (by omega)
    have hb1 := br_le (t := t) (wl := t 2 3) (c := t 6 b) (lev := lev t i)
    have hb2 := br_le (t := t) (wl := t 2 3) (c := t 6 b) (lev := lev t i + 1)
    obtain ⟨q2, e1, e2, e3⟩ := pdC2 (v := q) (W := WW (rS t b) (rO t b) c i) (r := rS t b i) (o := rO t b i) (c := c) (by unfold rS; omega) (by unfold rO; omega) hc (fun a ha => ⟨h2 a ha, by
      have h3 := WW_le (r := rS t b) (o := rO t b) (k := i) hc ha
      have h4 := (p10 (d := i) (by omega)).2
      omega⟩)
    refine Or.inl ⟨q2, nI (i + 1), fun rec => ?_, rfl, e2.trans h1, e3⟩
    unfold B_X2_sourWays_80
    rw [if_neg (nI_ge hi (by omega)), hl.1, b1E, ixN (by omega), z6, z8, riC hAq.1 hT hAq.2.1 (by omega) hth.1 (by omega) (by omega), b1E, show nI (lev t i) + (1 : Int32) = nI (lev t i + 1) from nI_1 _, riC hAq.1 hT hAq.2.1 (by omega) hth.1 (by omega) (by omega), b1E, show br t (t 2 3) (t 6 b) (lev t i) - t 8 b = rS t b i from rfl, show br t (t 2 3) (t 6 b) (lev t i + 1) - t 8 b = rO t b i from rfl, e1, b1E, nI_1]
  · rintro q y ⟨rfl, h1, h2⟩ rec
    have hUq : UT q t 0 := UT_congr hA.1 (fun c _ => by rw [h1]) (fun _ _ => rfl)
    unfold B_X2_sourWays_80
    rw [if_pos (Int32.le_refl _)]
    refine ⟨q, ?_, h1⟩
    show lq_2 (B_X2_sourWays_142 q (fun (x14 : Int64) => some (x14, q))) FU 0 0 = some (lN (SW t b c d), q)
    unfold SW
    rw [FF_WW]
    refine mr_2 (fun a => lN (sm (fun a => WW (rS t b) (rO t b) c d a * pV t a) a)) nI 100 ?_ ?_ (FU_lt (by decide)) rfl rfl
    · intro a ha rec
      show B_X2_sourWays_142 q _ rec (lN (sm (fun a => WW (rS t b) (rO t b) c d a * pV t a) a)) (nI a) = rec (lN (sm (fun a => WW (rS t b) (rO t b) c d a * pV t a) a + WW (rS t b) (rO t b) c d a * pV t a)) (nI (a + 1))
      unfold B_X2_sourWays_142
      rw [if_neg (n99 ha), vgC hUq hT (by omega), b1E, nI_1]
      by_cases h : t 16 0 ≤ a
      · rw [if_pos h, if_neg n10, ckiT ha (by decide), ixN (by omega), h2 a ha, lN_add, show pV t a = 1 from if_pos h, Nat.mul_one]
      · rw [if_neg h, if_pos rfl, show pV t a = 0 from if_neg h, Nat.mul_zero, show (0 : Int64) = lN 0 from rfl, lN_add]
    · intro rec
      unfold B_X2_sourWays_142
      rw [if_pos (show (99 : Int32) < nI 100 by decide)]
theorem awC (hd : d < 1000) : f_X2_allWays v (nI d) = some (lN (10 ^ d)) := by
  unfold f_X2_allWays
  rw [jq1]
  refine mr_2 (fun i => lN (10 ^ i)) nI d ?_ ?_ (FU_lt (by omega)) rfl rfl
  · intro i hi rec
    unfold B_X2_allWays_5
    rw [if_neg (nI_ge hi (by omega)), nI_1, show lN (10 ^ i) * (10 : Int64) = lN (10 ^ i * 10) from lN_mul _ 10, ← Nat.pow_succ]
  · intro rec
    unfold B_X2_allWays_5
    rw [if_pos (Int32.le_refl _)]
/-! ===== doors: the reference ===== -/
theorem awM (hd : d < 1000) : f_X12_allWays w (nI d) = some (lN (10 ^ d)) := by
  unfold f_X12_allWays
  rw [jq1]
  refine mr_2 (fun i => lN (10 ^ i)) nI d ?_ ?_ (FU_lt (by omega)) rfl rfl
  · intro i hi rec
    unfold B_X12_allWays_4
    rw [if_neg (nI_ge hi (by omega)), nI_1, show lN (10 ^ i) * (10 : Int64) = lN (10 ^ i * 10) from lN_mul _ 10, ← Nat.pow_succ]
  · intro rec
    unfold B_X12_allWays_4
    rw [if_pos (Int32.le_refl _)]
theorem wtM {s : Nat} (hs : s < 1024) (hd : d ≤ 10) (hc : c ≤ 10) : f_X12_weightOf w (nI s) (nI d) (nI c) = some (lN (wt c s d)) := by
  have e3 : Int32.toInt64 ((10 : Int32) - nI c) = lN (10 - c) := by rw [show (10 : Int32) - nI c = nI (10 - c) from pk_sub (a := 10) hc]; exact nI_l (by omega)
  have e4 : Int32.toInt64 (nI c) = lN c := nI_l (by omega)
  unfold f_X12_weightOf
  rw [jq1]
  refine mr_2 (fun i => lN (wt c s i)) nI d ?_ ?_ (FU_lt (by omega)) rfl rfl
  · intro i hi rec
    show B_X12_weightOf_5 (nI s) (nI d) (nI c) _ rec (lN (wt c s i)) (nI i) = rec (lN (wt c s i * (if s / 2 ^ i % 2 = 1 then c else 10 - c))) (nI (i + 1))
    unfold B_X12_weightOf_5
    rw [if_neg (nI_ge hi (by omega)), bitN (by omega) (by omega), nI_1, e3, e4, lN_mul, lN_mul]
    by_cases h : s / 2 ^ i % 2 = 1
    · rw [if_pos h, h, if_pos (show nI 1 = (1 : Int32) from rfl)]
    · rw [if_neg h, show s / 2 ^ i % 2 = 0 by omega, if_neg (show ¬ nI 0 = (1 : Int32) by decide)]
  · intro rec
    unfold B_X12_weightOf_5
    rw [if_pos (Int32.le_refl _)]
end DC
