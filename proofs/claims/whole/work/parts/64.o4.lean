/-! ===== shifts, second ===== -/
theorem orS_bit {f : Nat → Nat} {n i : Nat} : (orS f n).testBit i = true ↔ ∃ k, k < n ∧ (f k).testBit i = true := by
  induction n with
  | zero => simp [orS]
  | succ n ih =>
    show (orS f n ||| f n).testBit i = true ↔ _
    rw [Nat.testBit_or, Bool.or_eq_true, ih]
    constructor
    · rintro (⟨k, h1, h2⟩ | h)
      · exact ⟨k, by omega, h2⟩
      · exact ⟨n, by omega, h⟩
    · rintro ⟨k, h1, h2⟩
      by_cases h9 : k = n
      · subst h9; exact Or.inr h2
      · exact Or.inl ⟨k, by omega, h2⟩
theorem orS_lt {f : Nat → Nat} {n L : Nat} (h : ∀ k, k < n → f k < 2 ^ L) : orS f n < 2 ^ L := by
  induction n with
  | zero => exact Nat.two_pow_pos L
  | succ n ih => exact Nat.or_lt_two_pow (ih (fun k hk => h k (by omega))) (h n (by omega))
theorem orS_mem {f : Nat → Nat} {n i : Nat} (h : i < n) : orS f n ||| f i = orS f n := by
  apply Nat.eq_of_testBit_eq
  intro j
  rw [Nat.testBit_or]
  cases hj : (orS f n).testBit j
  · rw [Bool.false_or]
    cases hf : (f i).testBit j
    · rfl
    · have := orS_bit.mpr ⟨i, h, hf⟩
      rw [hj] at this; cases this
  · rfl
/-- the days that a keeper wakes -/
def rN (L k : Nat) : Nat → Nat := orS (fun i => 2 ^ ((k + i) % L))
theorem rN_min {L k r : Nat} (hL : 0 < L) : rN L k r = rN L k (min r L) := by
  induction r with
  | zero => rw [Nat.zero_min]
  | succ r ih =>
    by_cases h : r < L
    · rw [Nat.min_eq_left (by omega)]
    · rw [Nat.min_eq_right (by omega)]
      rw [Nat.min_eq_right (by omega)] at ih
      show rN L k r ||| 2 ^ ((k + r) % L) = _
      rw [ih]
      have e : (k + r) % L = (k + r % L) % L := by rw [Nat.add_mod_mod]
      rw [e]
      exact orS_mem (f := fun i => 2 ^ ((k + i) % L)) (Nat.mod_lt r hL)
/-- the days that begins wake -/
def wN (L r b : Nat) : Nat := orS (fun k => if b / 2 ^ k % 2 = 1 then rN L k (min r L) else 0) L
theorem wN_all {L r : Nat} (hL : 0 < L) (hr : 0 < r) : wN L r (2 ^ L - 1) = 2 ^ L - 1 := by
  apply Nat.eq_of_testBit_eq
  intro i
  rw [Nat.testBit_two_pow_sub_one]
  have hb : ∀ k, k < L → (2 ^ L - 1) / 2 ^ k % 2 = 1 := by
    intro k hk
    have := Nat.testBit_two_pow_sub_one L k
    rw [Nat.testBit_eq_decide_div_mod_eq] at this
    rw [decide_eq_true hk] at this
    exact of_decide_eq_true this
  by_cases h : i < L
  · rw [decide_eq_true h]
    refine orS_bit.mpr ⟨i, h, ?_⟩
    rw [if_pos (hb i h)]
    refine orS_bit.mpr ⟨0, by omega, ?_⟩
    rw [Nat.add_zero, Nat.mod_eq_of_lt h]
    exact Nat.testBit_two_pow_self
  · rw [decide_eq_false h]
    apply Bool.eq_false_iff.mpr
    intro h9
    obtain ⟨k, hk, h8⟩ := orS_bit.mp h9
    rw [if_pos (hb k hk)] at h8
    obtain ⟨j, hj, h7⟩ := orS_bit.mp h8
    rw [Nat.testBit_two_pow] at h7
    have := Nat.mod_lt (k + j) hL
    have := of_decide_eq_true h7
    omega
def wantN (t : Nat → Nat → Nat) (x : Nat) : Nat → Nat := orS (fun k => if x ≤ t 11 k then 2 ^ k else 0)
def fwr : Option Nat → Nat → Bool
  | none, _ => true
  | some q, n => !decide (pc q ≤ pc n)
def FD (cov : Nat → Bool) : Nat → Option Nat
  | 0 => none
  | n + 1 => if cov n && fwr (FD cov n) n then some n else FD cov n
theorem FD_lt {cov : Nat → Bool} : ∀ {n q : Nat}, FD cov n = some q → q < n
  | 0, q, h => by cases h
  | n + 1, q, h => by
    unfold FD at h
    split at h
    · injection h with h; omega
    · have := FD_lt h; omega
section SF
variable {u m v : St} {t : Nat → Nat → Nat}
theorem frC (hU : UT u t 0) (hT : TK t) (h12 : t 10 1 ≤ 12) {r : Nat} (hr : r ≤ 30) : ∃ z, f_X11_fillReach u (nI r) = some z ∧ (∀ c, c ≠ 37 → z.1 c = u.1 c) ∧ ∀ k, k < t 10 1 → z.1 37 k = nI (rN (t 10 1) k (min r (t 10 1))) := by
  have hl := K_len hT
  have inn : ∀ k, k < t 10 1 → ∀ K : Int32 → Option St, lq_2 (B_X11_fillReach_30 (nI r) u (nI k) K) FU 0 0 = K (nI (rN (t 10 1) k (min r (t 10 1)))) := by
    intro k hk K
    refine mr_2 (fun i => nI (rN (t 10 1) k i)) nI (min r (t 10 1)) ?_ ?_ (FU_lt (by omega)) rfl rfl
    · intro i hi rec
      have hm : (k + i) % t 10 1 < t 10 1 := Nat.mod_lt _ (by omega)
      unfold B_X11_fillReach_30
      rw [U_len hU, if_neg (nI_ge (show i < r by omega) (by omega)), if_neg (nI_ge (show i < t 10 1 by omega) (by omega)), ckT (show ¬ nI (t 10 1) = 0 from fun h9 => absurd ((nI_eq (b := 0) (by omega) (by decide)).mp h9) (by omega)), nI_add, pk_rem (by omega) (by omega) (by omega), shlN (by omega), orNN, bsE, nI_1]; rfl
    · intro rec
      unfold B_X11_fillReach_30
      rw [U_len hU]
      by_cases h9 : r ≤ t 10 1
      · rw [Nat.min_eq_left h9, if_pos (Int32.le_refl _)]
      · rw [Nat.min_eq_right (by omega), if_neg (nI_ge (show t 10 1 < r by omega) (by omega)), if_pos (Int32.le_refl _)]
  unfold f_X11_fillReach
  rw [jq1]
  refine mw_2 (P := fun i (z : St) (y : Int32) => y = nI i ∧ (∀ c, c ≠ 37 → z.1 c = u.1 c) ∧ ∀ k, k < i → z.1 37 k = nI (rN (t 10 1) k (min r (t 10 1)))) (Q := fun o => ∃ z : St, o = some z ∧ (∀ c, c ≠ 37 → z.1 c = u.1 c) ∧ ∀ k, k < t 10 1 → z.1 37 k = nI (rN (t 10 1) k (min r (t 10 1)))) (t 10 1) ?_ ?_ (FU_lt (by omega)) ⟨rfl, fun _ _ => rfl, fun k hk => absurd hk (by omega)⟩
  · rintro i z y hi ⟨rfl, h1, h2⟩
    refine Or.inl ⟨sI z 37 i (nI (rN (t 10 1) i (min r (t 10 1)))), _, fun rec => ?_, ⟨rfl, fun c hc => by rw [sI_o hc]; exact h1 c hc, fun k hk => ?_⟩⟩
    · unfold B_X11_fillReach_13
      rw [U_len hU, if_neg (nI_ge hi (by omega)), if_neg (nle_l (l := 12) 12 rfl (by omega) (by decide)), jq1, inn i hi, ckiT (by omega) (by decide), ixN (by omega), bsE, nI_1]
    · rw [sI_s]
      by_cases h9 : k = i
      · subst h9; rw [pk_us]
      · rw [pk_un h9]; exact h2 k (by omega)
  · rintro z y ⟨rfl, h⟩ rec
    unfold B_X11_fillReach_13
    rw [U_len hU, if_pos (Int32.le_refl _)]
    exact ⟨z, rfl, h⟩
theorem dfC (hU : UT v t 0) (hT : TK t) {x : Nat} (hx : x ≤ 9) : f_X8_daysFrom v (nI x) = some (nI (wantN t x (t 10 1))) := by
  have hl := K_len hT
  unfold f_X8_daysFrom
  rw [jq1]
  refine mr_2 (fun i => nI (wantN t x i)) nI (t 10 1) ?_ ?_ (FU_lt (by omega)) rfl rfl
  · intro i hi rec
    have hd := K_dig hT (k := i) (by omega)
    unfold B_X8_daysFrom_4
    rw [U_len hU, if_neg (nI_ge hi (by omega)), dgA hU hT (by omega), Nat.mod_eq_of_lt hi, b1E, shlN (by omega), show (0 : Int32) = nI 0 from rfl, orNN, orNN, nI_1]
    show _ = rec (nI (wantN t x i ||| (if x ≤ t 11 i then 2 ^ i else 0))) _
    by_cases h : x ≤ t 11 i
    · rw [if_neg (nI_nlt h (by omega)), if_pos h]
    · rw [if_pos (nI_lt (by omega) (by omega)), if_neg h]
  · intro rec
    unfold B_X8_daysFrom_4
    rw [U_len hU, if_pos (Int32.le_refl _)]
theorem bit_hi {b L k : Nat} (h : b < 2 ^ L) (hk : L ≤ k) : b / 2 ^ k = 0 := Nat.div_eq_of_lt (Nat.lt_of_lt_of_le h (Nat.pow_le_pow_right (by decide) hk))
theorem wdC (hU : UT v t 0) (hT : TK t) (h12 : t 10 1 ≤ 12) {r b : Nat} (hre : ∀ k, k < t 10 1 → v.1 37 k = nI (rN (t 10 1) k (min r (t 10 1)))) (hb : b < 2 ^ t 10 1) : f_X11_wakingDays v (nI b) = some (nI (wN (t 10 1) r b)) := by
  have hl := K_len hT
  have h2 : 2 ^ t 10 1 ≤ 2 ^ 12 := Nat.pow_le_pow_right (by decide) h12
  unfold f_X11_wakingDays wN
  rw [jq1, ← orS_tail (f := fun k => if b / 2 ^ k % 2 = 1 then rN (t 10 1) k (min r (t 10 1)) else 0) h12 (fun i h3 h4 => by rw [bit_hi hb h3]; rfl)]
  refine mr_2 (fun i => nI (orS (fun k => if b / 2 ^ k % 2 = 1 then rN (t 10 1) k (min r (t 10 1)) else 0) i)) nI 12 ?_ ?_ (FU_lt (by omega)) rfl rfl
  · intro i hi rec
    unfold B_X11_wakingDays_4
    rw [if_neg (nle_l (l := 12) 12 rfl hi (by decide)), hbit_ev (by omega) (by omega), b1E, ckiT hi (by decide), ixN (by omega), nI_1]
    show _ = rec (nI (orS _ i ||| (if b / 2 ^ i % 2 = 1 then rN (t 10 1) i (min r (t 10 1)) else 0))) _
    by_cases h : b / 2 ^ i % 2 = 1
    · have hi2 : i < t 10 1 := by
        rcases Nat.lt_or_ge i (t 10 1) with h9 | h9
        · exact h9
        · rw [bit_hi hb h9] at h; omega
      rw [if_pos h, if_neg n10, if_pos h, hre i hi2, orNN]
    · rw [if_neg h, if_pos rfl, if_neg h, show (0 : Int32) = nI 0 from rfl, orNN]
  · intro rec
    unfold B_X11_wakingDays_4
    rw [if_pos (show (12 : Int32) ≤ nI 12 by decide)]
theorem wbM (hM : MT m t) (hT : TK t) (h12 : t 10 1 ≤ 12) {r b : Nat} (hr : r ≤ 30) (hb : b < 2 ^ t 10 1) : f_X12_wakenBy m (nI b) (nI r) = some (nI (wN (t 10 1) r b)) := by
  have hl := K_len hT
  have h2 : 2 ^ t 10 1 ≤ 2 ^ 12 := Nat.pow_le_pow_right (by decide) h12
  have inn : ∀ k, k < t 10 1 → ∀ (K : Int32 → Option Int32) a, lq_2 (B_X12_wakenBy_17 (nI b) (nI r) m (nI k) K) FU (nI a) 0 = K (nI (a ||| (if b / 2 ^ k % 2 = 1 then rN (t 10 1) k (min r (t 10 1)) else 0))) := by
    intro k hk K a
    by_cases h : b / 2 ^ k % 2 = 1
    · rw [if_pos h, ← rN_min (by omega)]
      refine mr_2 (fun i => nI (a ||| rN (t 10 1) k i)) nI r ?_ ?_ (FU_lt (by omega)) (by show nI a = nI (a ||| 0); rw [Nat.or_zero]) rfl
      · intro i hi rec
        have hm : (k + i) % t 10 1 < t 10 1 := Nat.mod_lt _ (by omega)
        unfold B_X12_wakenBy_17
        rw [M_len hM, if_neg (nI_ge hi (by omega)), bitN (by omega) (by omega), h, if_pos (show nI 1 = 1 from rfl), ckT (show ¬ nI (t 10 1) = 0 from fun h9 => absurd ((nI_eq (b := 0) (by omega) (by decide)).mp h9) (by omega)), nI_add, pk_rem (by omega) (by omega) (by omega), shlN (by omega), orNN, bsE, nI_1, Nat.or_assoc]; rfl
      · intro rec
        unfold B_X12_wakenBy_17
        rw [if_pos (Int32.le_refl _)]
    · rw [if_neg h, Nat.or_zero]
      obtain ⟨F, hF⟩ : ∃ F, FU = F + 1 := ⟨99999, rfl⟩
      rw [hF]
      show B_X12_wakenBy_17 _ _ _ _ _ _ _ _ = _
      unfold B_X12_wakenBy_17
      rw [bitN (by omega) (by omega), show b / 2 ^ k % 2 = 0 by omega, if_neg (show ¬ nI 0 = 1 by decide)]
      split <;> rfl
  unfold f_X12_wakenBy wN
  rw [jq1]
  refine mr_2 (fun i => nI (orS (fun k => if b / 2 ^ k % 2 = 1 then rN (t 10 1) k (min r (t 10 1)) else 0) i)) nI (t 10 1) ?_ ?_ (FU_lt (by omega)) rfl rfl
  · intro i hi rec
    unfold B_X12_wakenBy_5
    rw [M_len hM, if_neg (nI_ge hi (by omega)), jq1, inn i hi, nI_1]; rfl
  · intro rec
    unfold B_X12_wakenBy_5
    rw [M_len hM, if_pos (Int32.le_refl _)]
end SF
def cvN (t : Nat → Nat → Nat) (x r : Nat) : Nat → Bool := fun b => decide (nI (wantN t x (t 10 1)) &&& (nI (wN (t 10 1) r b) ^^^ (-1 : Int32)) = 0)
def fI : Option Nat → Int32
  | none => -6
  | some q => nI q
theorem FD_s {cov : Nat → Bool} {n : Nat} : FD cov (n + 1) = if cov n && fwr (FD cov n) n then some n else FD cov n := rfl
theorem s_shifts : Sp_shifts Inv := by
  intro N u m p1 p2 p3 hi0
  obtain ⟨t, hU, hM, hT, hP, hI, hd, hr0⟩ := id hi0
  have hl := K_len hT
  unfold f_X11_shifts f_X12_shifts
  rw [w_ev, b1E, in_ev (a := 0) (b := 9) (lo := 0) (hi := 9) rfl rfl, b1E]
  by_cases h1 : (0 : Int32) ≤ p1 ∧ p1 ≤ 9
  rotate_left
  · rw [if_neg h1, if_pos rfl, if_pos rfl]
    exact ⟨_, _, rfl, rfl, hi0⟩
  rw [if_pos h1, if_neg n10, if_neg n10, w_ev, b1E, in_ev (a := 1) (b := 30) (lo := 1) (hi := 30) rfl rfl, b1E]
  by_cases h2 : (1 : Int32) ≤ p2 ∧ p2 ≤ 30
  rotate_left
  · rw [if_neg h2, if_pos rfl, if_pos rfl]
    exact ⟨_, _, rfl, rfl, hi0⟩
  rw [if_pos h2, if_neg n10, if_neg n10, w_ev, b1E, in_ev (a := 0) (b := 1) (lo := 0) (hi := 1) rfl rfl, b1E]
  by_cases h3 : (0 : Int32) ≤ p3 ∧ p3 ≤ 1
  rotate_left
  · rw [if_neg h3, if_pos rfl, if_pos rfl]
    exact ⟨_, _, rfl, rfl, hi0⟩
  rw [if_pos h3, if_neg n10, if_neg n10, U_len hU, M_len hM]
  by_cases h12 : t 10 1 ≤ 12
  rotate_left
  · rw [if_neg (show ¬ nI (t 10 1) ≤ 12 from nI_ge (a := 12) (by omega) (by omega)), if_neg (show ¬ nI (t 10 1) ≤ 12 from nI_ge (a := 12) (by omega) (by omega))]
    exact ⟨_, _, rfl, rfl, hi0⟩
  rw [if_pos (show nI (t 10 1) ≤ 12 from nI_le (b := 12) h12 (by omega)), if_pos (show nI (t 10 1) ≤ 12 from nI_le (b := 12) h12 (by omega))]
  obtain ⟨x, -, hx, rfl⟩ := rng h1 (a := 0) (b := 9) rfl rfl (by decide) (by decide)
  obtain ⟨r, hr1, hr, rfl⟩ := rng h2 (a := 1) (b := 30) rfl rfl (by decide) (by decide)
  obtain ⟨z, ez, z1, z2⟩ := frC hU hT h12 hr
  have hk : Kp u z := fun c hc => z1 c (by omega)
  have hUz := UT_kp hU (Or.inl rfl) hk
  have hp2 : 2 ^ t 10 1 ≤ 4096 := Nat.pow_le_pow_right (n := 2) (j := 12) (by decide) h12
  have hp1 : 2 ≤ 2 ^ t 10 1 := Nat.pow_le_pow_right (n := 2) (i := 1) (by decide) (by omega)
  have hwant : wantN t x (t 10 1) < 2 ^ t 10 1 := orS_lt (fun k hk => by
    have : 2 ^ k < 2 ^ t 10 1 := Nat.pow_lt_pow_right (by decide) hk
    show (if x ≤ t 11 k then 2 ^ k else 0) < _
    split <;> omega)
  have hcall : cvN t x r (2 ^ t 10 1 - 1) = true := decide_eq_true (by rw [wN_all (by omega) (by omega)]; exact msk (by omega) hwant)
  -- the class
  have hC : f_X11_fewestBegins z (nI (wantN t x (t 10 1))) = some (nI ((FD (cvN t x r) (2 ^ t 10 1 - 1)).getD (2 ^ t 10 1 - 1))) := by
    unfold f_X11_fewestBegins
    rw [U_len hUz, show mnI (nI (t 10 1)) 12 = nI (t 10 1) by rw [show (12 : Int32) = nI 12 from rfl, mn_n (by omega) (by decide), Nat.min_eq_left h12], shlN (by omega), bsE, jq1, show nI (2 ^ t 10 1) - 1 = nI (2 ^ t 10 1 - 1) from pk_sub (b := 1) (by omega)]
    refine mr_2 (fun i => nI ((FD (cvN t x r) (min i (2 ^ t 10 1 - 1))).getD (2 ^ t 10 1 - 1))) nI (2 ^ t 10 1) ?_ ?_ (FU_lt (by omega)) (by show _ = nI ((FD (cvN t x r) (min 0 _)).getD _); rw [Nat.zero_min]; rfl) rfl
    · intro i hi rec
      have hbd : (FD (cvN t x r) (min i (2 ^ t 10 1 - 1))).getD (2 ^ t 10 1 - 1) < 2 ^ t 10 1 := by
        cases hF : FD (cvN t x r) (min i (2 ^ t 10 1 - 1)) with
        | none => show 2 ^ t 10 1 - 1 < _; omega
        | some q => have := FD_lt hF; show q < _; omega
      unfold B_X11_fewestBegins_25
      rw [if_neg (nI_ge hi (by omega)), bcE (by omega), b1E, bcE (by omega), b1E, jq1, wdC hUz hT h12 z2 hi, b1E, nI_1]
      by_cases hlast : i = 2 ^ t 10 1 - 1
      · have hle : pc ((FD (cvN t x r) (min i (2 ^ t 10 1 - 1))).getD (2 ^ t 10 1 - 1)) ≤ pc i := by
          rw [hlast]
          by_cases h9 : (FD (cvN t x r) (min (2 ^ t 10 1 - 1) (2 ^ t 10 1 - 1))).getD (2 ^ t 10 1 - 1) = 2 ^ t 10 1 - 1
          · rw [h9]; exact Int32.le_refl _
          · rw [hlast] at hbd
            have := pcL (L := t 10 1) (by omega) (n := (FD (cvN t x r) (min (2 ^ t 10 1 - 1) (2 ^ t 10 1 - 1))).getD (2 ^ t 10 1 - 1)) (by omega)
            exact Int32.le_of_lt (Int32.not_le.mp this)
        rw [if_pos hle]
        refine (if_pos rfl).trans ?_
        rw [Nat.min_eq_right (show 2 ^ t 10 1 - 1 ≤ i by omega), Nat.min_eq_right (show 2 ^ t 10 1 - 1 ≤ i + 1 by omega)]
      · have e1 : min i (2 ^ t 10 1 - 1) = i := Nat.min_eq_left (by omega)
        have e2 : min (i + 1) (2 ^ t 10 1 - 1) = i + 1 := Nat.min_eq_left (by omega)
        rw [e1, e2, FD_s]
        have hfw : fwr (FD (cvN t x r) i) i = !decide (pc ((FD (cvN t x r) i).getD (2 ^ t 10 1 - 1)) ≤ pc i) := by
          cases hF : FD (cvN t x r) i with
          | none =>
            show true = !decide (pc (2 ^ t 10 1 - 1) ≤ pc i)
            rw [decide_eq_false (pcL (by omega) (by omega))]; rfl
          | some q => rfl
        rw [hfw]
        by_cases hle : pc ((FD (cvN t x r) i).getD (2 ^ t 10 1 - 1)) ≤ pc i
        · rw [if_pos hle, decide_eq_true hle]
          refine (if_pos rfl).trans ?_
          simp
        · rw [if_neg hle, decide_eq_false hle]
          refine (if_neg n10).trans ?_
          by_cases hcv : cvN t x r i = true
          · rw [hcv]
            refine (if_pos (of_decide_eq_true hcv)).trans ?_
            rfl
          · rw [Bool.eq_false_iff.mpr hcv]
            refine (if_neg (fun h9 => hcv (decide_eq_true h9))).trans ?_
            rfl
    · intro rec
      unfold B_X11_fewestBegins_25
      rw [if_pos (Int32.le_refl _), Nat.min_eq_right (by omega)]
  -- the reference
  have hW : ∀ K : Int32 → Option Int32, lq_2 (B_X12_shifts_55 (nI x) m K) FU 0 0 = K (nI (wantN t x (t 10 1))) := by
    intro K
    refine mr_2 (fun i => nI (wantN t x i)) nI (t 10 1) ?_ ?_ (FU_lt (by omega)) rfl rfl
    · intro i hi rec
      have hdg := K_dig hT (k := i) (by omega)
      unfold B_X12_shifts_55
      rw [M_len hM, if_neg (nI_ge hi (by omega)), ckiT (by omega) (by decide), ixN (by omega), M_dig hM (by omega), shlN (by omega), show (0 : Int32) = nI 0 from rfl, orNN, orNN, nI_1]
      show _ = rec (nI (wantN t x i ||| (if x ≤ t 11 i then 2 ^ i else 0))) _
      by_cases h : x ≤ t 11 i
      · rw [if_neg (nI_nlt h (by omega)), if_pos h]
      · rw [if_pos (nI_lt (by omega) (by omega)), if_neg h]
    · intro rec
      unfold B_X12_shifts_55
      rw [M_len hM, if_pos (Int32.le_refl _)]
  have hR : ∀ K : Int32 → Option Int32, lq_2 (B_X12_shifts_101 (nI r) m (nI (wantN t x (t 10 1))) K) FU (-6) 0 = K (fI (FD (cvN t x r) (2 ^ t 10 1))) := by
    intro K
    refine mr_2 (fun i => fI (FD (cvN t x r) i)) nI (2 ^ t 10 1) ?_ ?_ (FU_lt (by omega)) rfl rfl
    · intro i hi rec
      unfold B_X12_shifts_101
      rw [M_len hM, shlN (by omega), if_neg (nI_ge hi (by omega)), jq1, wbM hM hT h12 hr hi, b1E, nI_1, FD_s]
      have tl : ∀ y : Int32, (if (1 : Int32) = 0 then rec y (nI (i + 1)) else if (nI (wantN t x (t 10 1)) &&& (nI (wN (t 10 1) r i) ^^^ (-1 : Int32))) = 0 then rec (nI i) (nI (i + 1)) else rec y (nI (i + 1))) = rec (if cvN t x r i then nI i else y) (nI (i + 1)) := by
        intro y
        rw [if_neg n10]
        by_cases hcv : cvN t x r i = true
        · rw [hcv, if_pos rfl]; exact if_pos (of_decide_eq_true hcv)
        · rw [Bool.eq_false_iff.mpr hcv, if_neg (show ¬ false = true by decide)]; exact if_neg (fun h9 => hcv (decide_eq_true h9))
      cases hF : FD (cvN t x r) i with
      | none =>
        rw [if_pos (show fI none < 0 by decide)]
        refine (tl _).trans ?_
        show _ = rec (fI (if cvN t x r i && true then some i else none)) _
        rw [Bool.and_true]
        cases cvN t x r i <;> rfl
      | some q =>
        have hq := FD_lt hF
        rw [if_neg (show ¬ fI (some q) < 0 from nge (n := q) (by omega)), on4 (by omega), b1E, show fI (some q) = nI q from rfl, on4 (by omega), b1E]
        show _ = rec (fI (if cvN t x r i && !decide (pc q ≤ pc i) then some i else some q)) _
        by_cases hle : pc q ≤ pc i
        · rw [if_pos hle, decide_eq_true hle]
          refine (if_pos rfl).trans ?_
          simp [fI]
        · rw [if_neg hle, decide_eq_false hle]
          refine (tl _).trans ?_
          rw [Bool.not_false, Bool.and_true]
          cases cvN t x r i <;> rfl
    · intro rec
      unfold B_X12_shifts_101
      rw [M_len hM, shlN (by omega), if_pos (Int32.le_refl _)]
  have hfin : FD (cvN t x r) (2 ^ t 10 1) = some ((FD (cvN t x r) (2 ^ t 10 1 - 1)).getD (2 ^ t 10 1 - 1)) := by
    obtain ⟨n, hn⟩ : ∃ n, 2 ^ t 10 1 = n + 1 := ⟨2 ^ t 10 1 - 1, by omega⟩
    have hn1 : 2 ^ t 10 1 - 1 = n := by omega
    rw [hn1] at hcall ⊢
    rw [hn, FD_s, hcall, Bool.true_and]
    cases hF : FD (cvN t x r) n with
    | none => rfl
    | some q =>
      have hq := FD_lt hF
      have := pcL (L := t 10 1) (by omega) (n := q) (by omega)
      rw [hn1] at this
      show (if (!decide (pc q ≤ pc n)) = true then some n else some q) = some q
      rw [decide_eq_true (Int32.le_of_lt (Int32.not_le.mp this))]; rfl
  have hb : (FD (cvN t x r) (2 ^ t 10 1 - 1)).getD (2 ^ t 10 1 - 1) < 4096 := by
    cases hF : FD (cvN t x r) (2 ^ t 10 1 - 1) with
    | none => show 2 ^ t 10 1 - 1 < _; omega
    | some q => have := FD_lt hF; show q < _; omega
  rw [ez, b1E, dfC hUz hT hx, b1E, hC, b1E, jq1, hW, jq1, hR, hfin]
  show ∃ r9 u9, (if p3 = 0 then _ else _) = _ ∧ (if p3 = 0 then _ else _) = _ ∧ _
  rw [show fI (some ((FD (cvN t x r) (2 ^ t 10 1 - 1)).getD (2 ^ t 10 1 - 1))) = nI ((FD (cvN t x r) (2 ^ t 10 1 - 1)).getD (2 ^ t 10 1 - 1)) from rfl, bcE hb, on4 hb, b1E, b1E]
  by_cases h0 : p3 = 0
  · rw [if_pos h0, if_pos h0]; exact ⟨_, _, rfl, rfl, Inv_keep hi0 hk Km_rf⟩
  · rw [if_neg h0, if_neg h0]; exact ⟨_, _, rfl, rfl, Inv_keep hi0 hk Km_rf⟩
