/-! ===== counting ===== -/
theorem cq_congr {p q : Nat → Bool} {n : Nat} (h : ∀ i, i < n → p i = q i) : cq p n = cq q n := by
  induction n with
  | zero => rfl
  | succ n ih => show cq p n + _ = cq q n + _; rw [ih (fun i hi => h i (by omega)), h n (by omega)]
theorem cq_le {p : Nat → Bool} {n : Nat} : cq p n ≤ n := by
  induction n with
  | zero => exact Nat.le_refl _
  | succ n ih => show cq p n + _ ≤ _; split <;> omega
theorem cq_mono {p q : Nat → Bool} {n : Nat} (h : ∀ i, i < n → p i = true → q i = true) : cq p n ≤ cq q n := by
  induction n with
  | zero => exact Nat.le_refl _
  | succ n ih =>
    show cq p n + _ ≤ cq q n + _
    have := ih (fun i hi => h i (by omega))
    by_cases hp : p n = true
    · rw [if_pos hp, if_pos (h n (by omega) hp)]; omega
    · rw [if_neg hp]; split <;> omega
theorem cq_at {p : Nat → Bool} {n b : Nat} (h : b < n) : cq p n = cq (fun i => p i && decide (i ≠ b)) n + (if p b then 1 else 0) := by
  induction n with
  | zero => omega
  | succ n ih =>
    show cq p n + _ = cq _ n + _ + _
    by_cases hb : b = n
    · subst hb
      have e : cq p b = cq (fun i => p i && decide (i ≠ b)) b := cq_congr (fun i hi => by simp; omega)
      rw [e]; simp
    · rw [ih (by omega)]
      have : (decide (n ≠ b)) = true := by simp; omega
      simp only [this, Bool.and_true]; omega
def setb (n b : Nat) : Nat := if n / 2 ^ b % 2 = 1 then n else n + 2 ^ b
def clrb (n b : Nat) : Nat := if n / 2 ^ b % 2 = 1 then n - 2 ^ b else n
theorem orB : ∀ n, n < 256 → ∀ b, b < 8 → nI n ||| ((1 : Int32) <<< (nI b &&& 31)) = nI (setb n b) := by decide +kernel
theorem anB : ∀ n, n < 256 → ∀ b, b < 8 → nI n &&& (((1 : Int32) <<< (nI b &&& 31)) ^^^ (-1 : Int32)) = nI (clrb n b) := by decide +kernel
theorem set_lt : ∀ n, n < 256 → ∀ b, b < 8 → setb n b < 256 ∧ clrb n b < 256 := by decide +kernel
theorem set_lt6 : ∀ n, n < 64 → ∀ b, b < 6 → setb n b < 64 ∧ clrb n b < 64 := by decide +kernel
theorem set_bit : ∀ n, n < 256 → ∀ b, b < 8 → ∀ i, i < 8 → setb n b / 2 ^ i % 2 = (if i = b then 1 else n / 2 ^ i % 2) ∧ clrb n b / 2 ^ i % 2 = (if i = b then 0 else n / 2 ^ i % 2) := by decide +kernel
theorem pw_bit : ∀ b, b < 8 → ∀ i, i < 8 → (2 ^ b / 2 ^ i % 2 = 1 ↔ i = b) := by decide +kernel
theorem bc_eq : ∀ n, n < 256 → f_J6_bitCount_0f7a4 uz (nI n) = f_X12_ones uz (nI n) ∧ (f_X12_ones uz (nI n)).isSome = true := by decide +kernel
theorem bc_u {u : St} {x : Int32} : f_J6_bitCount_0f7a4 u x = f_J6_bitCount_0f7a4 uz x := rfl
theorem on_u {u : St} {x : Int32} : f_X12_ones u x = f_X12_ones uz x := rfl
/-- how many bits -/
def pc (n : Nat) : Int32 := (f_X12_ones uz (nI n)).getD 0
theorem on_ev {u : St} {n : Nat} (h : n < 256) : f_X12_ones u (nI n) = some (pc n) := by
  rw [on_u]
  have h2 := (bc_eq n h).2
  unfold pc
  cases hx : f_X12_ones uz (nI n) with
  | none => rw [hx] at h2; cases h2
  | some x => rfl
theorem bc_ev {u : St} {n : Nat} (h : n < 256) : f_J6_bitCount_0f7a4 u (nI n) = some (pc n) := by
  rw [bc_u, (bc_eq n h).1, on_ev h]
section CN
variable {u m : St} {t : Nat → Nat → Nat}
theorem ci_ev (hU : UT u t 0) (hT : TK t) {c w : Nat} (hc : c < 2 ^ 30) (hw : w < 2 ^ 31) : f_X7_countIn u (nI c) (nI w) = some (nI (cq (fun i => lin t c i && decide (¬ w / 2 ^ i % 2 = 1)) 8)) := by
  unfold f_X7_countIn
  rw [jq1]
  refine mr_2 (fun i => nI (cq (fun i => lin t c i && decide (¬ w / 2 ^ i % 2 = 1)) i)) nI 8 ?_ ?_ (FU_lt (by decide)) rfl rfl
  · intro i hi rec
    have hl := K_bar hT hi
    unfold B_X7_countIn_5
    rw [if_neg (nle_l (l := 8) 8 rfl hi (by decide)), hb_ev hU hT hi, b1E, nI_1, U_lie hU (k := ix (nI i)) (by rw [ixN (by omega)]; exact hi), ixN (by omega), hbit_ev hw (by omega), b1E, ckiT hi (by decide), nI_1]
    show _ = rec (nI (cq _ i + _)) _
    unfold lin
    by_cases h1 : t 5 4 / 2 ^ i % 2 = 1
    · rw [if_pos h1, if_neg (by decide)]
      by_cases h2 : w / 2 ^ i % 2 = 1
      · rw [if_pos h2, if_neg (by decide)]; simp [h2]
      · rw [if_neg h2, if_pos rfl]
        by_cases h3 : t 6 i = c
        · rw [if_pos (by rw [h3])]; simp [h1, h2, h3]
        · rw [if_neg (fun h9 => h3 ((nI_eq (by omega) (by omega)).mp h9))]; simp [h3]
    · rw [if_neg h1, if_pos rfl]; simp [h1]
  · intro rec
    unfold B_X7_countIn_5
    rw [if_pos (le_l (l := 8) 8 rfl (by omega) (by decide))]
theorem li_ev (hM : MT m t) (hT : TK t) {c : Nat} (hc : c < 2 ^ 30) : f_X12_liesIn m (nI c) = some (nI (cq (lin t c) 8)) := by
  unfold f_X12_liesIn
  rw [jq1]
  refine mr_2 (fun i => nI (cq (lin t c) i)) nI 8 ?_ ?_ (FU_lt (by decide)) rfl rfl
  · intro i hi rec
    have hl := K_bar hT hi
    unfold B_X12_liesIn_4
    rw [if_neg (nle_l (l := 8) 8 rfl hi (by decide)), ib_ev hM hT hi, b1E, nI_1, ckiT hi (by decide), ixN (by omega), M_lie hM hi, nI_1, show nI (cq (lin t c) i) + (0 : Int32) = nI (cq (lin t c) i) from nI_add _ 0]
    show _ = rec (nI (cq _ i + _)) _
    unfold lin
    by_cases h1 : t 5 4 / 2 ^ i % 2 = 1
    · rw [if_pos h1, if_neg (by decide)]
      by_cases h3 : t 6 i = c
      · rw [if_pos (by rw [h3])]; simp [h1, h3]
      · rw [if_neg (fun h9 => h3 ((nI_eq (by omega) (by omega)).mp h9))]; simp [h3]
    · rw [if_neg h1, if_pos rfl]; simp [h1]
  · intro rec
    unfold B_X12_liesIn_4
    rw [if_pos (le_l (l := 8) 8 rfl (by omega) (by decide))]
end CN
