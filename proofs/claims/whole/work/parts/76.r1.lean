/-! ===== doors: counting ===== -/
theorem sm_mulr {f : Nat → Nat} {k n : Nat} : sm (fun i => f i * k) n = sm f n * k := by
  induction n with
  | zero => exact (Nat.zero_mul k).symm
  | succ n ih => show sm (fun i => f i * k) n + f n * k = (sm f n + f n) * k; rw [ih, Nat.add_mul]
theorem sm_mull {f : Nat → Nat} {k n : Nat} : sm (fun i => k * f i) n = k * sm f n := by
  induction n with
  | zero => exact (Nat.mul_zero k).symm
  | succ n ih => show sm (fun i => k * f i) n + k * f n = k * (sm f n + f n); rw [ih, Nat.mul_add]
theorem sm_app {f : Nat → Nat} {a b : Nat} : sm f (a + b) = sm f a + sm (fun i => f (a + i)) b := by
  induction b with
  | zero => rfl
  | succ b ih => show sm f (a + b) + f (a + b) = sm f a + (sm (fun i => f (a + i)) b + f (a + b)); rw [ih]; omega
theorem sm_swap {f : Nat → Nat → Nat} {n m : Nat} : sm (fun i => sm (fun j => f i j) m) n = sm (fun j => sm (fun i => f i j) n) m := by
  induction n with
  | zero => exact (sm_zero (n := m)).symm
  | succ n ih =>
    show sm (fun i => sm (fun j => f i j) m) n + sm (fun j => f n j) m = sm (fun j => sm (fun i => f i j) n + f n j) m
    rw [ih, sm_add]
theorem sm_ge {f : Nat → Nat} {i n : Nat} (h : i < n) : f i ≤ sm f n := by
  induction n with
  | zero => omega
  | succ n ih =>
    show f i ≤ sm f n + f n
    by_cases h9 : i = n
    · subst h9; omega
    · have := ih (by omega); omega
theorem sm_mono {f g : Nat → Nat} {n : Nat} (h : ∀ i, i < n → f i ≤ g i) : sm f n ≤ sm g n := by
  induction n with
  | zero => exact Nat.le_refl _
  | succ n ih =>
    have h1 := ih (fun i hi => h i (by omega))
    have h2 := h n (by omega)
    show sm f n + f n ≤ sm g n + g n
    omega
/-- the rises of a set of open days -/
def sx (r o : Nat → Nat) (s : Nat) : Nat → Nat := sm (fun i => if s / 2 ^ i % 2 = 1 then o i else r i)
/-- in how many ways just these are open -/
def wt (c s : Nat) : Nat → Nat
  | 0 => 1
  | k + 1 => wt c s k * (if s / 2 ^ k % 2 = 1 then c else 10 - c)
def FF (r o : Nat → Nat) (c : Nat) (P : Nat → Nat) (k : Nat) : Nat := sm (fun s => wt c s k * P (min 99 (sx r o s k))) (2 ^ k)
/-- the next day's ways, behind the first j acids -/
def nx2 (W : Nat → Nat) (r o c : Nat) : Nat → Nat → Nat
  | 0 => fun _ => 0
  | j + 1 => fun x => nx2 W r o c j x + (if x = min 99 (j + r) then W j * (10 - c) else 0) + (if x = min 99 (j + o) then W j * c else 0)
def WW (r o : Nat → Nat) (c : Nat) : Nat → Nat → Nat
  | 0 => fun a => if a = 0 then 1 else 0
  | k + 1 => nx2 (WW r o c k) (r k) (o k) c 100
theorem bt_top {s k : Nat} (h : s < 2 ^ k) : s / 2 ^ k % 2 = 0 ∧ (2 ^ k + s) / 2 ^ k % 2 = 1 := by
  refine ⟨by rw [Nat.div_eq_of_lt h], ?_⟩
  rw [Nat.add_div_left _ (Nat.two_pow_pos k), Nat.div_eq_of_lt h]
theorem bt_low {s k i : Nat} (h : i < k) : (2 ^ k + s) / 2 ^ i % 2 = s / 2 ^ i % 2 := by
  obtain ⟨j, rfl⟩ : ∃ j, k = i + (j + 1) := ⟨k - i - 1, by omega⟩
  rw [Nat.pow_add, Nat.mul_add_div (Nat.two_pow_pos i), Nat.pow_succ, Nat.mul_comm (2 ^ j) 2, Nat.mul_add_mod]
theorem wt_low {c s k : Nat} : ∀ {n : Nat}, n ≤ k → wt c (2 ^ k + s) n = wt c s n
  | 0, _ => rfl
  | n + 1, h => by
    show wt c (2 ^ k + s) n * _ = wt c s n * _
    rw [wt_low (by omega), bt_low (by omega)]
theorem sx_low {r o : Nat → Nat} {s k : Nat} : sx r o (2 ^ k + s) k = sx r o s k := sm_congr (fun i hi => by rw [bt_low hi])
theorem FF_step {r o : Nat → Nat} {c : Nat} {P : Nat → Nat} {k : Nat} : FF r o c P (k + 1) = FF r o c (fun a => (10 - c) * P (min 99 (a + r k)) + c * P (min 99 (a + o k))) k := by
  unfold FF
  rw [show (2 : Nat) ^ (k + 1) = 2 ^ k + 2 ^ k by rw [Nat.pow_succ]; omega, sm_app, ← sm_add]
  refine sm_congr (fun s hs => ?_)
  have h := bt_top hs
  show wt c s k * (if s / 2 ^ k % 2 = 1 then c else 10 - c) * P (min 99 (sx r o s k + (if s / 2 ^ k % 2 = 1 then o k else r k))) + wt c (2 ^ k + s) k * (if (2 ^ k + s) / 2 ^ k % 2 = 1 then c else 10 - c) * P (min 99 (sx r o (2 ^ k + s) k + (if (2 ^ k + s) / 2 ^ k % 2 = 1 then o k else r k))) = wt c s k * ((10 - c) * P (min 99 (min 99 (sx r o s k) + r k)) + c * P (min 99 (min 99 (sx r o s k) + o k)))
  rw [if_neg (show ¬ s / 2 ^ k % 2 = 1 by omega), if_neg (show ¬ s / 2 ^ k % 2 = 1 by omega), if_pos h.2, if_pos h.2, wt_low (Nat.le_refl _), sx_low, mn_st, mn_st, Nat.mul_add, Nat.mul_assoc, Nat.mul_assoc]
theorem sca {W P : Nat → Nat} {r o c : Nat} : ∀ {j : Nat}, sm (fun x => nx2 W r o c j x * P x) 100 = sm (fun a => W a * ((10 - c) * P (min 99 (a + r)) + c * P (min 99 (a + o)))) j
  | 0 => by
    rw [sm_congr (f := fun x => nx2 W r o c 0 x * P x) (g := fun _ => 0) (fun i _ => Nat.zero_mul _), sm_zero]; rfl
  | j + 1 => by
    have e : ∀ x, x < 100 → nx2 W r o c (j + 1) x * P x = nx2 W r o c j x * P x + (if x = min 99 (j + r) then W j * (10 - c) * P x else 0) + (if x = min 99 (j + o) then W j * c * P x else 0) := by
      intro x _
      show (nx2 W r o c j x + (if x = min 99 (j + r) then W j * (10 - c) else 0) + (if x = min 99 (j + o) then W j * c else 0)) * P x = _
      rw [Nat.add_mul, Nat.add_mul]
      congr 1
      · congr 1
        split
        · rfl
        · exact Nat.zero_mul _
      · split
        · rfl
        · exact Nat.zero_mul _
    rw [sm_congr e, sm_add, sm_add, sca (j := j), sm_one (f := fun x => W j * (10 - c) * P x) (show min 99 (j + r) < 100 by omega), sm_one (f := fun x => W j * c * P x) (show min 99 (j + o) < 100 by omega)]
    show _ = sm _ j + W j * ((10 - c) * P (min 99 (j + r)) + c * P (min 99 (j + o)))
    rw [Nat.mul_add, Nat.mul_assoc, Nat.mul_assoc, Nat.add_assoc]
theorem FF_WW {r o : Nat → Nat} {c : Nat} : ∀ {k : Nat} {P : Nat → Nat}, FF r o c P k = sm (fun a => WW r o c k a * P a) 100
  | 0, P => by
    rw [sm_congr (g := fun a => if a = 0 then P a else 0) (fun a _ => by show (if a = 0 then 1 else 0) * P a = _; split <;> simp), sm_one (by omega)]
    show 0 + 1 * P 0 = P 0
    omega
  | k + 1, P => by
    rw [FF_step, FF_WW (k := k)]
    exact (sca (W := WW r o c k) (j := 100)).symm
theorem WW_sum {r o : Nat → Nat} {c : Nat} (hc : c ≤ 10) : ∀ {k : Nat}, sm (WW r o c k) 100 = 10 ^ k
  | 0 => by
    show sm (fun a => if a = 0 then 1 else 0) 100 = 1
    exact sm_one (f := fun _ => 1) (by omega)
  | k + 1 => by
    have h := sca (W := WW r o c k) (P := fun _ => 1) (r := r k) (o := o k) (c := c) (j := 100)
    have h2 : sm (fun a => WW r o c k a * ((10 - c) * 1 + c * 1)) 100 = 10 ^ (k + 1) := by
      rw [sm_congr (g := fun a => WW r o c k a * 10) (fun a _ => by rw [Nat.mul_one, Nat.mul_one, Nat.sub_add_cancel hc]), sm_mulr, WW_sum hc (k := k), ← Nat.pow_succ]
    rw [← h2, ← h]
    exact sm_congr (fun a _ => (Nat.mul_one _).symm)
theorem WW_le {r o : Nat → Nat} {c k a : Nat} (hc : c ≤ 10) (ha : a < 100) : WW r o c k a ≤ 10 ^ k := by rw [← WW_sum hc (k := k) (r := r) (o := o)]; exact sm_ge ha
theorem FF_le {r o : Nat → Nat} {c k : Nat} {P : Nat → Nat} (hc : c ≤ 10) (hP : ∀ a, P a ≤ 1) : FF r o c P k ≤ 10 ^ k := by
  rw [FF_WW, ← WW_sum hc (k := k) (r := r) (o := o)]
  exact sm_mono (fun a _ => by have := Nat.mul_le_mul (Nat.le_refl (WW r o c k a)) (hP a); rw [Nat.mul_one] at this; exact this)
theorem p10 {d : Nat} (h : d ≤ 10) : 1 ≤ 10 ^ d ∧ 10 ^ d ≤ 10000000000 := ⟨Nat.pow_pos (by decide), Nat.pow_le_pow_right (n := 10) (j := 10) (by decide) h⟩
/-! ===== the greatest shared ===== -/
theorem lgc_eq {x y : Int64} : lg_cmp x y = 0 ↔ x = y := by
  unfold lg_cmp
  by_cases h1 : x > y
  · rw [if_pos h1]
    exact ⟨fun h => absurd h (by decide), fun h => by subst h; exact absurd h1 Int64.lt_irrefl⟩
  · rw [if_neg h1]
    by_cases h2 : x = y
    · rw [if_pos h2]; exact ⟨fun _ => h2, fun _ => rfl⟩
    · rw [if_neg h2]; exact ⟨fun h => absurd h (by decide), fun h => absurd h h2⟩
theorem lgc_0 {a : Nat} (ha : a < 2 ^ 63) : lg_cmp (lN a) 0 = 0 ↔ a = 0 := by
  rw [lgc_eq]; exact pk_lEQ (b := 0) ha (by decide)
theorem ln_ne {a : Nat} (h0 : a ≠ 0) (ha : a < 2 ^ 63) : ¬ lN a = 0 := fun h => h0 ((pk_lEQ (b := 0) ha (by decide)).mp h)
/-- a step of the remainders: the product halves -/
theorem eu_s {a b : Nat} (h0 : b ≠ 0) (h : b ≤ a) : 2 * (b * (a % b)) ≤ a * b := by
  have h1 : a % b < b := Nat.mod_lt _ (by omega)
  have h2 : b * (a / b) + a % b = a := Nat.div_add_mod a b
  have h3 : 1 ≤ a / b := Nat.div_pos h (by omega)
  have h4 : b * 1 ≤ b * (a / b) := Nat.mul_le_mul (Nat.le_refl b) h3
  have h5 : 2 * (a % b) ≤ a := by omega
  have h6 : b * (2 * (a % b)) ≤ b * a := Nat.mul_le_mul (Nat.le_refl b) h5
  rw [Nat.mul_comm a b, Nat.mul_left_comm]; exact h6
def EU (G k : Nat) (x y : Int64) : Prop := ∃ a b, x = lN a ∧ y = lN b ∧ a < 2 ^ 40 ∧ b < 2 ^ 40 ∧ Nat.gcd a b = G ∧ (k = 0 ∨ (b ≤ a ∧ a * b < 2 ^ (81 - k)))
theorem EU_s {G k a b : Nat} (hk : k < 81) (ha : a < 2 ^ 40) (hb : b < 2 ^ 40) (hg : Nat.gcd a b = G) (h : k = 0 ∨ (b ≤ a ∧ a * b < 2 ^ (81 - k))) (h0 : b ≠ 0) : EU G (k + 1) (lN b) (lN a - lN a / lN b * lN b) := by
  have h1 : a % b < b := Nat.mod_lt _ (by omega)
  refine ⟨b, a % b, rfl, pk_lRem (by omega) (by omega) (by omega), hb, by omega, ?_, Or.inr ⟨by omega, ?_⟩⟩
  · rw [← hg, Nat.gcd_comm a b, Nat.gcd_rec b a, Nat.gcd_comm]
  · rcases h with rfl | ⟨h2, h3⟩
    · show b * (a % b) < 2 ^ 80
      have h4 : b * (a % b) ≤ b * b := Nat.mul_le_mul (Nat.le_refl b) (by omega)
      have h5 : b * b ≤ (2 ^ 40 - 1) * (2 ^ 40 - 1) := Nat.mul_le_mul (by omega) (by omega)
      omega
    · have h4 := eu_s h0 h2
      rw [show 81 - k = (81 - (k + 1)) + 1 by omega, Nat.pow_succ] at h3
      omega
theorem EU_e {G : Nat} {x y : Int64} (h : EU G 81 x y) : y = lN 0 ∧ x = lN G := by
  obtain ⟨a, b, rfl, rfl, ha, hb, hg, h | ⟨h1, h2⟩⟩ := h
  · omega
  · have h3 : b = 0 := by
      apply Classical.byContradiction
      intro h9
      have h4 : 1 * 1 ≤ a * b := Nat.mul_le_mul (by omega) (by omega)
      have h5 : a * b < 1 := h2
      omega
    subst h3
    rw [Nat.gcd_zero_right] at hg
    subst hg
    exact ⟨rfl, rfl⟩
theorem gsC {u : St} {a b : Nat} (ha : a < 2 ^ 40) (hb : b < 2 ^ 40) : f_X11_greatestShared u (lN a) (lN b) = some (lN (Nat.gcd a b)) := by
  unfold f_X11_greatestShared
  rw [jq1]
  refine mw_3 (P := fun k (x y : Int64) (z : Int32) => z = nI k ∧ EU (Nat.gcd a b) k x y) (Q := fun o => o = some (lN (Nat.gcd a b))) 81 ?_ ?_ (FU_lt (by decide)) ⟨rfl, a, b, rfl, rfl, ha, hb, rfl, Or.inl rfl⟩
  · rintro k x y z hk ⟨rfl, a2, b2, rfl, rfl, ha2, hb2, hg, hm⟩
    have n200 : ¬ (200 : Int32) ≤ nI k := nle_l (l := 200) 200 rfl (by omega) (by decide)
    by_cases h0 : b2 = 0
    · refine Or.inr fun rec => ?_
      unfold B_X11_greatestShared_9
      rw [if_neg n200, if_pos ((lgc_0 (by omega)).mpr h0)]
      subst h0
      rw [← hg, Nat.gcd_zero_right]
    · refine Or.inl ⟨_, _, nI (k + 1), fun rec => ?_, rfl, EU_s hk ha2 hb2 hg hm h0⟩
      unfold B_X11_greatestShared_9
      rw [if_neg n200, if_neg (fun h9 => h0 ((lgc_0 (by omega)).mp h9)), ckT (ln_ne h0 (by omega)), nI_1]
  · rintro x y z ⟨rfl, h⟩ rec
    obtain ⟨rfl, rfl⟩ := EU_e h
    unfold B_X11_greatestShared_9
    rw [if_neg (show ¬ (200 : Int32) ≤ nI 81 by decide), if_pos ((lgc_0 (by omega)).mpr rfl)]
theorem gsM {a b : Nat} (ha : a < 2 ^ 40) (hb : b < 2 ^ 40) (K : Int64 → Option Int64) : lq_2 (B_X12_lowest_6 K) FU (lN a) (lN b) = K (lN (Nat.gcd a b)) := by
  refine mw_2 (P := fun k (x y : Int64) => EU (Nat.gcd a b) k x y) (Q := fun o => o = K (lN (Nat.gcd a b))) 81 ?_ ?_ (FU_lt (by decide)) ⟨a, b, rfl, rfl, ha, hb, rfl, Or.inl rfl⟩
  · rintro k x y hk ⟨a2, b2, rfl, rfl, ha2, hb2, hg, hm⟩
    by_cases h0 : b2 = 0
    · refine Or.inr fun rec => ?_
      unfold B_X12_lowest_6
      rw [if_pos ((lgc_0 (by omega)).mpr h0)]
      subst h0
      rw [← hg, Nat.gcd_zero_right]
    · refine Or.inl ⟨_, _, fun rec => ?_, EU_s hk ha2 hb2 hg hm h0⟩
      unfold B_X12_lowest_6
      rw [if_neg (fun h9 => h0 ((lgc_0 (by omega)).mp h9)), ckT (ln_ne h0 (by omega))]
  · rintro x y h rec
    obtain ⟨rfl, rfl⟩ := EU_e h
    unfold B_X12_lowest_6
    rw [if_pos ((lgc_0 (by omega)).mpr rfl)]
/-- a fraction in lowest terms -/
def lwt (a b : Nat) (p : Int32) : Int64 := if p = 0 then lN (a / Nat.gcd a b) else lN (b / Nat.gcd a b)
theorem ltC {u : St} {a b : Nat} {p : Int32} (ha : a < 2 ^ 40) (hb : b < 2 ^ 40) (h1 : 1 ≤ b) : f_X11_inLowestTerms u (lN a) (lN b) p = some (lwt a b p) := by
  have hg : 0 < Nat.gcd a b := Nat.gcd_pos_of_pos_right a (by omega)
  have hgl : Nat.gcd a b ≤ b := Nat.gcd_le_right a (by omega)
  unfold f_X11_inLowestTerms lwt
  rw [gsC ha hb, b1E, jq1]
  have h2 : 0 ≤ lg_cmp (lN (Nat.gcd a b)) 1 := Int32.not_lt.mp (fun h => absurd ((pk_lLT (b := 1) (by omega) (by decide)).mp (lgc_lt.mp h)) (by omega))
  by_cases hp : p = 0
  · rw [if_pos hp, if_pos hp]
    show (if 0 ≤ lg_cmp (lN (Nat.gcd a b)) 1 then ck (¬ lN (Nat.gcd a b) = 0) (some (lN a / lN (Nat.gcd a b))) else some (lN a)) = _
    rw [if_pos h2, ckT (ln_ne (by omega) (by omega)), pk_lDiv (by omega) hg (by omega)]
  · rw [if_neg hp, if_neg hp]
    show (if 0 ≤ lg_cmp (lN (Nat.gcd a b)) 1 then ck (¬ lN (Nat.gcd a b) = 0) (some (lN b / lN (Nat.gcd a b))) else some (lN b)) = _
    rw [if_pos h2, ckT (ln_ne (by omega) (by omega)), pk_lDiv (by omega) hg (by omega)]
theorem ltM {u : St} {a b : Nat} {p : Int32} (ha : a < 2 ^ 40) (hb : b < 2 ^ 40) (h1 : 1 ≤ b) : f_X12_lowest u (lN a) (lN b) p = some (lwt a b p) := by
  have hg : 0 < Nat.gcd a b := Nat.gcd_pos_of_pos_right a (by omega)
  have hgl : Nat.gcd a b ≤ b := Nat.gcd_le_right a (by omega)
  unfold f_X12_lowest lwt
  rw [jq1, gsM hb ha, Nat.gcd_comm b a]
  by_cases hp : p = 0
  · rw [if_pos hp, if_pos hp, ckT (ln_ne (by omega) (by omega)), pk_lDiv (by omega) hg (by omega)]
  · rw [if_neg hp, if_neg hp, ckT (ln_ne (by omega) (by omega)), pk_lDiv (by omega) hg (by omega)]
