/-! ===== pouring: the most of a set ===== -/
def mxf (g : Nat → Nat) : Nat → Nat
  | 0 => 0
  | n + 1 => max (mxf g n) (g n)
theorem mxf_congr {f g : Nat → Nat} {n : Nat} (h : ∀ i, i < n → f i = g i) : mxf f n = mxf g n := by
  induction n with
  | zero => rfl
  | succ n ih => show max _ _ = max _ _; rw [ih (fun i hi => h i (by omega)), h n (by omega)]
theorem mxf_zero {g : Nat → Nat} {n : Nat} (h : ∀ i, i < n → g i = 0) : mxf g n = 0 := by
  induction n with
  | zero => rfl
  | succ n ih => show max _ _ = 0; rw [ih (fun i hi => h i (by omega)), h n (by omega)]; rfl
theorem mxf_le {g : Nat → Nat} {n k : Nat} (h : ∀ i, i < n → g i ≤ k) : mxf g n ≤ k := by
  induction n with
  | zero => exact Nat.zero_le _
  | succ n ih => show max _ _ ≤ k; exact Nat.max_le.mpr ⟨ih (fun i hi => h i (by omega)), h n (by omega)⟩
theorem mxf_ge {g : Nat → Nat} {n i : Nat} (h : i < n) : g i ≤ mxf g n := by
  induction n with
  | zero => omega
  | succ n ih =>
    show _ ≤ max _ _
    by_cases h9 : i = n
    · subst h9; exact Nat.le_max_right _ _
    · exact Nat.le_trans (ih (by omega)) (Nat.le_max_left _ _)
theorem mxf_att {g : Nat → Nat} {n : Nat} (h : mxf g n ≠ 0) : ∃ i, i < n ∧ g i = mxf g n := by
  induction n with
  | zero => exact absurd rfl h
  | succ n ih =>
    by_cases h9 : mxf g n ≤ g n
    · exact ⟨n, by omega, (Nat.max_eq_right h9).symm⟩
    · have e : mxf g (n + 1) = mxf g n := Nat.max_eq_left (by omega)
      obtain ⟨i, hi, hg⟩ := ih (by omega)
      exact ⟨i, by omega, by rw [e]; exact hg⟩
/-- the least of a set -/
def lb0 (s : Nat) : Nat := fs (fun b => decide (s / 2 ^ b % 2 = 1)) 8
def wo2 (s a b : Nat) : Nat := clrb (clrb s a) b
theorem lb0_a : ∀ s, s < 256 → s ≠ 0 → lb0 s < 8 ∧ s / 2 ^ lb0 s % 2 = 1 := by decide +kernel
theorem ls0_C : ∀ s, s < 256 → s ≠ 0 → f_X5_leastOf uz (nI s) = some (nI (lb0 s)) := by decide +kernel
theorem ls0_M : ∀ s, s < 256 → s ≠ 0 → f_X12_leastOf uz (nI s) = some (nI (lb0 s)) := by decide +kernel
theorem lb_ex : ∃ f : Nat → Nat, ∀ s, s < 256 → s ≠ 0 → (f s < 8 ∧ s / 2 ^ f s % 2 = 1) ∧ (∀ i, i < f s → ¬ s / 2 ^ i % 2 = 1) ∧ f_X5_leastOf uz (nI s) = some (nI (f s)) ∧ f_X12_leastOf uz (nI s) = some (nI (f s)) :=
  ⟨lb0, fun s hs h0 => ⟨lb0_a s hs h0, fun i h => of_decide_eq_false (fs_all (p := fun b => decide (s / 2 ^ b % 2 = 1)) (n := 8) i h), ls0_C s hs h0, ls0_M s hs h0⟩⟩
noncomputable def lb : Nat → Nat := Classical.choose lb_ex
theorem lb_a (s : Nat) (hs : s < 256) (h0 : s ≠ 0) : lb s < 8 ∧ s / 2 ^ lb s % 2 = 1 := (Classical.choose_spec lb_ex s hs h0).1
theorem lb_b {s i : Nat} (hs : s < 256) (h0 : s ≠ 0) (h : i < lb s) : ¬ s / 2 ^ i % 2 = 1 := (Classical.choose_spec lb_ex s hs h0).2.1 i h
theorem ls_C (s : Nat) (hs : s < 256) (h0 : s ≠ 0) : f_X5_leastOf uz (nI s) = some (nI (lb s)) := (Classical.choose_spec lb_ex s hs h0).2.2.1
theorem ls_M (s : Nat) (hs : s < 256) (h0 : s ≠ 0) : f_X12_leastOf uz (nI s) = some (nI (lb s)) := (Classical.choose_spec lb_ex s hs h0).2.2.2
theorem wo_0 : ∀ s, s < 256 → ∀ a, a < 8 → s / 2 ^ a % 2 = 1 → ∀ b, b < 8 → wo2 s a b < s ∧ cqs (wo2 s a b) 8 < cqs s 8 := by decide +kernel
theorem wo_a (s : Nat) (hs : s < 256) (h0 : s ≠ 0) (b : Nat) (hb : b < 8) : wo2 s (lb s) b < s ∧ cqs (wo2 s (lb s) b) 8 < cqs s 8 := wo_0 s hs _ (lb_a s hs h0).1 (lb_a s hs h0).2 b hb
theorem cqs_z : ∀ s, s < 256 → cqs s 8 = 0 → s = 0 := by decide +kernel
theorem sb_T : ∀ T, T < 256 → nI T &&& (nI T ^^^ (-1 : Int32)) = 0 := by decide +kernel
theorem m255 : ∀ s, s < 256 → nI s &&& (255 : Int32) = nI s := by decide +kernel
/-- within the barrels -/
def sb (T s : Nat) : Prop := nI s &&& (nI T ^^^ (-1 : Int32)) = 0
theorem sb_bit {T s : Nat} (hT : T < 256) (hs : s < 256) (h : sb T s) {b : Nat} (hb : s / 2 ^ b % 2 = 1) : T / 2 ^ b % 2 = 1 := by
  obtain ⟨s2, h1, h2, h3⟩ := sub_cs hT h
  have := (nI_eq (a := s) (b := s2) (by omega) (by omega)).mp h2
  subst this; exact h3 b hb
theorem sb_and {T : Nat} {p x : Int32} (h : p &&& (nI T ^^^ (-1 : Int32)) = 0) : p &&& x &&& (nI T ^^^ (-1 : Int32)) = 0 := by
  rw [Int32.and_assoc, Int32.and_comm x, ← Int32.and_assoc, h, Int32.zero_and]
theorem sb_wo {T s a b : Nat} (hs : s < 256) (ha : a < 8) (hb : b < 8) (h : sb T s) : sb T (wo2 s a b) := by
  unfold sb wo2 at *
  rw [← anB _ (set_lt s hs a ha).2 b hb, ← anB s hs a ha]
  exact sb_and (sb_and h)
theorem wo_lt {s a b : Nat} (hs : s < 256) (ha : a < 8) (hb : b < 8) : wo2 s a b < 256 := (set_lt _ (set_lt s hs a ha).2 b hb).2
theorem wo_bit {s a b i : Nat} (hs : s < 256) (ha : a < 8) (hb : b < 8) (hi : i < 8) : (wo2 s a b / 2 ^ i % 2 = 1) ↔ (s / 2 ^ i % 2 = 1 ∧ i ≠ a ∧ i ≠ b) := by
  unfold wo2
  rw [(set_bit _ (set_lt s hs a ha).2 b hb i hi).2]
  by_cases h1 : i = b
  · rw [if_pos h1]; constructor
    · intro h; omega
    · rintro ⟨-, -, h⟩; exact absurd h1 h
  · rw [if_neg h1, (set_bit s hs a ha i hi).2]
    by_cases h2 : i = a
    · rw [if_pos h2]; constructor
      · intro h; omega
      · rintro ⟨-, h, -⟩; exact absurd h2 h
    · rw [if_neg h2]; exact ⟨fun h => ⟨h, h2, h1⟩, fun h => h.1⟩
/-- what two give -/
def gv (t : Nat → Nat → Nat) (A : Nat → Nat) (a b : Nat) : Nat :=
  if a = b then (if t 16 0 ≤ A a then 0 else t 7 a)
  else if t 16 0 ≤ (t 7 a * A a + t 7 b * A b) / (t 7 a + t 7 b) then 0 else if t 9 a = t 9 b then t 7 a + t 7 b else t 7 a + t 7 b - 1
theorem gv_le {t : Nat → Nat → Nat} (hT : TK t) {A : Nat → Nat} {a b : Nat} (ha : a < 8) (hb : b < 8) : gv t A a b ≤ 18 := by
  have h1 := (K_bar hT ha).2.1
  have h2 := (K_bar hT hb).2.1
  unfold gv
  (repeat' split) <;> omega
/-- what the set gives with the least one's partner -/
noncomputable def gp (t : Nat → Nat → Nat) (A f : Nat → Nat) (s b : Nat) : Nat := if s / 2 ^ b % 2 = 1 then gv t A (lb s) b + f (wo2 s (lb s) b) else 0
theorem gp_pos {t : Nat → Nat → Nat} {A f : Nat → Nat} {s b : Nat} (h : s / 2 ^ b % 2 = 1) : gp t A f s b = gv t A (lb s) b + f (wo2 s (lb s) b) := if_pos h
theorem gp_neg {t : Nat → Nat → Nat} {A f : Nat → Nat} {s b : Nat} (h : ¬ s / 2 ^ b % 2 = 1) : gp t A f s b = 0 := if_neg h
noncomputable def mo2 (t : Nat → Nat → Nat) (A f : Nat → Nat) (s : Nat) : Nat := if s = 0 then 0 else mxf (gp t A f s) 8
noncomputable def Mt (t : Nat → Nat → Nat) (A : Nat → Nat) : Nat → Nat → Nat
  | 0 => fun _ => 0
  | i + 1 => fun s => if s = i then mo2 t A (Mt t A i) i else Mt t A i s
noncomputable def Mo (t : Nat → Nat → Nat) (A : Nat → Nat) (s : Nat) : Nat := Mt t A (s + 1) s
section PO
variable {t : Nat → Nat → Nat} {A : Nat → Nat}
theorem Mt_st {s i : Nat} (h : s < i) : Mt t A i s = Mo t A s := by
  induction i with
  | zero => omega
  | succ i ih =>
    by_cases h9 : s = i
    · subst h9; rfl
    · show (if s = i then _ else Mt t A i s) = _
      rw [if_neg h9, ih (by omega)]
theorem mo_congr {f g : Nat → Nat} {s : Nat} (hs : s < 256) (h : ∀ i, i < s → f i = g i) : mo2 t A f s = mo2 t A g s := by
  unfold mo2
  by_cases h0 : s = 0
  · rw [if_pos h0, if_pos h0]
  · rw [if_neg h0, if_neg h0]
    refine mxf_congr (fun i hi => ?_)
    unfold gp
    rw [h _ (wo_a s hs h0 i hi).1]
theorem Mo_eq {s : Nat} (hs : s < 256) : Mo t A s = mo2 t A (Mo t A) s := by
  show (if s = s then mo2 t A (Mt t A s) s else _) = _
  rw [if_pos rfl]
  exact mo_congr hs (fun i hi => Mt_st hi)
theorem Mo_0 : Mo t A 0 = 0 := by rw [Mo_eq (by omega)]; exact if_pos rfl
theorem Mo_s {s : Nat} (hs : s < 256) (h0 : s ≠ 0) : Mo t A s = mxf (gp t A (Mo t A) s) 8 := by rw [Mo_eq hs]; exact if_neg h0
theorem Mo_le (hT : TK t) {s : Nat} (hs : s < 256) : Mo t A s ≤ 18 * s := by
  induction s using Nat.strongRecOn with
  | _ s ih =>
    by_cases h0 : s = 0
    · subst h0; rw [Mo_0]; omega
    · rw [Mo_s hs h0]
      refine mxf_le (fun i hi => ?_)
      unfold gp
      split
      · have h1 := (wo_a s hs h0 i hi).1
        have h2 := ih _ h1 (by omega)
        have h3 := gv_le (A := A) hT (lb_a s hs h0).1 hi
        omega
      · omega
/-- the first partner that loses nothing -/
noncomputable def pfP (t : Nat → Nat → Nat) (A : Nat → Nat) (s : Nat) : Nat → Bool := fun b => decide (s / 2 ^ b % 2 = 1) && decide (Mo t A s ≤ gv t A (lb s) b + Mo t A (wo2 s (lb s) b))
noncomputable def pf (t : Nat → Nat → Nat) (A : Nat → Nat) (s : Nat) : Nat := fs (pfP t A s) 8
theorem pf_lt {s : Nat} (hs : s < 256) (h0 : s ≠ 0) : pf t A s < 8 := by
  apply Classical.byContradiction
  intro h
  have h8 : fs (pfP t A s) 8 = 8 := by have := fs_le (p := pfP t A s) (n := 8); unfold pf at h; omega
  have hn : ∀ i, i < 8 → pfP t A s i = false := fun i hi => fs_all (n := 8) i (by omega)
  have e := Mo_s (t := t) (A := A) hs h0
  by_cases hz : mxf (gp t A (Mo t A) s) 8 = 0
  · have h1 := lb_a s hs h0
    have h2 := hn _ h1.1
    unfold pfP at h2
    rw [decide_eq_true h1.2, Bool.true_and] at h2
    have h3 := of_decide_eq_false h2
    omega
  · obtain ⟨i, hi, hg⟩ := mxf_att hz
    have h2 := hn i hi
    by_cases hb : s / 2 ^ i % 2 = 1
    · rw [gp_pos hb] at hg
      unfold pfP at h2
      rw [decide_eq_true hb, Bool.true_and] at h2
      have h3 := of_decide_eq_false h2
      omega
    · rw [gp_neg hb] at hg
      omega
theorem pf_bit {s : Nat} (hs : s < 256) (h0 : s ≠ 0) : s / 2 ^ pf t A s % 2 = 1 := by
  have h := fs_at (p := pfP t A s) (n := 8) (pf_lt hs h0)
  unfold pfP at h
  rw [Bool.and_eq_true] at h
  exact of_decide_eq_true h.1
theorem pf_ge {s : Nat} (hs : s < 256) (h0 : s ≠ 0) : lb s ≤ pf t A s := by
  apply Classical.byContradiction
  intro h
  exact lb_b hs h0 (by omega) (pf_bit (t := t) (A := A) hs h0)
theorem gp_le {s b : Nat} (hs : s < 256) (h0 : s ≠ 0) (hb : b < 8) (hbit : s / 2 ^ b % 2 = 1) : gv t A (lb s) b + Mo t A (wo2 s (lb s) b) ≤ Mo t A s := by
  have h := mxf_ge (g := gp t A (Mo t A) s) hb
  rw [← Mo_s hs h0, gp_pos hbit] at h
  exact h
/-- whose partner -/
noncomputable def PT (t : Nat → Nat → Nat) (A : Nat → Nat) : Nat → Nat → Nat → Nat
  | 0, _, b => b
  | k + 1, s, b => if s = 0 then b else if lb s = b then pf t A s else if pf t A s = b then lb s else PT t A k (wo2 s (lb s) (pf t A s)) b
end PO
