/-! ===== pure part: loops, small rows ===== -/
theorem mr_1 {α R : Type} {B : (α → Option R) → α → Option R} {out : Option R} (s1 : Nat → α) (n : Nat) (hs : ∀ i, i < n → ∀ rec, B rec (s1 i) = rec (s1 (i + 1))) (he : ∀ rec, B rec (s1 n) = out) {F : Nat} (hF : n < F) {x : α} (hx : x = s1 0) : lq_1 B F x = out := by
  have key : ∀ m i, i + m = n → ∀ F, m < F → lq_1 B F (s1 i) = out := by
    intro m
    induction m with
    | zero => intro i hi F hF; obtain ⟨F', rfl⟩ : ∃ F', F = F' + 1 := ⟨F - 1, by omega⟩; have : i = n := by omega
              subst this; exact he _
    | succ m ih => intro i hi F hF; obtain ⟨F', rfl⟩ : ∃ F', F = F' + 1 := ⟨F - 1, by omega⟩
                   show B (lq_1 B F') (s1 i) = out
                   rw [hs i (by omega)]; exact ih (i + 1) (by omega) F' (by omega)
  subst hx; exact key n 0 (by omega) F hF
theorem mr_2 {α β R : Type} {B : (α → β → Option R) → α → β → Option R} {out : Option R} (s1 : Nat → α) (s2 : Nat → β) (n : Nat) (hs : ∀ i, i < n → ∀ rec, B rec (s1 i) (s2 i) = rec (s1 (i + 1)) (s2 (i + 1))) (he : ∀ rec, B rec (s1 n) (s2 n) = out) {F : Nat} (hF : n < F) {x : α} {y : β} (hx : x = s1 0) (hy : y = s2 0) : lq_2 B F x y = out := by
  have key : ∀ m i, i + m = n → ∀ F, m < F → lq_2 B F (s1 i) (s2 i) = out := by
    intro m
    induction m with
    | zero => intro i hi F hF; obtain ⟨F', rfl⟩ : ∃ F', F = F' + 1 := ⟨F - 1, by omega⟩; have : i = n := by omega
              subst this; exact he _
    | succ m ih => intro i hi F hF; obtain ⟨F', rfl⟩ : ∃ F', F = F' + 1 := ⟨F - 1, by omega⟩
                   show B (lq_2 B F') (s1 i) (s2 i) = out
                   rw [hs i (by omega)]; exact ih (i + 1) (by omega) F' (by omega)
  subst hx; subst hy; exact key n 0 (by omega) F hF
theorem mr_3 {α β γ R : Type} {B : (α → β → γ → Option R) → α → β → γ → Option R} {out : Option R} (s1 : Nat → α) (s2 : Nat → β) (s3 : Nat → γ) (n : Nat) (hs : ∀ i, i < n → ∀ rec, B rec (s1 i) (s2 i) (s3 i) = rec (s1 (i + 1)) (s2 (i + 1)) (s3 (i + 1))) (he : ∀ rec, B rec (s1 n) (s2 n) (s3 n) = out) {F : Nat} (hF : n < F) {x : α} {y : β} {z : γ} (hx : x = s1 0) (hy : y = s2 0) (hz : z = s3 0) : lq_3 B F x y z = out := by
  have key : ∀ m i, i + m = n → ∀ F, m < F → lq_3 B F (s1 i) (s2 i) (s3 i) = out := by
    intro m
    induction m with
    | zero => intro i hi F hF; obtain ⟨F', rfl⟩ : ∃ F', F = F' + 1 := ⟨F - 1, by omega⟩; have : i = n := by omega
              subst this; exact he _
    | succ m ih => intro i hi F hF; obtain ⟨F', rfl⟩ : ∃ F', F = F' + 1 := ⟨F - 1, by omega⟩
                   show B (lq_3 B F') (s1 i) (s2 i) (s3 i) = out
                   rw [hs i (by omega)]; exact ih (i + 1) (by omega) F' (by omega)
  subst hx; subst hy; subst hz; exact key n 0 (by omega) F hF
theorem mv_1 {α R : Type} {B : (α → Option R) → α → Option R} {P : Nat → α → Prop} {Q : Option R → Prop} (n : Nat) (hs : ∀ i x, i < n → P i x → (∃ x', P (i + 1) x' ∧ ∀ rec, B rec x = rec x') ∨ (∀ rec, Q (B rec x))) (he : ∀ x, P n x → ∀ rec, Q (B rec x)) {F : Nat} (hF : n < F) {x : α} (h0 : P 0 x) : Q (lq_1 B F x) := by
  have key : ∀ m i x, i + m = n → P i x → ∀ F, m < F → Q (lq_1 B F x) := by
    intro m
    induction m with
    | zero => intro i x hi hp F hF; obtain ⟨F', rfl⟩ : ∃ F', F = F' + 1 := ⟨F - 1, by omega⟩; have : i = n := by omega
              subst this; exact he _ hp _
    | succ m ih => intro i x hi hp F hF; obtain ⟨F', rfl⟩ : ∃ F', F = F' + 1 := ⟨F - 1, by omega⟩
                   show Q (B (lq_1 B F') x)
                   rcases hs i x (by omega) hp with ⟨x', hp', e⟩ | h
                   · rw [e]; exact ih (i + 1) x' (by omega) hp' F' (by omega)
                   · exact h _
  exact key n 0 x (by omega) h0 F hF
theorem mv_2 {α β R : Type} {B : (α → β → Option R) → α → β → Option R} {P : Nat → α → β → Prop} {Q : Option R → Prop} (n : Nat) (hs : ∀ i x y, i < n → P i x y → (∃ x' y', P (i + 1) x' y' ∧ ∀ rec, B rec x y = rec x' y') ∨ (∀ rec, Q (B rec x y))) (he : ∀ x y, P n x y → ∀ rec, Q (B rec x y)) {F : Nat} (hF : n < F) {x : α} {y : β} (h0 : P 0 x y) : Q (lq_2 B F x y) := by
  have key : ∀ m i x y, i + m = n → P i x y → ∀ F, m < F → Q (lq_2 B F x y) := by
    intro m
    induction m with
    | zero => intro i x y hi hp F hF; obtain ⟨F', rfl⟩ : ∃ F', F = F' + 1 := ⟨F - 1, by omega⟩; have : i = n := by omega
              subst this; exact he _ _ hp _
    | succ m ih => intro i x y hi hp F hF; obtain ⟨F', rfl⟩ : ∃ F', F = F' + 1 := ⟨F - 1, by omega⟩
                   show Q (B (lq_2 B F') x y)
                   rcases hs i x y (by omega) hp with ⟨x', y', hp', e⟩ | h
                   · rw [e]; exact ih (i + 1) x' y' (by omega) hp' F' (by omega)
                   · exact h _
  exact key n 0 x y (by omega) h0 F hF
theorem mv_3 {α β γ R : Type} {B : (α → β → γ → Option R) → α → β → γ → Option R} {P : Nat → α → β → γ → Prop} {Q : Option R → Prop} (n : Nat) (hs : ∀ i x y z, i < n → P i x y z → (∃ x' y' z', P (i + 1) x' y' z' ∧ ∀ rec, B rec x y z = rec x' y' z') ∨ (∀ rec, Q (B rec x y z))) (he : ∀ x y z, P n x y z → ∀ rec, Q (B rec x y z)) {F : Nat} (hF : n < F) {x : α} {y : β} {z : γ} (h0 : P 0 x y z) : Q (lq_3 B F x y z) := by
  have key : ∀ m i x y z, i + m = n → P i x y z → ∀ F, m < F → Q (lq_3 B F x y z) := by
    intro m
    induction m with
    | zero => intro i x y z hi hp F hF; obtain ⟨F', rfl⟩ : ∃ F', F = F' + 1 := ⟨F - 1, by omega⟩; have : i = n := by omega
              subst this; exact he _ _ _ hp _
    | succ m ih => intro i x y z hi hp F hF; obtain ⟨F', rfl⟩ : ∃ F', F = F' + 1 := ⟨F - 1, by omega⟩
                   show Q (B (lq_3 B F') x y z)
                   rcases hs i x y z (by omega) hp with ⟨x', y', z', hp', e⟩ | h
                   · rw [e]; exact ih (i + 1) x' y' z' (by omega) hp' F' (by omega)
                   · exact h _
  exact key n 0 x y z (by omega) h0 F hF
theorem mv_4 {α β γ δ R : Type} {B : (α → β → γ → δ → Option R) → α → β → γ → δ → Option R} {P : Nat → α → β → γ → δ → Prop} {Q : Option R → Prop} (n : Nat) (hs : ∀ i x y z w, i < n → P i x y z w → (∃ x' y' z' w', P (i + 1) x' y' z' w' ∧ ∀ rec, B rec x y z w = rec x' y' z' w') ∨ (∀ rec, Q (B rec x y z w))) (he : ∀ x y z w, P n x y z w → ∀ rec, Q (B rec x y z w)) {F : Nat} (hF : n < F) {x : α} {y : β} {z : γ} {w : δ} (h0 : P 0 x y z w) : Q (lq_4 B F x y z w) := by
  have key : ∀ m i x y z w, i + m = n → P i x y z w → ∀ F, m < F → Q (lq_4 B F x y z w) := by
    intro m
    induction m with
    | zero => intro i x y z w hi hp F hF; obtain ⟨F', rfl⟩ : ∃ F', F = F' + 1 := ⟨F - 1, by omega⟩; have : i = n := by omega
              subst this; exact he _ _ _ _ hp _
    | succ m ih => intro i x y z w hi hp F hF; obtain ⟨F', rfl⟩ : ∃ F', F = F' + 1 := ⟨F - 1, by omega⟩
                   show Q (B (lq_4 B F') x y z w)
                   rcases hs i x y z w (by omega) hp with ⟨x', y', z', w', hp', e⟩ | h
                   · rw [e]; exact ih (i + 1) x' y' z' w' (by omega) hp' F' (by omega)
                   · exact h _
  exact key n 0 x y z w (by omega) h0 F hF
theorem FU_lt {n : Nat} (h : n < 100000) : n < FU := h
-- combinators
theorem jq0 {R : Type} {K : Option R} {T : Option R → Option R} : jq_0 K T = T K := rfl
theorem jq1 {α R : Type} {K : α → Option R} {T : (α → Option R) → Option R} : jq_1 K T = T K := rfl
theorem jq2 {α β R : Type} {K : α → β → Option R} {T : (α → β → Option R) → Option R} : jq_2 K T = T K := rfl
theorem jq3 {α β γ R : Type} {K : α → β → γ → Option R} {T : (α → β → γ → Option R) → Option R} : jq_3 K T = T K := rfl
theorem bsE {α R : Type} {x : α} {f : α → Option R} : bs x f = f x := rfl
theorem b1E {α R : Type} {x : α} {f : α → Option R} : b1 (some x) f = f x := rfl
theorem b2E {α β R : Type} {x : α} {y : β} {f : α → β → Option R} : b2 (some (x, y)) f = f x y := rfl
theorem ckT {R : Type} {c : Prop} [Decidable c] {x : Option R} (h : c) : ck c x = x := if_pos h
theorem ckiT {R : Type} {k n : Nat} {x : Option R} (h : k < n) (hn : n < 2 ^ 31) : cki (nI k) n x = x := if_pos (nI_in h hn)
theorem ckiT' {R : Type} {i : Int32} {k n : Nat} {x : Option R} (e : i = nI k) (h : k < n) (hn : n < 2 ^ 31) : cki i n x = x := by subst e; exact ckiT h hn
theorem ixN {k : Nat} (h : k < 2 ^ 31) : ix (nI k) = k := nI_clamp h
theorem nI_lit (k : Nat) : Int32.ofNat k = nI k := rfl
-- comparisons
theorem w_ev {u : St} {x lo hi : Int32} : f_X11_within u x lo hi = some (if lo ≤ x ∧ x ≤ hi then 1 else 0) := by
  unfold f_X11_within
  by_cases h1 : x < lo
  · rw [if_pos h1, if_neg (fun h => Int32.not_lt.mpr h.1 h1)]
  · rw [if_neg h1]
    by_cases h2 : hi < x
    · rw [if_pos h2, if_neg (fun h => Int32.not_lt.mpr h.2 h2)]
    · rw [if_neg h2, if_pos ⟨Int32.not_lt.mp h1, Int32.not_lt.mp h2⟩]
theorem lgc_lt {x y : Int64} : lg_cmp x y < 0 ↔ x < y := by
  unfold lg_cmp
  by_cases h1 : x > y
  · rw [if_pos h1]
    exact ⟨fun h => absurd h (by decide), fun h => absurd h (Int64.not_lt.mpr (Int64.le_of_lt h1))⟩
  · rw [if_neg h1]
    by_cases h2 : x = y
    · rw [if_pos h2]; subst h2; exact ⟨fun h => absurd h (by decide), fun h => absurd h (Int64.lt_irrefl)⟩
    · rw [if_neg h2]; exact ⟨fun _ => by rcases Int64.lt_or_lt_of_ne h2 with h | h; exact h; exact absurd h h1, fun _ => by decide⟩
theorem lgc_gt {x y : Int64} : 0 < lg_cmp x y ↔ y < x := by
  unfold lg_cmp
  by_cases h1 : x > y
  · rw [if_pos h1]; exact ⟨fun _ => h1, fun _ => by decide⟩
  · rw [if_neg h1]
    by_cases h2 : x = y
    · rw [if_pos h2]; exact ⟨fun h => absurd h (by decide), fun h => absurd h h1⟩
    · rw [if_neg h2]; exact ⟨fun h => absurd h (by decide), fun h => absurd h h1⟩
theorem i64_lt {x y : Int32} : Int32.toInt64 x < Int32.toInt64 y ↔ x < y := by
  rw [Int64.lt_iff_toInt_lt, Int32.lt_iff_toInt_lt, Int32.toInt_toInt64, Int32.toInt_toInt64]
theorem in_ev {u : St} {x lo hi : Int32} {a b : Int64} (ha : a = lo.toInt64) (hb : b = hi.toInt64) : f_X12_in u (Int32.toInt64 x) a b = some (if lo ≤ x ∧ x ≤ hi then 1 else 0) := by
  unfold f_X12_in
  subst ha; subst hb
  by_cases h1 : x < lo
  · rw [if_pos (lgc_lt.mpr (i64_lt.mpr h1)), if_neg (fun h => Int32.not_lt.mpr h.1 h1)]
  · rw [if_neg (fun h => h1 (i64_lt.mp (lgc_lt.mp h)))]
    by_cases h2 : hi < x
    · rw [if_pos (lgc_gt.mpr (i64_lt.mpr h2)), if_neg (fun h => Int32.not_lt.mpr h.2 h2)]
    · rw [if_neg (fun h => h2 (i64_lt.mp (lgc_gt.mp h))), if_pos ⟨Int32.not_lt.mp h1, Int32.not_lt.mp h2⟩]
theorem z01 {c : Prop} [Decidable c] : ((if c then (1 : Int32) else 0) = 0 ∨ (if c then (1 : Int32) else 0) = 1) := by
  by_cases h : c
  · rw [if_pos h]; exact Or.inr rfl
  · rw [if_neg h]; exact Or.inl rfl
-- clamped differences
theorem mx_sub {a b : Nat} (ha : a < 2 ^ 30) (hb : b < 2 ^ 30) : mxI 0 (nI a - nI b) = nI (a - b) := by
  unfold mxI
  by_cases h : b ≤ a
  · rw [pk_sub h]
    by_cases h0 : a - b = 0
    · rw [h0, nI_0, if_neg (by decide)]
    · rw [if_pos (by rw [← nI_0]; exact nI_lt (by omega) (by omega))]
  · rw [if_neg (fun h9 => Int32.not_lt.mpr (Int32.le_of_lt (pk_sneg hb (by omega))) h9), show a - b = 0 by omega, nI_0]
theorem mn_99 {a b : Nat} (ha : a < 2 ^ 31) (hb : b < 2 ^ 31) : mnI (nI a) (nI b) = nI (min a b) := by
  unfold mnI
  by_cases h : b < a
  · rw [if_pos (nI_lt h ha), Nat.min_eq_right (by omega)]
  · rw [if_neg (nI_nlt (by omega) hb), Nat.min_eq_left (by omega)]
theorem mx_nI {a b : Nat} (ha : a < 2 ^ 31) (hb : b < 2 ^ 31) : mxI (nI a) (nI b) = nI (max a b) := by
  unfold mxI
  by_cases h : a < b
  · rw [if_pos (nI_lt h hb), Nat.max_eq_right (by omega)]
  · rw [if_neg (nI_nlt (by omega) ha), Nat.max_eq_left (by omega)]
theorem ab_sub {a b : Nat} (ha : a < 2 ^ 30) (hb : b < 2 ^ 30) : abI (nI a - nI b) = nI ((a - b) + (b - a)) := by
  unfold abI
  by_cases h : b ≤ a
  · rw [pk_sub h, if_pos (nI_pos' (by omega)), show b - a = 0 by omega, Nat.add_zero]
  · rw [if_neg (fun h9 => Int32.not_lt.mpr h9 (pk_sneg hb (by omega))), show a - b = 0 by omega, Nat.zero_add]
    have : nI a - nI b = 0 - nI (b - a) := by
      rw [← pk_sub (show a ≤ b by omega)]
      apply Int32.toBitVec_inj.mp
      simp [Int32.toBitVec_sub]
    rw [this]
    apply Int32.toBitVec_inj.mp
    simp [Int32.toBitVec_sub]
-- bits
theorem sm_k : ∀ k, k < 31 → ((nI k).toBitVec.smod 32).toNat = k := by decide +kernel
theorem and31 {k : Nat} (h : k < 32) : nI k &&& 31 = nI k := by rw [pk_andN (by omega) 5 (by decide), Nat.mod_eq_of_lt (by omega)]
theorem bitN {n k : Nat} (hn : n < 2 ^ 31) (hk : k < 31) : (nI n >>> (nI k &&& 31)) &&& (1 : Int32) = nI (n / 2 ^ k % 2) := by
  rw [and31 (by omega), pk_shrN hn _ k (sm_k k hk), pk_andN (Nat.lt_of_le_of_lt (Nat.div_le_self _ _) (by omega)) 1 (by decide)]
theorem shlN {k : Nat} (hk : k < 31) : (1 : Int32) <<< (nI k &&& 31) = nI (2 ^ k) := by
  have h2 : 2 ^ k < 2 ^ 31 := Nat.pow_lt_pow_right (by decide) hk
  rw [and31 (by omega), show (1 : Int32) = nI 1 from rfl, pk_shlN _ k (sm_k k hk) (by omega), Nat.one_mul]
