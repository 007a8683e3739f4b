/-! ===== shifts ===== -/
theorem bc4a : ∀ a, a < 64 → ∀ b, b < 64 → f_J6_bitCount_0f7a4 uz (nI (64 * a + b)) = f_X12_ones uz (nI (64 * a + b)) ∧ (f_X12_ones uz (nI (64 * a + b))).isSome = true := by decide +kernel
theorem bc4 {n : Nat} (h : n < 4096) : f_J6_bitCount_0f7a4 uz (nI n) = f_X12_ones uz (nI n) ∧ (f_X12_ones uz (nI n)).isSome = true := by
  have := bc4a (n / 64) (by omega) (n % 64) (by omega)
  rwa [Nat.div_add_mod] at this
theorem on4 {u : St} {n : Nat} (h : n < 4096) : f_X12_ones u (nI n) = some (pc n) := by
  rw [on_u]
  have h2 := (bc4 h).2
  unfold pc
  cases hx : f_X12_ones uz (nI n) with
  | none => rw [hx] at h2; cases h2
  | some x => rfl
theorem bcE {u : St} {n : Nat} (h : n < 4096) : f_J6_bitCount_0f7a4 u (nI n) = some (pc n) := by
  rw [bc_u, (bc4 h).1, on4 h]
theorem pcLa : ∀ L, L < 13 → ∀ a, a < 64 → ∀ b, b < 64 → 64 * a + b < 2 ^ L - 1 → ¬ pc (2 ^ L - 1) ≤ pc (64 * a + b) := by decide +kernel
theorem pcL {L n : Nat} (hL : L < 13) (h : n < 2 ^ L - 1) : ¬ pc (2 ^ L - 1) ≤ pc n := by
  have h2 : 2 ^ L ≤ 2 ^ 12 := Nat.pow_le_pow_right (by decide) (by omega)
  have := pcLa L hL (n / 64) (by omega) (n % 64) (by omega) (by rw [Nat.div_add_mod]; exact h)
  rwa [Nat.div_add_mod] at this
theorem mska : ∀ L, L < 13 → ∀ a, a < 64 → ∀ b, b < 64 → 64 * a + b < 2 ^ L → nI (64 * a + b) &&& (nI (2 ^ L - 1) ^^^ (-1 : Int32)) = 0 := by decide +kernel
theorem msk {L n : Nat} (hL : L < 13) (h : n < 2 ^ L) : nI n &&& (nI (2 ^ L - 1) ^^^ (-1 : Int32)) = 0 := by
  have h2 : 2 ^ L ≤ 2 ^ 12 := Nat.pow_le_pow_right (by decide) (by omega)
  have := mska L hL (n / 64) (by omega) (n % 64) (by omega) (by rw [Nat.div_add_mod]; exact h)
  rwa [Nat.div_add_mod] at this
