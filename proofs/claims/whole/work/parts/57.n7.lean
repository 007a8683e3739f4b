/-! a loop without an early end, whatever stands behind it -/
theorem mz_1 {κ α R : Type} {B : κ → (α → Option R) → α → Option R} {G : κ → α → Option R} {P : Nat → α → Prop} (n : Nat) (hs : ∀ i x, i < n → P i x → ∃ x', (∀ K rec, B K rec x = rec x') ∧ P (i + 1) x') (he : ∀ x, P n x → ∀ K rec, B K rec x = G K x) {F : Nat} (hF : n < F) {x : α} (h0 : P 0 x) : ∃ x', (∀ K, lq_1 (B K) F x = G K x') ∧ P n x' := by
  have key : ∀ m i x, i + m = n → P i x → ∀ F, m < F → ∃ x', (∀ K, lq_1 (B K) F x = G K x') ∧ P n x' := by
    intro m
    induction m with
    | zero => intro i x hi hp F hF; obtain ⟨F', rfl⟩ : ∃ F', F = F' + 1 := ⟨F - 1, by omega⟩; have : i = n := by omega
              subst this; exact ⟨x, fun K => he _ hp K _, hp⟩
    | succ m ih => intro i x hi hp F hF; obtain ⟨F', rfl⟩ : ∃ F', F = F' + 1 := ⟨F - 1, by omega⟩
                   obtain ⟨x', e, hp'⟩ := hs i x (by omega) hp
                   obtain ⟨x'', e2, hp2⟩ := ih (i + 1) x' (by omega) hp' F' (by omega)
                   exact ⟨x'', fun K => (e K _).trans (e2 K), hp2⟩
  exact key n 0 x (by omega) h0 F hF
theorem mz_2 {κ α β R : Type} {B : κ → (α → β → Option R) → α → β → Option R} {G : κ → α → β → Option R} {P : Nat → α → β → Prop} (n : Nat) (hs : ∀ i x y, i < n → P i x y → ∃ x' y', (∀ K rec, B K rec x y = rec x' y') ∧ P (i + 1) x' y') (he : ∀ x y, P n x y → ∀ K rec, B K rec x y = G K x y) {F : Nat} (hF : n < F) {x : α} {y : β} (h0 : P 0 x y) : ∃ x' y', (∀ K, lq_2 (B K) F x y = G K x' y') ∧ P n x' y' := by
  have key : ∀ m i x y, i + m = n → P i x y → ∀ F, m < F → ∃ x' y', (∀ K, lq_2 (B K) F x y = G K x' y') ∧ P n x' y' := by
    intro m
    induction m with
    | zero => intro i x y hi hp F hF; obtain ⟨F', rfl⟩ : ∃ F', F = F' + 1 := ⟨F - 1, by omega⟩; have : i = n := by omega
              subst this; exact ⟨x, y, fun K => he _ _ hp K _, hp⟩
    | succ m ih => intro i x y hi hp F hF; obtain ⟨F', rfl⟩ : ∃ F', F = F' + 1 := ⟨F - 1, by omega⟩
                   obtain ⟨x', y', e, hp'⟩ := hs i x y (by omega) hp
                   obtain ⟨x'', y'', e2, hp2⟩ := ih (i + 1) x' y' (by omega) hp' F' (by omega)
                   exact ⟨x'', y'', fun K => (e K _).trans (e2 K), hp2⟩
  exact key n 0 x y (by omega) h0 F hF
theorem mz_3 {κ α β γ R : Type} {B : κ → (α → β → γ → Option R) → α → β → γ → Option R} {G : κ → α → β → γ → Option R} {P : Nat → α → β → γ → Prop} (n : Nat) (hs : ∀ i x y z, i < n → P i x y z → ∃ x' y' z', (∀ K rec, B K rec x y z = rec x' y' z') ∧ P (i + 1) x' y' z') (he : ∀ x y z, P n x y z → ∀ K rec, B K rec x y z = G K x y z) {F : Nat} (hF : n < F) {x : α} {y : β} {z : γ} (h0 : P 0 x y z) : ∃ x' y' z', (∀ K, lq_3 (B K) F x y z = G K x' y' z') ∧ P n x' y' z' := by
  have key : ∀ m i x y z, i + m = n → P i x y z → ∀ F, m < F → ∃ x' y' z', (∀ K, lq_3 (B K) F x y z = G K x' y' z') ∧ P n x' y' z' := by
    intro m
    induction m with
    | zero => intro i x y z hi hp F hF; obtain ⟨F', rfl⟩ : ∃ F', F = F' + 1 := ⟨F - 1, by omega⟩; have : i = n := by omega
              subst this; exact ⟨x, y, z, fun K => he _ _ _ hp K _, hp⟩
    | succ m ih => intro i x y z hi hp F hF; obtain ⟨F', rfl⟩ : ∃ F', F = F' + 1 := ⟨F - 1, by omega⟩
                   obtain ⟨x', y', z', e, hp'⟩ := hs i x y z (by omega) hp
                   obtain ⟨x'', y'', z'', e2, hp2⟩ := ih (i + 1) x' y' z' (by omega) hp' F' (by omega)
                   exact ⟨x'', y'', z'', fun K => (e K _).trans (e2 K), hp2⟩
  exact key n 0 x y z (by omega) h0 F hF
theorem mz_4 {κ α β γ δ R : Type} {B : κ → (α → β → γ → δ → Option R) → α → β → γ → δ → Option R} {G : κ → α → β → γ → δ → Option R} {P : Nat → α → β → γ → δ → Prop} (n : Nat) (hs : ∀ i x y z w, i < n → P i x y z w → ∃ x' y' z' w', (∀ K rec, B K rec x y z w = rec x' y' z' w') ∧ P (i + 1) x' y' z' w') (he : ∀ x y z w, P n x y z w → ∀ K rec, B K rec x y z w = G K x y z w) {F : Nat} (hF : n < F) {x : α} {y : β} {z : γ} {w : δ} (h0 : P 0 x y z w) : ∃ x' y' z' w', (∀ K, lq_4 (B K) F x y z w = G K x' y' z' w') ∧ P n x' y' z' w' := by
  have key : ∀ m i x y z w, i + m = n → P i x y z w → ∀ F, m < F → ∃ x' y' z' w', (∀ K, lq_4 (B K) F x y z w = G K x' y' z' w') ∧ P n x' y' z' w' := by
    intro m
    induction m with
    | zero => intro i x y z w hi hp F hF; obtain ⟨F', rfl⟩ : ∃ F', F = F' + 1 := ⟨F - 1, by omega⟩; have : i = n := by omega
              subst this; exact ⟨x, y, z, w, fun K => he _ _ _ _ hp K _, hp⟩
    | succ m ih => intro i x y z w hi hp F hF; obtain ⟨F', rfl⟩ : ∃ F', F = F' + 1 := ⟨F - 1, by omega⟩
                   obtain ⟨x', y', z', w', e, hp'⟩ := hs i x y z w (by omega) hp
                   obtain ⟨x'', y'', z'', w'', e2, hp2⟩ := ih (i + 1) x' y' z' w' (by omega) hp' F' (by omega)
                   exact ⟨x'', y'', z'', w'', fun K => (e K _).trans (e2 K), hp2⟩
  exact key n 0 x y z w (by omega) h0 F hF
/-! ===== years ===== -/
def xs (s : Nat) : Nat → Nat
  | 0 => s
  | n + 1 => (75 * xs s n + 74) % 65537
def mo (s c i : Nat) : Nat := if xs s (i + 1) % c = 0 then 1 else 0
def aY (t : Nat → Nat → Nat) (s c : Nat) : Nat → Nat → Nat
  | 0 => fun _ => 0
  | n + 1 => fun b => nx t (t 2 3) (lev t n + mo s c n) (fun b => t 6 b) (aY t s c n) b
theorem xs_lt {s i : Nat} (h : s ≤ 9999) : xs s i < 65537 := by
  cases i with
  | zero => show s < _; omega
  | succ i => exact Nat.mod_lt _ (by decide)
theorem mo_le {s c i : Nat} : mo s c i ≤ 1 := by unfold mo; split <;> omega
theorem aY_le {t : Nat → Nat → Nat} {s c i b : Nat} : aY t s c i b ≤ 99 := by
  induction i with
  | zero => exact Nat.zero_le _
  | succ i ih => show nx _ _ _ _ _ _ ≤ 99; unfold nx; split; exact Nat.min_le_left _ _; exact ih
theorem aY_0 {t : Nat → Nat → Nat} {s c i b : Nat} (h : ¬ t 5 4 / 2 ^ b % 2 = 1) : aY t s c i b = 0 := by
  induction i with
  | zero => rfl
  | succ i ih => show nx _ _ _ _ _ _ = 0; unfold nx; rw [if_neg h]; exact ih
theorem yxC {x : Nat} (h : x < 65537) : ((75 : Int32) * nI x + 74) - ((75 : Int32) * nI x + 74) / 65537 * 65537 = nI ((75 * x + 74) % 65537) := by
  rw [show (75 : Int32) * nI x = nI (75 * x) from pk_mul 75 x, show nI (75 * x) + 74 = nI (75 * x + 74) from nI_add _ 74]
  exact pk_rem (d := 65537) (by omega) (by decide) (by decide)
theorem yxM {x : Nat} (h : x < 65537) : Int64.toInt32 (((75 : Int64) * Int32.toInt64 (nI x) + 74) - ((75 : Int64) * Int32.toInt64 (nI x) + 74) / 65537 * 65537) = nI ((75 * x + 74) % 65537) := by
  rw [nI_l (by omega), show (75 : Int64) * lN x = lN (75 * x) from lN_mul 75 x, show lN (75 * x) + 74 = lN (75 * x + 74) from lN_add _ 74, show lN (75 * x + 74) - lN (75 * x + 74) / 65537 * 65537 = lN ((75 * x + 74) % 65537) from pk_lRem (b := 65537) (by omega) (by decide) (by decide), lN_i]
theorem yrC {u : St} {t : Nat → Nat → Nat} (hU : UT u t 0) (hT : TK t) {s n c : Nat} (hs : s ≤ 9999) (hn : n ≤ 999) (hc : 1 ≤ c ∧ c ≤ 99) (K : St → Int32 → Option (Int32 × St)) {v w : St} (hA : As u v t) (w1 : ∀ c, c ≠ 21 → c ≠ 22 → c ≠ 23 → w.1 c = v.1 c) (w3 : w.1 21 5 = nI 0) (w4 : ∀ b, b < 8 → w.1 22 b = nI (t 6 b) ∧ w.1 23 b = nI 0) : ∃ z, lq_4 (B_X11_year_68 (nI n) (nI c) K) FU w (nI s) 0 0 = K z (nI (sm (mo s c) n)) ∧ Kp u z ∧ AL z t (t 2 3) (lev t) ∧ ∀ b, b < 8 → z.1 23 b = nI (aY t s c n b) := by
  refine mw_4 (P := fun i (z : St) (x y q : Int32) => q = nI i ∧ x = nI (xs s i) ∧ y = nI (sm (mo s c) i) ∧ Kp u z ∧ AL z t (t 2 3) (lev t) ∧ z.1 21 5 = nI i ∧ ∀ b, b < 8 → z.1 22 b = nI (t 6 b) ∧ z.1 23 b = nI (aY t s c i b)) (Q := fun o => ∃ z, o = K z (nI (sm (mo s c) n)) ∧ Kp u z ∧ AL z t (t 2 3) (lev t) ∧ ∀ b, b < 8 → z.1 23 b = nI (aY t s c n b)) n ?_ ?_ (FU_lt (by omega)) ?_
  · rintro i z x y q hi ⟨rfl, rfl, rfl, hk, hAL, h5, hb⟩
    have hx := xs_lt (i := i) hs
    have hx1 := xs_lt (i := i + 1) hs
    have hxm : xs s (i + 1) % c < 2 ^ 31 := Nat.lt_of_le_of_lt (Nat.mod_le _ _) (by omega)
    obtain ⟨z2, e1, e2, e3, e4, e5⟩ := pdC hT hAL (mo := mo s c i) (at' := fun b => t 6 b) (A := aY t s c i) h5 (by omega) mo_le (fun b hb8 => (hb b hb8).1) (fun b hb8 => ⟨(hb b hb8).2, aY_le⟩) (fun b hb8 hbt => (K_there hT hb8 hbt).1)
    have hk2 : Kp u z2 := fun c hc => by rw [e2 c (by omega) (by omega)]; exact hk c hc
    refine Or.inl ⟨z2, _, _, _, fun rec => ?_, ⟨rfl, rfl, rfl, hk2, AL_tr hAL (fun c hc => e2 c (by omega) (by omega)), e4, fun b hb8 => ⟨by rw [e2 22 (by omega) (by omega)]; exact (hb b hb8).1, e5 b hb8⟩⟩⟩
    unfold B_X11_year_68
    rw [if_neg (nI_ge hi (by omega)), ckT (by decide), yxC hx, bsE, ckT (show ¬ nI c = 0 from fun h9 => absurd ((nI_eq (b := 0) (by omega) (by decide)).mp h9) (by omega)), jq1, show (75 * xs s i + 74) % 65537 = xs s (i + 1) from rfl, pk_rem (by omega) (by omega) (by omega)]
    by_cases h : xs s (i + 1) % c = 0
    · have hm : mo s c i = 1 := if_pos h
      rw [hm] at e1
      rw [h, if_pos (show nI 0 = 0 from rfl)]
      show b1 (f_X1_passDay z (nI 1)) _ = _
      rw [e1, b1E, nI_1, nI_1]
      show rec z2 _ (nI (sm (mo s c) i + 1)) _ = rec z2 _ (nI (sm (mo s c) i + mo s c i)) _
      rw [hm]
    · have hm : mo s c i = 0 := if_neg h
      rw [hm] at e1
      rw [if_neg (show ¬ nI (xs s (i + 1) % c) = 0 from fun h9 => h ((nI_eq (b := 0) hxm (by decide)).mp h9))]
      show b1 (f_X1_passDay z (nI 0)) _ = _
      rw [e1, b1E, nI_1]
      show rec z2 _ (nI (sm (mo s c) i) + nI 0) _ = rec z2 _ (nI (sm (mo s c) i + mo s c i)) _
      rw [hm, nI_add]
  · rintro z x y q ⟨rfl, rfl, rfl, hk, hAL, h5, hb⟩ rec
    unfold B_X11_year_68
    rw [if_pos (Int32.le_refl _)]
    exact ⟨z, rfl, hk, hAL, fun b hb8 => (hb b hb8).2⟩
  · refine ⟨rfl, rfl, rfl, fun c hc => ?_, AL_tr (As_AL hT hA) (fun c hc => w1 c (by omega) (by omega) (by omega)), w3, fun b hb => ⟨(w4 b hb).1, (w4 b hb).2⟩⟩
    rw [w1 c (by omega) (by omega) (by omega)]; exact hA.1 c hc
/-- what a year may change in the reference -/
def Ky (m w : St) : Prop := (∀ c, c ≠ 0 → c ≠ 14 → w.1 c = m.1 c) ∧ (∀ k, k ≠ 22 → w.1 0 k = m.1 0 k) ∧ w.2 = m.2
theorem Ky_MT {m w : St} {t : Nat → Nat → Nat} (hM : MT m t) (h : Ky m w) : MT w t := MT_congr hM (fun c hc _ => h.1 c (by omega) (by omega)) (fun k hk => h.2.1 k (by omega)) (fun c _ => rfl)
theorem Ky_Km {m w : St} (h : Ky m w) (hr : m.1 0 22 = 0) : Km m (sI w 0 22 0) := by
  refine ⟨fun c hc => by rw [sI_o (by omega)]; exact h.1 c (by omega) (by omega), fun k hk => ?_, by show w.2 0 21 = _; rw [h.2.2]⟩
  rw [sI_s]
  by_cases h9 : k = 22
  · subst h9; rw [pk_us, hr]
  · rw [pk_un h9]; exact h.2.1 k h9
theorem ydM {m w : St} {t : Nat → Nat → Nat} (hM : MT m t) (hT : TK t) (hd : m.2 0 21 = 0) {s c i : Nat} (hi : i < 999) (hk : Ky m w) (h22 : w.1 0 22 = if mo s c i = 1 then -nI 1 else nI 0) (hac : ∀ b, b < 8 → w.1 14 b = nI (aY t s c i b)) : ∃ z, (∀ K, lq_2 (B_X12_year_153 (nI i) K) FU w 0 = K z) ∧ Ky m z ∧ ∀ b, b < 8 → z.1 14 b = nI (aY t s c (i + 1) b) := by
  have hlv : ∀ z, Ky m z → z.1 0 22 = w.1 0 22 → LM z (fun d => lev t d + mo s c i) := by
    intro z hz h2 j hj
    have hMz := Ky_MT hM hz
    have hdz : z.2 0 21 = 0 := by rw [hz.2.2]; exact hd
    have hle := lev_le hT j
    by_cases h : mo s c i = 1
    · rw [h22, if_pos h] at h2
      refine ⟨?_, by show lev t j + mo s c i ≤ 11; omega⟩
      show _ = some (nI (lev t j + mo s c i))
      rw [lvMn hMz hT hdz h2 (by omega), h]; rfl
    · rw [h22, if_neg h] at h2
      have h0 : mo s c i = 0 := by have := mo_le (s := s) (c := c) (i := i); omega
      refine ⟨?_, by show lev t j + mo s c i ≤ 11; omega⟩
      show _ = some (nI (lev t j + mo s c i))
      rw [lvM (x := fun _ => 0) (ls := 0) hMz hT (by rw [hdz]; exact DX_0) h2 (by omega) (by omega), h0]; rfl
  suffices hh : ∃ z y, (∀ K, lq_2 (B_X12_year_153 (nI i) K) FU w 0 = (fun (K : St → Option (Int32 × St)) (z : St) (_ : Int32) => K z) K z y) ∧ (y = nI 8 ∧ Ky m z ∧ z.1 0 22 = w.1 0 22 ∧ ∀ b, b < 8 → z.1 14 b = nI (if b < 8 then aY t s c (i + 1) b else aY t s c i b)) by
    obtain ⟨z, y, e, -, h1, -, h3⟩ := hh
    exact ⟨z, e, h1, fun b hb => by rw [h3 b hb, if_pos hb]⟩
  refine mz_2 (P := fun j (z : St) (y : Int32) => y = nI j ∧ Ky m z ∧ z.1 0 22 = w.1 0 22 ∧ ∀ b, b < 8 → z.1 14 b = nI (if b < j then aY t s c (i + 1) b else aY t s c i b)) (G := fun (K : St → Option (Int32 × St)) (z : St) (_ : Int32) => K z) 8 ?_ ?_ (FU_lt (by decide)) ⟨rfl, hk, rfl, fun b hb => by rw [if_neg (by omega)]; exact hac b hb⟩
  · rintro j z y hj ⟨rfl, hz, h2, h14⟩
    have hMz := Ky_MT hM hz
    have hL := hlv z hz h2
    have h3 := h14 j hj
    rw [if_neg (by omega)] at h3
    have ha := aY_le (t := t) (s := s) (c := c) (i := i) (b := j)
    have hkz : ∀ x, Ky m (sI z 14 j x) := fun x => ⟨fun c c1 c2 => by rw [sI_o c2]; exact hz.1 c c1 c2, fun k hk => by rw [sI_o (by omega)]; exact hz.2.1 k hk, hz.2.2⟩
    have hfin : ∀ x, x = aY t s c (i + 1) j → ∀ b, b < 8 → (sI z 14 j (nI x)).1 14 b = nI (if b < j + 1 then aY t s c (i + 1) b else aY t s c i b) := by
      intro x hx b hb
      rw [sI_s]
      by_cases h9 : b = j
      · subst h9; rw [pk_us, if_pos (by omega), hx]
      · rw [pk_un h9, h14 b hb]
        by_cases h8 : b < j
        · rw [if_pos h8, if_pos (by omega)]
        · rw [if_neg h8, if_neg (by omega)]
    by_cases hbt : bt t j
    · have h5 : t 5 4 / 2 ^ j % 2 = 1 := hbt
      have hl6 := (K_bar hT hj).1
      have hbr := br_le (t := t) (wl := t 2 3) (c := t 6 j) (lev := lev t i + mo s c i)
      have hle := lev_le hT i
      have hmo := mo_le (s := s) (c := c) (i := i)
      refine ⟨sI z 14 j (nI (min 99 (aY t s c i j + (br t (t 2 3) (t 6 j) (lev t i + mo s c i) - t 8 j)))), _, fun K rec => ?_, ⟨rfl, hkz _, by rw [sI_o (by omega)]; exact h2, hfin _ ?_⟩⟩
      · unfold B_X12_year_153
        rw [if_neg (nle_l (l := 8) 8 rfl hj (by decide)), ibY hMz hT hj hbt, b1E, if_neg n10, ckiT hj (by decide), ckiT hj (by decide), ixN (by omega), M_lie hMz hj, riM hMz hT hL hj hl6 (by omega), b1E, h3, nI_add, upM (by omega), b1E, ckiT hj (by decide), bsE, nI_1]
      · show _ = nx t (t 2 3) (lev t i + mo s c i) (fun b => t 6 b) (aY t s c i) j
        unfold nx; rw [if_pos h5]
    · have h5 : ¬ t 5 4 / 2 ^ j % 2 = 1 := hbt
      refine ⟨sI z 14 j (nI 0), _, fun K rec => ?_, ⟨rfl, hkz _, by rw [sI_o (by omega)]; exact h2, hfin 0 (aY_0 h5).symm⟩⟩
      unfold B_X12_year_153
      rw [if_neg (nle_l (l := 8) 8 rfl hj (by decide)), ibF hMz hT hj hbt, b1E, if_pos rfl, ckiT hj (by decide), ixN (by omega), bsE, nI_1]; rfl
  · rintro z y ⟨rfl, hz, -, h14⟩ K rec
    unfold B_X12_year_153
    rw [if_pos (show (8 : Int32) ≤ nI 8 by decide)]
theorem s_year : Sp_year Inv := by
  intro N u m p1 p2 p3 p4 hi0
  obtain ⟨t, hU, hM, hT, hP, hI, hd, hr⟩ := id hi0
  unfold f_X11_year f_X12_year
  rw [w_ev, b1E, in_ev (a := 0) (b := 9999) (lo := 0) (hi := 9999) rfl rfl, b1E]
  by_cases h1 : (0 : Int32) ≤ p1 ∧ p1 ≤ 9999
  rotate_left
  · rw [if_neg h1, if_pos rfl, if_pos rfl]
    exact ⟨_, _, _, rfl, rfl, hi0⟩
  rw [if_pos h1, if_neg n10, if_neg n10, w_ev, b1E, in_ev (a := 1) (b := 999) (lo := 1) (hi := 999) rfl rfl, b1E]
  by_cases h2 : (1 : Int32) ≤ p2 ∧ p2 ≤ 999
  rotate_left
  · rw [if_neg h2, if_pos rfl, if_pos rfl]
    exact ⟨_, _, _, rfl, rfl, hi0⟩
  rw [if_pos h2, if_neg n10, if_neg n10, w_ev, b1E, in_ev (a := 1) (b := 99) (lo := 1) (hi := 99) rfl rfl, b1E]
  by_cases h3 : (1 : Int32) ≤ p3 ∧ p3 ≤ 99
  rotate_left
  · rw [if_neg h3, if_pos rfl, if_pos rfl]
    exact ⟨_, _, _, rfl, rfl, hi0⟩
  rw [if_pos h3, if_neg n10, if_neg n10, w_ev, b1E, in_ev (a := 0) (b := 1) (lo := 0) (hi := 1) rfl rfl, b1E]
  by_cases h4 : (0 : Int32) ≤ p4 ∧ p4 ≤ 1
  rotate_left
  · rw [if_neg h4, if_pos rfl, if_pos rfl]
    exact ⟨_, _, _, rfl, rfl, hi0⟩
  rw [if_pos h4, if_neg n10, if_neg n10]
  obtain ⟨s, -, hs, rfl⟩ := rng h1 (a := 0) (b := 9999) rfl rfl (by decide) (by decide)
  obtain ⟨n, hn1, hn, rfl⟩ := rng h2 (a := 1) (b := 999) rfl rfl (by decide) (by decide)
  obtain ⟨c, hc1, hc, rfl⟩ := rng h3 (a := 1) (b := 99) rfl rfl (by decide) (by decide)
  obtain ⟨v, ev, hA⟩ := asI hU hT
  obtain ⟨w, ew, w1, w2, w3, w4⟩ := bgC hA.2.1
  rw [ev, b1E, ew, b1E, jq2]
  obtain ⟨z, ez, hkz, hAz, haz⟩ := yrC hU hT hs hn ⟨hc1, hc⟩ (fun (u16 : St) (x17 : Int32) => if p4 = 0 then b1 (f_X1_lostNow u16) (fun (x19 : Int32) => some (x19, u16)) else some (x17, u16)) hA w1 w3 w4
  rw [ez, lnC hAz.1 hT (A := aY t s c n) (fun b hb => ⟨haz b hb, aY_le⟩)]
  suffices hm : ∃ m2, jq_1 (fun (u12 : St) => jq_2 (fun (u18 : St) (x19 : Int32) => bs (sI u18 0 22 0) (fun u20 : St => jq_1 (fun (x24 : Int32) => if p4 = 0 then some (x24, u20) else some (x19, u20)) (fun (k23 : Int32 → Option (Int32 × St)) => lq_2 (B_X12_year_229 u20 k23) FU 0 0))) (fun (k17 : St → Int32 → Option (Int32 × St)) => lq_4 (B_X12_year_83 (nI n) (nI c) k17) FU u12 (nI s) 0 0)) (fun (k11 : St → Option (Int32 × St)) => lq_2 (B_X12_year_53 k11) FU m 0) = (if p4 = 0 then some (nI (lS t (aY t s c n) 8), m2) else some (nI (sm (mo s c) n), m2)) ∧ Km m m2 by
    obtain ⟨m2, e1, e2⟩ := hm
    rw [e1]
    by_cases h : p4 = 0
    · rw [if_pos h, if_pos h]; exact ⟨_, _, _, rfl, rfl, Inv_keep hi0 hkz e2⟩
    · rw [if_neg h, if_neg h]; exact ⟨_, _, _, rfl, rfl, Inv_keep hi0 hkz e2⟩
  rw [jq1]
  have g1 : ∀ K : St → Option (Int32 × St), ∃ w, lq_2 (B_X12_year_53 K) FU m 0 = K w ∧ Ky m w ∧ w.1 0 22 = 0 ∧ ∀ b, b < 8 → w.1 14 b = nI 0 := by
    intro K
    refine mw_2 (P := fun j (z : St) (y : Int32) => y = nI j ∧ Ky m z ∧ z.1 0 22 = 0 ∧ ∀ b, b < j → z.1 14 b = nI 0) (Q := fun o => ∃ z, o = K z ∧ Ky m z ∧ z.1 0 22 = 0 ∧ ∀ b, b < 8 → z.1 14 b = nI 0) 8 ?_ ?_ (FU_lt (by decide)) ⟨rfl, ⟨fun _ _ _ => rfl, fun _ _ => rfl, rfl⟩, hr, fun b hb => absurd hb (by omega)⟩
    · rintro j z y hj ⟨rfl, hz, h22, h14⟩
      refine Or.inl ⟨sI z 14 j (nI 0), _, fun rec => ?_, ⟨rfl, ⟨fun c c1 c2 => by rw [sI_o c2]; exact hz.1 c c1 c2, fun k hk => by rw [sI_o (by omega)]; exact hz.2.1 k hk, hz.2.2⟩, by rw [sI_o (by omega)]; exact h22, fun b hb => ?_⟩⟩
      · unfold B_X12_year_53
        rw [if_neg (nle_l (l := 8) 8 rfl hj (by decide)), ckiT hj (by decide), ixN (by omega), bsE, nI_1]; rfl
      · rw [sI_s]
        by_cases h9 : b = j
        · subst h9; rw [pk_us]
        · rw [pk_un h9]; exact h14 b (by omega)
    · rintro z y ⟨rfl, hz⟩ rec
      unfold B_X12_year_53
      rw [if_pos (show (8 : Int32) ≤ nI 8 by decide)]
      exact ⟨z, rfl, hz⟩
  obtain ⟨w5, e5, hk5, h225, h145⟩ := g1 _
  rw [e5, jq2]
  have g2 : ∀ K : St → Int32 → Option (Int32 × St), ∃ z, lq_4 (B_X12_year_83 (nI n) (nI c) K) FU w5 (nI s) 0 0 = K z (nI (sm (mo s c) n)) ∧ Ky m z ∧ ∀ b, b < 8 → z.1 14 b = nI (aY t s c n b) := by
    intro K
    refine mw_4 (P := fun i (z : St) (x y q : Int32) => q = nI i ∧ x = nI (xs s i) ∧ y = nI (sm (mo s c) i) ∧ Ky m z ∧ ∀ b, b < 8 → z.1 14 b = nI (aY t s c i b)) (Q := fun o => ∃ z, o = K z (nI (sm (mo s c) n)) ∧ Ky m z ∧ ∀ b, b < 8 → z.1 14 b = nI (aY t s c n b)) n ?_ ?_ (FU_lt (by omega)) ⟨rfl, rfl, rfl, hk5, fun b hb => h145 b hb⟩
    · rintro i z x y q hi ⟨rfl, rfl, rfl, hk, h14⟩
      have hx := xs_lt (i := i) hs
      have hx1 := xs_lt (i := i + 1) hs
      have hxm : xs s (i + 1) % c < 2 ^ 31 := Nat.lt_of_le_of_lt (Nat.mod_le _ _) (by omega)
      have hkd : ∀ x, Ky m (sI z 0 22 x) := fun x => ⟨fun c c1 c2 => by rw [sI_o c1]; exact hk.1 c c1 c2, fun k hk9 => by rw [sI_s, pk_un hk9]; exact hk.2.1 k hk9, hk.2.2⟩
      have ydm := fun x hx => ydM (s := s) (c := c) (i := i) (w := sI z 0 22 x) hM hT hd (by omega) (hkd x) hx (fun b hb => by rw [sI_o (by omega)]; exact h14 b hb)
      by_cases h : xs s (i + 1) % c = 0
      · have hm : mo s c i = 1 := if_pos h
        obtain ⟨z2, f1, f2, f3⟩ := ydm (-nI 1) (by rw [if_pos hm, sI_s, pk_us])
        refine Or.inl ⟨z2, _, _, _, fun rec => ?_, ⟨rfl, rfl, rfl, f2, f3⟩⟩
        unfold B_X12_year_83
        rw [if_neg (nI_ge hi (by omega)), ckT (by decide), yxM hx, bsE, ckT (show ¬ nI c = 0 from fun h9 => absurd ((nI_eq (b := 0) (by omega) (by decide)).mp h9) (by omega)), jq1, show (75 * xs s i + 74) % 65537 = xs s (i + 1) from rfl, pk_rem (by omega) (by omega) (by omega), h, if_pos (show nI 0 = 0 from rfl)]
        refine (f1 _).trans ?_
        rw [nI_1, nI_1]
        show rec z2 _ (nI (sm (mo s c) i + 1)) _ = rec z2 _ (nI (sm (mo s c) i + mo s c i)) _
        rw [hm]
      · have hm : mo s c i = 0 := if_neg h
        obtain ⟨z2, f1, f2, f3⟩ := ydm (nI 0) (by rw [if_neg (by omega), sI_s, pk_us])
        refine Or.inl ⟨z2, _, _, _, fun rec => ?_, ⟨rfl, rfl, rfl, f2, f3⟩⟩
        unfold B_X12_year_83
        rw [if_neg (nI_ge hi (by omega)), ckT (by decide), yxM hx, bsE, ckT (show ¬ nI c = 0 from fun h9 => absurd ((nI_eq (b := 0) (by omega) (by decide)).mp h9) (by omega)), jq1, show (75 * xs s i + 74) % 65537 = xs s (i + 1) from rfl, pk_rem (by omega) (by omega) (by omega), if_neg (show ¬ nI (xs s (i + 1) % c) = 0 from fun h9 => h ((nI_eq (b := 0) hxm (by decide)).mp h9))]
        refine (f1 _).trans ?_
        rw [nI_1]
        show rec z2 _ (nI (sm (mo s c) i) + nI 0) _ = rec z2 _ (nI (sm (mo s c) i + mo s c i)) _
        rw [hm, nI_add]
    · rintro z x y q ⟨rfl, rfl, rfl, hk, h14⟩ rec
      unfold B_X12_year_83
      rw [if_pos (Int32.le_refl _)]
      exact ⟨z, rfl, hk, h14⟩
  obtain ⟨z6, e6, hk6, h146⟩ := g2 _
  rw [e6, bsE, jq1]
  have hM6 : MT (sI z6 0 22 0) t := MT_km hM (Ky_Km hk6 hr)
  refine ⟨sI z6 0 22 0, ?_, Ky_Km hk6 hr⟩
  have h0 := (K_set hT).2.2 0 (by omega)
  refine mr_2 (fun i => nI (lS t (aY t s c n) i)) nI 8 ?_ ?_ (FU_lt (by decide)) rfl rfl
  · intro i hi rec
    have ha := aY_le (t := t) (s := s) (c := c) (i := n) (b := i)
    unfold B_X12_year_229
    rw [if_neg (nle_l (l := 8) 8 rfl hi (by decide)), nI_1, show nI (lS t (aY t s c n) i) + (0 : Int32) = nI (lS t (aY t s c n) i) from nI_add _ 0]
    show _ = rec (nI (lS t (aY t s c n) i + (if t 5 4 / 2 ^ i % 2 = 1 ∧ t 16 0 ≤ aY t s c n i then t 7 i else 0))) _
    by_cases hbt : bt t i
    · have h2 : t 5 4 / 2 ^ i % 2 = 1 := hbt
      rw [ibY hM6 hT hi hbt, b1E, if_neg n10, ckiT hi (by decide), ckiT hi (by decide), ixN (by omega), M_siz hM6 hi, M_sour hM6, sI_o (by omega), h146 i hi]
      by_cases h : t 16 0 ≤ aY t s c n i
      · rw [if_neg (nI_nlt h (by omega)), if_pos ⟨h2, h⟩, nI_add]
      · rw [if_pos (nI_lt (by omega) (by omega)), if_neg (fun h9 => h h9.2)]; rfl
    · rw [ibF hM6 hT hi hbt, b1E, if_pos rfl, if_neg (fun h9 => hbt h9.1)]; rfl
  · intro rec
    unfold B_X12_year_229
    rw [if_pos (show (8 : Int32) ≤ nI 8 by decide)]
