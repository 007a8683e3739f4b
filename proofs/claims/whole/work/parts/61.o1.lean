/-! ===== sights ===== -/
theorem orNN (a b : Nat) : nI a ||| nI b = nI (a ||| b) := by
  apply Int32.toBitVec_inj.mp
  show BitVec.ofNat 32 a ||| BitVec.ofNat 32 b = BitVec.ofNat 32 (a ||| b)
  apply BitVec.eq_of_toNat_eq
  simp only [BitVec.toNat_or, BitVec.toNat_ofNat]
  exact (Nat.or_mod_two_pow).symm
def orS (f : Nat → Nat) : Nat → Nat
  | 0 => 0
  | n + 1 => orS f n ||| f n
theorem orS_congr {f g : Nat → Nat} {n : Nat} (h : ∀ i, i < n → f i = g i) : orS f n = orS g n := by
  induction n with
  | zero => rfl
  | succ n ih => show orS f n ||| _ = orS g n ||| _; rw [ih (fun i hi => h i (by omega)), h n (by omega)]
theorem orS_tail {f : Nat → Nat} {n k : Nat} (hk : k ≤ n) (h : ∀ i, k ≤ i → i < n → f i = 0) : orS f n = orS f k := by
  induction n with
  | zero => have : k = 0 := by omega
            subst this; rfl
  | succ n ih =>
    by_cases h9 : k = n + 1
    · subst h9; rfl
    · show orS f n ||| f n = _
      rw [ih (by omega) (fun i h1 h2 => h i h1 (by omega)), h n (by omega) (by omega), Nat.or_zero]
def shP (t : Nat → Nat → Nat) (f : Nat → Nat → Nat) : Nat → Bool := fun k => !(decide (t 5 4 / 2 ^ t 13 k % 2 = 1) && decide (f (t 13 k) (t 14 k) = t 15 k))
def hB (t : Nat → Nat → Nat) (f : Nat → Nat → Nat) : Bool := decide (fs (shP t f) (t 12 3) = t 12 3)
theorem hB_congr {t t2 : Nat → Nat → Nat} {f g : Nat → Nat → Nat} (h : ∀ c, c = 5 ∨ c = 12 ∨ c = 13 ∨ c = 14 ∨ c = 15 → t2 c = t c) (hf : ∀ b d, f b d = g b d) : hB t2 f = hB t g := by
  have : f = g := by funext b d; exact hf b d
  unfold hB shP
  rw [this, h 5 (by omega), h 12 (by omega), h 13 (by omega), h 14 (by omega), h 15 (by omega)]
section SH
variable {u m v w : St} {t : Nat → Nat → Nat} {f : Nat → Nat → Nat}
theorem shC (hU : UT v t 0) (hT : TK t) (hf : ∀ b d, b < 8 → d ≤ 30 → bt t b → f_X0_acidOf v (nI b) (nI d) = some (nI (f b d)) ∧ f b d ≤ 99) : f_X11_sightsHold v = some (bI (hB t f)) := by
  have hsc := K_sc hT
  unfold f_X11_sightsHold
  rw [jq0]
  refine mw_1 (P := fun i (y : Int32) => y = nI i ∧ ∀ j, j < i → shP t f j = false) (Q := fun o => o = some (bI (hB t f))) (t 12 3) ?_ ?_ (FU_lt (by omega)) ⟨rfl, fun j hj => absurd hj (by omega)⟩
  · rintro i y hi ⟨rfl, hn⟩
    have hs := K_si hT (k := i) (by omega)
    have pre : ∀ rec, B_X11_sightsHold_10 v (some 1) rec (nI i) = b1 (f_X7_has v (nI (t 13 i))) (fun (x6 : Int32) => if x6 = 0 then some 0 else cki (nI i) 6 (b1 (f_X0_acidOf v (nI (t 13 i)) (nI (t 14 i))) (fun (x8 : Int32) => cki (nI i) 6 (if x8 = nI (t 15 i) then rec (nI (i + 1)) else some 0)))) := by
      intro rec
      unfold B_X11_sightsHold_10
      rw [U_sc hU, if_neg (nI_ge hi (by omega)), if_neg (nle_l (l := 6) 6 rfl (by omega) (by decide)), ckiT (by omega) (by decide), ixN (by omega), U_sb hU (by omega), U_sd hU (by omega), U_sa hU (by omega), nI_1]
    have ebad : shP t f i = true → some (bI (hB t f)) = some (0 : Int32) := by
      intro hp
      unfold hB; rw [fs_hit hi hp hn, decide_eq_false (by omega)]; rfl
    by_cases hbt : bt t (t 13 i)
    · have h5 : t 5 4 / 2 ^ t 13 i % 2 = 1 := hbt
      have hff := hf (t 13 i) (t 14 i) (by omega) (by omega) hbt
      by_cases he : f (t 13 i) (t 14 i) = t 15 i
      · refine Or.inl ⟨_, fun rec => ?_, ⟨rfl, fun j hj => ?_⟩⟩
        · rw [pre, hbY hU hT (by omega) hbt, b1E, if_neg n10, ckiT (by omega) (by decide), hff.1, b1E, ckiT (by omega) (by decide), if_pos (by rw [he])]
        · by_cases h9 : j = i
          · subst h9; simp [shP, h5, he]
          · exact hn j (by omega)
      · refine Or.inr fun rec => ?_
        rw [pre, hbY hU hT (by omega) hbt, b1E, if_neg n10, ckiT (by omega) (by decide), hff.1, b1E, ckiT (by omega) (by decide), if_neg (fun h9 => he ((nI_eq (by omega) (by omega)).mp h9))]
        exact (ebad (by simp [shP, he])).symm
    · have h5 : ¬ t 5 4 / 2 ^ t 13 i % 2 = 1 := hbt
      refine Or.inr fun rec => ?_
      rw [pre, hbF hU hT (by omega) hbt, b1E, if_pos rfl]
      exact (ebad (by simp [shP, h5])).symm
  · rintro y ⟨rfl, hn⟩ rec
    unfold B_X11_sightsHold_10 hB
    rw [U_sc hU, if_pos (Int32.le_refl _), fs_none hn, decide_eq_true rfl]; rfl
theorem shM (hM : MT w t) (hT : TK t) (hf : ∀ b d, b < 8 → d ≤ 30 → f_X12_acidBehind w (nI b) (nI d) = some (nI (f b d)) ∧ f b d ≤ 99) : f_X12_holdsAll w = some (bI (hB t f)) := by
  have hsc := K_sc hT
  unfold f_X12_holdsAll
  rw [jq1]
  refine mw_2 (P := fun i (x y : Int32) => y = nI i ∧ x = bI (decide (fs (shP t f) i = i))) (Q := fun o => o = some (bI (hB t f))) (t 12 3) ?_ ?_ (FU_lt (by omega)) ⟨rfl, rfl⟩
  · rintro i x y hi ⟨rfl, rfl⟩
    have hs := K_si hT (k := i) (by omega)
    have hle := fs_le (p := shP t f) (n := i)
    have hff := hf (t 13 i) (t 14 i) (by omega) (by omega)
    refine Or.inl ⟨_, _, fun rec => ?_, ⟨rfl, rfl⟩⟩
    unfold B_X12_holdsAll_4
    rw [M_sc hM, if_neg (nI_ge hi (by omega)), ckiT (by omega) (by decide), ixN (by omega), M_sb hM (by omega), M_sd hM (by omega), M_sa hM (by omega), nI_1, hff.1, b1E, ckiT (by omega) (by decide), ckiT (by omega) (by decide)]
    by_cases ha : fs (shP t f) i = i
    · have es : fs (shP t f) (i + 1) = if shP t f i then i else i + 1 := by
        show (if fs (shP t f) i < i then _ else _) = _
        rw [if_neg (by omega)]
      rw [decide_eq_true ha, if_neg (show ¬ bI true = 0 by decide)]
      by_cases hbt : bt t (t 13 i)
      · have h5 : t 5 4 / 2 ^ t 13 i % 2 = 1 := hbt
        rw [ibY hM hT (by omega) hbt, b1E, if_neg n10]
        by_cases he : f (t 13 i) (t 14 i) = t 15 i
        · have : shP t f i = false := by simp [shP, h5, he]
          rw [if_pos (by rw [he]), es, this, if_neg (by decide), decide_eq_true rfl]; rfl
        · have : shP t f i = true := by simp [shP, he]
          rw [if_neg (fun h9 => he ((nI_eq (by omega) (by omega)).mp h9)), es, this, if_pos rfl, decide_eq_false (by omega)]; rfl
      · have h5 : ¬ t 5 4 / 2 ^ t 13 i % 2 = 1 := hbt
        have : shP t f i = true := by simp [shP, h5]
        rw [ibF hM hT (by omega) hbt, b1E, if_pos rfl, es, this, if_pos rfl, decide_eq_false (by omega)]; rfl
    · have es : fs (shP t f) (i + 1) = fs (shP t f) i := by
        show (if fs (shP t f) i < i then _ else _) = _
        rw [if_pos (by omega)]
      rw [decide_eq_false ha, if_pos (show bI false = 0 by decide), es, decide_eq_false (by omega)]; rfl
  · rintro x y ⟨rfl, rfl⟩ rec
    unfold B_X12_holdsAll_4
    rw [M_sc hM, if_pos (Int32.le_refl _)]
    show ck _ _ = _
    rw [ckT]; rfl
    cases hx : decide (fs (shP t f) (t 12 3) = t 12 3)
    · exact Or.inl rfl
    · exact Or.inr rfl
end SH
