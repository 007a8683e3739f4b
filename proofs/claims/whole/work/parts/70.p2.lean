/-! ===== plans: the class's search ===== -/
def cbC (t : Nat → Nat → Nat) (n : Nat) (g : Nat → Nat) (c : Nat) : Nat := cq (fun j => decide (g j = c)) n
/-- what is wrong with the i-th -/
def cbP (t : Nat → Nat → Nat) (s d : Nat) (g : Nat → Nat) : Nat → Bool := fun i => !(decide (¬ t 16 0 ≤ ac t (t 2 3) (lev t) (g i) (t 8 (mM s i)) d) && decide (cbC t (cqs s 8) g (g i) ≤ t 4 (g i) - stN t s (g i)))
def cbF (t : Nat → Nat → Nat) (s d : Nat) (g : Nat → Nat) : Bool := decide (fs (cbP t s d g) (cqs s 8) = cqs s 8)
def wkS (t : Nat → Nat → Nat) (s : Nat) (g : Nat → Nat) : Nat → Nat := sm (fun i => if t 6 (mM s i) = g i then 0 else wk t (mM s i) (t 6 (mM s i)) (g i))
def bsU : Option (Nat × Nat) → Nat → Nat → Option (Nat × Nat)
  | none, x, w => some (x, w)
  | some (l, q), x, w => if l ≤ x then some (l, q) else some (x, w)
def BS (F : Nat → Bool) (W : Nat → Nat) : Nat → Option (Nat × Nat)
  | 0 => none
  | w + 1 => if F w then bsU (BS F W w) (W w) w else BS F W w
def lI6 : Option (Nat × Nat) → Int32
  | none => -6
  | some (l, _) => nI l
theorem BS_le {F : Nat → Bool} {W : Nat → Nat} {k : Nat} (h : ∀ i, W i ≤ k) : ∀ {n l q : Nat}, BS F W n = some (l, q) → l ≤ k ∧ q < n
  | 0, l, q, e => by cases e
  | n + 1, l, q, e => by
    unfold BS at e
    by_cases hF : F n = true
    · rw [if_pos hF] at e
      cases hb : BS F W n with
      | none => rw [hb] at e; cases e; exact ⟨h n, by omega⟩
      | some x =>
        obtain ⟨l0, q0⟩ := x
        have ih := BS_le h hb
        rw [hb] at e
        unfold bsU at e
        simp only at e
        by_cases h9 : l0 ≤ W n
        · rw [if_pos h9] at e; cases e; exact ⟨ih.1, by omega⟩
        · rw [if_neg h9] at e; cases e; exact ⟨h n, by omega⟩
    · rw [if_neg hF] at e
      have ih := BS_le h e
      exact ⟨ih.1, by omega⟩
section PS
variable {u m v w z q : St} {t : Nat → Nat → Nat} {s d : Nat} {g : Nat → Nat}
theorem CH_tr (h : CH z t s d) (e : ∀ c, c ≠ 28 → c ≠ 29 → q.1 c = z.1 c) : CH q t s d :=
  ⟨AL_tr h.1 (fun c hc => e c (by omega) (by omega)), by rw [e 25 (by omega) (by omega)]; exact h.2.1, fun i hi => by rw [e 26 (by omega) (by omega), e 27 (by omega) (by omega)]; exact h.2.2.1 i hi, fun c hc => by rw [e 30 (by omega) (by omega)]; exact h.2.2.2 c hc⟩
theorem dn1 {n : Nat} : nI n + (-1) = nI n - 1 := by
  apply Int32.toBitVec_inj.mp
  simp only [Int32.toBitVec_sub, Int32.toBitVec_add]
  show _ + (-1 : Int32).toBitVec = _ - (1 : Int32).toBitVec
  rw [show (-1 : Int32).toBitVec = -(1 : Int32).toBitVec from rfl, BitVec.sub_eq_add_neg]
theorem spC (hT : TK t) (hC : CH z t s d) (h4 : cqs s 8 ≤ 4) {way : Nat} (hw : way < 2 ^ 20) : ∃ q, f_X4_spread z (nI way) = some q ∧ (∀ c, c ≠ 28 → q.1 c = z.1 c) ∧ ∀ i, i < cqs s 8 → q.1 28 i = nI (gd (t 2 2) (cqs s 8) way i) := by
  have hc := K_cnt hT
  have hmx : mxI 1 (nI (t 2 2)) = nI (t 2 2) := by rw [show (1 : Int32) = nI 1 from rfl, mx_nI (by decide) (by omega), Nat.max_eq_right (by omega)]
  unfold f_X4_spread
  rw [jq1, hC.2.1]
  refine mw_3 (P := fun j (q : St) (x y : Int32) => y = nI (cqs s 8 - j) - 1 ∧ x = nI (way / t 2 2 ^ j) ∧ (∀ c, c ≠ 28 → q.1 c = z.1 c) ∧ ∀ i, cqs s 8 - j ≤ i → i < cqs s 8 → q.1 28 i = nI (gd (t 2 2) (cqs s 8) way i)) (Q := fun o => ∃ q : St, o = some q ∧ (∀ c, c ≠ 28 → q.1 c = z.1 c) ∧ ∀ i, i < cqs s 8 → q.1 28 i = nI (gd (t 2 2) (cqs s 8) way i)) (cqs s 8) ?_ ?_ (FU_lt (by omega)) ⟨rfl, by rw [Nat.pow_zero, Nat.div_one], fun _ _ => rfl, fun i h1 h2 => absurd h2 (by omega)⟩
  · rintro j q x y hj ⟨rfl, rfl, h1, h2⟩
    have hdl : way / t 2 2 ^ j < 2 ^ 20 := Nat.lt_of_le_of_lt (Nat.div_le_self _ _) hw
    have e1 : nI (cqs s 8 - j) - 1 = nI (cqs s 8 - j - 1) := pk_sub (b := 1) (by omega)
    refine Or.inl ⟨sI q 28 (cqs s 8 - j - 1) (nI (way / t 2 2 ^ j % t 2 2)), _, _, fun rec => ?_, ⟨rfl, rfl, fun c hc9 => by rw [sI_o hc9]; exact h1 c hc9, fun i h5 h6 => ?_⟩⟩
    · unfold B_X4_spread_25
      rw [e1, if_neg (show ¬ nI (cqs s 8 - j - 1) < 0 from nge (by omega)), U_cnt hC.1.1, hmx, ckT (show ¬ nI (t 2 2) = 0 from fun h9 => absurd ((nI_eq (b := 0) (by omega) (by decide)).mp h9) (by omega)), ckiT (by omega) (by decide), pk_rem (by omega) (by omega) (by omega), ixN (by omega), bsE, ckT (show ¬ nI (t 2 2) = 0 from fun h9 => absurd ((nI_eq (b := 0) (by omega) (by decide)).mp h9) (by omega)), pk_div (by omega) (by omega) (by omega), bsE, dn1, Nat.div_div_eq_div_mul, ← Nat.pow_succ, show cqs s 8 - (j + 1) = cqs s 8 - j - 1 by omega]
    · rw [sI_s]
      by_cases h9 : i = cqs s 8 - j - 1
      · subst h9; rw [pk_us]; unfold gd
        rw [show cqs s 8 - 1 - (cqs s 8 - j - 1) = j by omega]
      · rw [pk_un h9]; exact h2 i (by omega) h6
  · rintro q x y ⟨rfl, rfl, h1, h2⟩ rec
    unfold B_X4_spread_25
    rw [Nat.sub_self, if_pos (show nI 0 - 1 < 0 by decide)]
    exact ⟨q, rfl, h1, fun i hi => h2 i (by omega) hi⟩
theorem cbE (hT : TK t) (hs : s < 256) (h4 : cqs s 8 ≤ 4) (hC : CH q t s d) (hg : ∀ i, i < cqs s 8 → q.1 28 i = nI (g i) ∧ g i < t 2 2) : f_X4_canBe q = some (bI (cbF t s d g)) := by
  have hcn := K_cnt hT
  have inn : ∀ i, i < cqs s 8 → ∀ K : Int32 → Option Int32, lq_2 (B_X4_canBe_14 q (nI i) K) FU 0 0 = K (nI (cbC t (cqs s 8) g (g i))) := by
    intro i hi K
    refine mr_2 (fun j => nI (cq (fun j => decide (g j = g i)) j)) nI (cqs s 8) ?_ ?_ (FU_lt (by omega)) rfl rfl
    · intro j hj rec
      have h1 := hg i hi
      have h2 := hg j hj
      unfold B_X4_canBe_14
      rw [hC.2.1, if_neg (nI_ge hj (by omega)), ckiT (by omega) (by decide), ckiT (by omega) (by decide), ixN (by omega), ixN (by omega), h1.1, h2.1, nI_1, nI_1, show nI (cq (fun j => decide (g j = g i)) j) + (0 : Int32) = nI (cq (fun j => decide (g j = g i)) j) from nI_add _ 0]
      show _ = rec (nI (cq _ j + (if decide (g j = g i) = true then 1 else 0))) _
      by_cases h : g j = g i
      · rw [if_pos (by rw [h]), if_pos (decide_eq_true h)]
      · rw [if_neg (fun h9 => h ((nI_eq (by omega) (by omega)).mp h9)), if_neg (by simp [h])]; rfl
    · intro rec
      unfold B_X4_canBe_14
      rw [hC.2.1, if_pos (Int32.le_refl _)]; rfl
  unfold f_X4_canBe
  rw [jq0]
  refine mw_1 (P := fun i (y : Int32) => y = nI i ∧ ∀ j, j < i → cbP t s d g j = false) (Q := fun o => o = some (bI (cbF t s d g))) (cqs s 8) ?_ ?_ (FU_lt (by omega)) ⟨rfl, fun j hj => absurd hj (by omega)⟩
  · rintro i y hi ⟨rfl, hn⟩
    have h1 := hg i hi
    have hmb := mM_b s hs i (by omega) hi
    have hsl := saf_lt (d := d) (b := mM s i) hT
    have hcc : cbC t (cqs s 8) g (g i) ≤ cqs s 8 := cq_le
    have hro := K_room hT (k := g i) (by omega)
    have pre : ∀ rec, B_X4_canBe_2 q (some 1) rec (nI i) = b1 (f_X11_hasBit q (nI (safN t d (mM s i))) (nI (g i))) (fun (x9 : Int32) => if x9 = 0 then some 0 else if nI (cbC t (cqs s 8) g (g i)) ≤ nI (t 4 (g i) - stN t s (g i)) then rec (nI (i + 1)) else some 0) := by
      intro rec
      unfold B_X4_canBe_2
      rw [hC.2.1, if_neg (nI_ge hi (by omega)), jq1, inn i hi, ckiT (by omega) (by decide), ckiT (by omega) (by decide), ixN (by omega), (hC.2.2.1 i hi).2, h1.1, ckiT (by omega) (by decide), ckiT (show g i < 6 by omega) (by decide), ixN (show g i < 2 ^ 31 by omega), hC.2.2.2 (g i) (by omega), nI_1]
    have ebad : cbP t s d g i = true → some (bI (cbF t s d g)) = some (0 : Int32) := by
      intro hp
      unfold cbF; rw [fs_hit hi hp hn, decide_eq_false (by omega)]; rfl
    have hsb := saf_bit (d := d) (b := mM s i) h1.2
    by_cases ha : t 16 0 ≤ ac t (t 2 3) (lev t) (g i) (t 8 (mM s i)) d
    · refine Or.inr fun rec => ?_
      rw [pre, hbit_ev (by omega) (by omega), if_neg (fun h9 => (hsb.mp h9) ha), b1E, if_pos rfl]
      exact (ebad (by simp [cbP, ha])).symm
    · by_cases hb : cbC t (cqs s 8) g (g i) ≤ t 4 (g i) - stN t s (g i)
      · refine Or.inl ⟨_, fun rec => ?_, ⟨rfl, fun j hj => ?_⟩⟩
        · rw [pre, hbit_ev (by omega) (by omega), if_pos (hsb.mpr ha), b1E, if_neg n10, if_pos (nI_le hb (by omega))]
        · by_cases h9 : j = i
          · subst h9; simp only [cbP, decide_eq_true ha, decide_eq_true hb]; rfl
          · exact hn j (by omega)
      · refine Or.inr fun rec => ?_
        rw [pre, hbit_ev (by omega) (by omega), if_pos (hsb.mpr ha), b1E, if_neg n10, if_neg (nI_ge (by omega) (by omega))]
        exact (ebad (by simp only [cbP, decide_eq_false hb, Bool.and_false]; rfl)).symm
  · rintro y ⟨rfl, hn⟩ rec
    unfold B_X4_canBe_2 cbF
    rw [hC.2.1, if_pos (Int32.le_refl _), fs_none hn, decide_eq_true rfl]; rfl
theorem wkS_le (hT : TK t) (hs : s < 256) (h4 : cqs s 8 ≤ 4) (hg : ∀ i, i < cqs s 8 → g i < t 2 2) {n : Nat} (hn : n ≤ cqs s 8) : wkS t s g n ≤ 324 := by
  have hcn := K_cnt hT
  have := sm_le (f := fun i => if t 6 (mM s i) = g i then 0 else wk t (mM s i) (t 6 (mM s i)) (g i)) (n := n) (k := 81) (fun i hi => by
    have hmb := mM_b s hs i (by omega) (by omega)
    have := wk_le hT (b := mM s i) (c := t 6 (mM s i)) (d := g i) hmb.1 (K_bar hT hmb.1).1 (by have := hg i (by omega); omega)
    show (if _ then 0 else _) ≤ 81
    split <;> omega)
  unfold wkS
  omega
theorem waE (hT : TK t) (hs : s < 256) (h4 : cqs s 8 ≤ 4) (hC : CH q t s d) (hg : ∀ i, i < cqs s 8 → q.1 28 i = nI (g i) ∧ g i < t 2 2) : f_X4_workOfAll q = some (nI (wkS t s g (cqs s 8))) := by
  have hcn := K_cnt hT
  unfold f_X4_workOfAll
  rw [jq1]
  refine mr_2 (fun i => nI (wkS t s g i)) nI (cqs s 8) ?_ ?_ (FU_lt (by omega)) rfl rfl
  · intro i hi rec
    have h1 := hg i hi
    have hmb := mM_b s hs i (by omega) hi
    have hk6 := K_bar hT hmb.1
    unfold B_X4_workOfAll_4
    rw [hC.2.1, if_neg (nI_ge hi (by omega)), ckiT (by omega) (by decide), ixN (show i < 2 ^ 31 by omega), (hC.2.2.1 i hi).1, ckiT hmb.1 (by decide), ixN (by omega), U_lie hC.1.1 hmb.1, bsE, ckiT (by omega) (by decide), h1.1, ckiT (by omega) (by decide), ckiT (by omega) (by decide), wkC hC.1.1 hT hmb.1 hk6.1 (by omega), b1E, nI_add, nI_1, show nI (wkS t s g i) + (0 : Int32) = nI (wkS t s g i) from nI_add _ 0]
    show _ = rec (nI (wkS t s g i + (if t 6 (mM s i) = g i then 0 else wk t (mM s i) (t 6 (mM s i)) (g i)))) _
    by_cases h : t 6 (mM s i) = g i
    · rw [if_pos (by rw [h]), if_pos h]; rfl
    · rw [if_neg (fun h9 => h ((nI_eq (by omega) (by omega)).mp h9)), if_neg h]
  · intro rec
    unfold B_X4_workOfAll_4
    rw [hC.2.1, if_pos (Int32.le_refl _)]
theorem gd_lt (hT : TK t) {n way i : Nat} : gd (t 2 2) n way i < t 2 2 := Nat.mod_lt _ (by have := K_cnt hT; omega)
theorem cpw (hT : TK t) (h4 : cqs s 8 ≤ 4) {i : Nat} (hi : i ≤ cqs s 8) : t 2 2 ^ i ≤ 1296 := by
  have hc := K_cnt hT
  exact Nat.le_trans (Nat.pow_le_pow_left hc.2 i) (Nat.pow_le_pow_right (n := 6) (j := 4) (by decide) (by omega))
/-- the way's plan -/
def wy (t : Nat → Nat → Nat) (s : Nat) (way : Nat) : Nat → Nat := gd (t 2 2) (cqs s 8) way
def BSp (t : Nat → Nat → Nat) (s d : Nat) : Nat → Option (Nat × Nat) := BS (fun way => cbF t s d (wy t s way)) (fun way => wkS t s (wy t s way) (cqs s 8))
theorem seC (hT : TK t) (hs : s < 256) (h4 : cqs s 8 ≤ 4) (hC : CH z t s d) : ∃ q, f_X4_search z = some (lI6 (BSp t s d (t 2 2 ^ cqs s 8)), q) ∧ (∀ c, c ≠ 28 → c ≠ 29 → q.1 c = z.1 c) ∧ ∀ l way, BSp t s d (t 2 2 ^ cqs s 8) = some (l, way) → ∀ k, k < cqs s 8 → q.1 29 k = nI (wy t s way k) := by
  have hcn := K_cnt hT
  have hmx := cpw hT h4 (Nat.le_refl _)
  unfold f_X4_search
  rw [jq1]
  have ws : ∀ K : Int32 → Option (Int32 × St), lq_2 (B_X4_search_7 z K) FU 1 0 = K (nI (t 2 2 ^ cqs s 8)) := by
    intro K
    refine mr_2 (fun i => nI (t 2 2 ^ i)) nI (cqs s 8) ?_ ?_ (FU_lt (by omega)) rfl rfl
    · intro i hi rec
      unfold B_X4_search_7
      rw [hC.2.1, if_neg (nI_ge hi (by omega)), U_cnt hC.1.1, pk_mul, nI_1, Nat.pow_succ]
    · intro rec
      unfold B_X4_search_7
      rw [hC.2.1, if_pos (Int32.le_refl _)]
  rw [ws, jq2]
  refine mw_3 (P := fun i (q : St) (x y : Int32) => y = nI i ∧ x = lI6 (BSp t s d i) ∧ (∀ c, c ≠ 28 → c ≠ 29 → q.1 c = z.1 c) ∧ ∀ l way, BSp t s d i = some (l, way) → ∀ k, k < cqs s 8 → q.1 29 k = nI (wy t s way k)) (Q := fun o => ∃ q : St, o = some (lI6 (BSp t s d (t 2 2 ^ cqs s 8)), q) ∧ (∀ c, c ≠ 28 → c ≠ 29 → q.1 c = z.1 c) ∧ ∀ l way, BSp t s d (t 2 2 ^ cqs s 8) = some (l, way) → ∀ k, k < cqs s 8 → q.1 29 k = nI (wy t s way k)) (t 2 2 ^ cqs s 8) ?_ ?_ (FU_lt (by omega)) ⟨rfl, rfl, fun _ _ _ => rfl, fun l way e => by cases e⟩
  · rintro i q x y hi ⟨rfl, rfl, h1, h2⟩
    have hCq := CH_tr hC h1
    obtain ⟨q2, e1, e2, e3⟩ := spC hT hCq h4 (way := i) (by omega)
    have hCq2 := CH_tr (q := q2) hCq (fun c c1 _ => e2 c c1)
    have hg : ∀ k, k < cqs s 8 → q2.1 28 k = nI (wy t s i k) ∧ wy t s i k < t 2 2 := fun k hk => ⟨e3 k hk, gd_lt hT⟩
    have hwl := wkS_le (n := cqs s 8) hT hs h4 (fun k hk => (hg k hk).2) (Nat.le_refl _)
    have hbl : ∀ l way, BSp t s d i = some (l, way) → l ≤ 324 := fun l way e => (BS_le (fun j => wkS_le (n := cqs s 8) hT hs h4 (fun k hk => gd_lt hT) (Nat.le_refl _)) e).1
    have f12 : ∀ c, c ≠ 28 → c ≠ 29 → q2.1 c = z.1 c := fun c c1 c2 => by rw [e2 c c1]; exact h1 c c1 c2
    have hst : BSp t s d (i + 1) = if cbF t s d (wy t s i) then bsU (BSp t s d i) (wkS t s (wy t s i) (cqs s 8)) i else BSp t s d i := rfl
    have pre : ∀ rec, B_X4_search_36 (nI (t 2 2 ^ cqs s 8)) (fun (u9 : St) (x10 : Int32) => some (x10, u9)) rec q (lI6 (BSp t s d i)) (nI i) = b1 (some (bI (cbF t s d (wy t s i)))) (fun (x14 : Int32) => jq_1 (fun (x16 : Int32) => if x16 = ((-6)) then rec q2 (lI6 (BSp t s d i)) (nI (i + 1)) else if lI6 (BSp t s d i) = ((-6)) then bs (sA q2 29 (va_cpy (q2.1 28) (q2.1 29) 0 0 (Int32.toNatClampNeg 4))) (fun u19 : St => rec u19 x16 (nI (i + 1))) else if lI6 (BSp t s d i) ≤ x16 then rec q2 (lI6 (BSp t s d i)) (nI (i + 1)) else bs (sA q2 29 (va_cpy (q2.1 28) (q2.1 29) 0 0 (Int32.toNatClampNeg 4))) (fun u21 : St => rec u21 x16 (nI (i + 1)))) (fun (k15 : Int32 → Option (Int32 × St)) => if x14 = 0 then k15 ((-6)) else k15 (nI (wkS t s (wy t s i) (cqs s 8))))) := by
      intro rec
      unfold B_X4_search_36
      rw [if_neg (nI_ge hi (by omega)), e1, b1E, cbE hT hs h4 hCq2 hg, waE hT hs h4 hCq2 hg, nI_1]; rfl
    have hcp : ∀ k, k < cqs s 8 → (sA q2 29 (va_cpy (q2.1 28) (q2.1 29) 0 0 (Int32.toNatClampNeg 4))).1 29 k = nI (wy t s i k) := fun k hk => by
      rw [sA_s, show Int32.toNatClampNeg 4 = 4 from rfl, cpy0 (by omega)]; exact (hg k hk).1
    have hfr : ∀ c, c ≠ 28 → c ≠ 29 → (sA q2 29 (va_cpy (q2.1 28) (q2.1 29) 0 0 (Int32.toNatClampNeg 4))).1 c = z.1 c := fun c c1 c2 => by rw [sA_o c2]; exact f12 c c1 c2
    have hk29 : ∀ l way, BSp t s d i = some (l, way) → ∀ k, k < cqs s 8 → q2.1 29 k = nI (wy t s way k) := fun l way e k hk => by rw [e2 29 (by omega)]; exact h2 l way e k hk
    have hw6 : ¬ nI (wkS t s (wy t s i) (cqs s 8)) = (-6 : Int32) := fun h9 => by have := nn6 (q := wkS t s (wy t s i) (cqs s 8)) (by omega); exact this.mp h9
    cases hF : cbF t s d (wy t s i) with
    | false =>
      rw [hF] at hst pre
      rw [if_neg (show ¬ false = true by decide)] at hst
      refine Or.inl ⟨q2, _, _, fun rec => ?_, ⟨rfl, rfl, f12, by rw [hst]; exact hk29⟩⟩
      rw [pre, b1E, jq1, if_pos (show bI false = 0 from rfl), hst]
      exact if_pos rfl
    | true =>
      rw [hF] at hst pre
      rw [if_pos rfl] at hst
      cases hb : BSp t s d i with
      | none =>
        rw [hb] at hst pre
        refine Or.inl ⟨sA q2 29 (va_cpy (q2.1 28) (q2.1 29) 0 0 (Int32.toNatClampNeg 4)), _, _, fun rec => ?_, ⟨rfl, rfl, hfr, fun l way e k hk => ?_⟩⟩
        · rw [pre, b1E, jq1, if_neg (show ¬ bI true = 0 by decide), hst]
          refine (if_neg hw6).trans ?_
          rw [if_pos (show lI6 none = -6 from rfl)]; rfl
        · rw [hst] at e; cases e; exact hcp k hk
      | some x =>
        obtain ⟨l0, w0⟩ := x
        have hl0 := hbl l0 w0 hb
        rw [hb] at hst pre
        have hl6 : ¬ lI6 (some (l0, w0)) = (-6 : Int32) := fun h9 => by have := nn6 (q := l0) (by omega); exact this.mp h9
        by_cases hle : l0 ≤ wkS t s (wy t s i) (cqs s 8)
        · have hst2 : BSp t s d (i + 1) = some (l0, w0) := by rw [hst]; exact if_pos hle
          refine Or.inl ⟨q2, _, _, fun rec => ?_, ⟨rfl, rfl, f12, by rw [hst2, ← hb]; exact hk29⟩⟩
          rw [pre, b1E, jq1, if_neg (show ¬ bI true = 0 by decide), hst2]
          refine (if_neg hw6).trans ?_
          rw [if_neg hl6, if_pos (show lI6 (some (l0, w0)) ≤ nI (wkS t s (wy t s i) (cqs s 8)) from nI_le hle (by omega))]
        · have hst2 : BSp t s d (i + 1) = some (wkS t s (wy t s i) (cqs s 8), i) := by rw [hst]; exact if_neg hle
          refine Or.inl ⟨sA q2 29 (va_cpy (q2.1 28) (q2.1 29) 0 0 (Int32.toNatClampNeg 4)), _, _, fun rec => ?_, ⟨rfl, rfl, hfr, fun l way e k hk => ?_⟩⟩
          · rw [pre, b1E, jq1, if_neg (show ¬ bI true = 0 by decide), hst2]
            refine (if_neg hw6).trans ?_
            rw [if_neg hl6, if_neg (show ¬ lI6 (some (l0, w0)) ≤ nI (wkS t s (wy t s i) (cqs s 8)) from nI_ge (by omega) (by omega))]; rfl
          · rw [hst2] at e; cases e; exact hcp k hk
  · rintro q x y ⟨rfl, rfl, h1, h2⟩ rec
    unfold B_X4_search_36
    rw [if_pos (Int32.le_refl _)]
    exact ⟨q, rfl, h1, h2⟩
theorem coC (hs : s < 256) (h4 : cqs s 8 ≤ 4) (hC : CH q t s d) {b : Nat} (hb : b < 8) (hbit : s / 2 ^ b % 2 = 1) {f : Nat → Nat} (hf : ∀ k, k < cqs s 8 → q.1 29 k = nI (f k)) : f_X4_cellarOf q (nI b) = some (nI (f (cqs s b))) := by
  have hm := mM_a s hs b hb hbit
  unfold f_X4_cellarOf
  rw [jq0]
  refine mw_1 (P := fun i (y : Int32) => y = nI i ∧ i ≤ cqs s b) (Q := fun o => o = some (nI (f (cqs s b)))) (cqs s 8) ?_ ?_ (FU_lt (by omega)) ⟨rfl, by omega⟩
  · rintro i y hi ⟨rfl, hle⟩
    have hmi := mM_b s hs i (by omega) hi
    have pre : ∀ rec, B_X4_cellarOf_2 (nI b) q (some (-1)) rec (nI i) = if nI (mM s i) = nI b then some (nI (f i)) else rec (nI (i + 1)) := by
      intro rec
      unfold B_X4_cellarOf_2
      rw [hC.2.1, if_neg (nI_ge hi (by omega)), ckiT (by omega) (by decide), ckiT (by omega) (by decide), ixN (by omega), (hC.2.2.1 i hi).1, hf i hi, nI_1]
    by_cases h9 : i = cqs s b
    · refine Or.inr fun rec => ?_
      rw [pre, h9, hm.1, if_pos rfl]
    · refine Or.inl ⟨_, fun rec => ?_, ⟨rfl, by omega⟩⟩
      rw [pre, if_neg (fun h8 => ?_)]
      have := (nI_eq (by omega) (by omega)).mp h8
      rw [this] at hmi
      exact h9 hmi.2.2.symm
  · rintro y ⟨rfl, hle⟩ rec
    omega
end PS
