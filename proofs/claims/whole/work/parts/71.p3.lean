/-! ===== plans: the reference's search ===== -/
theorem cq_pos {p : Nat → Bool} {n : Nat} (h : cq p n ≠ 0) : ∃ i, i < n ∧ p i = true := by
  induction n with
  | zero => exact absurd rfl h
  | succ n ih =>
    by_cases hp : p n = true
    · exact ⟨n, by omega, hp⟩
    · have : cq p (n + 1) = cq p n := by show cq p n + (if p n = true then 1 else 0) = _; rw [if_neg hp]; rfl
      rw [this] at h
      obtain ⟨i, hi, h2⟩ := ih h
      exact ⟨i, by omega, h2⟩
/-- where the barrels are by a way -/
def atw (t : Nat → Nat → Nat) (s : Nat) (g : Nat → Nat) (b : Nat) : Nat := if s / 2 ^ b % 2 = 1 then g (cqs s b) else t 6 b
section PR
variable {m w q : St} {t : Nat → Nat → Nat} {s d : Nat} {g : Nat → Nat}
theorem hdl_at (hsub : ∀ b, s / 2 ^ b % 2 = 1 → bt t b) {c : Nat} : hdl t (atw t s g) c = stN t s c + cbC t (cqs s 8) g c := by
  unfold hdl stN cbC
  rw [cq_split (q := fun b => decide (s / 2 ^ b % 2 = 1)), ← cq_mem (s := s) (q := fun j => decide (g j = c)) (m := 8)]
  refine congr (congrArg _ (cq_congr fun b hb => ?_)) (cq_congr fun b hb => ?_)
  · unfold lin atw
    by_cases h : s / 2 ^ b % 2 = 1
    · simp [h]
    · simp [h]
  · unfold atw
    by_cases h : s / 2 ^ b % 2 = 1
    · have h2 : t 5 4 / 2 ^ b % 2 = 1 := hsub b h
      simp [h, h2]
    · simp [h]
def rvP (t : Nat → Nat → Nat) (s d : Nat) (g : Nat → Nat) : Nat → Bool := fun i => decide (t 16 0 ≤ ac t (t 2 3) (lev t) (g i) (t 8 (mM s i)) d)
def rmP (t : Nat → Nat → Nat) (s : Nat) (g : Nat → Nat) : Nat → Bool := fun c => decide (t 4 c < hdl t (atw t s g) c)
theorem fs_iff {p : Nat → Bool} {n : Nat} : fs p n = n ↔ ∀ i, i < n → p i = false := ⟨fun h i hi => fs_all (n := n) i (by omega), fs_none⟩
theorem cbF_iff (hT : TK t) (hsub : ∀ b, s / 2 ^ b % 2 = 1 → bt t b) (hg : ∀ i, i < cqs s 8 → g i < t 2 2) : cbF t s d g = true ↔ fs (rvP t s d g) (cqs s 8) = cqs s 8 ∧ fs (rmP t s g) (t 2 2) = t 2 2 := by
  have hcn := K_cnt hT
  unfold cbF
  rw [decide_eq_true_iff, fs_iff, fs_iff, fs_iff]
  constructor
  · intro h
    have h' : ∀ i, i < cqs s 8 → ¬ t 16 0 ≤ ac t (t 2 3) (lev t) (g i) (t 8 (mM s i)) d ∧ cbC t (cqs s 8) g (g i) ≤ t 4 (g i) - stN t s (g i) := by
      intro i hi
      have := h i hi
      simp only [cbP, Bool.not_eq_false', Bool.and_eq_true, decide_eq_true_eq] at this
      exact this
    refine ⟨fun i hi => decide_eq_false (h' i hi).1, fun c hc => decide_eq_false ?_⟩
    have hst := st_le (s := s) hT (c := c) (by omega)
    rw [hdl_at hsub]
    by_cases h0 : cbC t (cqs s 8) g c = 0
    · omega
    · obtain ⟨i, hi, h2⟩ := cq_pos h0
      have h3 := of_decide_eq_true h2
      have h4 := (h' i hi).2
      rw [h3] at h4
      omega
  · rintro ⟨h1, h2⟩ i hi
    have h3 := of_decide_eq_false (h1 i hi)
    have hgi := hg i hi
    have h4 := of_decide_eq_false (h2 (g i) hgi)
    rw [hdl_at hsub] at h4
    simp only [cbP, Bool.not_eq_false', Bool.and_eq_true, decide_eq_true_eq]
    exact ⟨h3, by omega⟩
theorem rmM (hM : MT w t) (hT : TK t) (hp : ∀ b, b < 8 → w.1 13 b = nI (atw t s g b) ∧ atw t s g b < 6) : f_X12_isRoomy w = some (bI (decide (fs (rmP t s g) (t 2 2) = t 2 2))) := by
  have hcn := K_cnt hT
  unfold f_X12_isRoomy
  rw [jq1]
  refine mw_2 (P := fun i (x y : Int32) => y = nI i ∧ x = bI (decide (fs (rmP t s g) i = i))) (Q := fun o => o = some (bI (decide (fs (rmP t s g) (t 2 2) = t 2 2)))) (t 2 2) ?_ ?_ (FU_lt (by omega)) ⟨rfl, rfl⟩
  · rintro i x y hi ⟨rfl, rfl⟩
    have hle := fs_le (p := rmP t s g) (n := i)
    have hro := K_room hT (k := i) (by omega)
    have hhd := hdl_le (t := t) (p := atw t s g) (c := i)
    refine Or.inl ⟨_, _, fun rec => ?_, ⟨rfl, rfl⟩⟩
    unfold B_X12_isRoomy_4
    rw [M_cnt hM, if_neg (nI_ge hi (by omega)), tiM hM hT (p := atw t s g) (by omega) hp, b1E, ckiT (show i < 6 by omega) (by decide), ixN (by omega), M_room hM (by omega), nI_1]
    by_cases ha : fs (rmP t s g) i = i
    · have es : fs (rmP t s g) (i + 1) = if rmP t s g i then i else i + 1 := by
        show (if fs (rmP t s g) i < i then _ else _) = _
        rw [if_neg (by omega)]
      rw [decide_eq_true ha, if_neg (show ¬ bI true = 0 by decide)]
      by_cases h : t 4 i < hdl t (atw t s g) i
      · have : rmP t s g i = true := decide_eq_true h
        rw [if_pos (nI_lt h (by omega)), es, this, if_pos rfl, decide_eq_false (by omega)]; rfl
      · have : rmP t s g i = false := decide_eq_false h
        rw [if_neg (nI_nlt (by omega) (by omega)), es, this, if_neg (by decide), decide_eq_true rfl]; rfl
    · have es : fs (rmP t s g) (i + 1) = fs (rmP t s g) i := by
        show (if fs (rmP t s g) i < i then _ else _) = _
        rw [if_pos (by omega)]
      rw [decide_eq_false ha, if_pos (show bI false = 0 by decide), es, decide_eq_false (by omega)]; rfl
  · rintro x y ⟨rfl, rfl⟩ rec
    unfold B_X12_isRoomy_4
    rw [M_cnt hM, if_pos (Int32.le_refl _)]
    show ck _ _ = _
    rw [ckT]
    cases hx : decide (fs (rmP t s g) (t 2 2) = t 2 2)
    · exact Or.inl rfl
    · exact Or.inr rfl
/-- what layMembers leaves, but for the places -/
def LY (m w : St) (s : Nat) : Prop := Km m w ∧ w.1 0 32 = nI (cqs s 8) ∧ ∀ i, i < cqs s 8 → w.1 15 i = nI (mM s i)
theorem wpM (hM : MT w t) (hT : TK t) (hL : LM w (lev t)) (hs : s < 256) (hsub : ∀ b, s / 2 ^ b % 2 = 1 → bt t b) (h4 : cqs s 8 ≤ 4) (hY : LY m w s) (hg : ∀ i, i < cqs s 8 → g i < t 2 2) (hp : ∀ b, b < 8 → w.1 13 b = nI (atw t s g b) ∧ atw t s g b < 6) (hd : d < 2000) : f_X12_workOfPlan w (nI d) = some (if cbF t s d g then nI (wkS t s g (cqs s 8)) else -6) := by
  have hcn := K_cnt hT
  have h0 := (K_set hT).2.2 0 (by omega)
  have hiff := cbF_iff (d := d) hT hsub hg
  unfold f_X12_workOfPlan
  rw [jq1]
  refine mw_2 (P := fun i (x y : Int32) => y = nI i ∧ x = nI (wkS t s g i) ∧ ∀ j, j < i → rvP t s d g j = false) (Q := fun o => o = some (if cbF t s d g then nI (wkS t s g (cqs s 8)) else -6)) (cqs s 8) ?_ ?_ (FU_lt (by omega)) ⟨rfl, rfl, fun j hj => absurd hj (by omega)⟩
  · rintro i x y hi ⟨rfl, rfl, hn⟩
    have hmb := mM_b s hs i (by omega) hi
    have hk6 := K_bar hT hmb.1
    have hgi := hg i hi
    have h13 : w.1 13 (mM s i) = nI (g i) := by
      rw [(hp (mM s i) hmb.1).1]; unfold atw; rw [if_pos hmb.2.1, hmb.2.2]
    have ha := ac_le (t := t) (wl := t 2 3) (L := lev t) (c := g i) (k := t 8 (mM s i)) (d := d)
    have pre : ∀ rec, B_X12_workOfPlan_4 (nI d) w (fun (x4 : Int32) => b1 (f_X12_isRoomy w) (fun (x5 : Int32) => if x5 = 0 then some ((-6)) else some x4)) rec (nI (wkS t s g i)) (nI i) = if nI (ac t (t 2 3) (lev t) (g i) (t 8 (mM s i)) d) < nI (t 16 0) then (if nI (g i) = nI (t 6 (mM s i)) then rec (nI (wkS t s g i)) (nI (i + 1)) else rec (nI (wkS t s g i + wk t (mM s i) (t 6 (mM s i)) (g i))) (nI (i + 1))) else some ((-6)) := by
      intro rec
      unfold B_X12_workOfPlan_4
      rw [hY.2.1, if_neg (nI_ge hi (by omega)), ckiT (by omega) (by decide), ixN (show i < 2 ^ 31 by omega), hY.2.2 i hi, ckiT hmb.1 (by decide), ixN (by omega), h13, aiM hM hT hL hmb.1 (by omega) (by omega), b1E, M_sour hM, ckiT hmb.1 (by decide), ckiT hmb.1 (by decide), M_lie hM hmb.1, ckiT hmb.1 (by decide), ckiT hmb.1 (by decide), wkM hM hT hmb.1 hk6.1 (by omega), b1E, nI_add, nI_1, show nI (wkS t s g i) + (0 : Int32) = nI (wkS t s g i) from nI_add _ 0]
    by_cases hv : t 16 0 ≤ ac t (t 2 3) (lev t) (g i) (t 8 (mM s i)) d
    · refine Or.inr fun rec => ?_
      rw [pre, if_neg (nI_nlt hv (by omega)), if_neg]
      intro h9
      have := (hiff.mp h9).1
      rw [fs_iff] at this
      have := this i hi
      exact absurd hv (of_decide_eq_false this)
    · refine Or.inl ⟨_, _, fun rec => ?_, ⟨rfl, rfl, fun j hj => ?_⟩⟩
      · rw [pre, if_pos (nI_lt (by omega) (by omega))]
        show _ = rec (nI (wkS t s g i + (if t 6 (mM s i) = g i then 0 else wk t (mM s i) (t 6 (mM s i)) (g i)))) _
        by_cases he : t 6 (mM s i) = g i
        · rw [if_pos (by rw [he]), if_pos he]; rfl
        · rw [if_neg (fun h9 => he ((nI_eq (by omega) (by omega)).mp h9).symm), if_neg he]
      · by_cases h9 : j = i
        · subst h9; exact decide_eq_false hv
        · exact hn j (by omega)
  · rintro x y ⟨rfl, rfl, hn⟩ rec
    unfold B_X12_workOfPlan_4
    rw [hY.2.1, if_pos (Int32.le_refl _)]
    show b1 (f_X12_isRoomy w) _ = _
    rw [rmM hM hT hp, b1E]
    cases hx : decide (fs (rmP t s g) (t 2 2) = t 2 2)
    · rw [if_pos (show bI false = 0 by decide), if_neg]
      intro h9
      exact absurd (hiff.mp h9).2 (of_decide_eq_false hx)
    · rw [if_neg (show ¬ bI true = 0 by decide), if_pos]
      exact hiff.mpr ⟨fs_none hn, of_decide_eq_true hx⟩
theorem lyM (hM : MT m t) (hT : TK t) (hs : s < 256) : ∃ w, f_X12_layMembers m (nI s) = some w ∧ LY m w s ∧ ∀ b, b < 8 → w.1 13 b = nI (t 6 b) := by
  unfold f_X12_layMembers
  rw [bsE, jq1]
  refine mw_2 (P := fun b (w : St) (y : Int32) => y = nI b ∧ Km m w ∧ w.1 0 32 = nI (cqs s b) ∧ (∀ i, i < cqs s b → w.1 15 i = nI (mM s i)) ∧ ∀ j, j < b → w.1 13 j = nI (t 6 j)) (Q := fun o => ∃ w, o = some w ∧ LY m w s ∧ ∀ b, b < 8 → w.1 13 b = nI (t 6 b)) 8 ?_ ?_ (FU_lt (by decide)) ⟨rfl, Km_s0 Km_rf (by omega), by rw [sI_s, pk_us]; rfl, fun i hi => absurd hi (by show ¬ i < 0; omega), fun j hj => absurd hj (by omega)⟩
  · rintro b w y hb ⟨rfl, hk, h2, h3, h5⟩
    have hMw := MT_km hM hk
    have hle := cqs_le (s := s) (n := b)
    have hss := cqs_s (s := s) (n := b)
    by_cases hbit : s / 2 ^ b % 2 = 1
    · have hmm := (mM_a s hs b hb hbit).1
      rw [if_pos hbit] at hss
      refine Or.inl ⟨sI (sI (sI w 15 (cqs s b) (nI b)) 0 32 (nI (cqs s b + 1))) 13 b (nI (t 6 b)), _, fun rec => ?_, ⟨rfl, Km_sI (Km_s0 (Km_sI hk (by omega)) (by omega)) (by omega), ?_, fun i hi => ?_, fun j hj => ?_⟩⟩
      · unfold B_X12_layMembers_7
        rw [if_neg (nle_l (l := 8) 8 rfl hb (by decide)), bitN (by omega) (by omega), hbit, if_pos (show nI 1 = 1 from rfl), h2, ckiT (by omega) (by decide), ixN (by omega), bsE]
        rw [show (sI w 15 (cqs s b) (nI b)).1 0 32 = nI (cqs s b) by rw [sI_o (by omega)]; exact h2, nI_1, bsE, ckiT hb (by decide), ckiT hb (by decide), ixN (by omega), sI_o (by omega), sI_o (by omega), M_lie hMw hb, bsE, nI_1]
      · rw [sI_o (by omega), sI_s, pk_us, hss]
      · rw [sI_o (by omega), sI_o (by omega), sI_s]
        by_cases h9 : i = cqs s b
        · rw [h9, pk_us, hmm]
        · rw [pk_un h9]; exact h3 i (by omega)
      · rw [sI_s]
        by_cases h9 : j = b
        · subst h9; rw [pk_us]
        · rw [pk_un h9, sI_o (by omega), sI_o (by omega)]; exact h5 j (by omega)
    · rw [if_neg hbit] at hss
      refine Or.inl ⟨sI w 13 b (nI (t 6 b)), _, fun rec => ?_, ⟨rfl, Km_sI hk (by omega), ?_, fun i hi => ?_, fun j hj => ?_⟩⟩
      · unfold B_X12_layMembers_7
        rw [if_neg (nle_l (l := 8) 8 rfl hb (by decide)), bitN (by omega) (by omega), show s / 2 ^ b % 2 = 0 by omega, if_neg (show ¬ nI 0 = 1 by decide), ckiT hb (by decide), ckiT hb (by decide), ixN (by omega), M_lie hMw hb, bsE, nI_1]
      · rw [sI_o (by omega), hss]; exact h2
      · rw [sI_o (by omega)]; exact h3 i (by omega)
      · rw [sI_s]
        by_cases h9 : j = b
        · subst h9; rw [pk_us]
        · rw [pk_un h9]; exact h5 j (by omega)
  · rintro w y ⟨rfl, hk, h2, h3, h5⟩ rec
    unfold B_X12_layMembers_7
    rw [if_pos (show (8 : Int32) ≤ nI 8 by decide)]
    exact ⟨w, rfl, ⟨hk, h2, h3⟩, h5⟩
theorem LY_13 (hY : LY m w s) (e : ∀ c, c ≠ 13 → q.1 c = w.1 c) (e2 : q.2 = w.2) : LY m q s :=
  ⟨⟨fun c hc => by rw [e c (by omega)]; exact hY.1.1 c hc, fun k hk => by rw [e 0 (by omega)]; exact hY.1.2.1 k hk, by rw [e2]; exact hY.1.2.2⟩, by rw [e 0 (by omega)]; exact hY.2.1, fun i hi => by rw [e 15 (by omega)]; exact hY.2.2 i hi⟩
theorem spM (hM : MT w t) (hT : TK t) (hs : s < 256) (h4 : cqs s 8 ≤ 4) (hY : LY m w s) {p : Nat → Nat} (hp : ∀ b, b < 8 → w.1 13 b = nI (p b)) (hpo : ∀ b, b < 8 → ¬ s / 2 ^ b % 2 = 1 → p b = t 6 b) {way : Nat} (hw : way < 2 ^ 20) : ∃ q, (∀ K : St → Option (Int32 × St), lq_3 (B_X12_plan_127 K) FU w (nI way) (nI (cqs s 8) - 1) = K q) ∧ (∀ c, c ≠ 13 → q.1 c = w.1 c) ∧ q.2 = w.2 ∧ ∀ b, b < 8 → q.1 13 b = nI (atw t s (wy t s way) b) := by
  have hcn := K_cnt hT
  suffices hh : ∃ q x y, (∀ K, lq_3 (B_X12_plan_127 K) FU w (nI way) (nI (cqs s 8) - 1) = (fun (K : St → Option (Int32 × St)) (q : St) (_ _ : Int32) => K q) K q x y) ∧ (y = nI (cqs s 8 - cqs s 8) - 1 ∧ x = nI (way / t 2 2 ^ cqs s 8) ∧ (∀ c, c ≠ 13 → q.1 c = w.1 c) ∧ q.2 = w.2 ∧ ∀ b, b < 8 → q.1 13 b = nI (if s / 2 ^ b % 2 = 1 ∧ cqs s 8 - cqs s 8 ≤ cqs s b then wy t s way (cqs s b) else p b)) by
    obtain ⟨q, x, y, e, -, -, h1, h2, h3⟩ := hh
    refine ⟨q, e, h1, h2, fun b hb => ?_⟩
    rw [h3 b hb]; unfold atw
    by_cases h : s / 2 ^ b % 2 = 1
    · rw [if_pos h, if_pos ⟨h, by omega⟩]
    · rw [if_neg h, if_neg (fun h9 => h h9.1), hpo b hb h]
  refine mz_3 (P := fun j (q : St) (x y : Int32) => y = nI (cqs s 8 - j) - 1 ∧ x = nI (way / t 2 2 ^ j) ∧ (∀ c, c ≠ 13 → q.1 c = w.1 c) ∧ q.2 = w.2 ∧ ∀ b, b < 8 → q.1 13 b = nI (if s / 2 ^ b % 2 = 1 ∧ cqs s 8 - j ≤ cqs s b then wy t s way (cqs s b) else p b)) (G := fun (K : St → Option (Int32 × St)) (q : St) (_ _ : Int32) => K q) (cqs s 8) ?_ ?_ (FU_lt (by omega)) ⟨rfl, by rw [Nat.pow_zero, Nat.div_one], fun _ _ => rfl, rfl, fun b hb => ?_⟩
  · rintro j q x y hj ⟨rfl, rfl, h1, h2, h3⟩
    have hmb := mM_b s hs (cqs s 8 - j - 1) (by omega) (by omega)
    have hdl : way / t 2 2 ^ j < 2 ^ 20 := Nat.lt_of_le_of_lt (Nat.div_le_self _ _) hw
    have e1 : nI (cqs s 8 - j) - 1 = nI (cqs s 8 - j - 1) := pk_sub (b := 1) (by omega)
    have h15 : q.1 15 (cqs s 8 - j - 1) = nI (mM s (cqs s 8 - j - 1)) := by rw [h1 15 (by omega)]; exact hY.2.2 _ (by omega)
    have h00 : q.1 0 0 = nI (t 2 2) := by rw [h1 0 (by omega)]; exact M_cnt hM
    refine ⟨sI q 13 (mM s (cqs s 8 - j - 1)) (nI (way / t 2 2 ^ j % t 2 2)), _, _, fun K rec => ?_, ⟨rfl, rfl, fun c hc => by rw [sI_o hc]; exact h1 c hc, h2, fun b hb => ?_⟩⟩
    · unfold B_X12_plan_127
      rw [e1, if_neg (show ¬ nI (cqs s 8 - j - 1) < 0 from nge (by omega)), ckiT (by omega) (by decide), ixN (show cqs s 8 - j - 1 < 2 ^ 31 by omega), h15, h00, ckT (show ¬ nI (t 2 2) = 0 from fun h9 => absurd ((nI_eq (b := 0) (by omega) (by decide)).mp h9) (by omega)), ckiT hmb.1 (by decide), pk_rem (by omega) (by omega) (by omega), ixN (by omega), bsE, sI_o (by omega), h00, ckT (show ¬ nI (t 2 2) = 0 from fun h9 => absurd ((nI_eq (b := 0) (by omega) (by decide)).mp h9) (by omega)), pk_div (by omega) (by omega) (by omega), dn1, Nat.div_div_eq_div_mul, ← Nat.pow_succ, show cqs s 8 - (j + 1) = cqs s 8 - j - 1 by omega]
    · rw [sI_s]
      by_cases h9 : b = mM s (cqs s 8 - j - 1)
      · rw [h9, pk_us, if_pos ⟨hmb.2.1, by rw [hmb.2.2]; omega⟩, hmb.2.2]
        unfold wy gd
        rw [show cqs s 8 - 1 - (cqs s 8 - j - 1) = j by omega]
      · rw [pk_un h9, h3 b hb]
        by_cases h : s / 2 ^ b % 2 = 1
        · have hma := mM_a s hs b hb h
          have hne : cqs s b ≠ cqs s 8 - j - 1 := fun h8 => h9 (by rw [← h8, hma.1])
          by_cases h7 : cqs s 8 - j ≤ cqs s b
          · rw [if_pos ⟨h, h7⟩, if_pos ⟨h, by omega⟩]
          · rw [if_neg (fun h6 => h7 h6.2), if_neg (fun h6 => by have := h6.2; omega)]
        · rw [if_neg (fun h6 => h h6.1), if_neg (fun h6 => h h6.1)]
  · rintro q x y ⟨rfl, rfl, h1, h2, h3⟩ K rec
    unfold B_X12_plan_127
    rw [Nat.sub_self, if_pos (show nI 0 - 1 < 0 by decide)]
  · by_cases h : s / 2 ^ b % 2 = 1
    · have hma := mM_a s hs b hb h
      rw [if_neg (fun h6 => by have := h6.2; omega)]; exact hp b hb
    · rw [if_neg (fun h6 => h h6.1)]; exact hp b hb
theorem cpM {p : Nat → Nat} (hp : ∀ b, b < 8 → w.1 13 b = nI (p b)) : ∃ q, (∀ K : St → Option (Int32 × St), lq_2 (B_X12_plan_192 K) FU w 0 = K q) ∧ (∀ c, c ≠ 16 → q.1 c = w.1 c) ∧ q.2 = w.2 ∧ ∀ b, b < 8 → q.1 16 b = nI (p b) := by
  suffices hh : ∃ q y, (∀ K, lq_2 (B_X12_plan_192 K) FU w 0 = (fun (K : St → Option (Int32 × St)) (q : St) (_ : Int32) => K q) K q y) ∧ (y = nI 8 ∧ (∀ c, c ≠ 16 → q.1 c = w.1 c) ∧ q.2 = w.2 ∧ ∀ b, b < 8 → q.1 16 b = nI (p b)) by
    obtain ⟨q, y, e, -, h⟩ := hh
    exact ⟨q, e, h⟩
  refine mz_2 (P := fun j (q : St) (y : Int32) => y = nI j ∧ (∀ c, c ≠ 16 → q.1 c = w.1 c) ∧ q.2 = w.2 ∧ ∀ b, b < j → q.1 16 b = nI (p b)) (G := fun (K : St → Option (Int32 × St)) (q : St) (_ : Int32) => K q) 8 ?_ ?_ (FU_lt (by decide)) ⟨rfl, fun _ _ => rfl, rfl, fun b hb => absurd hb (by omega)⟩
  · rintro j q y hj ⟨rfl, h1, h2, h3⟩
    refine ⟨sI q 16 j (nI (p j)), _, fun K rec => ?_, ⟨rfl, fun c hc => by rw [sI_o hc]; exact h1 c hc, h2, fun b hb => ?_⟩⟩
    · unfold B_X12_plan_192
      rw [if_neg (nle_l (l := 8) 8 rfl hj (by decide)), ckiT hj (by decide), ckiT hj (by decide), ixN (by omega), h1 13 (by omega), hp j hj, bsE, nI_1]
    · rw [sI_s]
      by_cases h9 : b = j
      · subst h9; rw [pk_us]
      · rw [pk_un h9]; exact h3 b (by omega)
  · rintro q y ⟨rfl, h⟩ K rec
    unfold B_X12_plan_192
    rw [if_pos (show (8 : Int32) ≤ nI 8 by decide)]
end PR
