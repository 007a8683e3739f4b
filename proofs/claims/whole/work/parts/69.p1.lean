/-! ===== plans: sets ===== -/
def cqs (s : Nat) : Nat → Nat := cq (fun b => decide (s / 2 ^ b % 2 = 1))
/-- the i-th of a set -/
def mM (s i : Nat) : Nat := fs (fun b => decide (s / 2 ^ b % 2 = 1) && decide (cqs s b = i)) 8
theorem pcc : ∀ s, s < 256 → pc s = nI (cqs s 8) := by decide +kernel
theorem mM_a : ∀ s, s < 256 → ∀ b, b < 8 → s / 2 ^ b % 2 = 1 → mM s (cqs s b) = b ∧ cqs s b < cqs s 8 := by decide +kernel
theorem mM_b : ∀ s, s < 256 → ∀ i, i < 8 → i < cqs s 8 → mM s i < 8 ∧ s / 2 ^ mM s i % 2 = 1 ∧ cqs s (mM s i) = i := by decide +kernel
theorem cqs_le {s n : Nat} : cqs s n ≤ n := cq_le
theorem cqs_s {s n : Nat} : cqs s (n + 1) = cqs s n + (if s / 2 ^ n % 2 = 1 then 1 else 0) := by
  show cq _ n + (if decide (s / 2 ^ n % 2 = 1) = true then 1 else 0) = _
  by_cases h : s / 2 ^ n % 2 = 1
  · rw [if_pos h, if_pos (decide_eq_true h)]; rfl
  · rw [if_neg h, if_neg (by simp [h])]; rfl
theorem cqs_mono {s n m : Nat} (h : n ≤ m) : cqs s n ≤ cqs s m := by
  induction m with
  | zero => have : n = 0 := by omega
            subst this; exact Nat.le_refl _
  | succ m ih =>
    by_cases h9 : n = m + 1
    · subst h9; exact Nat.le_refl _
    · have := ih (by omega); rw [cqs_s]; omega
theorem cq_mem {s : Nat} {q : Nat → Bool} {m : Nat} : cq (fun b => decide (s / 2 ^ b % 2 = 1) && q (cqs s b)) m = cq q (cqs s m) := by
  induction m with
  | zero => rfl
  | succ m ih =>
    show cq _ m + (if (decide (s / 2 ^ m % 2 = 1) && q (cqs s m)) = true then 1 else 0) = _
    rw [ih, cqs_s]
    by_cases h : s / 2 ^ m % 2 = 1
    · rw [if_pos h, decide_eq_true h, Bool.true_and]; rfl
    · rw [if_neg h, decide_eq_false h, Bool.false_and, if_neg (by decide)]; rfl
theorem cq_split {p q : Nat → Bool} {m : Nat} : cq p m = cq (fun b => p b && !q b) m + cq (fun b => p b && q b) m := by
  induction m with
  | zero => rfl
  | succ m ih =>
    show cq p m + _ = (cq _ m + (if (p m && !q m) = true then 1 else 0)) + (cq _ m + (if (p m && q m) = true then 1 else 0))
    rw [ih]
    cases p m <;> cases q m <;> simp <;> omega
/-- a set within the barrels -/
theorem sub_cs {T : Nat} (hT : T < 256) {p : Int32} (h : p &&& (nI T ^^^ (-1 : Int32)) = 0) : ∃ s, s < 256 ∧ p = nI s ∧ ∀ b, s / 2 ^ b % 2 = 1 → T / 2 ^ b % 2 = 1 := by
  have h1 : p.toBitVec &&& ((nI T).toBitVec ^^^ (-1 : Int32).toBitVec) = 0 := congrArg Int32.toBitVec h
  have hb : (nI T).toBitVec = BitVec.ofNat 32 T := rfl
  have hx : p.toBitVec &&& (nI T).toBitVec = p.toBitVec := by
    apply BitVec.eq_of_getLsbD_eq
    intro i hi
    have h2 := congrArg (fun v => BitVec.getLsbD v i) h1
    have h3 : (-1 : Int32).toBitVec.getLsbD i = true := by
      rw [show (-1 : Int32).toBitVec = BitVec.allOnes 32 from rfl, BitVec.getLsbD_allOnes]
      exact decide_eq_true hi
    simp only [BitVec.getLsbD_and, BitVec.getLsbD_xor, h3] at h2
    rw [BitVec.getLsbD_and]
    cases hp : p.toBitVec.getLsbD i
    · rfl
    · rw [hp] at h2
      cases ht : (nI T).toBitVec.getLsbD i
      · rw [ht] at h2; simp at h2
      · rfl
  have hn := congrArg BitVec.toNat hx
  rw [BitVec.toNat_and, hb, BitVec.toNat_ofNat, Nat.mod_eq_of_lt (by omega)] at hn
  have hle : p.toBitVec.toNat ≤ T := by rw [← hn]; exact Nat.and_le_right
  refine ⟨p.toBitVec.toNat, by omega, ?_, fun b hbit => ?_⟩
  · apply Int32.toBitVec_inj.mp
    show _ = BitVec.ofNat 32 _
    rw [BitVec.ofNat_toNat, BitVec.setWidth_eq]
  · have h4 : (p.toBitVec.toNat).testBit b = true := by rw [Nat.testBit_eq_decide_div_mod_eq]; exact decide_eq_true hbit
    rw [← hn, Nat.testBit_and, Bool.and_eq_true] at h4
    have h5 := h4.2
    rw [Nat.testBit_eq_decide_div_mod_eq] at h5
    exact of_decide_eq_true h5
/-- a way's digit -/
def gd (C n way i : Nat) : Nat := way / C ^ (n - 1 - i) % C
section PL
variable {u m v w z : St} {t : Nat → Nat → Nat} {s d : Nat}
def safN (t : Nat → Nat → Nat) (d b : Nat) : Nat := orS (fun c => if t 16 0 ≤ ac t (t 2 3) (lev t) c (t 8 b) d then 0 else 2 ^ c) (t 2 2)
theorem saf_bit {b c : Nat} (hc : c < t 2 2) : (safN t d b / 2 ^ c % 2 = 1) ↔ ¬ t 16 0 ≤ ac t (t 2 3) (lev t) c (t 8 b) d := by
  have e : (safN t d b).testBit c = decide (safN t d b / 2 ^ c % 2 = 1) := Nat.testBit_eq_decide_div_mod_eq
  have h2 : (safN t d b).testBit c = true ↔ ¬ t 16 0 ≤ ac t (t 2 3) (lev t) c (t 8 b) d := by
    unfold safN
    rw [orS_bit]
    constructor
    · rintro ⟨k, hk, h⟩ h9
      by_cases h8 : t 16 0 ≤ ac t (t 2 3) (lev t) k (t 8 b) d
      · rw [if_pos h8, Nat.zero_testBit] at h; cases h
      · rw [if_neg h8, Nat.testBit_two_pow] at h
        have := of_decide_eq_true h
        subst this; exact h8 h9
    · intro h9
      exact ⟨c, hc, by rw [if_neg h9]; exact Nat.testBit_two_pow_self⟩
  rw [← h2, e, decide_eq_true_iff]
theorem saf_lt (hT : TK t) {b : Nat} : safN t d b < 64 := by
  have hc := K_cnt hT
  have : safN t d b < 2 ^ 6 := orS_lt (fun k hk => by
    have := pw6 (k := k) (by omega)
    show (if _ then 0 else 2 ^ k) < _
    split <;> omega)
  exact this
theorem scC (hT : TK t) (hA : AL z t (t 2 3) (lev t)) {b : Nat} (hb : b < 8) (hd : d < 2000) : f_X4_safeCellars z (nI b) (nI d) = some (nI (safN t d b)) := by
  have hc := K_cnt hT
  have hw := K_wal hT
  unfold f_X4_safeCellars
  rw [jq1]
  refine mr_2 (fun i => nI (orS (fun c => if t 16 0 ≤ ac t (t 2 3) (lev t) c (t 8 b) d then 0 else 2 ^ c) i)) nI (t 2 2) ?_ ?_ (FU_lt (by omega)) rfl rfl
  · intro i hi rec
    have ha := ac_le (t := t) (wl := t 2 3) (L := lev t) (c := i) (k := t 8 b) (d := d)
    unfold B_X4_safeCellars_5
    rw [U_cnt hA.1, if_neg (nI_ge hi (by omega)), ckiT hb (by decide), ixN (by omega), U_cor hA.1 hb, acC hA.1 hT hA.2.1 hA.2.2.1 (by omega) hi (K_bar hT hb).2.2.1 hd hA.2.2.2.1.1 hA.2.2.2.1.2, b1E, vgC hA.1 hT (by omega), b1E, shlN (by omega), show (0 : Int32) = nI 0 from rfl, orNN, orNN, nI_1]
    show _ = rec (nI (orS _ i ||| (if t 16 0 ≤ ac t (t 2 3) (lev t) i (t 8 b) d then 0 else 2 ^ i))) _
    by_cases h : t 16 0 ≤ ac t (t 2 3) (lev t) i (t 8 b) d
    · rw [if_pos h, if_neg (show ¬ (1 : Int32) = nI 0 from n10), if_pos h]
    · rw [if_neg h, if_pos rfl, if_neg h]
  · intro rec
    unfold B_X4_safeCellars_5
    rw [U_cnt hA.1, if_pos (Int32.le_refl _)]; rfl
/-- the barrels that stay in a cellar -/
def stN (t : Nat → Nat → Nat) (s c : Nat) : Nat := cq (fun i => lin t c i && decide (¬ s / 2 ^ i % 2 = 1)) 8
theorem st_le (hT : TK t) {c : Nat} (hc : c < 6) : stN t s c ≤ t 4 c := by
  have h1 : stN t s c ≤ cq (lin t c) 8 := cq_mono (fun i _ h => by rw [Bool.and_eq_true] at h; exact h.1)
  by_cases h : c < t 2 2
  · exact Nat.le_trans h1 (K_cap hT h)
  · have h0 : cq (lin t c) 8 = 0 := by
      rw [cq_congr (q := fun _ => false) (fun i hi => ?_)]
      · decide
      · unfold lin
        by_cases hb : t 5 4 / 2 ^ i % 2 = 1
        · have := (K_there hT hi hb).1
          have hne : ¬ t 6 i = c := by omega
          simp [hne]
        · simp [hb]
    omega
/-- what choose leaves -/
def CH (z : St) (t : Nat → Nat → Nat) (s d : Nat) : Prop := AL z t (t 2 3) (lev t) ∧ z.1 25 7 = nI (cqs s 8) ∧ (∀ i, i < cqs s 8 → z.1 26 i = nI (mM s i) ∧ z.1 27 i = nI (safN t d (mM s i))) ∧ ∀ c, c < 6 → z.1 30 c = nI (t 4 c - stN t s c)
theorem chC (hT : TK t) (hA : AL v t (t 2 3) (lev t)) (hs : s < 256) (hsub : ∀ b, s / 2 ^ b % 2 = 1 → bt t b) (h4 : cqs s 8 ≤ 4) (hd : d < 2000) : ∃ z, f_X4_choose v (nI s) (nI d) = some z ∧ (∀ c, c ≤ 20 ∨ 38 ≤ c ∨ c = 33 → z.1 c = v.1 c) ∧ CH z t s d := by
  unfold f_X4_choose
  rw [bsE, jq1]
  have hAi : ∀ z : St, (∀ c, c < 25 ∨ 27 < c → z.1 c = v.1 c) → AL z t (t 2 3) (lev t) := fun z h => AL_tr hA (fun c hc => h c (by omega))
  have key : ∀ K : St → Option St, ∃ z, lq_2 (B_X4_choose_7 (nI s) (nI d) K) FU (sI v 25 7 0) 0 = K z ∧ (∀ c, c < 25 ∨ 27 < c → z.1 c = v.1 c) ∧ z.1 25 7 = nI (cqs s 8) ∧ ∀ i, i < cqs s 8 → z.1 26 i = nI (mM s i) ∧ z.1 27 i = nI (safN t d (mM s i)) := by
    intro K
    refine mw_2 (P := fun b (z : St) (y : Int32) => y = nI b ∧ (∀ c, c < 25 ∨ 27 < c → z.1 c = v.1 c) ∧ z.1 25 7 = nI (cqs s b) ∧ ∀ i, i < cqs s b → z.1 26 i = nI (mM s i) ∧ z.1 27 i = nI (safN t d (mM s i))) (Q := fun o => ∃ z, o = K z ∧ (∀ c, c < 25 ∨ 27 < c → z.1 c = v.1 c) ∧ z.1 25 7 = nI (cqs s 8) ∧ ∀ i, i < cqs s 8 → z.1 26 i = nI (mM s i) ∧ z.1 27 i = nI (safN t d (mM s i))) 8 ?_ ?_ (FU_lt (by decide)) ⟨rfl, fun c hc => sI_o (by omega), by rw [sI_s, pk_us]; rfl, fun i hi => absurd hi (by show ¬ i < 0; omega)⟩
    · rintro b z y hb ⟨rfl, h1, h2, h3⟩
      have hAz := hAi z h1
      have hle := cqs_mono (s := s) (show b ≤ 8 by omega)
      have hss := cqs_s (s := s) (n := b)
      have hle2 := cqs_mono (s := s) (show b + 1 ≤ 8 by omega)
      by_cases hfull : 4 ≤ cqs s b
      · refine Or.inr fun rec => ⟨z, ?_, h1, ?_, ?_⟩
        · unfold B_X4_choose_7
          rw [if_neg (nle_l (l := 8) 8 rfl hb (by decide)), h2, if_pos (le_l (l := 4) 4 rfl hfull (by omega))]
        · rw [h2, show cqs s b = cqs s 8 by omega]
        · rw [show cqs s 8 = cqs s b by omega]; exact h3
      have pre : ∀ rec, B_X4_choose_7 (nI s) (nI d) K rec z (nI b) = b1 (f_X7_has z (nI b)) (fun (x17 : Int32) => if x17 = 0 then rec z (nI (b + 1)) else b1 (f_X11_hasBit z (nI s) (nI b)) (fun (x19 : Int32) => if x19 = 0 then rec z (nI (b + 1)) else cki (nI (cqs s b)) 4 (bs (sI z 26 (cqs s b) (nI b)) (fun u21 : St => b1 (f_X4_safeCellars u21 (nI b) (nI d)) (fun (x22 : Int32) => cki (u21.1 25 7) 4 (bs (sI u21 27 (ix (u21.1 25 7)) x22) (fun u23 : St => bs (sI u23 25 7 ((u23.1 25 7) + (1 : Int32))) (fun u24 : St => rec u24 (nI (b + 1)))))))))) := by
        intro rec
        unfold B_X4_choose_7
        rw [if_neg (nle_l (l := 8) 8 rfl hb (by decide)), h2, if_neg (nle_l (l := 4) 4 rfl (by omega) (by decide)), nI_1, ixN (by omega)]
      by_cases hbit : s / 2 ^ b % 2 = 1
      · have hbt := hsub b hbit
        have hmm := (mM_a s hs b hb hbit).1
        have hA26 : AL (sI z 26 (cqs s b) (nI b)) t (t 2 3) (lev t) := AL_tr hAz (fun c hc => sI_o (by omega))
        refine Or.inl ⟨sI (sI (sI z 26 (cqs s b) (nI b)) 27 (cqs s b) (nI (safN t d b))) 25 7 (nI (cqs s b + 1)), _, fun rec => ?_, ⟨rfl, fun c hc => by rw [sI_o (by omega), sI_o (by omega), sI_o (by omega)]; exact h1 c hc, ?_, fun i hi => ?_⟩⟩
        · rw [pre, hbY hAz.1 hT hb hbt, b1E, if_neg n10, hbit_ev (by omega) (by omega), if_pos hbit, b1E, if_neg n10, ckiT (by omega) (by decide), bsE, scC hT hA26 hb hd, b1E]
          rw [show (sI z 26 (cqs s b) (nI b)).1 25 7 = nI (cqs s b) by rw [sI_o (by omega)]; exact h2, ckiT (by omega) (by decide), ixN (by omega), bsE, bsE]
          rw [show (sI (sI z 26 (cqs s b) (nI b)) 27 (cqs s b) (nI (safN t d b))).1 25 7 = nI (cqs s b) by rw [sI_o (by omega), sI_o (by omega)]; exact h2, nI_1]
        · rw [sI_s, pk_us, hss, if_pos hbit]
        · rw [hss, if_pos hbit] at hi
          by_cases h9 : i = cqs s b
          · rw [h9, hmm]; exact ⟨by rw [sI_o (by omega), sI_o (by omega), sI_s, pk_us], by rw [sI_o (by omega), sI_s, pk_us]⟩
          · have := h3 i (by omega)
            exact ⟨by rw [sI_o (by omega), sI_o (by omega), sI_s, pk_un h9]; exact this.1, by rw [sI_o (by omega), sI_s, pk_un h9, sI_o (by omega)]; exact this.2⟩
      · rw [if_neg hbit] at hss
        refine Or.inl ⟨z, _, fun rec => ?_, ⟨rfl, h1, by rw [hss]; exact h2, fun i hi => h3 i (by omega)⟩⟩
        rw [pre]
        by_cases hbt : bt t b
        · rw [hbY hAz.1 hT hb hbt, b1E, if_neg n10, hbit_ev (by omega) (by omega), if_neg hbit, b1E, if_pos rfl]
        · rw [hbF hAz.1 hT hb hbt, b1E, if_pos rfl]
    · rintro z y ⟨rfl, h⟩ rec
      unfold B_X4_choose_7
      rw [if_pos (show (8 : Int32) ≤ nI 8 by decide)]
      exact ⟨z, rfl, h⟩
  obtain ⟨z, e1, z1, z2, z3⟩ := key (fun (u5 : St) => jq_1 (fun (u9 : St) => some u9) (fun (k8 : St → Option (St)) => lq_2 (B_X4_choose_86 (nI s) k8) FU u5 0))
  rw [e1, jq1]
  have hAz := hAi z z1
  refine mw_2 (P := fun k (q : St) (y : Int32) => y = nI k ∧ (∀ c, c ≠ 30 → q.1 c = z.1 c) ∧ ∀ c, c < k → q.1 30 c = nI (t 4 c - stN t s c)) (Q := fun o => ∃ q, o = some q ∧ (∀ c, c ≤ 20 ∨ 38 ≤ c ∨ c = 33 → q.1 c = v.1 c) ∧ CH q t s d) 6 ?_ ?_ (FU_lt (by decide)) ⟨rfl, fun _ _ => rfl, fun c hc => absurd hc (by omega)⟩
  · rintro k q y hk ⟨rfl, h1, h2⟩
    have hUq : UT q t 0 := fun c j hD => by
      have hc : c ≤ 16 := by unfold TD at hD; omega
      rw [h1 (0 + c) (by omega)]; exact hAz.1 c j hD
    have hst := st_le (s := s) hT hk
    refine Or.inl ⟨sI q 30 k (nI (t 4 k - stN t s k)), _, fun rec => ?_, ⟨rfl, fun c hc => by rw [sI_o hc]; exact h1 c hc, fun c hc => ?_⟩⟩
    · unfold B_X4_choose_86
      rw [if_neg (nle_l (l := 6) 6 rfl hk (by decide)), ckiT hk (by decide), ixN (by omega), U_room hUq hk, ci_ev hUq hT (by omega) (by omega), b1E, ckiT hk (by decide), show cq (fun i => lin t k i && decide (¬ s / 2 ^ i % 2 = 1)) 8 = stN t s k from rfl, pk_sub hst, bsE, nI_1]
    · rw [sI_s]
      by_cases h9 : c = k
      · subst h9; rw [pk_us]
      · rw [pk_un h9]; exact h2 c (by omega)
  · rintro q y ⟨rfl, h1, h2⟩ rec
    unfold B_X4_choose_86
    rw [if_pos (show (6 : Int32) ≤ nI 6 by decide)]
    refine ⟨q, rfl, fun c hc => by rw [h1 c (by omega)]; exact z1 c (by omega), AL_tr hAz (fun c hc => h1 c (by omega)), by rw [h1 25 (by omega)]; exact z2, fun i hi => by rw [h1 26 (by omega), h1 27 (by omega)]; exact z3 i hi, h2⟩
end PL
