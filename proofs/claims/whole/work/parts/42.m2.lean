/-! ===== writing a place of the town ===== -/
def tset (t : Nat → Nat → Nat) (c k v : Nat) : Nat → Nat → Nat := fun c2 k2 => if c2 = c ∧ k2 = k then v else t c2 k2
theorem ts_s {t : Nat → Nat → Nat} {c k v : Nat} : tset t c k v c k = v := if_pos ⟨rfl, rfl⟩
theorem ts_o {t : Nat → Nat → Nat} {c k v c2 k2 : Nat} (h : ¬ (c2 = c ∧ k2 = k)) : tset t c k v c2 k2 = t c2 k2 := if_neg h
def mc (c k : Nat) : Nat := if c = 2 ∨ c = 5 ∨ c = 10 ∨ c = 12 then 0 else if c = 3 then 1 else if c = 4 then 2 else if 6 ≤ c ∧ c ≤ 9 then c - 3 else if c = 11 then 7 else if 13 ≤ c ∧ c ≤ 15 then c - 4 else if k < 3 then 0 else 8
def mk (c k : Nat) : Nat := if c = 2 then (if k = 2 then 0 else 3) else if c = 5 then 4 else if c = 10 then 10 else if c = 12 then 18 else if c = 16 then (if k < 3 then 11 + k else k - 3) else k
theorem MT_iff {m : St} {t : Nat → Nat → Nat} : MT m t ↔ ∀ c k, TD c k → m.1 (mc c k) (mk c k) = nI (t c k) := by
  constructor
  · intro h c k hd
    unfold TD at hd
    rcases hd with ⟨rfl, rfl | rfl⟩ | ⟨rfl, hk⟩ | ⟨rfl, hk⟩ | ⟨rfl, rfl⟩ | ⟨h1, h2, hk⟩ | ⟨rfl, rfl⟩ | ⟨rfl, hk⟩ | ⟨rfl, rfl⟩ | ⟨h1, h2, hk⟩ | ⟨rfl, hk⟩
    · exact M_cnt h
    · exact M_wal h
    · exact M_dep h hk
    · exact M_room h hk
    · exact M_the h
    · have : c = 6 ∨ c = 7 ∨ c = 8 ∨ c = 9 := by omega
      rcases this with rfl | rfl | rfl | rfl
      · exact M_lie h hk
      · exact M_siz h hk
      · exact M_cor h hk
      · exact M_kin h hk
    · exact M_len h
    · exact M_dig h hk
    · exact M_sc h
    · have : c = 13 ∨ c = 14 ∨ c = 15 := by omega
      rcases this with rfl | rfl | rfl
      · exact M_sb h hk
      · exact M_sd h hk
      · exact M_sa h hk
    · have : k = 0 ∨ k = 1 ∨ k = 2 ∨ k = 3 ∨ k = 4 ∨ k = 5 ∨ k = 6 := by omega
      rcases this with rfl | rfl | rfl | rfl | rfl | rfl | rfl
      · exact M_sour h
      · exact M_hands h
      · exact M_ph h
      · exact M_peak h (k := 0) (by omega)
      · exact M_peak h (k := 1) (by omega)
      · exact M_peak h (k := 2) (by omega)
      · exact M_peak h (k := 3) (by omega)
  · intro h
    refine ⟨h 2 2 (by unfold TD; omega), h 2 3 (by unfold TD; omega), fun k hk => h 3 k (by unfold TD; omega), fun k hk => h 4 k (by unfold TD; omega), h 5 4 (by unfold TD; omega), fun k hk => h 6 k (by unfold TD; omega), fun k hk => h 7 k (by unfold TD; omega), fun k hk => h 8 k (by unfold TD; omega), fun k hk => h 9 k (by unfold TD; omega), h 10 1 (by unfold TD; omega), fun k hk => h 11 k (by unfold TD; omega), h 12 3 (by unfold TD; omega), fun k hk => h 13 k (by unfold TD; omega), fun k hk => h 14 k (by unfold TD; omega), fun k hk => h 15 k (by unfold TD; omega), h 16 0 (by unfold TD; omega), h 16 1 (by unfold TD; omega), h 16 2 (by unfold TD; omega), fun k hk => ?_⟩
    have h9 := h 16 (3 + k) (by unfold TD; omega)
    have e1 : mc 16 (3 + k) = 8 := by simp [mc]
    have e2 : mk 16 (3 + k) = k := by simp [mk]; omega
    rw [e1, e2] at h9; exact h9
theorem UT_set {u : St} {t : Nat → Nat → Nat} {o : Nat} (h : UT u t o) (c k v : Nat) : UT (sI u (o + c) k (nI v)) (tset t c k v) o := fun c2 k2 hd => by
  by_cases hc : c2 = c
  · subst hc
    rw [sI_s]
    by_cases hk : k2 = k
    · subst hk; rw [pk_us, ts_s]
    · rw [pk_un hk, ts_o (fun h9 => hk h9.2)]; exact h c2 k2 hd
  · rw [sI_o (by omega), ts_o (fun h9 => hc h9.1)]; exact h c2 k2 hd
def icv (a b : Nat) : Nat := if a = 0 then (if b = 0 ∨ b = 3 then 2 else if b = 4 then 5 else if b = 10 then 10 else if b = 18 then 12 else 16) else if a = 1 then 3 else if a = 2 then 4 else if a < 7 then a + 3 else if a = 7 then 11 else if a = 8 then 16 else a + 4
def ikv (a b : Nat) : Nat := if a = 0 then (if b = 0 then 2 else if b = 3 then 3 else if b = 4 then 4 else if b = 10 then 1 else if b = 18 then 3 else b - 11) else if a = 8 then b + 3 else b
theorem ml_inv {c k : Nat} (hd : TD c k) : icv (mc c k) (mk c k) = c ∧ ikv (mc c k) (mk c k) = k := by
  unfold TD at hd
  rcases hd with ⟨rfl, rfl | rfl⟩ | ⟨rfl, hk⟩ | ⟨rfl, hk⟩ | ⟨rfl, rfl⟩ | ⟨h1, h2, hk⟩ | ⟨rfl, rfl⟩ | ⟨rfl, hk⟩ | ⟨rfl, rfl⟩ | ⟨h1, h2, hk⟩ | ⟨rfl, hk⟩
  · exact ⟨rfl, rfl⟩
  · exact ⟨rfl, rfl⟩
  · exact ⟨rfl, rfl⟩
  · exact ⟨rfl, rfl⟩
  · exact ⟨rfl, rfl⟩
  · have : c = 6 ∨ c = 7 ∨ c = 8 ∨ c = 9 := by omega
    rcases this with rfl | rfl | rfl | rfl <;> exact ⟨rfl, rfl⟩
  · exact ⟨rfl, rfl⟩
  · exact ⟨rfl, rfl⟩
  · exact ⟨rfl, rfl⟩
  · have : c = 13 ∨ c = 14 ∨ c = 15 := by omega
    rcases this with rfl | rfl | rfl <;> exact ⟨rfl, rfl⟩
  · have : k = 0 ∨ k = 1 ∨ k = 2 ∨ k = 3 ∨ k = 4 ∨ k = 5 ∨ k = 6 := by omega
    rcases this with rfl | rfl | rfl | rfl | rfl | rfl | rfl <;> exact ⟨rfl, rfl⟩
theorem ml_inj {c k c2 k2 : Nat} (h1 : TD c k) (h2 : TD c2 k2) (e1 : mc c2 k2 = mc c k) (e2 : mk c2 k2 = mk c k) : c2 = c ∧ k2 = k := by
  have a1 := ml_inv h1
  have a2 := ml_inv h2
  rw [e1, e2] at a2
  exact ⟨a2.1.symm.trans a1.1, a2.2.symm.trans a1.2⟩
theorem MT_set {m : St} {t : Nat → Nat → Nat} (h : MT m t) {c k : Nat} (hd : TD c k) (v : Nat) : MT (sI m (mc c k) (mk c k) (nI v)) (tset t c k v) := by
  rw [MT_iff] at h ⊢
  intro c2 k2 hd2
  by_cases hc : mc c2 k2 = mc c k
  · by_cases hk : mk c2 k2 = mk c k
    · obtain ⟨rfl, rfl⟩ := ml_inj hd hd2 hc hk
      rw [sI_s, pk_us, ts_s]
    · rw [hc, sI_s, pk_un hk, ts_o (fun h9 => hk (by rw [h9.1, h9.2])), ← hc]; exact h c2 k2 hd2
  · rw [sI_o hc, ts_o (fun h9 => hc (by rw [h9.1, h9.2]))]; exact h c2 k2 hd2
/-! ===== small calls ===== -/
theorem nle_l {k l : Nat} (L : Int32) (hL : L = nI l) (h : k < l) (hl : l < 2 ^ 31) : ¬ L ≤ nI k := by subst hL; exact nI_ge h hl
theorem le_l {k l : Nat} (L : Int32) (hL : L = nI l) (h : l ≤ k) (hl : k < 2 ^ 31) : L ≤ nI k := by subst hL; exact nI_le h hl
theorem lt_l {k l : Nat} (L : Int32) (hL : L = nI l) (h : k < l) (hl : l < 2 ^ 31) : nI k < L := by subst hL; exact nI_lt h hl
theorem nlt_l {k l : Nat} (L : Int32) (hL : L = nI l) (h : l ≤ k) (hl : k < 2 ^ 31) : ¬ nI k < L := by subst hL; exact nI_nlt h hl
theorem hbit_ev {u : St} {n k : Nat} (hn : n < 2 ^ 31) (hk : k < 31) : f_X11_hasBit u (nI n) (nI k) = some (if n / 2 ^ k % 2 = 1 then 1 else 0) := by
  unfold f_X11_hasBit
  rw [if_neg (nI_pos (by omega)), if_neg (nle_l (l := 31) 31 rfl hk (by decide)), bitN hn hk]
  by_cases h : n / 2 ^ k % 2 = 1
  · rw [if_pos h, h]; rfl
  · rw [if_neg h, show n / 2 ^ k % 2 = 0 by omega]; rfl
section SM
variable {u m : St} {t : Nat → Nat → Nat}
theorem hc_no (hU : UT u t 0) {p : Int32} (h : p < 0 ∨ nI (t 2 2) ≤ p) : f_X10_has u p = some 0 := by
  unfold f_X10_has
  by_cases h1 : p < 0
  · rw [if_pos h1]
  · rw [if_neg h1, U_cnt hU, if_pos (h.resolve_left h1)]
theorem hc_yes (hU : UT u t 0) (hT : TK t) {k : Nat} (hk : k < t 2 2) : f_X10_has u (nI k) = some 1 := by
  have := K_cnt hT
  unfold f_X10_has
  rw [if_neg (nI_pos (by omega)), U_cnt hU, if_neg (nI_ge hk (by omega)), if_neg (nle_l (l := 6) 6 rfl (by omega) (by decide))]
theorem ic_ev (hM : MT m t) (hT : TK t) {p : Int32} : f_X12_isCellar m p = some (if 0 ≤ p ∧ p ≤ nI (t 2 2 - 1) then 1 else 0) := by
  have hc := K_cnt hT
  unfold f_X12_isCellar
  rw [M_cnt hM, show nI (t 2 2) - (1 : Int32) = nI (t 2 2 - 1) from pk_sub (a := t 2 2) (b := 1) (by omega), in_ev (a := 0) (lo := 0) (hi := nI (t 2 2 - 1)) rfl rfl, b1E, ckT z01]
theorem ic_no (hM : MT m t) (hT : TK t) {p : Int32} (h : p < 0 ∨ nI (t 2 2) ≤ p) : f_X12_isCellar m p = some 0 := by
  have hc := K_cnt hT
  rw [ic_ev hM hT, if_neg]
  rintro ⟨h1, h2⟩
  rcases h with h | h
  · exact Int32.not_lt.mpr h1 h
  · have h3 := Int32.le_trans h h2
    exact nI_ge (a := t 2 2 - 1) (b := t 2 2) (by omega) (by omega) h3
theorem ic_yes (hM : MT m t) (hT : TK t) {k : Nat} (hk : k < t 2 2) : f_X12_isCellar m (nI k) = some 1 := by
  have hc := K_cnt hT
  rw [ic_ev hM hT, if_pos ⟨nI_pos' (by omega), nI_le (by omega) (by omega)⟩]
theorem hb_no (p : Int32) (h : p < 0 ∨ nI 8 ≤ p) : f_X7_has u p = some 0 := by
  unfold f_X7_has
  by_cases h1 : p < 0
  · rw [if_pos h1]
  · rw [if_neg h1, if_pos (show (8 : Int32) ≤ p from h.resolve_left h1)]
theorem hb_ev (hU : UT u t 0) (hT : TK t) {b : Nat} (hb : b < 8) : f_X7_has u (nI b) = some (if t 5 4 / 2 ^ b % 2 = 1 then 1 else 0) := by
  have := K_the hT
  unfold f_X7_has
  rw [if_neg (nI_pos (by omega)), if_neg (nle_l (l := 8) 8 rfl hb (by decide)), U_the hU, hbit_ev (by omega) (by omega), b1E]
  by_cases h : t 5 4 / 2 ^ b % 2 = 1
  · rw [if_pos h]; rfl
  · rw [if_neg h]; rfl
theorem in_no (p : Int32) (h : p < 0 ∨ nI 8 ≤ p) : f_X12_isNumber m p = some 0 := by
  unfold f_X12_isNumber
  rw [in_ev (a := 0) (b := 7) (lo := 0) (hi := 7) rfl rfl, b1E, ckT z01, if_neg]
  rintro ⟨h1, h2⟩
  rcases h with h | h
  · exact Int32.not_lt.mpr h1 h
  · exact absurd (Int32.le_trans h h2) (by decide)
theorem in_yes {b : Nat} (hb : b < 8) : f_X12_isNumber m (nI b) = some 1 := by
  unfold f_X12_isNumber
  rw [in_ev (a := 0) (b := 7) (lo := 0) (hi := 7) rfl rfl, b1E, ckT z01, if_pos ⟨nI_pos' (by omega), nI_le (a := b) (b := 7) (by omega) (by omega)⟩]
theorem ib_no (p : Int32) (h : p < 0 ∨ nI 8 ≤ p) : f_X12_isBarrel m p = some 0 := by
  unfold f_X12_isBarrel
  rw [in_no p h, b1E, if_pos rfl]
theorem ib_ev (hM : MT m t) (hT : TK t) {b : Nat} (hb : b < 8) : f_X12_isBarrel m (nI b) = some (if t 5 4 / 2 ^ b % 2 = 1 then 1 else 0) := by
  have := K_the hT
  unfold f_X12_isBarrel
  rw [in_yes hb, b1E, if_neg (by decide), M_the hM, bitN (by omega) (by omega)]
  by_cases h : t 5 4 / 2 ^ b % 2 = 1
  · rw [if_pos h, h]; rfl
  · rw [if_neg h, show t 5 4 / 2 ^ b % 2 = 0 by omega]; rfl
theorem dy_ev {p : Int32} : f_X12_isDays m p = some (if 0 ≤ p ∧ p ≤ 999 then 1 else 0) := by
  unfold f_X12_isDays
  rw [in_ev (a := 0) (b := 999) (lo := 0) (hi := 999) rfl rfl, b1E, ckT z01]
end SM
theorem rng {p lo hi : Int32} {a b : Nat} (h : lo ≤ p ∧ p ≤ hi) (h1 : lo = nI a) (h2 : hi = nI b) (ha : a < 2 ^ 31) (hb : b < 2 ^ 31) : ∃ n, a ≤ n ∧ n ≤ b ∧ p = nI n := by
  subst h1; subst h2
  have h0 : ¬ p < 0 := fun h9 => Int32.not_lt.mpr (Int32.le_trans (nI_pos' ha) h.1) h9
  obtain ⟨j, hj, rfl⟩ := nI_of h0
  exact ⟨j, (nI_leI ha hj).mp h.1, (nI_leI hj hb).mp h.2, rfl⟩
/-! ===== the invariant behind a write ===== -/
theorem Inv_mk {N : Nat} {u m u2 m2 : St} {t t2 : Nat → Nat → Nat} (hU : UT u2 t2 0) (hM : MT m2 t2) (hT : TK t2) (hP : PD u m t) (hp1 : t2 18 1 = t 18 1) (hp2 : t2 19 = t 19) (hI : IM N u m) (hd : m.2 0 21 = 0) (hr : m.1 0 22 = 0) (ku : ∀ c, 17 ≤ c → u2.1 c = u.1 c) (km : ∀ c, 12 ≤ c → m2.1 c = m.1 c) (k0 : m2.1 0 20 = m.1 0 20) (k1 : m2.1 0 22 = m.1 0 22) (kl : m2.2 = m.2) : Inv N u2 m2 := by
  refine ⟨t2, hU, hM, hT, ?_, IM_keep hI (ku 17 (by omega)) (fun c hc => ku c (by omega)) (km 19 (by omega)) (km 20 (by omega)), by rw [kl]; exact hd, by rw [k1]; exact hr⟩
  unfold PD at hP ⊢
  rw [ku 18 (by omega), ku 19 (by omega), k0, km 12 (by omega), hp1, hp2]
  exact hP
