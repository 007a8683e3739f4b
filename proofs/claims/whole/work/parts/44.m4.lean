/-! ===== calls that write little ===== -/
theorem TK_congr {t t2 : Nat → Nat → Nat} (h : TK t) (e : ∀ c, c ≤ 16 → t2 c = t c) : TK t2 := by
  have hl : ∀ c, lin t2 c = lin t c := fun c => by unfold lin; rw [e 5 (by omega), e 6 (by omega)]
  have hb : ∀ b, bt t2 b ↔ bt t b := fun b => by unfold bt; rw [e 5 (by omega)]
  unfold TK at h ⊢
  simp only [hl, hb, e 2 (by omega), e 3 (by omega), e 4 (by omega), e 5 (by omega), e 6 (by omega), e 7 (by omega), e 8 (by omega), e 9 (by omega), e 10 (by omega), e 11 (by omega), e 12 (by omega), e 13 (by omega), e 14 (by omega), e 15 (by omega), e 16 (by omega)]
  exact h
theorem UT_congr {u u2 : St} {t t2 : Nat → Nat → Nat} (h : UT u t 0) (hu : ∀ c, c ≤ 16 → u2.1 c = u.1 c) (e : ∀ c, c ≤ 16 → t2 c = t c) : UT u2 t2 0 := fun c k hd => by
  have hc : c ≤ 16 := by unfold TD at hd; omega
  rw [hu (0 + c) (by omega), e c hc]; exact h c k hd
theorem MT_congr {m m2 : St} {t t2 : Nat → Nat → Nat} (h : MT m t) (k1 : ∀ c, 1 ≤ c → c ≤ 11 → m2.1 c = m.1 c) (k2 : ∀ k, k < 20 → m2.1 0 k = m.1 0 k) (e : ∀ c, c ≤ 16 → t2 c = t c) : MT m2 t2 := by
  unfold MT at h ⊢
  rw [k2 0 (by omega), k2 3 (by omega), k2 4 (by omega), k2 10 (by omega), k2 18 (by omega), k2 11 (by omega), k2 12 (by omega), k2 13 (by omega), k1 1 (by omega) (by omega), k1 2 (by omega) (by omega), k1 3 (by omega) (by omega), k1 4 (by omega) (by omega), k1 5 (by omega) (by omega), k1 6 (by omega) (by omega), k1 7 (by omega) (by omega), k1 8 (by omega) (by omega), k1 9 (by omega) (by omega), k1 10 (by omega) (by omega), k1 11 (by omega) (by omega), e 2 (by omega), e 3 (by omega), e 4 (by omega), e 5 (by omega), e 6 (by omega), e 7 (by omega), e 8 (by omega), e 9 (by omega), e 10 (by omega), e 11 (by omega), e 12 (by omega), e 13 (by omega), e 14 (by omega), e 15 (by omega), e 16 (by omega)]
  exact h
theorem ts_c {t : Nat → Nat → Nat} {c k v c2 : Nat} (h : c2 ≠ c) : tset t c k v c2 = t c2 := by funext k2; exact ts_o (fun h9 => h h9.1)
theorem s_wipe : Sp_wipe Inv := by
  intro N u m ⟨t, hU, hM, hT, hP, hI, hd, hr⟩
  refine ⟨nI (t 18 1), sI u 18 1 0, sI m 0 20 0, ?_, ?_, ?_⟩
  · unfold f_X11_wipe; rw [bsE, hP.1]
  · unfold f_X12_wipe; rw [bsE, hP.2.2.1]
  · refine ⟨tset t 18 1 0, UT_congr hU (fun c hc => sI_o (by omega)) (fun c hc => ts_c (by omega)), MT_congr hM (fun c h1 h2 => sI_o (by omega)) (fun k hk => by rw [sI_s, pk_un (by omega)]) (fun c hc => ts_c (by omega)), TK_congr hT (fun c hc => ts_c (by omega)), ?_, IM_keep hI (sI_o (by omega)) (fun c hc => sI_o (by omega)) (sI_o (by omega)) (sI_o (by omega)), hd, ?_⟩
    · refine ⟨?_, ?_, ?_, ?_, ?_, ?_⟩
      · rw [sI_s, pk_us, ts_s]; rfl
      · intro i hi; rw [sI_o (by omega), ts_c (by omega)]; exact hP.2.1 i hi
      · rw [sI_s, pk_us, ts_s]; rfl
      · intro i hi; rw [sI_o (by omega), ts_c (by omega)]; exact hP.2.2.2.1 i hi
      · rw [ts_s]; omega
      · intro i hi; rw [ts_c (by omega)]; exact hP.2.2.2.2.2 i hi
    · rw [sI_s, pk_un (by omega)]; exact hr
/-- a write of one place of the town, in both -/
theorem Inv_set {N : Nat} {u m : St} {t : Nat → Nat → Nat} (hU : UT u t 0) (hM : MT m t) (hP : PD u m t) (hI : IM N u m) (hd : m.2 0 21 = 0) (hr : m.1 0 22 = 0) {c k : Nat} (hD : TD c k) {v : Nat} (hT : TK (tset t c k v)) : Inv N (sI u c k (nI v)) (sI m (mc c k) (mk c k) (nI v)) := by
  have hc : 2 ≤ c ∧ c ≤ 16 := by unfold TD at hD; omega
  have hmc : mc c k ≤ 11 := by unfold mc; unfold TD at hD; split <;> (try split) <;> (try split) <;> (try split) <;> (try split) <;> (try split) <;> (try split) <;> omega
  have hU2 := UT_set hU c k v
  rw [Nat.zero_add] at hU2
  have h0 : ∀ j, j = 20 ∨ j = 22 → (sI m (mc c k) (mk c k) (nI v)).1 0 j = m.1 0 j := by
    intro j hj
    by_cases h9 : mc c k = 0
    · rw [h9, sI_s, pk_un]
      unfold mk; unfold TD at hD; split <;> (try split) <;> (try split) <;> (try split) <;> (try split) <;> (try split) <;> (try split) <;> first | omega | (unfold mc at h9; split at h9 <;> (try split at h9) <;> (try split at h9) <;> (try split at h9) <;> (try split at h9) <;> (try split at h9) <;> (try split at h9) <;> omega)
    · rw [sI_o (fun h8 => h9 h8.symm)]
  exact Inv_mk hU2 (MT_set hM hD v) hT hP (ts_o (by omega)) (ts_c (by omega)) hI hd hr (fun c2 h2 => sI_o (by omega)) (fun c2 h2 => sI_o (by omega)) (h0 20 (Or.inl rfl)) (h0 22 (Or.inr rfl)) rfl
