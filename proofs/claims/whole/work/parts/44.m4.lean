/-! ===== calls that write little ===== -/
theorem TK_congr {t t2 : Nat → Nat → Nat} (h : TK t) (e : ∀ c, c ≤ 16 → t2 c = t c) : TK t2 := by
  have hl : ∀ c, lin t2 c = lin t c := fun c => by unfold lin; rw [e 5 (by omega), e 6 (by omega)]
  have hb : ∀ b, bt t2 b ↔ bt t b := fun b => by unfold bt; rw [e 5 (by omega)]
  unfold TK at h ⊢
  simp only [hl, hb, e 2 (by omega), e 3 (by omega), e 4 (by omega), e 5 (by omega), e 6 (by omega), e 7 (by omega), e 8 (by omega), e 9 (by omega), e 10 (by omega), e 11 (by omega), e 12 (by omega), e 13 (by omega), e 14 (by omega), e 15 (by omega), e 16 (by omega)]
  exact h
theorem UT_congr {u u2 : St} {t t2 : Nat → Nat → Nat} (h : UT u t 0) (hu : ∀ c, c ≤ 16 → u2.1 c = u.1 c) (e : ∀ c, c ≤ 16 → t2 c = t c) : UT u2 t2 0 := fun c k hd => by
  have hc : c ≤ 16 := by unfold TD at hd; omega
  rw [hu (0 + c) (by omega), e c hc]; exact h c k hd
theorem MT_congr {m m2 : St} {t t2 : Nat → Nat → Nat} (h : MT m t) (k1 : ∀ c, 1 ≤ c → c ≤ 11 → m2.1 c = m.1 c) (k2 : ∀ k, k < 20 → m2.1 0 k = m.1 0 k) (e : ∀ c, c ≤ 16 → t2 c = t c) : MT m2 t2 := by
  unfold MT at h ⊢
  rw [k2 0 (by omega), k2 3 (by omega), k2 4 (by omega), k2 10 (by omega), k2 18 (by omega), k2 11 (by omega), k2 12 (by omega), k2 13 (by omega), k1 1 (by omega) (by omega), k1 2 (by omega) (by omega), k1 3 (by omega) (by omega), k1 4 (by omega) (by omega), k1 5 (by omega) (by omega), k1 6 (by omega) (by omega), k1 7 (by omega) (by omega), k1 8 (by omega) (by omega), k1 9 (by omega) (by omega), k1 10 (by omega) (by omega), k1 11 (by omega) (by omega), e 2 (by omega), e 3 (by omega), e 4 (by omega), e 5 (by omega), e 6 (by omega), e 7 (by omega), e 8 (by omega), e 9 (by omega), e 10 (by omega), e 11 (by omega), e 12 (by omega), e 13 (by omega), e 14 (by omega), e 15 (by omega), e 16 (by omega)]
  exact h
theorem ts_c {t : Nat → Nat → Nat} {c k v c2 : Nat} (h : c2 ≠ c) : tset t c k v c2 = t c2 := by funext k2; exact ts_o (fun h9 => h h9.1)
theorem s_wipe : Sp_wipe Inv := by
  intro N u m ⟨t, hU, hM, hT, hP, hI, hd, hr⟩
  refine ⟨nI (t 18 1), sI u 18 1 0, sI m 0 20 0, ?_, ?_, ?_⟩
  · unfold f_X11_wipe; rw [bsE, hP.1]
  · unfold f_X12_wipe; rw [bsE, hP.2.2.1]
  · refine ⟨tset t 18 1 0, UT_congr hU (fun c hc => sI_o (by omega)) (fun c hc => ts_c (by omega)), MT_congr hM (fun c h1 h2 => sI_o (by omega)) (fun k hk => by rw [sI_s, pk_un (by omega)]) (fun c hc => ts_c (by omega)), TK_congr hT (fun c hc => ts_c (by omega)), ?_, IM_keep hI (sI_o (by omega)) (fun c hc => sI_o (by omega)) (sI_o (by omega)) (sI_o (by omega)), hd, ?_⟩
    · refine ⟨?_, ?_, ?_, ?_, ?_, ?_⟩
      · rw [sI_s, pk_us, ts_s]; rfl
      · intro i hi; rw [sI_o (by omega), ts_c (by omega)]; exact hP.2.1 i hi
      · rw [sI_s, pk_us, ts_s]; rfl
      · intro i hi; rw [sI_o (by omega), ts_c (by omega)]; exact hP.2.2.2.1 i hi
      · rw [ts_s]; omega
      · intro i hi; rw [ts_c (by omega)]; exact hP.2.2.2.2.2 i hi
    · rw [sI_s, pk_un (by omega)]; exact hr
theorem s_say : Sp_say Inv := by
  intro N u m p1 hi0
  obtain ⟨t, hU, hM, hT, hP, hI, hd, hr⟩ := id hi0
  have h60 := hP.2.2.2.2.1
  unfold f_X11_say f_X12_say
  rw [w_ev, b1E, in_ev (a := 33) (b := 126) (lo := 33) (hi := 126) rfl rfl, b1E]
  by_cases hw : (33 : Int32) ≤ p1 ∧ p1 ≤ 126
  · obtain ⟨v, hv1, hv2, rfl⟩ := rng hw (a := 33) (b := 126) rfl rfl (by decide) (by decide)
    rw [if_pos hw, if_neg (by decide), if_neg (by decide), hP.1, hP.2.2.1]
    by_cases h6 : t 18 1 < 60
    · rw [if_pos (lt_l (l := 60) 60 rfl h6 (by decide)), if_neg (fun h9 => absurd ((nI_eq (a := t 18 1) (b := 60) (by omega) (by decide)).mp h9) (by omega)), ckiT h6 (by decide), ckiT h6 (by decide), bsE, bsE, bsE, bsE, ixN (by omega)]
      have e1 : (sI u 19 (t 18 1) (nI v)).1 18 1 = nI (t 18 1) := by rw [sI_o (by omega)]; exact hP.1
      have e2 : (sI m 12 (t 18 1) (nI v)).1 0 20 = nI (t 18 1) := by rw [sI_o (by omega)]; exact hP.2.2.1
      rw [e1, e2, show nI (t 18 1) + (1 : Int32) = nI (t 18 1 + 1) from nI_1 _]
      refine ⟨nI (t 18 1 + 1), _, _, by rw [sI_s, pk_us], by rw [sI_s, pk_us], ?_⟩
      have ec : ∀ c, c ≤ 16 → tset (tset t 19 (t 18 1) v) 18 1 (t 18 1 + 1) c = t c := fun c hc => by rw [ts_c (by omega), ts_c (by omega)]
      refine ⟨tset (tset t 19 (t 18 1) v) 18 1 (t 18 1 + 1), UT_congr hU (fun c hc => by rw [sI_o (by omega), sI_o (by omega)]) ec, MT_congr hM (fun c h1 h2 => by rw [sI_o (by omega), sI_o (by omega)]) (fun k hk => by rw [sI_s, pk_un (by omega), sI_o (by omega)]) ec, TK_congr hT ec, ?_, IM_keep hI (by rw [sI_o (by omega), sI_o (by omega)]) (fun c hc => by rw [sI_o (by omega), sI_o (by omega)]) (by rw [sI_o (by omega), sI_o (by omega)]) (by rw [sI_o (by omega), sI_o (by omega)]), hd, ?_⟩
      · refine ⟨?_, ?_, ?_, ?_, ?_, ?_⟩
        · rw [sI_s, pk_us, ts_s]
        · intro i hi; rw [sI_o (by omega), ts_c (by omega), sI_s]
          by_cases h9 : i = t 18 1
          · subst h9; rw [pk_us, ts_s]
          · rw [pk_un h9, ts_o (fun h8 => h9 h8.2)]; exact hP.2.1 i hi
        · rw [sI_s, pk_us, ts_s]
        · intro i hi; rw [sI_o (by omega), ts_c (by omega), sI_s]
          by_cases h9 : i = t 18 1
          · subst h9; rw [pk_us, ts_s]
          · rw [pk_un h9, ts_o (fun h8 => h9 h8.2)]; exact hP.2.2.2.1 i hi
        · rw [ts_s]; omega
        · intro i hi; rw [ts_c (by omega)]
          by_cases h9 : i = t 18 1
          · subst h9; rw [ts_s]; omega
          · rw [ts_o (fun h8 => h9 h8.2)]; exact hP.2.2.2.2.2 i hi
      · rw [sI_s, pk_un (by omega), sI_o (by omega)]; exact hr
    · have h6' : t 18 1 = 60 := by omega
      rw [if_neg (nlt_l (l := 60) 60 rfl (by omega) (by omega)), if_pos (by rw [h6']; rfl)]
      exact ⟨_, _, _, rfl, rfl, hi0⟩
  · rw [if_neg hw, if_pos rfl, if_pos rfl]
    exact ⟨_, _, _, rfl, rfl, hi0⟩
/-- a write of one place of the town, in both -/
theorem Inv_set {N : Nat} {u m : St} {t : Nat → Nat → Nat} (hU : UT u t 0) (hM : MT m t) (hP : PD u m t) (hI : IM N u m) (hd : m.2 0 21 = 0) (hr : m.1 0 22 = 0) {c k : Nat} (hD : TD c k) {v : Nat} (hT : TK (tset t c k v)) : Inv N (sI u c k (nI v)) (sI m (mc c k) (mk c k) (nI v)) := by
  have hc : 2 ≤ c ∧ c ≤ 16 := by unfold TD at hD; omega
  have hmc : mc c k ≤ 11 := by unfold mc; unfold TD at hD; split <;> (try split) <;> (try split) <;> (try split) <;> (try split) <;> (try split) <;> (try split) <;> omega
  have hU2 := UT_set hU c k v
  rw [Nat.zero_add] at hU2
  have h0 : ∀ j, j = 20 ∨ j = 22 → (sI m (mc c k) (mk c k) (nI v)).1 0 j = m.1 0 j := by
    intro j hj
    by_cases h9 : mc c k = 0
    · rw [h9, sI_s, pk_un]
      unfold mk; unfold TD at hD; split <;> (try split) <;> (try split) <;> (try split) <;> (try split) <;> (try split) <;> (try split) <;> first | omega | (unfold mc at h9; split at h9 <;> (try split at h9) <;> (try split at h9) <;> (try split at h9) <;> (try split at h9) <;> (try split at h9) <;> (try split at h9) <;> omega)
    · rw [sI_o (fun h8 => h9 h8.symm)]
  exact Inv_mk hU2 (MT_set hM hD v) hT hP (ts_o (by omega)) (ts_c (by omega)) hI hd hr (fun c2 h2 => sI_o (by omega)) (fun c2 h2 => sI_o (by omega)) (h0 20 (Or.inl rfl)) (h0 22 (Or.inr rfl)) rfl
