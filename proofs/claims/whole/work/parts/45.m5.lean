/-! ===== numbers as nI ===== -/
theorem il_0 : (0 : Int32) = nI 0 := rfl
theorem il_1 : (1 : Int32) = nI 1 := rfl
theorem il_2 : (2 : Int32) = nI 2 := rfl
theorem il_3 : (3 : Int32) = nI 3 := rfl
theorem il_4 : (4 : Int32) = nI 4 := rfl
theorem il_5 : (5 : Int32) = nI 5 := rfl
theorem il_6 : (6 : Int32) = nI 6 := rfl
theorem il_7 : (7 : Int32) = nI 7 := rfl
theorem il_8 : (8 : Int32) = nI 8 := rfl
theorem il_9 : (9 : Int32) = nI 9 := rfl
theorem il_10 : (10 : Int32) = nI 10 := rfl
theorem il_12 : (12 : Int32) = nI 12 := rfl
theorem il_16 : (16 : Int32) = nI 16 := rfl
theorem il_20 : (20 : Int32) = nI 20 := rfl
theorem il_29 : (29 : Int32) = nI 29 := rfl
theorem il_30 : (30 : Int32) = nI 30 := rfl
theorem il_31 : (31 : Int32) = nI 31 := rfl
theorem il_32 : (32 : Int32) = nI 32 := rfl
theorem il_33 : (33 : Int32) = nI 33 := rfl
theorem il_39 : (39 : Int32) = nI 39 := rfl
theorem il_40 : (40 : Int32) = nI 40 := rfl
theorem il_43 : (43 : Int32) = nI 43 := rfl
theorem il_46 : (46 : Int32) = nI 46 := rfl
theorem il_48 : (48 : Int32) = nI 48 := rfl
theorem il_50 : (50 : Int32) = nI 50 := rfl
theorem il_54 : (54 : Int32) = nI 54 := rfl
theorem il_55 : (55 : Int32) = nI 55 := rfl
theorem il_57 : (57 : Int32) = nI 57 := rfl
theorem il_60 : (60 : Int32) = nI 60 := rfl
theorem il_63 : (63 : Int32) = nI 63 := rfl
theorem il_64 : (64 : Int32) = nI 64 := rfl
theorem il_74 : (74 : Int32) = nI 74 := rfl
theorem il_75 : (75 : Int32) = nI 75 := rfl
theorem il_97 : (97 : Int32) = nI 97 := rfl
theorem il_99 : (99 : Int32) = nI 99 := rfl
theorem il_100 : (100 : Int32) = nI 100 := rfl
theorem il_126 : (126 : Int32) = nI 126 := rfl
theorem il_150 : (150 : Int32) = nI 150 := rfl
theorem il_255 : (255 : Int32) = nI 255 := rfl
theorem il_256 : (256 : Int32) = nI 256 := rfl
theorem il_899 : (899 : Int32) = nI 899 := rfl
theorem il_999 : (999 : Int32) = nI 999 := rfl
theorem il_9999 : (9999 : Int32) = nI 9999 := rfl
theorem il_65537 : (65537 : Int32) = nI 65537 := rfl
theorem il_1000000 : (1000000 : Int32) = nI 1000000 := rfl
theorem il_2147483647 : (2147483647 : Int32) = nI 2147483647 := rfl
theorem jl_0 : (0 : Int64) = (nI 0).toInt64 := rfl
theorem jl_1 : (1 : Int64) = (nI 1).toInt64 := rfl
theorem jl_3 : (3 : Int64) = (nI 3).toInt64 := rfl
theorem jl_5 : (5 : Int64) = (nI 5).toInt64 := rfl
theorem jl_6 : (6 : Int64) = (nI 6).toInt64 := rfl
theorem jl_7 : (7 : Int64) = (nI 7).toInt64 := rfl
theorem jl_8 : (8 : Int64) = (nI 8).toInt64 := rfl
theorem jl_9 : (9 : Int64) = (nI 9).toInt64 := rfl
theorem jl_10 : (10 : Int64) = (nI 10).toInt64 := rfl
theorem jl_29 : (29 : Int64) = (nI 29).toInt64 := rfl
theorem jl_30 : (30 : Int64) = (nI 30).toInt64 := rfl
theorem jl_33 : (33 : Int64) = (nI 33).toInt64 := rfl
theorem jl_39 : (39 : Int64) = (nI 39).toInt64 := rfl
theorem jl_40 : (40 : Int64) = (nI 40).toInt64 := rfl
theorem jl_43 : (43 : Int64) = (nI 43).toInt64 := rfl
theorem jl_48 : (48 : Int64) = (nI 48).toInt64 := rfl
theorem jl_55 : (55 : Int64) = (nI 55).toInt64 := rfl
theorem jl_57 : (57 : Int64) = (nI 57).toInt64 := rfl
theorem jl_99 : (99 : Int64) = (nI 99).toInt64 := rfl
theorem jl_100 : (100 : Int64) = (nI 100).toInt64 := rfl
theorem jl_126 : (126 : Int64) = (nI 126).toInt64 := rfl
theorem jl_255 : (255 : Int64) = (nI 255).toInt64 := rfl
theorem jl_899 : (899 : Int64) = (nI 899).toInt64 := rfl
theorem jl_999 : (999 : Int64) = (nI 999).toInt64 := rfl
theorem jl_9999 : (9999 : Int64) = (nI 9999).toInt64 := rfl

theorem mw_1 {α R : Type} {B : (α → Option R) → α → Option R} {P : Nat → α → Prop} {Q : Option R → Prop} (n : Nat) (hs : ∀ i x, i < n → P i x → (∃ x', (∀ rec, B rec x = rec x') ∧ P (i + 1) x') ∨ (∀ rec, Q (B rec x))) (he : ∀ x, P n x → ∀ rec, Q (B rec x)) {F : Nat} (hF : n < F) {x : α} (h0 : P 0 x) : Q (lq_1 B F x) :=
  mv_1 (P := P) (Q := Q) n (fun i x hi hp => (hs i x hi hp).imp (fun ⟨x', a, b⟩ => ⟨x', b, a⟩) id) he hF h0
theorem mw_2 {α β R : Type} {B : (α → β → Option R) → α → β → Option R} {P : Nat → α → β → Prop} {Q : Option R → Prop} (n : Nat) (hs : ∀ i x y, i < n → P i x y → (∃ x' y', (∀ rec, B rec x y = rec x' y') ∧ P (i + 1) x' y') ∨ (∀ rec, Q (B rec x y))) (he : ∀ x y, P n x y → ∀ rec, Q (B rec x y)) {F : Nat} (hF : n < F) {x : α} {y : β} (h0 : P 0 x y) : Q (lq_2 B F x y) :=
  mv_2 (P := P) (Q := Q) n (fun i x y hi hp => (hs i x y hi hp).imp (fun ⟨x', y', a, b⟩ => ⟨x', y', b, a⟩) id) he hF h0
theorem mw_3 {α β γ R : Type} {B : (α → β → γ → Option R) → α → β → γ → Option R} {P : Nat → α → β → γ → Prop} {Q : Option R → Prop} (n : Nat) (hs : ∀ i x y z, i < n → P i x y z → (∃ x' y' z', (∀ rec, B rec x y z = rec x' y' z') ∧ P (i + 1) x' y' z') ∨ (∀ rec, Q (B rec x y z))) (he : ∀ x y z, P n x y z → ∀ rec, Q (B rec x y z)) {F : Nat} (hF : n < F) {x : α} {y : β} {z : γ} (h0 : P 0 x y z) : Q (lq_3 B F x y z) :=
  mv_3 (P := P) (Q := Q) n (fun i x y z hi hp => (hs i x y z hi hp).imp (fun ⟨x', y', z', a, b⟩ => ⟨x', y', z', b, a⟩) id) he hF h0
theorem mw_4 {α β γ δ R : Type} {B : (α → β → γ → δ → Option R) → α → β → γ → δ → Option R} {P : Nat → α → β → γ → δ → Prop} {Q : Option R → Prop} (n : Nat) (hs : ∀ i x y z w, i < n → P i x y z w → (∃ x' y' z' w', (∀ rec, B rec x y z w = rec x' y' z' w') ∧ P (i + 1) x' y' z' w') ∨ (∀ rec, Q (B rec x y z w))) (he : ∀ x y z w, P n x y z w → ∀ rec, Q (B rec x y z w)) {F : Nat} (hF : n < F) {x : α} {y : β} {z : γ} {w : δ} (h0 : P 0 x y z w) : Q (lq_4 B F x y z w) :=
  mv_4 (P := P) (Q := Q) n (fun i x y z w hi hp => (hs i x y z w hi hp).imp (fun ⟨x', y', z', w', a, b⟩ => ⟨x', y', z', w', b, a⟩) id) he hF h0
theorem ckTr {R : Type} {d : Decidable True} {x : Option R} : @ck R True d x = x := ckT trivial
theorem in_ev2 {u : St} {x lo hi : Int32} : f_X12_in u (Int32.toInt64 x) (Int32.toInt64 lo) (Int32.toInt64 hi) = some (if lo ≤ x ∧ x ≤ hi then 1 else 0) := in_ev rfl rfl
theorem mx_s {a b : Nat} (ha : a < 2 ^ 30) (hb : b < 2 ^ 30) : mxI (nI 0) (nI a - nI b) = nI (a - b) := mx_sub ha hb
theorem mx_0 {a : Nat} (ha : a < 2 ^ 31) : mxI (nI 0) (nI a) = nI a := by rw [mx_nI (by decide) ha, Nat.max_eq_right (by omega)]
theorem mn_n {a b : Nat} (ha : a < 2 ^ 31) (hb : b < 2 ^ 31) : mnI (nI a) (nI b) = nI (min a b) := mn_99 ha hb
theorem s_say : Sp_say Inv := by
  intro N u m p1 hi0
  obtain ⟨t, hU, hM, hT, hP, hI, hd, hr⟩ := id hi0
  have h60 := hP.2.2.2.2.1
  unfold f_X11_say f_X12_say
  by_cases hw : nI 33 ≤ p1 ∧ p1 ≤ nI 126
  · obtain ⟨v, hv1, hv2, rfl⟩ := rng hw (a := 33) (b := 126) rfl rfl (by decide) (by decide)
    by_cases h6 : t 18 1 < 60
    · simp (disch := omega) only [hP.1, hP.2.2.1, b1E, b2E, bsE, jq0, jq1, jq2, jq3, w_ev, in_ev2, nI_leI, nI_ltI, nI_eq, nI_add, ↓pk_rem, pk_div, pk_sub, pk_mul, ckiT, ckT, ixN, if_pos, if_neg, ↓reduceIte, ckTr, true_or, or_true, false_or, or_false, sI_o, sI_s, pk_un, pk_us, il_0, il_1, il_2, il_3, il_4, il_5, il_6, il_7, il_8, il_9, il_10, il_12, il_16, il_20, il_29, il_30, il_31, il_32, il_33, il_39, il_40, il_43, il_46, il_48, il_50, il_54, il_55, il_57, il_60, il_63, il_64, il_74, il_75, il_97, il_99, il_100, il_126, il_150, il_255, il_256, il_899, il_999, il_9999, il_65537, il_1000000, il_2147483647, jl_0, jl_1, jl_3, jl_5, jl_6, jl_7, jl_8, jl_9, jl_10, jl_29, jl_30, jl_33, jl_39, jl_40, jl_43, jl_48, jl_55, jl_57, jl_99, jl_100, jl_126, jl_255, jl_899, jl_999, jl_9999]
      refine ⟨nI (t 18 1 + 1), _, _, rfl, rfl, ?_⟩
      have ec : ∀ c, c ≤ 16 → tset (tset t 19 (t 18 1) v) 18 1 (t 18 1 + 1) c = t c := fun c hc => by rw [ts_c (by omega), ts_c (by omega)]
      refine ⟨tset (tset t 19 (t 18 1) v) 18 1 (t 18 1 + 1), UT_congr hU (fun c hc => by rw [sI_o (by omega), sI_o (by omega)]) ec, MT_congr hM (fun c h1 h2 => by rw [sI_o (by omega), sI_o (by omega)]) (fun k hk => by rw [sI_s, pk_un (by omega), sI_o (by omega)]) ec, TK_congr hT ec, ?_, IM_keep hI (by rw [sI_o (by omega), sI_o (by omega)]) (fun c hc => by rw [sI_o (by omega), sI_o (by omega)]) (by rw [sI_o (by omega), sI_o (by omega)]) (by rw [sI_o (by omega), sI_o (by omega)]), hd, ?_⟩
      · refine ⟨?_, ?_, ?_, ?_, ?_, ?_⟩
        · rw [sI_s, pk_us, ts_s]
        · intro i hi; rw [sI_o (by omega), ts_c (by omega), sI_s]
          by_cases h9 : i = t 18 1
          · subst h9; rw [pk_us, ts_s]
          · rw [pk_un h9, ts_o (fun h8 => h9 h8.2)]; exact hP.2.1 i hi
        · rw [sI_s, pk_us, ts_s]
        · intro i hi; rw [sI_o (by omega), ts_c (by omega), sI_s]
          by_cases h9 : i = t 18 1
          · subst h9; rw [pk_us, ts_s]
          · rw [pk_un h9, ts_o (fun h8 => h9 h8.2)]; exact hP.2.2.2.1 i hi
        · rw [ts_s]; omega
        · intro i hi; rw [ts_c (by omega)]
          by_cases h9 : i = t 18 1
          · subst h9; rw [ts_s]; omega
          · rw [ts_o (fun h8 => h9 h8.2)]; exact hP.2.2.2.2.2 i hi
      · rw [sI_s, pk_un (by omega), sI_o (by omega)]; exact hr
    · simp (disch := omega) only [hP.1, hP.2.2.1, b1E, b2E, bsE, jq0, jq1, jq2, jq3, w_ev, in_ev2, nI_leI, nI_ltI, nI_eq, nI_add, ↓pk_rem, pk_div, pk_sub, pk_mul, ckiT, ckT, ixN, if_pos, if_neg, ↓reduceIte, ckTr, true_or, or_true, false_or, or_false, sI_o, sI_s, pk_un, pk_us, il_0, il_1, il_2, il_3, il_4, il_5, il_6, il_7, il_8, il_9, il_10, il_12, il_16, il_20, il_29, il_30, il_31, il_32, il_33, il_39, il_40, il_43, il_46, il_48, il_50, il_54, il_55, il_57, il_60, il_63, il_64, il_74, il_75, il_97, il_99, il_100, il_126, il_150, il_255, il_256, il_899, il_999, il_9999, il_65537, il_1000000, il_2147483647, jl_0, jl_1, jl_3, jl_5, jl_6, jl_7, jl_8, jl_9, jl_10, jl_29, jl_30, jl_33, jl_39, jl_40, jl_43, jl_48, jl_55, jl_57, jl_99, jl_100, jl_126, jl_255, jl_899, jl_999, jl_9999]
      exact ⟨_, _, _, rfl, rfl, hi0⟩
  · simp (disch := omega) only [hw, b1E, b2E, bsE, jq0, jq1, jq2, jq3, w_ev, in_ev2, nI_leI, nI_ltI, nI_eq, nI_add, ↓pk_rem, pk_div, pk_sub, pk_mul, ckiT, ckT, ixN, if_pos, if_neg, ↓reduceIte, ckTr, true_or, or_true, false_or, or_false, sI_o, sI_s, pk_un, pk_us, il_0, il_1, il_2, il_3, il_4, il_5, il_6, il_7, il_8, il_9, il_10, il_12, il_16, il_20, il_29, il_30, il_31, il_32, il_33, il_39, il_40, il_43, il_46, il_48, il_50, il_54, il_55, il_57, il_60, il_63, il_64, il_74, il_75, il_97, il_99, il_100, il_126, il_150, il_255, il_256, il_899, il_999, il_9999, il_65537, il_1000000, il_2147483647, jl_0, jl_1, jl_3, jl_5, jl_6, jl_7, jl_8, jl_9, jl_10, jl_29, jl_30, jl_33, jl_39, jl_40, jl_43, jl_48, jl_55, jl_57, jl_99, jl_100, jl_126, jl_255, jl_899, jl_999, jl_9999]
    exact ⟨_, _, _, rfl, rfl, hi0⟩
theorem ts_all {t : Nat → Nat → Nat} {c k0 v n : Nat} {P : Nat → Nat → Prop} (h : ∀ k, k < n → P k (t c k)) (hv : P k0 v) : ∀ k, k < n → P k (tset t c k0 v c k) := fun k hk => by
  by_cases h9 : k = k0
  · subst h9; rw [ts_s]; exact hv
  · rw [ts_o (fun h8 => h9 h8.2)]; exact h k hk
theorem UT_s {u : St} {t : Nat → Nat → Nat} (h : UT u t 0) (c k v : Nat) : UT (sI u c k (nI v)) (tset t c k v) 0 := by
  have := UT_set h c k v
  rwa [Nat.zero_add] at this
theorem MT_s {m : St} {t : Nat → Nat → Nat} (h : MT m t) {c k a b : Nat} (hd : TD c k) (v : Nat) (ha : mc c k = a) (hb : mk c k = b) : MT (sI m a b (nI v)) (tset t c k v) := by subst ha; subst hb; exact MT_set h hd v
theorem lin_ts {t : Nat → Nat → Nat} {c k v c2 : Nat} (h5 : c ≠ 5) (h6 : c ≠ 6) : lin (tset t c k v) c2 = lin t c2 := by unfold lin; rw [ts_c (fun h => h5 h.symm), ts_c (fun h => h6 h.symm)]
theorem TK_w {t : Nat → Nat → Nat} (h : TK t) {w : Nat} (hw : w < 64) : TK (tset t 2 3 w) := by
  obtain ⟨a1, a2, a3, a4, a5, a6, a7, a8, a9, a10, a11, a12, a13⟩ := h
  exact ⟨by simpa [tset] using a1, by simpa [tset] using hw, by simpa [tset] using a3, by simpa [tset] using a4, by simpa [tset] using a5, by simpa [tset] using a6, by simpa [tset, bt] using a7, by simpa [tset] using a8, by simpa [tset] using a9, by simpa [tset] using a10, by simpa [tset] using a11, by simpa [tset] using a12, by simpa [tset, lin_ts] using a13⟩
theorem TK_p {t : Nat → Nat → Nat} (h : TK t) {w : Nat} (hw : w ≤ 29) : TK (tset t 16 2 w) := by
  obtain ⟨a1, a2, a3, a4, a5, a6, a7, a8, a9, a10, a11, a12, a13⟩ := h
  refine ⟨by simpa [tset] using a1, by simpa [tset] using a2, by simpa [tset] using a3, by simpa [tset] using a4, by simpa [tset] using a5, by simpa [tset] using a6, by simpa [tset, bt] using a7, by simpa [tset] using a8, by simpa [tset] using a9, by simpa [tset] using a10, by simpa [tset] using a11, ⟨by simpa [tset] using a12.1, by simpa [tset] using hw, ts_all (P := fun _ x => x ≤ 99) a12.2.2 (by omega)⟩, by simpa [tset, lin_ts] using a13⟩
theorem TK_sc {t : Nat → Nat → Nat} (h : TK t) {w : Nat} (hw : w ≤ 6) : TK (tset t 12 3 w) := by
  obtain ⟨a1, a2, a3, a4, a5, a6, a7, a8, a9, a10, a11, a12, a13⟩ := h
  exact ⟨by simpa [tset] using a1, by simpa [tset] using a2, by simpa [tset] using a3, by simpa [tset] using a4, by simpa [tset] using a5, by simpa [tset] using a6, by simpa [tset, bt] using a7, by simpa [tset] using a8, by simpa [tset] using a9, by simpa [tset] using hw, by simpa [tset] using a11, by simpa [tset] using a12, by simpa [tset, lin_ts] using a13⟩
theorem TK_dep {t : Nat → Nat → Nat} (h : TK t) {k w : Nat} (hw : w ≤ 8) : TK (tset t 3 k w) := by
  obtain ⟨a1, a2, a3, a4, a5, a6, a7, a8, a9, a10, a11, a12, a13⟩ := h
  exact ⟨by simpa [tset] using a1, by simpa [tset] using a2, ts_all (P := fun _ x => x ≤ 8) a3 hw, by simpa [tset] using a4, by simpa [tset] using a5, by simpa [tset] using a6, by simpa [tset, bt] using a7, by simpa [tset] using a8, by simpa [tset] using a9, by simpa [tset] using a10, by simpa [tset] using a11, by simpa [tset] using a12, by simpa [tset, lin_ts] using a13⟩
theorem TK_room {t : Nat → Nat → Nat} (h : TK t) {k w : Nat} (hw : 1 ≤ w ∧ w ≤ 8) (hc : cq (lin t k) 8 ≤ w) : TK (tset t 4 k w) := by
  obtain ⟨a1, a2, a3, a4, a5, a6, a7, a8, a9, a10, a11, a12, a13⟩ := h
  refine ⟨by simpa [tset] using a1, by simpa [tset] using a2, by simpa [tset] using a3, ts_all (P := fun _ x => 1 ≤ x ∧ x ≤ 8) a4 hw, by simpa [tset] using a5, by simpa [tset] using a6, by simpa [tset, bt] using a7, by simpa [tset] using a8, by simpa [tset] using a9, by simpa [tset] using a10, by simpa [tset] using a11, by simpa [tset] using a12, ?_⟩
  have e : ∀ c, lin (tset t 4 k w) c = lin t c := fun c => by unfold lin; rw [ts_c (by omega), ts_c (by omega)]
  intro c h9
  rw [ts_o (by omega)] at h9
  rw [e]
  by_cases hk : c = k
  · subst hk; rw [ts_s]; exact hc
  · rw [ts_o (fun h8 => hk h8.2)]; exact a13 c h9
theorem TK_si {t : Nat → Nat → Nat} (h : TK t) {k a b c : Nat} (ha : a < 8) (hb : b ≤ 30) (hc : c ≤ 99) : TK (tset (tset (tset t 13 k a) 14 k b) 15 k c) := by
  obtain ⟨a1, a2, a3, a4, a5, a6, a7, a8, a9, a10, a11, a12, a13⟩ := h
  refine ⟨by simpa [tset] using a1, by simpa [tset] using a2, by simpa [tset] using a3, by simpa [tset] using a4, by simpa [tset] using a5, by simpa [tset] using a6, by simpa [tset, bt] using a7, by simpa [tset] using a8, by simpa [tset] using a9, by simpa [tset] using a10, ?_, by simpa [tset] using a12, by simpa [tset, lin_ts] using a13⟩
  intro j hj
  have := a11 j hj
  simp only [tset]
  by_cases h9 : j = k
  · subst h9; simp; omega
  · simp [h9]; omega
theorem TK_set {t : Nat → Nat → Nat} (h : TK t) {k w : Nat} (hw : w ≤ 99) (h0 : k = 0 → 1 ≤ w) (h2 : k = 2 → w ≤ 29) : TK (tset t 16 k w) := by
  obtain ⟨a1, a2, a3, a4, a5, a6, a7, a8, a9, a10, a11, a12, a13⟩ := h
  refine ⟨by simpa [tset] using a1, by simpa [tset] using a2, by simpa [tset] using a3, by simpa [tset] using a4, by simpa [tset] using a5, by simpa [tset] using a6, by simpa [tset, bt] using a7, by simpa [tset] using a8, by simpa [tset] using a9, by simpa [tset] using a10, by simpa [tset] using a11, ⟨?_, ?_, ts_all (P := fun _ x => x ≤ 99) a12.2.2 hw⟩, by simpa [tset, lin_ts] using a13⟩
  · by_cases h9 : 0 = k
    · subst h9; rw [ts_s]; exact h0 rfl
    · rw [ts_o (fun h8 => h9 h8.2)]; exact a12.1
  · by_cases h9 : 2 = k
    · subst h9; rw [ts_s]; exact h2 rfl
    · rw [ts_o (fun h8 => h9 h8.2)]; exact a12.2.1
theorem s_forget : Sp_forget Inv := by
  intro N u m ⟨t, hU, hM, hT, hP, hI, hd, hr⟩
  unfold f_X11_forget f_X12_forget
  simp (disch := omega) only [U_sc hU, M_sc hM, b1E, b2E, bsE, jq0, jq1, jq2, jq3, w_ev, in_ev2, nI_leI, nI_ltI, nI_eq, nI_add, ↓pk_rem, pk_div, pk_sub, pk_mul, ckiT, ckT, ixN, if_pos, if_neg, ↓reduceIte, ckTr, true_or, or_true, false_or, or_false, sI_o, sI_s, pk_un, pk_us, il_0, il_1, il_2, il_3, il_4, il_5, il_6, il_7, il_8, il_9, il_10, il_12, il_16, il_20, il_29, il_30, il_31, il_32, il_33, il_39, il_40, il_43, il_46, il_48, il_50, il_54, il_55, il_57, il_60, il_63, il_64, il_74, il_75, il_97, il_99, il_100, il_126, il_150, il_255, il_256, il_899, il_999, il_9999, il_65537, il_1000000, il_2147483647]
  exact ⟨_, _, _, rfl, rfl, Inv_set (v := 0) hU hM hP hI hd hr (c := 12) (k := 3) (by unfold TD; omega) (TK_sc hT (by omega))⟩
theorem orN {n b : Nat} (hn : n < 256) (hb : b < 8) : nI n ||| nI 1 <<< (nI b &&& nI 31) = nI (setb n b) := orB n hn b hb
theorem anN {n b : Nat} (hn : n < 256) (hb : b < 8) : nI n &&& (nI 1 <<< (nI b &&& nI 31) ^^^ -nI 1) = nI (clrb n b) := anB n hn b hb
theorem s_wall : Sp_wall Inv := by
  intro N u m p1 p2 h2 hi0
  obtain ⟨t, hU, hM, hT, hP, hI, hd, hr⟩ := id hi0
  have hc := K_cnt hT
  have hw := K_wal hT
  unfold f_X11_wall f_X12_wall
  rcases pk_ix p1 (n := t 2 2) (by omega) with h | h | ⟨j, hj, rfl⟩
  · rw [hc_no hU (Or.inl h), ic_no hM hT (Or.inl h)]
    simp (disch := omega) only [b1E, b2E, bsE, jq0, jq1, jq2, jq3, w_ev, in_ev2, nI_leI, nI_ltI, nI_eq, nI_add, ↓pk_rem, pk_div, pk_sub, pk_mul, ckiT, ckT, ixN, if_pos, if_neg, ↓reduceIte, ckTr, true_or, or_true, false_or, or_false, sI_o, sI_s, pk_un, pk_us, il_0, il_1, il_2, il_3, il_4, il_5, il_6, il_7, il_8, il_9, il_10, il_12, il_16, il_20, il_29, il_30, il_31, il_32, il_33, il_39, il_40, il_43, il_46, il_48, il_50, il_54, il_55, il_57, il_60, il_63, il_64, il_74, il_75, il_97, il_99, il_100, il_126, il_150, il_255, il_256, il_899, il_999, il_9999, il_65537, il_1000000, il_2147483647]
    exact ⟨_, _, _, rfl, rfl, hi0⟩
  · rw [hc_no hU (Or.inr h), ic_no hM hT (Or.inr h)]
    simp (disch := omega) only [b1E, b2E, bsE, jq0, jq1, jq2, jq3, w_ev, in_ev2, nI_leI, nI_ltI, nI_eq, nI_add, ↓pk_rem, pk_div, pk_sub, pk_mul, ckiT, ckT, ixN, if_pos, if_neg, ↓reduceIte, ckTr, true_or, or_true, false_or, or_false, sI_o, sI_s, pk_un, pk_us, il_0, il_1, il_2, il_3, il_4, il_5, il_6, il_7, il_8, il_9, il_10, il_12, il_16, il_20, il_29, il_30, il_31, il_32, il_33, il_39, il_40, il_43, il_46, il_48, il_50, il_54, il_55, il_57, il_60, il_63, il_64, il_74, il_75, il_97, il_99, il_100, il_126, il_150, il_255, il_256, il_899, il_999, il_9999, il_65537, il_1000000, il_2147483647]
    exact ⟨_, _, _, rfl, rfl, hi0⟩
  · have hs := set_lt6 (t 2 3) hw j (by omega)
    rw [hc_yes hU hT hj, ic_yes hM hT hj, U_wal hU, M_wal hM]
    rcases h2 with rfl | rfl
    · simp (disch := omega) only [anN, b1E, b2E, bsE, jq0, jq1, jq2, jq3, w_ev, in_ev2, nI_leI, nI_ltI, nI_eq, nI_add, ↓pk_rem, pk_div, pk_sub, pk_mul, ckiT, ckT, ixN, if_pos, if_neg, ↓reduceIte, ckTr, true_or, or_true, false_or, or_false, sI_o, sI_s, pk_un, pk_us, il_0, il_1, il_2, il_3, il_4, il_5, il_6, il_7, il_8, il_9, il_10, il_12, il_16, il_20, il_29, il_30, il_31, il_32, il_33, il_39, il_40, il_43, il_46, il_48, il_50, il_54, il_55, il_57, il_60, il_63, il_64, il_74, il_75, il_97, il_99, il_100, il_126, il_150, il_255, il_256, il_899, il_999, il_9999, il_65537, il_1000000, il_2147483647]
      exact ⟨_, _, _, rfl, rfl, Inv_set hU hM hP hI hd hr (c := 2) (k := 3) (by unfold TD; omega) (TK_w hT hs.2)⟩
    · simp (disch := omega) only [orN, b1E, b2E, bsE, jq0, jq1, jq2, jq3, w_ev, in_ev2, nI_leI, nI_ltI, nI_eq, nI_add, ↓pk_rem, pk_div, pk_sub, pk_mul, ckiT, ckT, ixN, if_pos, if_neg, ↓reduceIte, ckTr, true_or, or_true, false_or, or_false, sI_o, sI_s, pk_un, pk_us, il_0, il_1, il_2, il_3, il_4, il_5, il_6, il_7, il_8, il_9, il_10, il_12, il_16, il_20, il_29, il_30, il_31, il_32, il_33, il_39, il_40, il_43, il_46, il_48, il_50, il_54, il_55, il_57, il_60, il_63, il_64, il_74, il_75, il_97, il_99, il_100, il_126, il_150, il_255, il_256, il_899, il_999, il_9999, il_65537, il_1000000, il_2147483647]
      exact ⟨_, _, _, rfl, rfl, Inv_set hU hM hP hI hd hr (c := 2) (k := 3) (by unfold TD; omega) (TK_w hT hs.1)⟩
