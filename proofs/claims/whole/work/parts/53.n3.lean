/-! ===== the air of the reference ===== -/
/-- the doors as a row of 0 and 1 -/
def DX (D : Int64) (x : Nat → Nat) : Prop := ∀ d, x d ≤ 1 ∧ (63 ≤ d → x d = 0) ∧ (d < 63 → (lg_cmp ((D >>> (Int32.toInt64 (nI d) &&& 63)) &&& (1 : Int64)) 1 = 0 ↔ x d = 1))
theorem dx_0d : ∀ d, d < 63 → ¬ lg_cmp (((0 : Int64) >>> (Int32.toInt64 (nI d) &&& 63)) &&& (1 : Int64)) 1 = 0 := by decide +kernel
theorem DX_0 : DX 0 (fun _ => 0) := fun d => ⟨Nat.zero_le 1, fun _ => rfl, fun h => ⟨fun h9 => absurd h9 (dx_0d d h), fun h9 => absurd (show 0 = 1 from h9) (by decide)⟩⟩
section AM
variable {u m : St} {t : Nat → Nat → Nat}
theorem lvM (hM : MT m t) (hT : TK t) {x : Nat → Nat} {ls d : Nat} (hx : DX (m.2 0 21) x) (hr : m.1 0 22 = nI ls) (hs : ls ≤ 2 ^ 20) (hd : d < 2 ^ 20) : f_X12_levelOn m (nI d) = some (nI (dig t (d + t 16 2) + x d - ls)) := by
  have hl := K_len hT
  have hp := (K_set hT).2.1
  have hg := dig_le hT (d + t 16 2)
  have hmod : (d + t 16 2) % t 10 1 < t 10 1 := Nat.mod_lt _ (by omega)
  obtain ⟨x1, x2, x3⟩ := hx d
  unfold f_X12_levelOn
  rw [M_len hM, M_ph hM, nI_add, pk_rem (by omega) (by omega) (by omega), ckT (show ¬ nI (t 10 1) = 0 from fun h9 => absurd ((nI_eq (b := 0) (by omega) (by decide)).mp h9) (by omega)), ckiT (by omega) (by decide), ixN (by omega), M_dig hM (by omega), hr, jq1, show t 11 ((d + t 16 2) % t 10 1) = dig t (d + t 16 2) from rfl]
  have fin : ∀ k, k ≤ 1 → bs (nI (dig t (d + t 16 2)) + nI k - nI ls) (fun x3 : Int32 => if x3 ≤ 0 then some 0 else some x3) = some (nI (dig t (d + t 16 2) + k - ls)) := by
    intro k hk
    rw [bsE, nI_add]
    by_cases h : ls ≤ dig t (d + t 16 2) + k
    · rw [pk_sub h]
      by_cases h0 : dig t (d + t 16 2) + k - ls = 0
      · rw [h0]; rfl
      · rw [if_neg (show ¬ nI (dig t (d + t 16 2) + k - ls) ≤ 0 from nI_ge (b := dig t (d + t 16 2) + k - ls) (a := 0) (by omega) (by omega))]
    · rw [if_pos (Int32.le_of_lt (pk_sneg (by omega) (by omega))), show dig t (d + t 16 2) + k - ls = 0 by omega]; rfl
  by_cases h63 : 63 ≤ d
  · rw [if_pos (le_l (l := 63) 63 rfl h63 (by omega)), x2 h63]; exact fin 0 (by omega)
  · rw [if_neg (nle_l (l := 63) 63 rfl (by omega) (by decide))]
    by_cases h1 : x d = 1
    · rw [if_pos ((x3 (by omega)).mpr h1), h1]; exact fin 1 (by omega)
    · rw [if_neg (fun h9 => h1 ((x3 (by omega)).mp h9)), show x d = 0 by omega]; exact fin 0 (by omega)
theorem lvMn (hM : MT m t) (hT : TK t) {d : Nat} (hx : m.2 0 21 = 0) (hr : m.1 0 22 = -nI 1) (hd : d < 2 ^ 20) : f_X12_levelOn m (nI d) = some (nI (dig t (d + t 16 2) + 1)) := by
  have hl := K_len hT
  have hp := (K_set hT).2.1
  have hg := dig_le hT (d + t 16 2)
  have hmod : (d + t 16 2) % t 10 1 < t 10 1 := Nat.mod_lt _ (by omega)
  unfold f_X12_levelOn
  rw [M_len hM, M_ph hM, nI_add, pk_rem (by omega) (by omega) (by omega), ckT (show ¬ nI (t 10 1) = 0 from fun h9 => absurd ((nI_eq (b := 0) (by omega) (by decide)).mp h9) (by omega)), ckiT (by omega) (by decide), ixN (by omega), M_dig hM (by omega), hr, jq1, show t 11 ((d + t 16 2) % t 10 1) = dig t (d + t 16 2) from rfl, hx]
  have fin : bs (nI (dig t (d + t 16 2)) + 0 - -nI 1) (fun x3 : Int32 => if x3 ≤ 0 then some 0 else some x3) = some (nI (dig t (d + t 16 2) + 1)) := by
    have hz : ∀ z : Int32, z + 0 - -1 = z + 1 := fun z => by apply Int32.toBitVec_inj.mp; simp [Int32.toBitVec_sub]
    rw [bsE, show nI (dig t (d + t 16 2)) + 0 - -nI 1 = nI (dig t (d + t 16 2) + 1) from (hz _).trans (nI_1 _)]
    rw [if_neg (show ¬ nI (dig t (d + t 16 2) + 1) ≤ 0 from nI_ge (b := dig t (d + t 16 2) + 1) (a := 0) (by omega) (by omega))]
  by_cases h63 : 63 ≤ d
  · rw [if_pos (le_l (l := 63) 63 rfl h63 (by omega))]; exact fin
  · rw [if_neg (nle_l (l := 63) 63 rfl (by omega) (by decide)), if_neg (dx_0d d (by omega))]; exact fin
/-- the reference's levels -/
def LM (m : St) (L : Nat → Nat) : Prop := ∀ i, i < 2000 → f_X12_levelOn m (nI i) = some (nI (L i)) ∧ L i ≤ 11
theorem brM (hM : MT m t) (hT : TK t) {L : Nat → Nat} (hL : LM m L) {c d : Nat} (hc : c < 6) (hd : d < 2000) : f_X12_breathOn m (nI c) (nI d) = some (nI (br t (t 2 3) c (L d))) := by
  have hw := K_wal hT
  have hde := K_dep hT hc
  have h := hL d hd
  unfold f_X12_breathOn br
  rw [h.1, b1E, ckiT hc (by decide), M_wal hM, bitN (by omega) (by omega), ixN (by omega), M_dep hM hc]
  by_cases h1 : t 2 3 / 2 ^ c % 2 = 1
  · rw [h1]; rfl
  · rw [show t 2 3 / 2 ^ c % 2 = 0 by omega, if_neg (show ¬ nI 0 = 1 by decide), if_neg (show ¬ 0 = 1 by decide)]
    by_cases h2 : t 3 c ≤ L d
    · rw [pk_sub h2, if_pos (nI_pos' (by omega))]
    · rw [if_neg (fun h9 => Int32.not_lt.mpr h9 (pk_sneg (by omega) (by omega))), show L d - t 3 c = 0 by omega]; rfl
theorem riM (hM : MT m t) (hT : TK t) {L : Nat → Nat} (hL : LM m L) {b c d : Nat} (hb : b < 8) (hc : c < 6) (hd : d < 2000) : f_X12_rise m (nI b) (nI c) (nI d) = some (nI (br t (t 2 3) c (L d) - t 8 b)) := by
  have hk := (K_bar hT hb).2.2.1
  have h := (hL d hd).2
  have hle := br_le (t := t) (wl := t 2 3) (c := c) (lev := L d)
  unfold f_X12_rise
  rw [brM hM hT hL hc hd, b1E, ckiT hb (by decide), ixN (by omega), M_cor hM hb]
  by_cases h2 : t 8 b ≤ br t (t 2 3) c (L d)
  · rw [pk_sub h2]
    by_cases h0 : br t (t 2 3) c (L d) - t 8 b = 0
    · rw [h0]; rfl
    · rw [if_neg (show ¬ nI (br t (t 2 3) c (L d) - t 8 b) ≤ 0 from nI_ge (a := 0) (by omega) (by omega))]
  · rw [if_pos (Int32.le_of_lt (pk_sneg (by omega) (by omega))), show br t (t 2 3) c (L d) - t 8 b = 0 by omega]; rfl
theorem upM {a : Nat} (ha : a < 2 ^ 31) : f_X12_upTo m (nI a) = some (nI (min 99 a)) := by
  unfold f_X12_upTo
  by_cases h : 99 ≤ a
  · rw [if_pos (le_l (l := 99) 99 rfl h ha), Nat.min_eq_left h]; rfl
  · rw [if_neg (nle_l (l := 99) 99 rfl (by omega) (by decide)), Nat.min_eq_right (by omega)]
theorem aiM (hM : MT m t) (hT : TK t) {L : Nat → Nat} (hL : LM m L) {b c d : Nat} (hb : b < 8) (hc : c < 6) (hd : d ≤ 2000) : f_X12_acidIn m (nI b) (nI c) (nI d) = some (nI (ac t (t 2 3) L c (t 8 b) d)) := by
  unfold f_X12_acidIn
  rw [jq1]
  refine mr_2 (fun i => nI (ac t (t 2 3) L c (t 8 b) i)) nI d ?_ ?_ (FU_lt (by omega)) rfl rfl
  · intro i hi rec
    have hle := br_le (t := t) (wl := t 2 3) (c := c) (lev := L i)
    have h := (hL i (by omega)).2
    have ha : ac t (t 2 3) L c (t 8 b) i ≤ 99 := Nat.min_le_left _ _
    unfold B_X12_acidIn_6
    rw [if_neg (nI_ge hi (by omega)), riM hM hT hL hb hc (by omega), b1E, nI_add, upM (by omega), b1E, nI_1]
    congr 2
    exact mn_st
  · intro rec
    unfold B_X12_acidIn_6
    rw [if_pos (Int32.le_refl _)]
theorem abM (hM : MT m t) (hT : TK t) {L : Nat → Nat} (hL : LM m L) {b d : Nat} (hb : b < 8) (hd : d ≤ 2000) : f_X12_acidBehind m (nI b) (nI d) = some (nI (ac t (t 2 3) L (t 6 b) (t 8 b) d)) := by
  have hl := (K_bar hT hb).1
  unfold f_X12_acidBehind
  rw [ckiT hb (by decide), ixN (by omega), M_lie hM hb, aiM hM hT hL hb hl hd]; rfl
/-- the class's levels, nothing but a drought; L is the level by day -/
def LC (u : St) (t : Nat → Nat → Nat) (L : Nat → Nat) : Prop := (∀ i, i < 2000 → f_X0_levelOn u (nI i) = some (nI (L i)) ∧ L i ≤ 9) ∧ ∀ i, L (i + t 10 1) = L i
theorem LC_mk (hU : UT u t 0) (hT : TK t) {ph ls : Nat} (h1 : u.1 20 1 = nI ph) (h4 : u.1 20 4 = nI ls) (hp : ph ≤ 29) (hs : ls ≤ 20) : LC u t (fun d => dig t (d + ph) - ls) :=
  ⟨fun i hi => ⟨lvC hU hT h1 h4 hp hs (by omega), by have := dig_le hT (i + ph); show dig t (i + ph) - ls ≤ 9; omega⟩, fun i => by show dig t (i + t 10 1 + ph) - ls = _; rw [show i + t 10 1 + ph = i + ph + t 10 1 by omega, dig_per]⟩
theorem LM_mk (hM : MT m t) (hT : TK t) {x : Nat → Nat} {ls : Nat} (hx : DX (m.2 0 21) x) (hr : m.1 0 22 = nI ls) (hs : ls ≤ 2 ^ 20) : LM m (fun d => dig t (d + t 16 2) + x d - ls) :=
  fun i hi => ⟨lvM hM hT hx hr hs (by omega), by have := dig_le hT (i + t 16 2); have := (hx i).1; show dig t (i + t 16 2) + x i - ls ≤ 11; omega⟩
/-- the level as it is -/
def lev (t : Nat → Nat → Nat) : Nat → Nat := fun d => dig t (d + t 16 2)
theorem lev_le (hT : TK t) (d : Nat) : lev t d ≤ 9 := dig_le hT _
theorem LC_is (hU : UT u t 0) (hT : TK t) (h1 : u.1 20 1 = nI (t 16 2)) (h4 : u.1 20 4 = nI 0) : LC u t (lev t) := LC_mk hU hT h1 h4 (K_set hT).2.1 (by omega)
theorem LM_is (hM : MT m t) (hT : TK t) (hd : m.2 0 21 = 0) (hr : m.1 0 22 = 0) : LM m (lev t) := LM_mk (x := fun _ => 0) (ls := 0) hM hT (by rw [hd]; exact DX_0) hr (by omega)
/-- what a query finds -/
def As (u v : St) (t : Nat → Nat → Nat) : Prop := Kp u v ∧ UT v t 0 ∧ v.1 20 1 = nI (t 16 2) ∧ v.1 20 2 = nI (t 2 3) ∧ v.1 20 3 = -nI 1 ∧ v.1 20 4 = nI 0 ∧ LC v t (lev t)
theorem asI (hU : UT u t 0) (hT : TK t) : ∃ v, f_X0_asItIs u = some v ∧ As u v t := by
  obtain ⟨v, h1, h2, h3, h4, h5, h6⟩ := asC hU
  have hU2 := UT_kp hU (Or.inl rfl) h2
  exact ⟨v, h1, h2, hU2, h3, h4, h5, h6, LC_is hU2 hT h3 h6⟩
theorem acA {v : St} (hT : TK t) (hA : As u v t) {c k d : Nat} (hc : c < t 2 2) (hk : k ≤ 9) (hd : d < 2000) : f_X0_acidBehind v (nI d) (nI c) (nI k) = some (nI (ac t (t 2 3) (lev t) c k d)) := by
  have hw := K_wal hT
  exact acC hA.2.1 hT hA.2.2.2.1 hA.2.2.2.2.1 (by omega) hc hk hd hA.2.2.2.2.2.2.1 hA.2.2.2.2.2.2.2
theorem hbY (hU : UT u t 0) (hT : TK t) {b : Nat} (hb : b < 8) (h : bt t b) : f_X7_has u (nI b) = some 1 := by rw [hb_ev hU hT hb]; exact congrArg some (if_pos h)
theorem hbF (hU : UT u t 0) (hT : TK t) {b : Nat} (hb : b < 8) (h : ¬ bt t b) : f_X7_has u (nI b) = some 0 := by rw [hb_ev hU hT hb]; exact congrArg some (if_neg h)
theorem ibY (hM : MT m t) (hT : TK t) {b : Nat} (hb : b < 8) (h : bt t b) : f_X12_isBarrel m (nI b) = some 1 := by rw [ib_ev hM hT hb]; exact congrArg some (if_pos h)
theorem ibF (hM : MT m t) (hT : TK t) {b : Nat} (hb : b < 8) (h : ¬ bt t b) : f_X12_isBarrel m (nI b) = some 0 := by rw [ib_ev hM hT hb]; exact congrArg some (if_neg h)
theorem aoA {v : St} (hT : TK t) (hA : As u v t) {b d : Nat} (hb : b < 8) (hbt : bt t b) (hd : d < 2000) : f_X0_acidOf v (nI b) (nI d) = some (nI (ac t (t 2 3) (lev t) (t 6 b) (t 8 b) d)) := by
  unfold f_X0_acidOf
  rw [hbY hA.2.1 hT hb hbt, b1E, if_neg n10, ckiT hb (by decide), ckiT hb (by decide), ixN (by omega), U_lie hA.2.1 hb, U_cor hA.2.1 hb, acA hT hA (K_there hT hb hbt).1 (K_bar hT hb).2.2.1 hd]; rfl
theorem aoN {v : St} (hU : UT v t 0) (hT : TK t) {b : Nat} {x : Int32} (hb : b < 8) (hbt : ¬ bt t b) : f_X0_acidOf v (nI b) x = some 0 := by
  unfold f_X0_acidOf
  rw [hbF hU hT hb hbt, b1E, if_pos rfl]
end AM
theorem days_no {u m : St} {p : Int32} (h : ¬ ((0 : Int32) ≤ p ∧ p ≤ 999)) : f_X11_within u p 0 999 = some 0 ∧ f_X12_isDays m p = some 0 := ⟨by rw [w_ev, if_neg h], by rw [dy_ev, if_neg h]⟩
theorem days_yes {u m : St} {p : Int32} (h : (0 : Int32) ≤ p ∧ p ≤ 999) : f_X11_within u p 0 999 = some 1 ∧ f_X12_isDays m p = some 1 ∧ ∃ d, d ≤ 999 ∧ p = nI d := ⟨by rw [w_ev, if_pos h], by rw [dy_ev, if_pos h], by obtain ⟨d, -, h2, h3⟩ := rng h (a := 0) (b := 999) rfl rfl (by decide) (by decide); exact ⟨d, h2, h3⟩⟩
theorem bar_cs {u m : St} {t : Nat → Nat → Nat} (hU : UT u t 0) (hM : MT m t) (hT : TK t) (p : Int32) : (f_X7_has u p = some 0 ∧ f_X12_isBarrel m p = some 0) ∨ (f_X7_has u p = some 1 ∧ f_X12_isBarrel m p = some 1 ∧ ∃ b, b < 8 ∧ p = nI b ∧ bt t b) := by
  rcases pk_ix p (n := 8) (by omega) with h | h | ⟨b, hb, rfl⟩
  · exact Or.inl ⟨hb_no _ (Or.inl h), ib_no _ (Or.inl h)⟩
  · exact Or.inl ⟨hb_no _ (Or.inr h), ib_no _ (Or.inr h)⟩
  · by_cases hbt : t 5 4 / 2 ^ b % 2 = 1
    · exact Or.inr ⟨by rw [hb_ev hU hT hb, if_pos hbt], by rw [ib_ev hM hT hb, if_pos hbt], b, hb, rfl, hbt⟩
    · exact Or.inl ⟨by rw [hb_ev hU hT hb, if_neg hbt], by rw [ib_ev hM hT hb, if_neg hbt]⟩
theorem cel_cs {u m : St} {t : Nat → Nat → Nat} (hU : UT u t 0) (hM : MT m t) (hT : TK t) (p : Int32) : (f_X10_has u p = some 0 ∧ f_X12_isCellar m p = some 0) ∨ (f_X10_has u p = some 1 ∧ f_X12_isCellar m p = some 1 ∧ ∃ c, c < t 2 2 ∧ p = nI c) := by
  have hc := K_cnt hT
  rcases pk_ix p (n := t 2 2) (by omega) with h | h | ⟨b, hb, rfl⟩
  · exact Or.inl ⟨hc_no hU (Or.inl h), ic_no hM hT (Or.inl h)⟩
  · exact Or.inl ⟨hc_no hU (Or.inr h), ic_no hM hT (Or.inr h)⟩
  · exact Or.inr ⟨hc_yes hU hT hb, ic_yes hM hT hb, b, hb, rfl⟩
theorem s_level : Sp_level Inv := by
  intro N u m p1 hi0
  obtain ⟨t, hU, hM, hT, hP, hI, hd, hr⟩ := id hi0
  unfold f_X11_level f_X12_level
  by_cases h : (0 : Int32) ≤ p1 ∧ p1 ≤ 999
  · obtain ⟨e1, e2, d, hd9, rfl⟩ := days_yes (u := u) (m := m) h
    obtain ⟨v, ev, hA⟩ := asI hU hT
    rw [e1, e2, b1E, b1E, if_neg n10, if_neg n10, ev, b1E, (hA.2.2.2.2.2.2.1 d (by omega)).1, (LM_is hM hT hd hr d (by omega)).1]
    exact ⟨_, _, rfl, rfl, Inv_keep hi0 hA.1 Km_rf⟩
  · rw [(days_no (u := u) (m := m) h).1, (days_no (u := u) (m := m) h).2, b1E, b1E, if_pos rfl, if_pos rfl]
    exact ⟨_, _, rfl, rfl, hi0⟩
theorem s_breath : Sp_breath Inv := by
  intro N u m p1 p2 hi0
  obtain ⟨t, hU, hM, hT, hP, hI, hd, hr⟩ := id hi0
  have hc := K_cnt hT
  have hw := K_wal hT
  unfold f_X11_breath f_X12_breath
  rcases cel_cs hU hM hT p1 with ⟨e1, e2⟩ | ⟨e1, e2, c, hcc, rfl⟩
  · rw [e1, e2, b1E, b1E, if_pos rfl, if_pos rfl]
    exact ⟨_, _, rfl, rfl, hi0⟩
  rw [e1, e2, b1E, b1E, if_neg n10, if_neg n10]
  by_cases h : (0 : Int32) ≤ p2 ∧ p2 ≤ 999
  · obtain ⟨e1, e2, d, hd9, rfl⟩ := days_yes (u := u) (m := m) h
    obtain ⟨v, ev, hA⟩ := asI hU hT
    have hl := hA.2.2.2.2.2.2.1 d (by omega)
    rw [e1, e2, b1E, b1E, if_neg n10, if_neg n10, ev, b1E, hl.1, b1E, brC hA.2.1 hT hA.2.2.2.1 (by omega) hcc (by omega), brM hM hT (LM_is hM hT hd hr) (by omega) (by omega)]
    exact ⟨_, _, rfl, rfl, Inv_keep hi0 hA.1 Km_rf⟩
  · rw [(days_no (u := u) (m := m) h).1, (days_no (u := u) (m := m) h).2, b1E, b1E, if_pos rfl, if_pos rfl]
    exact ⟨_, _, rfl, rfl, hi0⟩
theorem s_acid : Sp_acid Inv := by
  intro N u m p1 p2 hi0
  obtain ⟨t, hU, hM, hT, hP, hI, hd, hr⟩ := id hi0
  unfold f_X11_acid f_X12_acid
  rcases bar_cs hU hM hT p1 with ⟨e1, e2⟩ | ⟨e1, e2, b, hb, rfl, hbt⟩
  · rw [e1, e2, b1E, b1E, if_pos rfl, if_pos rfl]
    exact ⟨_, _, rfl, rfl, hi0⟩
  rw [e1, e2, b1E, b1E, if_neg n10, if_neg n10]
  by_cases h : (0 : Int32) ≤ p2 ∧ p2 ≤ 999
  · obtain ⟨e1, e2, d, hd9, rfl⟩ := days_yes (u := u) (m := m) h
    obtain ⟨v, ev, hA⟩ := asI hU hT
    rw [e1, e2, b1E, b1E, if_neg n10, if_neg n10, ev, b1E, aoA hT hA hb hbt (by omega), abM hM hT (LM_is hM hT hd hr) hb (by omega)]
    exact ⟨_, _, rfl, rfl, Inv_keep hi0 hA.1 Km_rf⟩
  · rw [(days_no (u := u) (m := m) h).1, (days_no (u := u) (m := m) h).2, b1E, b1E, if_pos rfl, if_pos rfl]
    exact ⟨_, _, rfl, rfl, hi0⟩
